/-! hidden -/
theorem X_power_L {c m : Nat} (σ : Sg) (hm : m < 2000) : ∀ (k i N : Nat), i + k = m → k < N → fX_power_L4 N (nI c) (nI m) (nI (c ^ i)) (nI i) σ = some (nI (c ^ m)) := by
  intro k
  induction k with
  | zero =>
    intro i N hi hN
    obtain ⟨N, rfl⟩ : ∃ M, N = M + 1 := ⟨N - 1, by omega⟩
    obtain rfl : i = m := by omega
    show fX_power_b4 (fX_power_L4 N) _ _ _ _ σ = _
    unfold fX_power_b4
    rw [if_pos (nI_le (by omega) (by omega))]
  | succ k ih =>
    intro i N hi hN
    obtain ⟨N, rfl⟩ : ∃ M, N = M + 1 := ⟨N - 1, by omega⟩
    show fX_power_b4 (fX_power_L4 N) _ _ _ _ σ = _
    unfold fX_power_b4
    rw [if_neg (nI_ge (by omega) (by omega)), pk_mul, ← Nat.pow_succ, nI_1]
    exact ih (i + 1) N (by omega) (by omega)
theorem X_power {c m : Nat} (σ : Sg) (hm : m < 1990) : fX_power (nI c) (nI m) σ = some (nI (c ^ m)) := by
  have := X_power_L (c := c) σ (show m < 2000 by omega) m 0 2000 (by omega) (by omega)
  rw [Nat.pow_zero] at this
  exact this
/-- Euclid -/
def zG : Nat → Nat → Nat → Nat
  | 0, x, _ => x
  | f + 1, x, y => if y = 0 then x else zG f y (x % y)
theorem zG_gcd : ∀ (k f x y : Nat), y < 2 ^ k → 2 * k + 1 ≤ f → zG f x y = Nat.gcd y x := by
  intro k
  induction k with
  | zero =>
    intro f x y hy hf
    obtain ⟨f, rfl⟩ : ∃ g, f = g + 1 := ⟨f - 1, by omega⟩
    obtain rfl : y = 0 := by omega
    rw [zG, if_pos rfl, Nat.gcd_zero_left]
  | succ k ih =>
    intro f x y hy hf
    obtain ⟨f, rfl⟩ : ∃ g, f = g + 2 := ⟨f - 2, by omega⟩
    rw [zG]
    by_cases c : y = 0
    · rw [if_pos c, c, Nat.gcd_zero_left]
    · rw [if_neg c, Nat.gcd_rec y x]
      have hr : x % y < y := Nat.mod_lt _ (by omega)
      rw [zG]
      by_cases d : x % y = 0
      · rw [if_pos d, d, Nat.gcd_zero_left]
      · rw [if_neg d, Nat.gcd_rec (x % y) y]
        refine ih f _ _ ?_ (by omega)
        have h1 : y % (x % y) < x % y := Nat.mod_lt _ (by omega)
        have h2 : x % y + y % (x % y) ≤ y := by
          have h3 := Nat.div_add_mod y (x % y)
          have h4 : 1 ≤ y / (x % y) := Nat.div_pos (by omega) (by omega)
          have h5 : x % y * 1 ≤ x % y * (y / (x % y)) := Nat.mul_le_mul_left _ h4
          omega
        rw [Nat.pow_succ] at hy
        omega
theorem nz_t {n : Nat} (h0 : 0 < n) (h : n < 2 ^ 31) : nz (nI n) = true := by
  unfold nz
  have := nI_ne0 h0 h
  simp [this]
theorem X_gcd_L (σ : Sg) : ∀ (k i N x y : Nat), x < 2 ^ 31 → y < 2 ^ 31 → i + k = 100 → k < N → fX_commonDivisor_L7 N (nI x) (nI y) (nI i) σ = fX_commonDivisor_B34 (nI (zG k x y)) σ := by
  intro k
  induction k with
  | zero =>
    intro i N x y hx hy hi hN
    obtain ⟨N, rfl⟩ : ∃ M, N = M + 1 := ⟨N - 1, by omega⟩
    show fX_commonDivisor_b7 (fX_commonDivisor_L7 N) _ _ _ σ = _
    unfold fX_commonDivisor_b7
    rw [if_pos (show (100 : Int32) ≤ nI i from nI_le (a := 100) (by omega) (by omega)), zG]
  | succ k ih =>
    intro i N x y hx hy hi hN
    obtain ⟨N, rfl⟩ : ∃ M, N = M + 1 := ⟨N - 1, by omega⟩
    show fX_commonDivisor_b7 (fX_commonDivisor_L7 N) _ _ _ σ = _
    unfold fX_commonDivisor_b7
    rw [if_neg (show ¬ (100 : Int32) ≤ nI i from nI_ge (b := 100) (by omega) (by omega)), zG]
    by_cases c : y = 0
    · rw [if_pos (by rw [c]; rfl), if_pos c]
    · have hy0 : 0 < y := Nat.pos_of_ne_zero c
      have := Nat.mod_lt x hy0
      rw [if_neg (nI_ne0 hy0 hy), nz_t hy0 hy, if_pos rfl, pk_rem hx hy0 hy, nI_1, if_neg c]
      exact ih (i + 1) N y (x % y) hy (by omega) (by omega) (by omega)
theorem M_gcd_L (x4 x6 x7 : Int32) (σ : Sg) : ∀ (k N x y : Nat), x < 2 ^ 31 → y < 2 ^ 31 → y < 2 ^ k → 2 * k + 1 < N → fM_hidden_L257 N x4 x6 x7 (nI x) (nI y) σ = (if x4 = 0 then fM_hidden_B292 (nI (Nat.gcd y x)) x7 σ else fM_hidden_B292 (nI (Nat.gcd y x)) x6 σ) := by
  have base : ∀ (N x : Nat), 0 < N → fM_hidden_L257 N x4 x6 x7 (nI x) (nI 0) σ = (if x4 = 0 then fM_hidden_B292 (nI x) x7 σ else fM_hidden_B292 (nI x) x6 σ) := by
    intro N x hN
    obtain ⟨N, rfl⟩ : ∃ M, N = M + 1 := ⟨N - 1, by omega⟩
    show fM_hidden_b257 (fM_hidden_L257 N) _ _ _ _ _ σ = _
    unfold fM_hidden_b257
    rw [if_pos (show nI 0 = 0 from rfl)]
  have step : ∀ (N x y : Nat), x < 2 ^ 31 → y < 2 ^ 31 → 0 < y → fM_hidden_L257 (N + 1) x4 x6 x7 (nI x) (nI y) σ = fM_hidden_L257 N x4 x6 x7 (nI y) (nI (x % y)) σ := by
    intro N x y hx hy hy0
    show fM_hidden_b257 (fM_hidden_L257 N) _ _ _ _ _ σ = _
    unfold fM_hidden_b257
    rw [if_neg (nI_ne0 hy0 hy), nz_t hy0 hy, if_pos rfl, pk_rem hx hy0 hy]
  intro k
  induction k with
  | zero =>
    intro N x y hx hy hk hN
    obtain rfl : y = 0 := by omega
    rw [base N x (by omega), Nat.gcd_zero_left]
  | succ k ih =>
    intro N x y hx hy hk hN
    obtain ⟨N, rfl⟩ : ∃ M, N = M + 2 := ⟨N - 2, by omega⟩
    by_cases c : y = 0
    · rw [c, base _ x (by omega), Nat.gcd_zero_left]
    · have hy0 : 0 < y := Nat.pos_of_ne_zero c
      have hr : x % y < y := Nat.mod_lt _ hy0
      rw [step (N + 1) x y hx hy hy0, Nat.gcd_rec y x]
      by_cases d : x % y = 0
      · rw [d, base _ y (by omega), Nat.gcd_zero_left]
      · have hr0 : 0 < x % y := Nat.pos_of_ne_zero d
        have h1 : y % (x % y) < x % y := Nat.mod_lt _ hr0
        rw [step N y (x % y) hy (by omega) hr0, Nat.gcd_rec (x % y) y]
        refine ih N _ _ (by omega) (by omega) ?_ (by omega)
        have h2 : x % y + y % (x % y) ≤ y := by
          have h3 := Nat.div_add_mod y (x % y)
          have h4 : 1 ≤ y / (x % y) := Nat.div_pos (by omega) (by omega)
          have h5 : x % y * 1 ≤ x % y * (y / (x % y)) := Nat.mul_le_mul_left _ h4
          omega
        rw [Nat.pow_succ] at hk
        omega
/-- in how many ways of 10 each a set m of those who show, S, hides, c of 10 each -/
def zPr (S m c : Nat) : Nat → Nat
  | 0 => 1
  | p + 1 => zPr S m c p * (if S.testBit p = true then (if m.testBit p = true then c else 10 - c) else 1)
theorem zPr_le {S m c : Nat} (hc : c ≤ 10) : ∀ p, zPr S m c p ≤ 10 ^ p := by
  intro p
  induction p with
  | zero => exact Nat.le_refl _
  | succ p ih =>
    rw [zPr, Nat.pow_succ]
    refine Nat.mul_le_mul ih ?_
    split
    · split
      · exact hc
      · omega
    · omega
theorem zPr_pow {S m c : Nat} (h : ∀ p, m.testBit p = true → S.testBit p = true) : ∀ p, zCn (fun q => m.testBit q) p ≤ zCn (fun q => S.testBit q) p ∧ zPr S m c p = c ^ zCn (fun q => m.testBit q) p * (10 - c) ^ (zCn (fun q => S.testBit q) p - zCn (fun q => m.testBit q) p) := by
  intro p
  induction p with
  | zero => exact ⟨Nat.le_refl _, rfl⟩
  | succ p ih =>
    obtain ⟨h1, h2⟩ := ih
    rw [zPr, h2, zCn, zCn]
    by_cases cs : S.testBit p = true
    · by_cases cm : m.testBit p = true
      · simp only [if_pos cs, if_pos cm]
        refine ⟨by omega, ?_⟩
        rw [Nat.pow_succ, show zCn (fun q => S.testBit q) p + 1 - (zCn (fun q => m.testBit q) p + 1) = zCn (fun q => S.testBit q) p - zCn (fun q => m.testBit q) p by omega, Nat.mul_right_comm]
      · simp only [if_pos cs, if_neg cm]
        refine ⟨by omega, ?_⟩
        rw [Nat.add_zero, show zCn (fun q => S.testBit q) p + 1 - zCn (fun q => m.testBit q) p = zCn (fun q => S.testBit q) p - zCn (fun q => m.testBit q) p + 1 by omega, Nat.pow_succ, Nat.mul_assoc]
    · have cm : ¬ m.testBit p = true := fun z => cs (h p z)
      simp only [if_neg cs, if_neg cm]
      exact ⟨by omega, by simp⟩
theorem zCn_hi {m n : Nat} (h : m < 2 ^ n) : ∀ k, zCn (fun q => m.testBit q) (n + k) = zCn (fun q => m.testBit q) n := by
  intro k
  induction k with
  | zero => rfl
  | succ k ih =>
    rw [show n + (k + 1) = (n + k) + 1 by omega, zCn, ih, if_neg, Nat.add_zero]
    have : m < 2 ^ (n + k) := Nat.lt_of_lt_of_le h (Nat.pow_le_pow_right (by omega) (by omega))
    rw [Nat.testBit_lt_two_pow this]
    decide
theorem zPc_n {m n : Nat} (hn : n ≤ 6) (h : m < 2 ^ n) : zPc m = zCn (fun q => m.testBit q) n := by
  unfold zPc
  have := zCn_hi h (8 - n)
  rw [show n + (8 - n) = 8 by omega] at this
  exact this
theorem zSub : ∀ m, m < 64 → ∀ S, S < 64 → (m &&& (63 ^^^ S) = 0 → m ≤ S) ∧ (m &&& (63 ^^^ S) = 0 → ∀ p, p < 6 → m.testBit p = true → S.testBit p = true) := by decide +kernel
theorem zSub2 {m S : Nat} (hm : m < 64) (hS : S < 64) (h : m &&& (63 ^^^ S) = 0) : ∀ p, m.testBit p = true → S.testBit p = true := by
  intro p hp
  by_cases c : p < 6
  · exact (zSub m hm S hS).2 h p c hp
  · have : m < 2 ^ p := Nat.lt_of_lt_of_le hm (show 2 ^ 6 ≤ 2 ^ p from Nat.pow_le_pow_right (by omega) (by omega))
    rw [Nat.testBit_lt_two_pow this] at hp
    cases hp
/-- the ways of a set, 0 if it isn't one of those who show -/
def zWy (S c n m : Nat) : Nat := if m &&& (63 ^^^ S) = 0 then zPr S m c n else 0
theorem zWy_le {S c n m : Nat} (hn : n ≤ 6) (hc : c ≤ 10) : zWy S c n m ≤ 1000000 := by
  unfold zWy
  split
  · exact Nat.le_trans (zPr_le hc n) (Nat.le_trans (Nat.pow_le_pow_right (by omega) hn) (by omega))
  · omega
/-- is p brought within d when m hides -/
noncomputable def zHb (n p d : Nat) (w : Rw) (m : Nat) : Bool := (zWh n p d (zHid m n w) 0).isSome
/-- the ways, of k sets from i on -/
noncomputable def zAb (S c n p d : Nat) (w : Rw) : Nat → Nat → Nat → Nat
  | 0, _, a => a
  | k + 1, i, a => zAb S c n p d w k (i + 1) (a + (if zHb n p d w i = true then zWy S c n i else 0))
theorem zAb_le {S c n p d : Nat} {w : Rw} (hn : n ≤ 6) (hc : c ≤ 10) : ∀ (k i a : Nat), zAb S c n p d w k i a ≤ a + k * 1000000 := by
  intro k
  induction k with
  | zero => intro i a; rw [zAb]; omega
  | succ k ih =>
    intro i a
    rw [zAb]
    have h1 := ih (i + 1) (a + (if zHb n p d w i = true then zWy S c n i else 0))
    have h2 : (if zHb n p d w i = true then zWy S c n i else 0) ≤ 1000000 := by
      split
      · exact zWy_le hn hc
      · omega
    omega
theorem zAb_zero {S c n p d : Nat} {w : Rw} (hS : S < 64) : ∀ (k i a : Nat), S < i → i + k ≤ 64 → zAb S c n p d w k i a = a := by
  intro k
  induction k with
  | zero => intro i a _ _; rfl
  | succ k ih =>
    intro i a hi hk
    rw [zAb]
    have : zWy S c n i = 0 := by
      unfold zWy
      rw [if_neg]
      intro z
      have := (zSub i (by omega) S hS).1 z
      omega
    rw [this, ite_self, Nat.add_zero]
    exact ih (i + 1) a (by omega) (by omega)
theorem zAb_add {S c n p d : Nat} {w : Rw} : ∀ (k j i a : Nat), zAb S c n p d w (k + j) i a = zAb S c n p d w j (i + k) (zAb S c n p d w k i a) := by
  intro k
  induction k with
  | zero => intro j i a; rw [Nat.zero_add]; rfl
  | succ k ih =>
    intro j i a
    rw [show k + 1 + j = (k + j) + 1 by omega, zAb, ih j (i + 1), zAb, show i + 1 + k = i + (k + 1) by omega]
theorem X_brHid {σ : Sg} {w : Rw} {n t r p d m : Nat} (hr : Rp σ 4 w n) (hf : Wf w n t r) (hp : p < n) (hd : d ≤ 60) (hm : m < 64) : ∃ σ', fX_isBroughtHiding (nI p) (nI d) (nI m) σ = some (if zHb n p d w m = true then 1 else 0, σ') ∧ Fr 10 σ σ' := by
  have hn := hf.1
  obtain ⟨q, g1, g2, g3⟩ := X_sup hn hr
  obtain ⟨q2, c1, c2, c3⟩ := H_con hm g2 hf
  obtain ⟨σ1, k1, k2⟩ := H_until (m := d) hp (by omega) c2 (zHid_wf hf)
  refine ⟨σ1, ?_, (g3.tr c3).tr k2⟩
  unfold fX_isBroughtHiding zHb
  rw [g1, ob_e, c1, ob_e, k1, ob_e]
  dsimp only
  have zo := (zOb_n (k := d) (w := zHid m n w) (n := n) (p := p) (i := 0) (by omega)).1
  cases ez : zWh n p d (zHid m n w) 0 with
  | none => rw [ez] at zo; rw [if_pos (zo.mpr rfl)]; rfl
  | some j => rw [ez] at zo; rw [if_neg (fun z => by have := zo.mp z; cases this)]; rfl
theorem X_hid_L {n t r p d c S : Nat} {w : Rw} (hf : Wf w n t r) (hp : p < n) (hd : d ≤ 60) (hc : c ≤ 10) (hS : S < 2 ^ n) (x4 : Int32) : ∀ (k i N a : Nat) (σ : Sg), Rp σ 4 w n → a ≤ i * 1000000 → i + k = S + 1 → k < N → ∃ σ', fX_hidden_L66 N (nI p) (nI d) (nI c) x4 (nI S) (nI (zPc S)) (nI a) (nI i) σ = ((fX_commonDivisor (nI (zAb S c n p d w k i a)) (nI (10 ^ zPc S)) σ').bind fun q13 => if x4 = 0 then fX_hidden_B174 q13 (nI (zAb S c n p d w k i a)) σ' else fX_hidden_B174 q13 (nI (10 ^ zPc S)) σ') ∧ Fr 10 σ σ' := by
  have hn := hf.1
  have h64 := zP64 hn
  have hS64 : S < 64 := by omega
  have hPS := zPc_le S hS64
  intro k
  induction k with
  | zero =>
    intro i N a σ hr ha hi hN
    obtain ⟨N, rfl⟩ : ∃ M, N = M + 1 := ⟨N - 1, by omega⟩
    refine ⟨σ, ?_, Fr.rf 10 σ⟩
    show fX_hidden_b66 (fX_hidden_L66 N) _ _ _ _ _ _ _ _ σ = _
    unfold fX_hidden_b66
    rw [if_pos (nI_lt (by omega) (by omega)), show (10 : Int32) = nI 10 from rfl, X_power σ (by omega), ob_e]
    rfl
  | succ k ih =>
    intro i N a σ hr ha hi hN
    obtain ⟨N, rfl⟩ : ∃ M, N = M + 1 := ⟨N - 1, by omega⟩
    have hi64 : i < 64 := by omega
    have hin : i < 2 ^ n := by omega
    have go : ∀ (a' : Nat) (σ1 : Sg), a' = a + (if zHb n p d w i = true then zWy S c n i else 0) → Fr 10 σ σ1 → ∃ σ', fX_hidden_L66 N (nI p) (nI d) (nI c) x4 (nI S) (nI (zPc S)) (nI a') (nI (i + 1)) σ1 = ((fX_commonDivisor (nI (zAb S c n p d w (k + 1) i a)) (nI (10 ^ zPc S)) σ').bind fun q13 => if x4 = 0 then fX_hidden_B174 q13 (nI (zAb S c n p d w (k + 1) i a)) σ' else fX_hidden_B174 q13 (nI (10 ^ zPc S)) σ') ∧ Fr 10 σ σ' := by
      intro a' σ1 ha' f1
      have h2 : (if zHb n p d w i = true then zWy S c n i else 0) ≤ 1000000 := by
        split
        · exact zWy_le hn hc
        · omega
      obtain ⟨σ2, e2, f2⟩ := ih (i + 1) N a' σ1 (hr.cong (fun k q1 q2 => f1 k (by omega))) (by omega) (by omega) (by omega)
      refine ⟨σ2, ?_, f1.tr f2⟩
      rw [e2, zAb, ← ha']
    show ∃ σ', fX_hidden_b66 (fX_hidden_L66 N) _ _ _ _ _ _ _ _ σ = _ ∧ _
    unfold fX_hidden_b66 fX_hidden_B134 fX_hidden_B135 fX_hidden_B138
    rw [if_neg (nI_nlt (by omega) (by omega)), zAnd _ hi64 _ hS64, nI_1]
    by_cases c1 : i &&& (63 ^^^ S) = 0
    · rw [if_pos (by rw [c1]; rfl), J_bits hi64, ob_e]
      have sub := zSub2 hi64 hS64 c1
      obtain ⟨q1, q2⟩ := zPr_pow (c := c) sub n
      rw [← zPc_n hn hS, ← zPc_n hn hin] at q2
      rw [← zPc_n hn hS, ← zPc_n hn hin] at q1
      have ew : zWy S c n i = c ^ zPc i * (10 - c) ^ (zPc S - zPc i) := by unfold zWy; rw [if_pos c1, q2]
      have lw := zWy_le (S := S) (c := c) (m := i) hn hc
      rw [X_power σ (by have := zPc_le i hi64; omega), ob_e, zlit 10, pk_sub hc, pk_sub q1, X_power σ (by omega), ob_e, pk_mul, ← ew]
      by_cases c2 : zWy S c n i = 0
      · rw [if_pos (by rw [c2]; rfl)]
        rw [Int32.add_zero]
        exact go a σ (by rw [c2, ite_self]; rfl) (Fr.rf 10 σ)
      · rw [if_neg (nI_ne0 (Nat.pos_of_ne_zero c2) (by omega))]
        obtain ⟨σ1, e1, f1⟩ := X_brHid hr hf hp hd hi64
        rw [e1, ob_e]
        dsimp only
        by_cases c3 : zHb n p d w i = true
        · rw [if_pos c3, i10, nI_add]
          exact go _ σ1 (by rw [if_pos c3]) f1
        · rw [if_neg c3, i00, Int32.add_zero]
          exact go a σ1 (by rw [if_neg c3]; rfl) f1
    · rw [if_neg (show ¬ nI (i &&& (63 ^^^ S)) = 0 from fun z => c1 (nI_inj (b := 0) (by have := Nat.and_le_left (n := i) (m := 63 ^^^ S); omega) (by omega) z))]
      exact go a σ (by unfold zWy; rw [if_neg c1, ite_self]; rfl) (Fr.rf 10 σ)
/-- the reference's inner loop: the ways of a set -/
theorem M_hid_w {n t r p d c S m a0 : Nat} {w : Rw} {below : Int32} (hf : Wf w n t r) (hp : p < n) (hd : d ≤ 60) (hc : c ≤ 10) (hS : S < 64) (hm64 : m < 64) (K : Int32 → Int32 → Int32 → Int32 → Int32 → Int32 → Int32 → Int32 → Sg → Option (Int32 × Sg)) (x4 : Int32) (z : Nat) : ∀ (k i N : Nat) (σ : Sg), Mp σ 206 0 w → i + k = n → k < N → ∃ f, fM_hidden_L161 K N (nI p) (nI d) (nI c) x4 (nI S) below (nI a0) (nI m) (nI (z * zPr S m c i)) (nI i) σ = K (nI p) (nI d) (nI c) x4 (nI S) below (nI (a0 + (if zHb n p d w m = true then z * zPr S m c n else 0))) (nI (m + 1)) (zsc σ 208 f) := by
  have hn := hf.1
  have w4 := hf.2.2.2.2.1
  intro k
  induction k with
  | zero =>
    intro i N σ hm hi hN
    obtain ⟨N, rfl⟩ : ∃ M, N = M + 1 := ⟨N - 1, by omega⟩
    obtain rfl : i = n := by omega
    obtain ⟨f, e1, e2⟩ := M_hides hm64 hm hf
    obtain ⟨g, e3⟩ := M_by (p := p) (m := d) (by omega) (by omega) (Mp.zs (σ := σ) (k := 208) e2) (zHid_wf hf)
    refine ⟨g, ?_⟩
    show fM_hidden_b161 K (fM_hidden_L161 K N) _ _ _ _ _ _ _ _ _ _ σ = _
    unfold fM_hidden_b161 fM_hidden_B240 zHb
    rw [hm.at 4 (by omega), w4, if_pos (nI_le (by omega) (by omega)), e1, ob_e, e3, ob_e, zsc_t]
    dsimp only
    have zo := (zOb_n (k := d) (w := zHid m i w) (n := i) (p := p) (i := 0) (by omega)).2
    cases ez : zWh i p d (zHid m i w) 0 with
    | none => rw [ez] at zo; rw [if_pos (zo.mpr rfl), Int32.add_zero, nI_1]; rfl
    | some j => rw [ez] at zo; rw [if_neg (fun z => by have := zo.mp z; cases this), nI_add, nI_1]; rfl
  | succ k ih =>
    intro i N σ hm hi hN
    obtain ⟨N, rfl⟩ : ∃ M, N = M + 1 := ⟨N - 1, by omega⟩
    have step := ih (i + 1) N σ hm (by omega) (by omega)
    rw [zPr, ← Nat.mul_assoc, ← pk_mul] at step
    show ∃ f, fM_hidden_b161 K (fM_hidden_L161 K N) _ _ _ _ _ _ _ _ _ _ σ = _
    unfold fM_hidden_b161 fM_hidden_B206
    rw [hm.at 4 (by omega), w4, if_neg (nI_ge (by omega) (by omega)), nI_1]
    by_cases cs : S.testBit i = true
    · rw [M_has_t hS (by omega) _ cs, ob_e, i10]
      rw [if_pos cs] at step
      by_cases cm : m.testBit i = true
      · rw [M_has_t hm64 (by omega) _ cm, ob_e, i10]
        rw [if_pos cm] at step
        exact step
      · rw [M_has_f hm64 (by omega) _ (by simpa using cm), ob_e, i00, zlit 10, pk_sub hc]
        rw [if_neg cm] at step
        exact step
    · rw [M_has_f hS (by omega) _ (by simpa using cs), ob_e, i00]
      rw [if_neg cs] at step
      exact step
theorem M_hid_L {n t r p d c S below : Nat} {w : Rw} (hf : Wf w n t r) (hp : p < n) (hd : d ≤ 60) (hc : c ≤ 10) (hS : S < 64) (x4 : Int32) : ∀ (k i N a : Nat) (σ : Sg), Mp σ 206 0 w → i + k = 2 ^ n → k < N → ∃ f, fM_hidden_L128 N (nI p) (nI d) (nI c) x4 (nI S) (nI below) (nI a) (nI i) σ = fM_hidden_L257 2000 x4 (nI below) (nI (zAb S c n p d w k i a)) (nI (zAb S c n p d w k i a)) (nI below) (zsc σ 208 f) := by
  have hn := hf.1
  have h64 := zP64 hn
  have w4 := hf.2.2.2.2.1
  intro k
  induction k with
  | zero =>
    intro i N a σ hm hi hN
    obtain ⟨N, rfl⟩ : ∃ M, N = M + 1 := ⟨N - 1, by omega⟩
    refine ⟨σ 208, ?_⟩
    show fM_hidden_b128 (fM_hidden_L128 N) _ _ _ _ _ _ _ _ σ = _
    unfold fM_hidden_b128
    rw [hm.at 4 (by omega), w4, zSh1 n (by omega), if_pos (nI_le (by omega) (by omega)), zsc_id, zAb]
  | succ k ih =>
    intro i N a σ hm hi hN
    obtain ⟨N, rfl⟩ : ∃ M, N = M + 1 := ⟨N - 1, by omega⟩
    have hi64 : i < 64 := by omega
    have go : ∀ z : Nat, z * zPr S i c n = zWy S c n i → ∃ f, fM_hidden_L161 (fM_hidden_L128 N) 2000 (nI p) (nI d) (nI c) x4 (nI S) (nI below) (nI a) (nI i) (nI (z * zPr S i c 0)) (nI 0) σ = fM_hidden_L257 2000 x4 (nI below) (nI (zAb S c n p d w (k + 1) i a)) (nI (zAb S c n p d w (k + 1) i a)) (nI below) (zsc σ 208 f) := by
      intro z hz
      obtain ⟨f, e1⟩ := M_hid_w (a0 := a) (below := nI below) hf hp hd hc hS hi64 (fM_hidden_L128 N) x4 z n 0 2000 σ hm (by omega) (by omega)
      obtain ⟨g, e2⟩ := ih (i + 1) N (a + (if zHb n p d w i = true then zWy S c n i else 0)) (zsc σ 208 f) (hm.cong (zsc_n (by omega))) (by omega) (by omega)
      refine ⟨g, ?_⟩
      rw [e1, hz, e2, zsc_t, zAb]
    show ∃ f, fM_hidden_b128 (fM_hidden_L128 N) _ _ _ _ _ _ _ _ σ = _
    unfold fM_hidden_b128 fM_hidden_B156
    rw [hm.at 4 (by omega), w4, zSh1 n (by omega), if_neg (nI_ge (by omega) (by omega)), zAnd _ hi64 _ hS]
    by_cases c1 : i &&& (63 ^^^ S) = 0
    · rw [if_pos (by rw [c1]; rfl)]
      exact go 1 (by unfold zWy; rw [if_pos c1, Nat.one_mul])
    · rw [if_neg (show ¬ nI (i &&& (63 ^^^ S)) = 0 from fun z => c1 (nI_inj (b := 0) (by have := Nat.and_le_left (n := i) (m := 63 ^^^ S); omega) (by omega) z))]
      exact go 0 (by unfold zWy; rw [if_neg c1, Nat.zero_mul])
theorem M_hid_s {n t r : Nat} {w : Rw} {σ : Sg} (hf : Wf w n t r) (hm : Mp σ 206 0 w) (x1 x2 x3 x4 : Int32) : ∀ (k i N : Nat), i + k = n → k < N → fM_hidden_L47 N x1 x2 x3 x4 (nI (zBs (zSh w) i)) (nI (10 ^ zCn (zSh w) i)) (nI i) σ = fM_hidden_L128 2000 x1 x2 x3 x4 (nI (zBs (zSh w) n)) (nI (10 ^ zCn (zSh w) n)) (nI 0) (nI 0) σ := by
  have hn := hf.1
  have w4 := hf.2.2.2.2.1
  intro k
  induction k with
  | zero =>
    intro i N hi hN
    obtain ⟨N, rfl⟩ : ∃ M, N = M + 1 := ⟨N - 1, by omega⟩
    obtain rfl : i = n := by omega
    show fM_hidden_b47 (fM_hidden_L47 N) _ _ _ _ _ _ _ σ = _
    unfold fM_hidden_b47
    rw [hm.at 4 (by omega), w4, if_pos (nI_le (by omega) (by omega)), nI_0]
  | succ k ih =>
    intro i N hi hN
    obtain ⟨N, rfl⟩ : ∃ M, N = M + 1 := ⟨N - 1, by omega⟩
    have hi6 : i < 6 := by omega
    have step := ih (i + 1) N (by omega) (by omega)
    have lt64 : zBs (zSh w) i < 64 := Nat.lt_of_lt_of_le (zBs_lt _ i) (Nat.pow_le_pow_right (n := 2) (by omega) (show i ≤ 6 by omega))
    rw [← step]
    show fM_hidden_b47 (fM_hidden_L47 N) _ _ _ _ _ _ _ σ = _
    unfold fM_hidden_b47 fM_hidden_B80 fM_hidden_B97 fM_hidden_B113
    rw [hm.at 4 (by omega), w4, if_neg (nI_ge (by omega) (by omega)), zb3 hi6, if_pos rfl, zx3 hi6, hm.at _ (by omega), nI_1, zBs, zCn]
    by_cases c : w (8 + 6 * i) ≤ 0
    · rw [if_pos c, i00, i00, zor0, Int32.mul_one, if_neg (zSh_f c), if_neg (zSh_f c)]
      rfl
    · rw [if_neg c, i10, i10, zorb _ lt64 _ hi6, zlit 10, pk_mul, if_pos (zSh_t c), if_pos (zSh_t c), zBs_or, Nat.pow_succ]
theorem zCn_Bs (f : Nat → Bool) : ∀ n, zCn (fun q => (zBs f n).testBit q) n = zCn f n := by
  intro n
  have k : ∀ m, m ≤ n → zCn (fun q => (zBs f n).testBit q) m = zCn f m := by
    intro m
    induction m with
    | zero => intro _; rfl
    | succ m ih =>
      intro hm
      rw [zCn, zCn, ih (by omega), zBs_bit]
      simp only [show m < n by omega, decide_true, Bool.true_and]
  exact k n (Nat.le_refl n)
theorem T_hidden {σ : Sg} (h : Inv σ) (x1 x2 x3 x4 : Int32) : ∃ v σ1 σ2, fX_hidden x1 x2 x3 x4 σ = some (v, σ1) ∧ fM_hidden x1 x2 x3 x4 σ1 = some (v, σ2) ∧ Inv σ2 := by
  have hI := h
  obtain ⟨⟨w, n, t, r, hh⟩, -⟩ := hI
  obtain ⟨hf, hr, hm, h9⟩ := id hh
  have hn := hf.1
  have h64 := zP64 hn
  have w4 := hf.2.2.2.2.1
  have s5 : σ 4 5 = nI n := by rw [hr.1.1.1]; exact w4
  have m4 : σ 206 4 = nI n := by rw [hm.at 4 (by omega)]; exact w4
  rcases percase hn x1 with ⟨p, hp, rfl, pA, pB⟩ | ⟨pA, pB⟩
  · rcases farcase x2 with ⟨d, hd, rfl, hA⟩ | hA
    · rcases incase x3 0 10 with ⟨c1, c2, hB⟩ | ⟨-, hB⟩
      · rcases incase x4 0 1 with ⟨-, -, hD⟩ | ⟨-, hD⟩
        · obtain ⟨c, hc, rfl⟩ := zrng (n := 10) (by omega) c1 c2
          have hS : zBs (zSh w) n < 2 ^ n := zBs_lt _ n
          have hS64 : zBs (zSh w) n < 64 := by omega
          have hPS := zPc_le _ hS64
          have ePS : zPc (zBs (zSh w) n) = zCn (zSh w) n := by rw [zPc_n hn hS, zCn_Bs]
          obtain ⟨σ1, e1, f1⟩ := X_hid_L hf hp hd hc hS x4 (zBs (zSh w) n + 1) 0 2000 0 σ hr (by omega) (by omega) (by omega)
          have hm1 : Mp σ1 206 0 w := hm.cong (f1 _ (by omega))
          obtain ⟨g, e2⟩ := M_hid_L (S := zBs (zSh w) n) (below := 10 ^ zPc (zBs (zSh w) n)) hf hp hd hc hS64 x4 (2 ^ n) 0 2000 0 σ1 hm1 (by omega) (by omega)
          have eA : zAb (zBs (zSh w) n) c n p d w (2 ^ n) 0 0 = zAb (zBs (zSh w) n) c n p d w (zBs (zSh w) n + 1) 0 0 := by
            have := zAb_add (S := zBs (zSh w) n) (c := c) (n := n) (p := p) (d := d) (w := w) (zBs (zSh w) n + 1) (2 ^ n - (zBs (zSh w) n + 1)) 0 0
            rw [show zBs (zSh w) n + 1 + (2 ^ n - (zBs (zSh w) n + 1)) = 2 ^ n by omega, zAb_zero hS64 (2 ^ n - (zBs (zSh w) n + 1)) (0 + (zBs (zSh w) n + 1)) _ (by omega) (by omega)] at this
            exact this
          rw [eA] at e2
          have hAb : zAb (zBs (zSh w) n) c n p d w (zBs (zSh w) n + 1) 0 0 ≤ 64000000 := by
            have := zAb_le (S := zBs (zSh w) n) (c := c) (n := n) (p := p) (d := d) (w := w) hn hc (zBs (zSh w) n + 1) 0 0
            omega
          generalize zAb (zBs (zSh w) n) c n p d w (zBs (zSh w) n + 1) 0 0 = A at e1 e2 hAb
          have hBl : 10 ^ zPc (zBs (zSh w) n) ≤ 1000000 := Nat.le_trans (Nat.pow_le_pow_right (by omega) hPS) (by omega)
          have hB0 : 0 < 10 ^ zPc (zBs (zSh w) n) := Nat.pow_pos (by omega)
          have eS : fH_showing 4 σ = some (nI (zBs (zSh w) n)) := H_showing hr.1 hf
          have eM0 : fM_hidden_L47 2000 (nI p) (nI d) (nI c) x4 0 1 0 σ1 = fM_hidden_L128 2000 (nI p) (nI d) (nI c) x4 (nI (zBs (zSh w) n)) (nI (10 ^ zPc (zBs (zSh w) n))) (nI 0) (nI 0) σ1 := by
            rw [ePS]
            exact M_hid_s hf hm1 (nI p) (nI d) (nI c) x4 n 0 2000 (by omega) (by omega)
          have eXJ := J_bits hS64 σ
          generalize hBw : 10 ^ zPc (zBs (zSh w) n) = B at e1 e2 hBl hB0 eM0
          have hG : 0 < Nat.gcd B A := Nat.gcd_pos_of_pos_left A hB0
          have hGl : Nat.gcd B A ≤ B := Nat.gcd_le_left A hB0
          have eG : fX_commonDivisor (nI A) (nI B) σ1 = some (nI (Nat.gcd B A)) := by
            have e3 := X_gcd_L σ1 100 0 2000 A B (by omega) (by omega) (by omega) (by omega)
            rw [zG_gcd 20 100 A B (by omega) (by omega)] at e3
            have e4 : fX_commonDivisor (nI A) (nI B) σ1 = fX_commonDivisor_B34 (nI (Nat.gcd B A)) σ1 := e3
            rw [e4]
            unfold fX_commonDivisor_B34
            rw [if_neg (show ¬ nI (Nat.gcd B A) < 1 from nI_nlt (b := 1) (by omega) (by omega))]
          have eH := M_gcd_L x4 (nI B) (nI A) (zsc σ1 208 g) 20 2000 A B (by omega) (by omega) (by omega) (by omega)
          have nzg := nz_t hG (by omega)
          refine ⟨(if x4 = 0 then nI A else nI B) / nI (Nat.gcd B A), σ1, zsc σ1 208 g, ?_, ?_, h.fore f1 g⟩
          · unfold fX_hidden
            rw [pA σ s5, ob_e, i10, (hA _).1, ob_e, i10, (hB _).1, ob_e, i10, (hD _).1, ob_e, i10, eS, ob_e, eXJ, ob_e]
            rw [nI_0] at e1
            rw [e1, eG, ob_e]
            unfold fX_hidden_B174
            rw [nzg, if_pos rfl, if_pos rfl]
            by_cases c0 : x4 = 0
            · rw [if_pos c0, if_pos c0]
            · rw [if_neg c0, if_neg c0]
          · unfold fM_hidden
            rw [pB σ1 (by rw [hm1.at 4 (by omega)]; exact w4), ob_e, i10, (hA _).2, ob_e, i10, (hB _).2, ob_e, i10, (hD _).2, ob_e, i10, eM0, e2, eH]
            unfold fM_hidden_B292
            rw [nzg, if_pos rfl, if_pos rfl]
            by_cases c0 : x4 = 0
            · rw [if_pos c0, if_pos c0]
            · rw [if_neg c0, if_neg c0]
        · exact ⟨-1000001, σ, σ, by simp only [fX_hidden, pA σ s5, (hA _).1, (hB _).1, (hD _).1, ob_e, i10, ↓reduceIte], by simp only [fM_hidden, pB σ m4, (hA _).2, (hB _).2, (hD _).2, ob_e, i10, ↓reduceIte], h⟩
      · exact ⟨-1000001, σ, σ, by simp only [fX_hidden, pA σ s5, (hA _).1, (hB _).1, ob_e, i10, ↓reduceIte], by simp only [fM_hidden, pB σ m4, (hA _).2, (hB _).2, ob_e, i10, ↓reduceIte], h⟩
    · exact ⟨-1000001, σ, σ, by simp only [fX_hidden, pA σ s5, (hA _).1, ob_e, i10, ↓reduceIte], by simp only [fM_hidden, pB σ m4, (hA _).2, ob_e, i10, ↓reduceIte], h⟩
  · exact ⟨-1000001, σ, σ, by simp only [fX_hidden, pA σ s5, ob_e, ↓reduceIte], by simp only [fM_hidden, pB σ m4, ob_e, ↓reduceIte], h⟩
