/-! hide -/
theorem zPc_le : ∀ m, m < 64 → zPc m ≤ 6 := by decide +kernel
theorem zSh1 : ∀ n, n < 7 → (1 : Int32) <<< (nI n &&& 31) = nI (2 ^ n) := by decide +kernel
theorem zP64 {n : Nat} (h : n ≤ 6) : 2 ^ n ≤ 64 := Nat.le_trans (Nat.pow_le_pow_right (n := 2) (by omega) h) (by omega)
theorem zP1 (n : Nat) : 1 ≤ 2 ^ n := Nat.one_le_two_pow
noncomputable def zHB (n : Nat) (w : Rw) (m : Nat) : Nat := zPc (zBn (zPs n 99 (zHid m n w)) n)
noncomputable def zHL (n : Nat) (w : Rw) (m : Nat) : Nat := zLa n 99 (zHid m n w) 1 0
noncomputable def zWo (n : Nat) (w : Rw) (m : Nat) : Nat := zHB n w m * 1000 + (99 - zHL n w m) * 10 + (6 - zPc m)
theorem zLa_le {n B : Nat} : ∀ (k : Nat) (w : Rw) (i l : Nat), l ≤ B → i + k ≤ B + 1 → zLa n k w i l ≤ B := by
  intro k
  induction k with
  | zero => intro w i l h _; exact h
  | succ k ih =>
    intro w i l h hi
    rw [zLa]
    refine ih _ _ _ ?_ (by omega)
    split
    · exact h
    · omega
theorem zHL_le (n : Nat) (w : Rw) (m : Nat) : zHL n w m ≤ 99 := zLa_le 99 _ 1 0 (by omega) (by omega)
theorem zHB_le {n : Nat} (hn : n ≤ 6) (w : Rw) (m : Nat) : zHB n w m ≤ 6 := zPc_le _ (zBn_lt _ hn)
theorem zWo_div {n : Nat} (w : Rw) (m : Nat) (hm : m < 64) : zWo n w m / 1000 = zHB n w m := by
  unfold zWo
  have := zHL_le n w m
  have := zPc_le m hm
  omega
theorem X_worth {σ : Sg} {w : Rw} {n t r m : Nat} (hr : Rp σ 4 w n) (hf : Wf w n t r) (hm : m < 64) : ∃ σ', fX_worth (nI m) σ = some (nI (zWo n w m), σ') ∧ Fr 10 σ σ' := by
  have hn := hf.1
  obtain ⟨q, g1, g2, g3⟩ := X_sup hn hr
  obtain ⟨q2, c1, c2, c3⟩ := H_con hm g2 hf
  obtain ⟨σ1, w', r', k1, k2, k3, k4, k5⟩ := H_last (d := 99) (by omega) c2 (zHid_wf hf)
  refine ⟨σ1, ?_, (g3.tr c3).tr k5⟩
  unfold fX_worth
  rw [g1, ob_e, c1, ob_e, show (99 : Int32) = nI 99 from rfl, k1, ob_e]
  dsimp only
  rw [k2.1.1.2.2.2.2.1, zBn_cong k4, J_bits (zBn_lt _ hn), ob_e, J_bits hm, ob_e]
  have h1 : zLa n 99 (zHid m n w) 1 0 ≤ 99 := zHL_le n w m
  have h2 := zPc_le m hm
  rw [zlit 1000, zlit 10, zlit 6, pk_mul, pk_sub h1, pk_mul, pk_sub h2, nI_add, nI_add]
  rfl
/-- the best set -/
noncomputable def zHd (n : Nat) (w : Rw) : Nat → Nat → Nat → Nat
  | 0, _, b => b
  | k + 1, i, b => zHd n w k (i + 1) (if zWo n w i ≤ zWo n w b then b else i)
theorem zHd_lt {n : Nat} {w : Rw} : ∀ (k i b : Nat), b < 64 → i + k ≤ 64 → zHd n w k i b < 64 := by
  intro k
  induction k with
  | zero => intro i b h _; exact h
  | succ k ih =>
    intro i b h hi
    rw [zHd]
    refine ih _ _ ?_ (by omega)
    split
    · exact h
    · omega
theorem zWo_lt {n : Nat} (hn : n ≤ 6) (w : Rw) (m : Nat) : zWo n w m < 10000 := by
  unfold zWo
  have := zHB_le hn w m
  omega
theorem X_hide_L {n t r : Nat} {w : Rw} (hf : Wf w n t r) (x1 : Int32) : ∀ (k i N b : Nat) (σ : Sg), Rp σ 4 w n → b < 64 → i + k = 2 ^ n → k < N → ∃ σ', fX_hide_L44 N x1 (nI b) (nI (zWo n w b)) (nI (2 ^ n)) (nI i) σ = some (if x1 = 0 then nI (zHB n w (zHd n w k i b)) else nI (zHd n w k i b), σ') ∧ Fr 10 σ σ' := by
  have hn := hf.1
  have h64 := zP64 hn
  intro k
  induction k with
  | zero =>
    intro i N b σ hr hb hi hN
    obtain ⟨N, rfl⟩ : ∃ M, N = M + 1 := ⟨N - 1, by omega⟩
    refine ⟨σ, ?_, Fr.rf 10 σ⟩
    have := zWo_lt hn w b
    show fX_hide_b44 (fX_hide_L44 N) _ _ _ _ _ σ = _
    unfold fX_hide_b44
    rw [if_pos (nI_le (by omega) (by omega)), zlit 1000, pk_div (by omega) (by omega) (by omega), zWo_div w b hb, zHd]
    by_cases c : x1 = 0
    · rw [if_pos c, if_pos c]
    · rw [if_neg c, if_neg c]
  | succ k ih =>
    intro i N b σ hr hb hi hN
    obtain ⟨N, rfl⟩ : ∃ M, N = M + 1 := ⟨N - 1, by omega⟩
    obtain ⟨σ1, e1, f1⟩ := X_worth hr hf (show i < 64 by omega)
    have hr1 : Rp σ1 4 w n := hr.cong (fun k q1 q2 => f1 k (by omega))
    have l1 := zWo_lt hn w b
    have l2 := zWo_lt hn w i
    show ∃ σ', fX_hide_b44 (fX_hide_L44 N) _ _ _ _ _ σ = _ ∧ _
    unfold fX_hide_b44 fX_hide_B71
    rw [if_neg (nI_ge (by omega) (by omega)), e1, ob_e, zHd, nI_1]
    dsimp only
    by_cases c : zWo n w i ≤ zWo n w b
    · rw [if_pos (nI_le c (by omega)), if_pos c]
      obtain ⟨σ2, e2, f2⟩ := ih (i + 1) N b σ1 hr1 hb (by omega) (by omega)
      exact ⟨σ2, e2, f1.tr f2⟩
    · rw [if_neg (nI_ge (by omega) (by omega)), if_neg c]
      obtain ⟨σ2, e2, f2⟩ := ih (i + 1) N i σ1 hr1 (by omega) (by omega) (by omega)
      exact ⟨σ2, e2, f1.tr f2⟩
/-- what the reference does behind its inner loop -/
def hidEx (K33 : Int32 → Int32 → Int32 → Int32 → Int32 → Sg → Option (Int32 × Sg)) (x1 x2 x3 x4 x5 x6 x7 : Int32) (σ : Sg) : Option (Int32 × Sg) := (fM_ones x7 σ).bind fun q10 => if q10 = x3 then (if x6 = x4 then ((fM_ones x5 σ).bind fun q13 => (fM_ones x2 σ).bind fun q14 => if q14 ≤ q13 then fM_hide_B153 K33 x1 x2 x3 x4 x5 x6 q10 σ else fM_hide_B154 K33 x1 x2 x3 x4 x5 x6 q10 1 σ) else fM_hide_B153 K33 x1 x2 x3 x4 x5 x6 q10 σ) else fM_hide_B153 K33 x1 x2 x3 x4 x5 x6 q10 σ
theorem M_hid_in {n t : Nat} (K : Int32 → Int32 → Int32 → Int32 → Int32 → Sg → Option (Int32 × Sg)) (x1 x2 x3 x4 x5 : Int32) : ∀ (k i N l : Nat) (σ : Sg) (w : Rw) (q : Nat), Mp σ 208 0 w → Wf w n t q → i + k = 100 → k < N → ∃ f, fM_hide_L67 K N x1 x2 x3 x4 x5 (nI l) (nI (zBn w n)) (nI i) σ = hidEx K x1 x2 x3 x4 x5 (nI (zLa n k w i l)) (nI (zBn (zPs n k w) n)) (zsc σ 208 f) := by
  intro k
  induction k with
  | zero =>
    intro i N l σ w q hm hf hi hN
    obtain ⟨N, rfl⟩ : ∃ M, N = M + 1 := ⟨N - 1, by omega⟩
    refine ⟨σ 208, ?_⟩
    show fM_hide_b67 K (fM_hide_L67 K N) _ _ _ _ _ _ _ _ σ = _
    unfold fM_hide_b67 hidEx
    rw [if_pos (show (100 : Int32) ≤ nI i from nI_le (a := 100) (by omega) (by omega)), zsc_id]
    rfl
  | succ k ih =>
    intro i N l σ w q hm hf hi hN
    obtain ⟨N, rfl⟩ : ∃ M, N = M + 1 := ⟨N - 1, by omega⟩
    have hn := hf.1
    obtain ⟨g, e1, e2⟩ := M_pass hm hf
    obtain ⟨q2, hf2⟩ := zPass_wf hf
    have hm2 : Mp (zsc σ 208 g) 208 0 (zPass n w) := Mp.zs e2
    have l1 := zBn_lt (zPass n w) hn
    have l2 := zBn_lt w hn
    show ∃ f, fM_hide_b67 K (fM_hide_L67 K N) _ _ _ _ _ _ _ _ σ = _
    unfold fM_hide_b67 fM_hide_B100
    rw [if_neg (show ¬ (100 : Int32) ≤ nI i from nI_ge (b := 100) (by omega) (by omega)), e1, ob_e, M_bin hm2 hf2, ob_e, ob_e, ob_e, nI_1, zLa, zPs]
    by_cases c : zBn (zPass n w) n = zBn w n
    · rw [if_pos (by rw [c]), if_pos c]
      obtain ⟨f, e3⟩ := ih (i + 1) N l (zsc σ 208 g) (zPass n w) q2 hm2 hf2 (by omega) (by omega)
      exact ⟨f, by rw [e3, zsc_t]⟩
    · rw [if_neg (fun z => c (nI_inj (by omega) (by omega) z)), if_neg c]
      obtain ⟨f, e3⟩ := ih (i + 1) N i (zsc σ 208 g) (zPass n w) q2 hm2 hf2 (by omega) (by omega)
      exact ⟨f, by rw [e3, zsc_t]⟩
theorem M_ones_some (x : Int32) (σ : Sg) : ∀ (k i N : Nat) (acc : Int32), i + k = 8 → k < N → ∃ v, fM_ones_L4 N x acc (nI i) σ = some v := by
  intro k
  induction k with
  | zero =>
    intro i N acc hi hN
    obtain ⟨N, rfl⟩ : ∃ M, N = M + 1 := ⟨N - 1, by omega⟩
    obtain rfl : i = 8 := by omega
    refine ⟨acc, ?_⟩
    show fM_ones_b4 (fM_ones_L4 N) _ _ _ σ = _
    unfold fM_ones_b4
    rw [if_pos (by decide)]
  | succ k ih =>
    intro i N acc hi hN
    obtain ⟨N, rfl⟩ : ∃ M, N = M + 1 := ⟨N - 1, by omega⟩
    show ∃ v, fM_ones_b4 (fM_ones_L4 N) _ _ _ σ = _
    unfold fM_ones_b4
    rw [if_neg (show ¬ (8 : Int32) ≤ nI i from nI_ge (b := 8) (by omega) (by omega)), nI_1]
    exact ih (i + 1) N _ (by omega) (by omega)
theorem hid_yes (K : Int32 → Int32 → Int32 → Int32 → Int32 → Sg → Option (Int32 × Sg)) (x1 x2 x3 x4 x5 x6 x8 : Int32) (σ : Sg) : fM_hide_B191 K x1 x2 x3 x4 x5 x6 x8 1 σ = K x1 x5 x8 x6 (x5 + 1) σ := by
  unfold fM_hide_B191 fM_hide_B204 fM_hide_B216 fM_hide_B229
  rw [i10, i10, i10]
theorem hid_no (K : Int32 → Int32 → Int32 → Int32 → Int32 → Sg → Option (Int32 × Sg)) (x1 x2 x3 x4 x5 x6 x8 : Int32) (σ : Sg) : fM_hide_B191 K x1 x2 x3 x4 x5 x6 x8 0 σ = K x1 x2 x3 x4 (x5 + 1) σ := by
  unfold fM_hide_B191 fM_hide_B204 fM_hide_B216 fM_hide_B229
  rw [i00, i00, i00]
theorem hid_first {K : Int32 → Int32 → Int32 → Int32 → Int32 → Sg → Option (Int32 × Sg)} {x1 x3 x4 x5 x6 : Int32} {B : Nat} {σ : Sg} (hB : B < 64) : hidEx K x1 (-1000000) x3 x4 x5 x6 (nI B) σ = K x1 x5 (nI (zPc B)) x6 (x5 + 1) σ := by
  unfold hidEx fM_hide_B153 fM_hide_B154 fM_hide_B186
  obtain ⟨v1, e1⟩ := M_ones_some x5 σ 8 0 2000 0 (by omega) (by omega)
  obtain ⟨v2, e2⟩ := M_ones_some (-1000000) σ 8 0 2000 0 (by omega) (by omega)
  have e1' : fM_ones x5 σ = some v1 := e1
  have e2' : fM_ones (-1000000) σ = some v2 := e2
  rw [M_ones hB, ob_e, e1', ob_e, e2', ob_e, if_pos rfl, hid_yes]
  by_cases c1 : nI (zPc B) = x3
  · rw [if_pos c1]
    by_cases c2 : x6 = x4
    · rw [if_pos c2]
      by_cases c3 : v2 ≤ v1
      · rw [if_pos c3]
      · rw [if_neg c3, if_pos rfl]
    · rw [if_neg c2]
  · rw [if_neg c1]
theorem hid_next {K : Int32 → Int32 → Int32 → Int32 → Int32 → Sg → Option (Int32 × Sg)} {x1 : Int32} {b B l i B' l' : Nat} {σ : Sg} (hb : b < 64) (hB : B ≤ 6) (hl : l ≤ 99) (hi : i < 64) (hB' : B' < 64) (hl' : l' ≤ 99) : hidEx K x1 (nI b) (nI B) (nI l) (nI i) (nI l') (nI B') σ = if zPc B' * 1000 + (99 - l') * 10 + (6 - zPc i) ≤ B * 1000 + (99 - l) * 10 + (6 - zPc b) then K x1 (nI b) (nI B) (nI l) (nI (i + 1)) σ else K x1 (nI i) (nI (zPc B')) (nI l') (nI (i + 1)) σ := by
  have p1 := zPc_le B' hB'
  have p2 := zPc_le i hi
  have p3 := zPc_le b hb
  have nb : ¬ nI b = -1000000 := by
    intro z
    have z2 := congrArg Int32.toInt z
    rw [nI_toInt (by omega), show (-1000000 : Int32).toInt = -1000000 by decide +kernel] at z2
    omega
  unfold hidEx fM_hide_B153 fM_hide_B154 fM_hide_B186 fM_hide_B181 fM_hide_B186
  rw [M_ones hB', ob_e, M_ones hi, ob_e, M_ones hb, ob_e, if_neg nb, if_neg nb, hid_yes, hid_no, i00, i10, nI_1]
  by_cases c1 : zPc B' = B
  · rw [c1, if_pos rfl, if_neg (nI_nlt (Nat.le_refl _) (by omega)), if_pos rfl]
    by_cases c2 : l' = l
    · rw [c2, if_pos rfl, if_neg (nI_nlt (Nat.le_refl _) (by omega))]
      by_cases c3 : zPc b ≤ zPc i
      · rw [if_pos (nI_le c3 (by omega)), if_pos (by omega)]
      · rw [if_neg (nI_ge (by omega) (by omega)), if_pos rfl, if_neg (nI_nlt (Nat.le_refl _) (by omega)), if_neg (show ¬ B * 1000 + (99 - l) * 10 + (6 - zPc i) ≤ B * 1000 + (99 - l) * 10 + (6 - zPc b) by omega), ite_self]
    · rw [if_neg (fun z => c2 (nI_inj (by omega) (by omega) z))]
      by_cases c3 : l' < l
      · rw [if_pos (nI_lt c3 (by omega)), if_neg (by omega)]
      · rw [if_neg (nI_nlt (by omega) (by omega)), if_pos (by omega)]
  · have c1' : ¬ nI (zPc B') = nI B := fun z => c1 (nI_inj (by omega) (by omega) z)
    rw [if_neg c1', if_neg c1']
    by_cases c3 : B < zPc B'
    · rw [if_pos (nI_lt c3 (by omega)), if_neg (by omega)]
    · rw [if_neg (nI_nlt (by omega) (by omega)), if_pos (by omega)]
theorem M_hide_1 {n t r i : Nat} {w : Rw} {σ : Sg} (hf : Wf w n t r) (hm : Mp σ 206 0 w) (hi : i < 2 ^ n) (K : Int32 → Int32 → Int32 → Int32 → Int32 → Sg → Option (Int32 × Sg)) (x1 x2 x3 x4 : Int32) : ∃ f, fM_hide_b33 K x1 x2 x3 x4 (nI i) σ = hidEx K x1 x2 x3 x4 (nI i) (nI (zHL n w i)) (nI (zBn (zPs n 99 (zHid i n w)) n)) (zsc σ 208 f) := by
  have hn := hf.1
  have h64 := zP64 hn
  have w4 := hf.2.2.2.2.1
  obtain ⟨f, e1, e2⟩ := M_hides (show i < 64 by omega) hm hf
  have m2 : Mp (zsc σ 208 f) 208 0 (zHid i n w) := Mp.zs e2
  obtain ⟨g, e3⟩ := M_hid_in (t := t) K x1 x2 x3 x4 (nI i) 99 1 2000 0 (zsc σ 208 f) (zHid i n w) r m2 (zHid_wf hf) (by omega) (by omega)
  refine ⟨g, ?_⟩
  unfold fM_hide_b33
  rw [hm.at 4 (by omega), w4, zSh1 n (by omega), if_neg (nI_ge (by omega) (by omega)), e1, ob_e, M_bin m2 (zHid_wf hf), ob_e, ← nI_0, show (1 : Int32) = nI 1 from rfl, e3, zsc_t]
  rfl
theorem M_hide_L {n t r : Nat} {w : Rw} (hf : Wf w n t r) (x1 : Int32) : ∀ (k i N b : Nat) (σ : Sg), Mp σ 206 0 w → b < 64 → i + k = 2 ^ n → k < N → ∃ f, fM_hide_L33 N x1 (nI b) (nI (zHB n w b)) (nI (zHL n w b)) (nI i) σ = some (if x1 = 0 then nI (zHB n w (zHd n w k i b)) else nI (zHd n w k i b), zsc σ 208 f) := by
  have hn := hf.1
  have h64 := zP64 hn
  have w4 := hf.2.2.2.2.1
  intro k
  induction k with
  | zero =>
    intro i N b σ hm hb hi hN
    obtain ⟨N, rfl⟩ : ∃ M, N = M + 1 := ⟨N - 1, by omega⟩
    refine ⟨σ 208, ?_⟩
    show fM_hide_b33 (fM_hide_L33 N) _ _ _ _ _ σ = _
    unfold fM_hide_b33
    rw [hm.at 4 (by omega), w4, zSh1 n (by omega), if_pos (nI_le (by omega) (by omega)), zHd, zsc_id]
    by_cases c : x1 = 0
    · rw [if_pos c, if_pos c]
    · rw [if_neg c, if_neg c]
  | succ k ih =>
    intro i N b σ hm hb hi hN
    obtain ⟨N, rfl⟩ : ∃ M, N = M + 1 := ⟨N - 1, by omega⟩
    obtain ⟨g, e1⟩ := M_hide_1 hf hm (show i < 2 ^ n by omega) (fM_hide_L33 N) x1 (nI b) (nI (zHB n w b)) (nI (zHL n w b))
    have hm1 : Mp (zsc σ 208 g) 206 0 w := hm.cong (zsc_n (by omega))
    show ∃ f, fM_hide_b33 (fM_hide_L33 N) _ _ _ _ _ σ = _
    rw [e1, hid_next hb (zHB_le hn w b) (zHL_le n w b) (by omega) (zBn_lt _ hn) (zHL_le n w i), zHd]
    by_cases c : zWo n w i ≤ zWo n w b
    · rw [if_pos (show zPc (zBn (zPs n 99 (zHid i n w)) n) * 1000 + (99 - zHL n w i) * 10 + (6 - zPc i) ≤ zHB n w b * 1000 + (99 - zHL n w b) * 10 + (6 - zPc b) from c), if_pos c]
      obtain ⟨f2, e2⟩ := ih (i + 1) N b (zsc σ 208 g) hm1 hb (by omega) (by omega)
      exact ⟨f2, by rw [e2, zsc_t]⟩
    · rw [if_neg (show ¬ zPc (zBn (zPs n 99 (zHid i n w)) n) * 1000 + (99 - zHL n w i) * 10 + (6 - zPc i) ≤ zHB n w b * 1000 + (99 - zHL n w b) * 10 + (6 - zPc b) from c), if_neg c]
      obtain ⟨f2, e2⟩ := ih (i + 1) N i (zsc σ 208 g) hm1 (by omega) (by omega) (by omega)
      rw [zsc_t] at e2
      exact ⟨f2, e2⟩
theorem T_hide {σ : Sg} (h : Inv σ) (x : Int32) : ∃ v σ1 σ2, fX_hide x σ = some (v, σ1) ∧ fM_hide x σ1 = some (v, σ2) ∧ Inv σ2 := by
  have hI := h
  obtain ⟨⟨w, n, t, r, hh⟩, -⟩ := hI
  obtain ⟨hf, hr, hm, h9⟩ := id hh
  have hn := hf.1
  have h64 := zP64 hn
  have h1 := zP1 n
  have w4 := hf.2.2.2.2.1
  rcases housed hh with ⟨-, b, c⟩ | ⟨-, b, c⟩
  · refine ⟨-1000002, σ, σ, ?_, ?_, h⟩
    · unfold fX_hide; rw [b, i00]
    · unfold fM_hide; rw [c σ (hm.at 0 (by omega)), ob_e, i00]
  · rcases incase x 0 1 with ⟨-, -, hB⟩ | ⟨-, hB⟩
    · obtain ⟨σ0, e0, f0⟩ := X_worth hr hf (show 0 < 64 by omega)
      have hr0 : Rp σ0 4 w n := hr.cong (fun k q1 q2 => f0 k (by omega))
      obtain ⟨σ1, k1, k2⟩ := X_hide_L hf x (2 ^ n - 1) 1 2000 0 σ0 hr0 (by omega) (by omega) (by omega)
      have hF : Fr 10 σ σ1 := f0.tr k2
      have hm1 : Mp σ1 206 0 w := hm.cong (hF _ (by omega))
      obtain ⟨g, e1⟩ := M_hide_1 hf hm1 (show 0 < 2 ^ n by omega) (fM_hide_L33 1999) x (-1000000) 0 0
      rw [hid_first (zBn_lt _ hn)] at e1
      obtain ⟨f2, e2⟩ := M_hide_L hf x (2 ^ n - 1) 1 1999 0 (zsc σ1 208 g) (hm1.cong (zsc_n (by omega))) (by omega) (by omega) (by omega)
      refine ⟨if x = 0 then nI (zHB n w (zHd n w (2 ^ n - 1) 1 0)) else nI (zHd n w (2 ^ n - 1) 1 0), σ1, zsc σ1 208 f2, ?_, ?_, h.fore hF f2⟩
      · unfold fX_hide
        rw [b, i10, (hB _).1, ob_e, i10, ← nI_0, e0, ob_e]
        dsimp only
        rw [hr0.1.1.1, w4, zSh1 n (by omega), show (1 : Int32) = nI 1 from rfl, k1, nI_0]
      · unfold fM_hide
        rw [c σ1 (hm1.at 0 (by omega)), ob_e, i10, (hB _).2, ob_e, i10]
        have e3 : fM_hide_L33 2000 x (-1000000) 0 0 0 σ1 = fM_hide_b33 (fM_hide_L33 1999) x (-1000000) 0 0 (nI 0) σ1 := rfl
        rw [e3, e1, nI_1]
        have e4 : fM_hide_L33 1999 x (nI 0) (nI (zPc (zBn (zPs n 99 (zHid 0 n w)) n))) (nI (zHL n w 0)) (nI (0 + 1)) (zsc σ1 208 g) = fM_hide_L33 1999 x (nI 0) (nI (zHB n w 0)) (nI (zHL n w 0)) (nI 1) (zsc σ1 208 g) := rfl
        rw [e4, e2, zsc_t]
    · refine ⟨-1000001, σ, σ, ?_, ?_, h⟩
      · unfold fX_hide; rw [b, i10, (hB _).1, ob_e, i00]
      · unfold fM_hide; rw [c σ (hm.at 0 (by omega)), ob_e, i10, (hB _).2, ob_e, i00]
