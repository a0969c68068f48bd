theorem H_become_at {r0 r1 : Nat} (hd : r0 + 6 ≤ r1 ∨ r1 + 6 ≤ r0) (σ : Sg) : ∃ σ', fH_become r0 r1 σ = some σ' ∧ Fr r0 σ σ' ∧ (∀ i, 1 ≤ i → i ≤ 5 → ∀ p, p < 6 → σ' (r0 + i) p = σ (r1 + i) p) ∧ ∀ j, 5 ≤ j → j ≤ 11 → σ' r0 j = σ r1 j := by
  unfold fH_become
  simp only [ltc]
  refine ⟨_, rfl, ?_, ?_, ?_⟩
  · intro k hk
    simp (disch := omega) only [wr_ne, cpy_ne]
  · intro i h1 h5 p hp
    have e : ∀ (f g : Nat → Int32), va_cpy f g 0 0 6 p = f p := by
      intro f g
      unfold va_cpy
      rw [if_pos (by omega)]
      simp
    obtain rfl | rfl | rfl | rfl | rfl : i = 1 ∨ i = 2 ∨ i = 3 ∨ i = 4 ∨ i = 5 := by omega
    · simp (disch := omega) only [wr_ne, cpy_ne, cpy_eq, e]
    · simp (disch := omega) only [wr_ne, cpy_ne, cpy_eq, e]
    · simp (disch := omega) only [wr_ne, cpy_ne, cpy_eq, e]
    · simp (disch := omega) only [wr_ne, cpy_ne, cpy_eq, e]
    · simp (disch := omega) only [wr_ne, cpy_ne, cpy_eq, e]
  · intro j h5 h11
    obtain rfl | rfl | rfl | rfl | rfl | rfl | rfl : j = 5 ∨ j = 6 ∨ j = 7 ∨ j = 8 ∨ j = 9 ∨ j = 10 ∨ j = 11 := by omega
    all_goals simp (disch := omega) only [wr_ne, wr_no, wr_at, cpy_ne]
theorem H_become {r0 r1 : Nat} (hd : r0 + 6 ≤ r1 ∨ r1 + 6 ≤ r0) {σ : Sg} {w : Rw} {n : Nat} (hn : n ≤ 6) (hr : Rp σ r1 w n) : ∃ σ', fH_become r0 r1 σ = some σ' ∧ Rp σ' r0 w n ∧ Fr r0 σ σ' := by
  obtain ⟨σ', e1, hF, ha, hs⟩ := H_become_at hd σ
  refine ⟨σ', e1, ⟨⟨?_, fun p hp => ?_⟩, ?_⟩, hF⟩
  · rw [hs 5 (by omega) (by omega), hs 6 (by omega) (by omega), hs 7 (by omega) (by omega), hs 8 (by omega) (by omega), hs 9 (by omega) (by omega), hs 10 (by omega) (by omega)]
    exact hr.1.1
  · rw [ha 1 (by omega) (by omega) p (by omega), ha 2 (by omega) (by omega) p (by omega), ha 3 (by omega) (by omega) p (by omega), ha 4 (by omega) (by omega) p (by omega), ha 5 (by omega) (by omega) p (by omega)]
    exact hr.1.2 p hp
  · rw [hs 11 (by omega) (by omega)]
    exact hr.2
theorem put_Rp {σ : Sg} {h n : Nat} {w : Rw} (hr : R0 σ h w n) {c p : Nat} (hc : c < 4) (v : Int32) : Rp (wr (wr σ (h + (c + 1)) p v) h 11 (-2)) h (upd w (5 + c + 6 * p) v) n := by
  obtain ⟨⟨s5, s6, s7, s8, s9, s10⟩, hP⟩ := hr
  refine ⟨⟨⟨?_, ?_, ?_, ?_, ?_, ?_⟩, fun i hi => ?_⟩, fun z => Or.inl (wr_at _ _ _ _)⟩
  · simp (disch := omega) only [wr_no, wr_ne, upd_no]; exact s5
  · simp (disch := omega) only [wr_no, wr_ne, upd_no]; exact s6
  · simp (disch := omega) only [wr_no, wr_ne, upd_no]; exact s7
  · simp (disch := omega) only [wr_no, wr_ne, upd_no]; exact s8
  · rw [zBn_upd (fun _ _ => by omega)]; simp (disch := omega) only [wr_no, wr_ne]; exact s9
  · simp (disch := omega) only [wr_no, wr_ne, upd_no]; exact s10
  · obtain ⟨a1, a2, a3, a4, a5⟩ := hP i hi
    by_cases e : i = p
    · subst e
      obtain rfl | rfl | rfl | rfl : c = 0 ∨ c = 1 ∨ c = 2 ∨ c = 3 := by omega
      · refine ⟨?_, ?_, ?_, ?_, ?_⟩
        · rw [wr_ne (by omega), wr_at, upd_at]
        all_goals simp (disch := omega) only [wr_ne, upd_no]; assumption
      · refine ⟨?_, ?_, ?_, ?_, ?_⟩
        · simp (disch := omega) only [wr_ne, upd_no]; assumption
        · rw [wr_ne (by omega), wr_at, upd_at]
        all_goals simp (disch := omega) only [wr_ne, upd_no]; assumption
      · refine ⟨?_, ?_, ?_, ?_, ?_⟩
        · simp (disch := omega) only [wr_ne, upd_no]; assumption
        · simp (disch := omega) only [wr_ne, upd_no]; assumption
        · rw [wr_ne (by omega), wr_at, upd_at]
        all_goals simp (disch := omega) only [wr_ne, upd_no]; assumption
      · refine ⟨?_, ?_, ?_, ?_, ?_⟩
        · simp (disch := omega) only [wr_ne, upd_no]; assumption
        · simp (disch := omega) only [wr_ne, upd_no]; assumption
        · simp (disch := omega) only [wr_ne, upd_no]; assumption
        · rw [wr_ne (by omega), wr_at, upd_at]
        · simp (disch := omega) only [wr_ne, upd_no]; assumption
    · have key : ∀ k, 1 ≤ k → wr (wr σ (h + (c + 1)) p v) h 11 (-2) (h + k) i = σ (h + k) i := by
        intro k hk
        rw [wr_ne (by omega)]
        by_cases d : k = c + 1
        · subst d; rw [wr_no e]
        · rw [wr_ne (by omega)]
      have ku : ∀ k, k < 5 → upd w (5 + c + 6 * p) v (5 + k + 6 * i) = w (5 + k + 6 * i) := fun k hk => upd_no (by omega)
      rw [key 1 (by omega), key 2 (by omega), key 3 (by omega), key 4 (by omega), key 5 (by omega)]
      refine ⟨a1.trans (ku 0 (by omega)).symm, a2.trans (ku 1 (by omega)).symm, a3.trans (ku 2 (by omega)).symm, a4.trans (ku 3 (by omega)).symm, a5.trans (ku 4 (by omega)).symm⟩
theorem put_Fr {σ : Sg} {h c p : Nat} (hc : c < 4) (v : Int32) : Fr h σ (wr (wr σ (h + (c + 1)) p v) h 11 (-2)) := (Fr.wr σ (by omega)).tr (Fr.wr _ (by omega))
theorem H_put0 {σ : Sg} {h p : Nat} (hp : p < 6) (v : Int32) : fH_put h 0 (nI p) v σ = some (wr (wr σ (h + (0 + 1)) p v) h 11 (-2)) := by
  unfold fH_put
  simp only [zi6 hp, zxp hp, ↓reduceIte, ltc]
theorem H_put1 {σ : Sg} {h p : Nat} (hp : p < 6) (v : Int32) : fH_put h 1 (nI p) v σ = some (wr (wr σ (h + (1 + 1)) p v) h 11 (-2)) := by
  unfold fH_put
  simp only [zi6 hp, zxp hp, ↓reduceIte, ltc, show ¬ (1 : Int32) = 0 by decide]
theorem H_put2 {σ : Sg} {h p : Nat} (hp : p < 6) (v : Int32) : fH_put h 2 (nI p) v σ = some (wr (wr σ (h + (2 + 1)) p v) h 11 (-2)) := by
  unfold fH_put
  simp only [zi6 hp, zxp hp, ↓reduceIte, ltc, show ¬ (2 : Int32) = 0 by decide, show ¬ (2 : Int32) = 1 by decide]
theorem H_put3 {σ : Sg} {h p : Nat} (hp : p < 6) (v : Int32) : fH_put h 3 (nI p) v σ = some (wr (wr σ (h + (3 + 1)) p v) h 11 (-2)) := by
  unfold fH_put
  simp only [zi6 hp, zxp hp, ↓reduceIte, ltc, show ¬ (3 : Int32) = 0 by decide, show ¬ (3 : Int32) = 1 by decide, show ¬ (3 : Int32) = 2 by decide]
/-- nothing will change any more -/
def zRest (w : Rw) (n : Nat) : Prop := w 3 = 0 ∧ zGo w n = none
theorem H_rest_t {σ : Sg} {h n t q : Nat} {w : Rw} (hr : Rp σ h w n) (hf : Wf w n t q) (c : zRest w n) : ∃ σ', fH_rests h σ = some (1, σ') ∧ Rp σ' h w n ∧ Fr h σ σ' := by
  obtain ⟨σ', e, hr', hF⟩ := H_goal hr hf c.1
  unfold fH_rests
  rw [hr.1.1.2.2.2.1, c.1, if_pos (by decide), e, Option.bind_some, c.2]
  exact ⟨σ', rfl, hr', fun k hk => hF k (by omega)⟩
theorem H_rest_f {σ : Sg} {h n t q : Nat} {w : Rw} (hr : Rp σ h w n) (hf : Wf w n t q) (c : ¬ zRest w n) : ∃ σ', fH_rests h σ = some (0, σ') ∧ Rp σ' h w n ∧ Fr h σ σ' := by
  have hn := hf.1
  unfold fH_rests
  rw [hr.1.1.2.2.2.1]
  by_cases c1 : w 3 = 0
  · obtain ⟨σ', e, hr', hF⟩ := H_goal hr hf c1
    rw [c1, if_pos (by decide), e, Option.bind_some]
    cases ez : zGo w n with
    | none => exact absurd ⟨c1, ez⟩ c
    | some p =>
      have hp := zGo_lt ez
      refine ⟨σ', ?_, hr', fun k hk => hF k (by omega)⟩
      show (if nI p = -1 then _ else _) = _
      rw [if_neg (zm1 (by omega))]
  · have w3 := hf.2.2.2.2.2.2.1
    have hq := hf.2.2.1
    rw [if_neg (by
      rw [w3]; rw [w3] at c1
      have k : ∀ q, q < 7 → nI q - 1 = -1 → nI q = 0 := by decide +kernel
      exact fun z => c1 (k q (by omega) z))]
    exact ⟨σ, rfl, hr, Fr.rf h σ⟩
theorem zRest_pass {w : Rw} {n : Nat} (hn : n ≤ 6) (c : zRest w n) : zPass n w = upd w 2 (w 2 + 1) ∧ zRest (zPass n w) n := by
  have e : zPass n w = upd w 2 (w 2 + 1) := by
    unfold zPass
    rw [if_pos c.1, c.2]
  refine ⟨e, ?_⟩
  rw [e]
  exact ⟨by rw [upd_no (by omega)]; exact c.1, by rw [zGo_cong (v := w) (fun j hj _ => upd_no (by omega)) hn]; exact c.2⟩
theorem zBr_upd2 {w : Rw} {v : Int32} {p : Nat} : zBr (upd w 2 v) p = zBr w p := by unfold zBr; rw [upd_no (by omega)]
theorem zWh_t {n p : Nat} {w : Rw} (h : zBr w p = true) (k i : Nat) : zWh n p k w i = some i := by
  cases k with
  | zero => rw [zWh, if_pos h]
  | succ k => rw [zWh, if_pos h]
theorem zWh_rest {n p : Nat} (hn : n ≤ 6) : ∀ (k : Nat) (w : Rw) (i : Nat), zRest w n → ¬ zBr w p = true → zWh n p k w i = none := by
  intro k
  induction k with
  | zero => intro w i _ h; rw [zWh, if_neg h]
  | succ k ih =>
    intro w i c h
    rw [zWh, if_neg h]
    obtain ⟨e, c'⟩ := zRest_pass hn c
    exact ih _ _ c' (by rw [e, zBr_upd2]; exact h)
theorem H_until_L {h n t p m : Nat} (hp : p < n) (hm : m < 2000) : ∀ (k i N : Nat) (σ : Sg) (w : Rw) (q : Nat), Rp σ h w n → Wf w n t q → (i = 0 ∨ ¬ zBr w p = true) → i + k = m → k < N → ∃ σ', fH_until_L2 N h (nI p) (nI m) (nI i) σ = some (zOb (-1) (zWh n p k w i), σ') ∧ Fr h σ σ' := by
  intro k
  induction k with
  | zero =>
    intro i N σ w q hr hf hz hi hN
    obtain ⟨N, rfl⟩ : ∃ M, N = M + 1 := ⟨N - 1, by omega⟩
    refine ⟨σ, ?_, Fr.rf h σ⟩
    show fH_until_b2 (fH_until_L2 N) h (nI p) (nI m) (nI i) σ = _
    unfold fH_until_b2 fH_until_B44
    rw [if_pos (nI_le (by omega) (by omega)), H_isb hr.1 hf hp, Option.bind_some, zWh]
    by_cases c : zBr w p = true
    · rw [if_pos c, if_pos c, if_neg (by decide), hz.resolve_right (fun z => z c)]
      rfl
    · rw [if_neg c, if_neg c, if_pos rfl]
      rfl
  | succ k ih =>
    intro i N σ w q hr hf hz hi hN
    obtain ⟨N, rfl⟩ : ∃ M, N = M + 1 := ⟨N - 1, by omega⟩
    have hn := hf.1
    show ∃ σ', fH_until_b2 (fH_until_L2 N) h (nI p) (nI m) (nI i) σ = _ ∧ _
    unfold fH_until_b2 fH_until_B44
    rw [if_neg (nI_ge (by omega) (by omega)), H_isb hr.1 hf hp, Option.bind_some, Option.bind_some]
    by_cases c : zBr w p = true
    · rw [if_pos c, if_neg (by decide), if_neg (by decide), zWh_t c, hz.resolve_right (fun z => z c)]
      exact ⟨σ, rfl, Fr.rf h σ⟩
    · rw [if_neg c, if_pos rfl]
      by_cases d : zRest w n
      · obtain ⟨σ1, e1, hr1, hF1⟩ := H_rest_t hr hf d
        rw [e1, Option.bind_some]
        dsimp only
        rw [if_neg (by decide), H_isb hr1.1 hf hp, Option.bind_some, if_neg c, if_pos rfl, zWh_rest hn _ _ _ d c]
        exact ⟨σ1, rfl, hF1⟩
      · obtain ⟨σ1, e1, hr1, hF1⟩ := H_rest_f hr hf d
        obtain ⟨σ2, e2, hr2, hF2⟩ := H_adv hr1 hf
        obtain ⟨q', hf'⟩ := zPass_wf hf
        rw [e1, Option.bind_some, if_pos rfl, e2, Option.bind_some, H_isb hr2.1 hf' hp, Option.bind_some, zWh, if_neg c, nI_1]
        by_cases g : zBr (zPass n w) p = true
        · rw [if_pos g, if_neg (by decide), zWh_t g]
          exact ⟨σ2, rfl, hF1.tr hF2⟩
        · rw [if_neg g, if_pos rfl]
          obtain ⟨σ3, e3, hF3⟩ := ih (i + 1) N σ2 (zPass n w) q' hr2 hf' (Or.inr g) (by omega) (by omega)
          exact ⟨σ3, e3, (hF1.tr hF2).tr hF3⟩
theorem H_until {h n t p m q : Nat} (hp : p < n) (hm : m < 1990) {σ : Sg} {w : Rw} (hr : Rp σ h w n) (hf : Wf w n t q) : ∃ σ', fH_until h (nI p) (nI m) σ = some (zOb (-1) (zWh n p m w 0), σ') ∧ Fr h σ σ' := H_until_L hp (by omega) m 0 2000 σ w q hr hf (Or.inl rfl) (by omega) (by omega)
/-- behind how many steps the last one is brought -/
noncomputable def zLa (n : Nat) : Nat → Rw → Nat → Nat → Nat
  | 0, _, _, l => l
  | k + 1, w, i, l => zLa n k (zPass n w) (i + 1) (if zBn (zPass n w) n = zBn w n then l else i)
theorem zLa_rest {n : Nat} (hn : n ≤ 6) : ∀ (k : Nat) (w : Rw) (i l : Nat), zRest w n → zLa n k w i l = l ∧ ∀ j, j ≠ 2 → zPs n k w j = w j := by
  intro k
  induction k with
  | zero => intro w i l _; exact ⟨rfl, fun _ _ => rfl⟩
  | succ k ih =>
    intro w i l c
    obtain ⟨e, c'⟩ := zRest_pass hn c
    obtain ⟨a, b⟩ := ih (zPass n w) (i + 1) (if zBn (zPass n w) n = zBn w n then l else i) c'
    refine ⟨?_, fun j hj => ?_⟩
    · rw [zLa, a, e, zBn_upd (fun _ _ => by omega), if_pos rfl]
    · rw [zPs, b j hj, e, upd_no hj]
theorem H_last_L {h n t d : Nat} (hd : d < 2000) : ∀ (k i N l : Nat) (σ : Sg) (w : Rw) (q : Nat), Rp σ h w n → Wf w n t q → i + k = d + 1 → k < N → ∃ σ' w' q', fH_lastWithin_L4 N h (nI d) (nI l) (nI i) σ = some (nI (zLa n k w i l), σ') ∧ Rp σ' h w' n ∧ Wf w' n t q' ∧ (∀ j, j ≠ 2 → w' j = zPs n k w j) ∧ Fr h σ σ' := by
  intro k
  induction k with
  | zero =>
    intro i N l σ w q hr hf hi hN
    obtain ⟨N, rfl⟩ : ∃ M, N = M + 1 := ⟨N - 1, by omega⟩
    refine ⟨σ, w, q, ?_, hr, hf, fun _ _ => rfl, Fr.rf h σ⟩
    show fH_lastWithin_b4 (fH_lastWithin_L4 N) h (nI d) (nI l) (nI i) σ = _
    unfold fH_lastWithin_b4
    rw [if_pos (nI_lt (by omega) (by omega))]
    rfl
  | succ k ih =>
    intro i N l σ w q hr hf hi hN
    obtain ⟨N, rfl⟩ : ∃ M, N = M + 1 := ⟨N - 1, by omega⟩
    have hn := hf.1
    show ∃ σ' w' q', fH_lastWithin_b4 (fH_lastWithin_L4 N) h (nI d) (nI l) (nI i) σ = _ ∧ _
    unfold fH_lastWithin_b4 fH_lastWithin_B40
    rw [if_neg (nI_nlt (by omega) (by omega))]
    by_cases c : zRest w n
    · obtain ⟨σ1, e1, hr1, hF1⟩ := H_rest_t hr hf c
      rw [e1, Option.bind_some]
      dsimp only
      rw [if_neg (by decide)]
      obtain ⟨a, b⟩ := zLa_rest hn (k + 1) w i l c
      rw [a]
      exact ⟨σ1, w, q, rfl, hr1, hf, fun j hj => (b j hj).symm, hF1⟩
    · obtain ⟨σ1, e1, hr1, hF1⟩ := H_rest_f hr hf c
      obtain ⟨σ2, e2, hr2, hF2⟩ := H_adv hr1 hf
      obtain ⟨q2, hf2⟩ := zPass_wf hf
      rw [e1, Option.bind_some]
      dsimp only
      rw [if_pos rfl, e2, Option.bind_some, nI_1]
      have lt1 := zBn_lt (zPass n w) hn
      have lt2 := zBn_lt w hn
      by_cases g : zBn (zPass n w) n = zBn w n
      · rw [if_pos (by rw [hr2.1.1.2.2.2.2.1, hr1.1.1.2.2.2.2.1, g])]
        obtain ⟨σ3, w3, q3, e3, a3, b3, c3, d3⟩ := ih (i + 1) N l σ2 (zPass n w) q2 hr2 hf2 (by omega) (by omega)
        refine ⟨σ3, w3, q3, ?_, a3, b3, c3, (hF1.tr hF2).tr d3⟩
        rw [e3, zLa, if_pos g]
      · rw [if_neg (fun z => g (by rw [hr2.1.1.2.2.2.2.1, hr1.1.1.2.2.2.2.1] at z; exact nI_inj (by omega) (by omega) z))]
        obtain ⟨σ3, w3, q3, e3, a3, b3, c3, d3⟩ := ih (i + 1) N i σ2 (zPass n w) q2 hr2 hf2 (by omega) (by omega)
        refine ⟨σ3, w3, q3, ?_, a3, b3, c3, (hF1.tr hF2).tr d3⟩
        rw [e3, zLa, if_neg g]
theorem H_last {h n t d q : Nat} (hd : d < 1990) {σ : Sg} {w : Rw} (hr : Rp σ h w n) (hf : Wf w n t q) : ∃ σ' w' q', fH_lastWithin h (nI d) σ = some (nI (zLa n d w 1 0), σ') ∧ Rp σ' h w' n ∧ Wf w' n t q' ∧ (∀ j, j ≠ 2 → w' j = zPs n d w j) ∧ Fr h σ σ' := H_last_L (by omega) d 1 2000 0 σ w q hr hf (by omega) (by omega)
theorem H_con_L {h n t q m : Nat} (hm : m < 64) (w0 : Rw) (hf0 : Wf w0 n t q) : ∀ (k i N : Nat) (σ : Sg), Rp σ h (zHid m i w0) n → i + k = n → k < N → ∃ σ', fH_conceal_L2 N h (nI m) (nI i) σ = some σ' ∧ Rp σ' h (zHid m n w0) n ∧ Fr h σ σ' := by
  have hn := hf0.1
  intro k
  induction k with
  | zero =>
    intro i N σ hr hi hN
    obtain ⟨N, rfl⟩ : ∃ M, N = M + 1 := ⟨N - 1, by omega⟩
    obtain rfl : i = n := by omega
    refine ⟨σ, ?_, hr, Fr.rf h σ⟩
    show fH_conceal_b2 (fH_conceal_L2 N) h (nI m) (nI i) σ = _
    unfold fH_conceal_b2
    rw [hr.1.1.1, (zHid_wf hf0).2.2.2.2.1, if_pos (nI_le (by omega) (by omega))]
  | succ k ih =>
    intro i N σ hr hi hN
    obtain ⟨N, rfl⟩ : ∃ M, N = M + 1 := ⟨N - 1, by omega⟩
    have hi6 : i < 6 := by omega
    show ∃ σ', fH_conceal_b2 (fH_conceal_L2 N) h (nI m) (nI i) σ = _ ∧ _
    unfold fH_conceal_b2 fH_conceal_B25
    rw [hr.1.1.1, (zHid_wf hf0).2.2.2.2.1, if_neg (nI_ge (by omega) (by omega)), zbit m hm i (by omega), nI_1]
    by_cases c : m.testBit i = true
    · rw [if_pos c, if_neg (by decide), H_put3 hi6, Option.bind_some]
      have hr' := put_Rp hr.1 (c := 3) (p := i) (by omega) 0
      obtain ⟨σ3, e3, a3, b3⟩ := ih (i + 1) N _ (by rw [zHid, if_pos c]; exact hr') (by omega) (by omega)
      exact ⟨σ3, e3, a3, (put_Fr (by omega) 0).tr b3⟩
    · rw [if_neg c, if_pos rfl]
      exact ih (i + 1) N σ (by rw [zHid, if_neg c]; exact hr) (by omega) (by omega)
theorem H_con {h n t q m : Nat} (hm : m < 64) {σ : Sg} {w : Rw} (hr : Rp σ h w n) (hf : Wf w n t q) : ∃ σ', fH_conceal h (nI m) σ = some σ' ∧ Rp σ' h (zHid m n w) n ∧ Fr h σ σ' := H_con_L hm w hf n 0 2000 σ hr (by omega) (by have := hf.1; omega)
def zSh (w : Rw) (p : Nat) : Bool := !decide (w (8 + 6 * p) ≤ 0)
theorem zSh_f {w : Rw} {p : Nat} (h : w (8 + 6 * p) ≤ 0) : ¬ zSh w p = true := by simp [zSh, h]
theorem zSh_t {w : Rw} {p : Nat} (h : ¬ w (8 + 6 * p) ≤ 0) : zSh w p = true := by simp only [zSh, h, decide_false, Bool.not_false]
theorem H_showing_L {h n t q : Nat} {σ : Sg} {w : Rw} (hr : R0 σ h w n) (hf : Wf w n t q) : ∀ (k i N : Nat), i + k = n → k < N → fH_showing_L4 N h (nI (zBs (zSh w) i)) (nI i) σ = some (nI (zBs (zSh w) n)) := by
  have hn := hf.1
  intro k
  induction k with
  | zero =>
    intro i N hi hN
    obtain ⟨N, rfl⟩ : ∃ M, N = M + 1 := ⟨N - 1, by omega⟩
    obtain rfl : i = n := by omega
    show fH_showing_b4 (fH_showing_L4 N) h _ (nI i) σ = _
    unfold fH_showing_b4
    rw [hr.1.1, hf.2.2.2.2.1, if_pos (nI_le (by omega) (by omega))]
  | succ k ih =>
    intro i N hi hN
    obtain ⟨N, rfl⟩ : ∃ M, N = M + 1 := ⟨N - 1, by omega⟩
    have hi6 : i < 6 := by omega
    have step := ih (i + 1) N (by omega) (by omega)
    have lt64 : zBs (zSh w) i < 64 := Nat.lt_of_lt_of_le (zBs_lt _ i) (Nat.pow_le_pow_right (n := 2) (by omega) (show i ≤ 6 by omega))
    show fH_showing_b4 (fH_showing_L4 N) h _ (nI i) σ = _
    unfold fH_showing_b4 fH_showing_B29
    rw [hr.1.1, hf.2.2.2.2.1, if_neg (nI_ge (by omega) (by omega)), zi6 hi6, if_pos rfl, zxp hi6, (hr.2 i (by omega)).2.2.2.1, nI_1]
    rw [zBs] at step
    by_cases c : w (8 + 6 * i) ≤ 0
    · rw [if_pos c, zor0]
      rw [if_neg (zSh_f c), Nat.add_zero] at step
      exact step
    · rw [if_neg c, zorb _ lt64 _ hi6]
      rw [if_pos (zSh_t c), ← zBs_or] at step
      exact step
theorem H_showing {h n t q : Nat} {σ : Sg} {w : Rw} (hr : R0 σ h w n) (hf : Wf w n t q) : fH_showing h σ = some (nI (zBs (zSh w) n)) := H_showing_L hr hf n 0 2000 (by omega) (by have := hf.1; omega)
theorem H_goes_L {h r n t a c : Nat} (hac : a + c ≤ 40) (hro : r < h ∨ h + 6 ≤ r) (it : Nat → Int32) : ∀ (k i N : Nat) (σ : Sg) (w : Rw) (q : Nat), (∀ j, σ r (a + j) = it j) → Rp σ h w n → Wf w n t q → i + k = c → k < N → ∃ σ', fH_goesAs_L3 N h r (nI a) (nI c) (nI (a + i)) σ = some ((if zGs n it k i w = true then 1 else 0), σ') ∧ Fr h σ σ' := by
  intro k
  induction k with
  | zero =>
    intro i N σ w q hit hr hf hi hN
    obtain ⟨N, rfl⟩ : ∃ M, N = M + 1 := ⟨N - 1, by omega⟩
    refine ⟨σ, ?_, Fr.rf h σ⟩
    show fH_goesAs_b3 (fH_goesAs_L3 N) h r (nI a) (nI c) _ σ = _
    unfold fH_goesAs_b3
    rw [nI_add, if_pos (nI_le (by omega) (by omega)), zGs, if_pos rfl]
  | succ k ih =>
    intro i N σ w q hit hr hf hi hN
    obtain ⟨N, rfl⟩ : ∃ M, N = M + 1 := ⟨N - 1, by omega⟩
    obtain ⟨σ2, e2, hr2, hF2⟩ := H_adv hr hf
    obtain ⟨q2, hf2⟩ := zPass_wf hf
    show ∃ σ', fH_goesAs_b3 (fH_goesAs_L3 N) h r (nI a) (nI c) _ σ = _ ∧ _
    unfold fH_goesAs_b3
    rw [nI_add, if_neg (nI_ge (by omega) (by omega)), if_neg (show ¬ (40 : Int32) ≤ nI (a + i) from nI_ge (b := 40) (by omega) (by omega)), e2, Option.bind_some, zin (by omega) (by omega), if_pos rfl, zix (by omega), hr2.1.1.2.2.1, hF2 r hro, hit i, nI_1, zGs]
    by_cases d : zPass n w 1 = it i
    · rw [if_pos d]
      obtain ⟨σ3, e3, d3⟩ := ih (i + 1) N σ2 (zPass n w) q2 (fun j => by rw [hF2 r hro]; exact hit j) hr2 hf2 (by omega) (by omega)
      refine ⟨σ3, ?_, hF2.tr d3⟩
      rw [show a + i + 1 = a + (i + 1) by omega, e3]
      simp [d]
    · rw [if_neg d]
      refine ⟨σ2, ?_, hF2⟩
      simp [d]
theorem H_goes {h r n t a c q : Nat} (hac : a + c ≤ 40) (hro : r < h ∨ h + 6 ≤ r) {σ : Sg} {w : Rw} (hr : Rp σ h w n) (hf : Wf w n t q) : ∃ σ', fH_goesAs h r (nI a) (nI c) σ = some ((if zGs n (fun j => σ r (a + j)) c 0 w = true then 1 else 0), σ') ∧ Fr h σ σ' := H_goes_L hac hro (fun j => σ r (a + j)) c 0 2000 σ w q (fun _ => rfl) hr hf (by omega) (by omega)
