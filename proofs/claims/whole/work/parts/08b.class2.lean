theorem J_cmp (a b : Int32) (σ : Sg) : ∃ d, fJ_compare a b σ = some d ∧ b + d = zNear b a := by
  unfold fJ_compare zNear
  by_cases c1 : b ≤ a
  · rw [if_pos c1]
    by_cases c2 : a = b
    · rw [if_pos c2]
      refine ⟨0, rfl, ?_⟩
      rw [c2, if_pos (Int32.le_refl b), if_pos (Int32.le_refl b), Int32.add_zero]
    · rw [if_neg c2]
      refine ⟨1, rfl, ?_⟩
      rw [if_neg (fun z => c2 (Int32.le_antisymm z c1))]
  · rw [if_neg c1]
    refine ⟨-1, rfl, ?_⟩
    have c3 : a ≤ b := Int32.le_of_lt (Int32.not_le.mp c1)
    rw [if_pos c3, if_neg c1, Int32.sub_eq_add_neg]
theorem zBn_upd {w : Rw} {n j : Nat} {v : Int32} (h : ∀ p, p < n → j ≠ 10 + 6 * p) : zBn (upd w j v) n = zBn w n := by
  unfold zBn
  refine zBs_cong (fun p hp => ?_)
  unfold zBr
  rw [upd_no (fun q => h p hp q.symm)]
theorem zBn_or {w : Rw} {n p : Nat} (hp : p < n) : zBn (upd w (10 + 6 * p) 1) n = zBn w n ||| 2 ^ p := by
  apply Nat.eq_of_testBit_eq
  intro i
  unfold zBn
  rw [Nat.testBit_or, zBs_bit, zBs_bit, Nat.testBit_two_pow]
  by_cases c : i = p
  · subst c
    simp [hp, zBr, upd_at]
  · have e : zBr (upd w (10 + 6 * p) 1) i = zBr w i := by unfold zBr; rw [upd_no (by omega)]
    rw [e]
    have c' : ¬ p = i := fun z => c z.symm
    simp [c']
theorem RP_cong {σ σ' : Sg} {h n : Nat} {w w' : Rw} (hP : ∀ p, p < n → σ (h + 1) p = w (5 + 6 * p) ∧ σ (h + 2) p = w (6 + 6 * p) ∧ σ (h + 3) p = w (7 + 6 * p) ∧ σ (h + 4) p = w (8 + 6 * p) ∧ σ (h + 5) p = w (9 + 6 * p)) (e : ∀ i, 1 ≤ i → i ≤ 5 → σ' (h + i) = σ (h + i)) (ew : ∀ j, 5 ≤ j → (∀ p, j ≠ 10 + 6 * p) → w' j = w j) : ∀ p, p < n → σ' (h + 1) p = w' (5 + 6 * p) ∧ σ' (h + 2) p = w' (6 + 6 * p) ∧ σ' (h + 3) p = w' (7 + 6 * p) ∧ σ' (h + 4) p = w' (8 + 6 * p) ∧ σ' (h + 5) p = w' (9 + 6 * p) := by
  intro p hp
  rw [e 1 (by omega) (by omega), e 2 (by omega) (by omega), e 3 (by omega) (by omega), e 4 (by omega) (by omega), e 5 (by omega) (by omega), ew (5 + 6 * p) (by omega) (fun _ => by omega), ew (6 + 6 * p) (by omega) (fun _ => by omega), ew (7 + 6 * p) (by omega) (fun _ => by omega), ew (8 + 6 * p) (by omega) (fun _ => by omega), ew (9 + 6 * p) (by omega) (fun _ => by omega)]
  exact hP p hp
theorem H_adv {σ : Sg} {h n t q : Nat} {w : Rw} (hr : Rp σ h w n) (hf : Wf w n t q) : ∃ σ', fH_advance h σ = some σ' ∧ Rp σ' h (zPass n w) n ∧ Fr h σ σ' := by
  have hf0 := hf
  obtain ⟨hn, ht, hq, h0, w4, w0, w3, hb, hk⟩ := hf
  have hf1 : Wf (upd w 2 (w 2 + 1)) n t q := ⟨hn, ht, hq, h0, w4, w0, w3, fun p hp => by rw [upd_no (by omega)]; exact hb p hp, fun p hp => by rw [upd_no (by omega)]; exact hk p hp⟩
  have eG : zGo (upd w 2 (w 2 + 1)) n = zGo w n := zGo_cong (fun j hj _ => upd_no (by omega)) hn
  obtain ⟨⟨⟨s5, s6, s7, s8, s9, s10⟩, hP⟩, hG⟩ := hr
  have hr1 : Rp (wr σ h 10 (w 2 + 1)) h (upd w 2 (w 2 + 1)) n := by
    refine ⟨⟨⟨?_, ?_, ?_, ?_, ?_, ?_⟩, fun p hp => ?_⟩, fun z => ?_⟩
    · rw [wr_no (by omega), upd_no (by omega)]; exact s5
    · rw [wr_no (by omega), upd_no (by omega)]; exact s6
    · rw [wr_no (by omega), upd_no (by omega)]; exact s7
    · rw [wr_no (by omega), upd_no (by omega)]; exact s8
    · rw [wr_no (by omega), zBn_upd (fun p _ => by omega)]; exact s9
    · rw [wr_at, upd_at]
    · rw [wr_ne (by omega), wr_ne (by omega), wr_ne (by omega), wr_ne (by omega), wr_ne (by omega), upd_no (by omega), upd_no (by omega), upd_no (by omega), upd_no (by omega), upd_no (by omega)]; exact hP p hp
    · rw [wr_no (by omega), eG]; exact hG z
  have hF1 : Fr h σ (wr σ h 10 (w 2 + 1)) := Fr.wr σ (by omega)
  unfold fH_advance ltc
  rw [s10]
  generalize wr σ h 10 (w 2 + 1) = σ1 at hr1 hF1
  dsimp only
  have e8 := hr1.1.1.2.2.2.1
  rw [upd_no (by omega)] at e8
  by_cases c1 : w 3 = 0
  · rw [if_pos (by rw [e8, c1]; rfl)]
    obtain ⟨σ2, eg, hr2, hF2⟩ := H_goal hr1 hf1 (by rw [upd_no (by omega)]; exact c1)
    rw [eg, Option.bind_some, eG]
    have hF : Fr h σ σ2 := fun k hk => (hF2 k (by omega)).trans (hF1 k hk)
    have epw : zPass n w = (match zGo w n with
      | none => upd w 2 (w 2 + 1)
      | some p => if w 1 = w (6 + 6 * p) then upd (upd w 2 (w 2 + 1)) 3 (nI (p + 1)) else upd (upd w 2 (w 2 + 1)) 1 (zNear (w 1) (w (6 + 6 * p)))) := by
      unfold zPass
      rw [if_pos c1]
      rfl
    obtain ⟨⟨⟨t5, t6, t7, t8, t9, t10⟩, tP⟩, tG⟩ := hr2
    cases ez : zGo w n with
    | none =>
      rw [ez] at epw
      refine ⟨σ2, by show (if (-1 : Int32) = -1 then _ else _) = _; rw [if_pos rfl], ?_, hF⟩
      rw [epw]
      exact ⟨⟨⟨t5, t6, t7, t8, t9, t10⟩, tP⟩, tG⟩
    | some p =>
      obtain ⟨hp, -, -⟩ := zGo_lt ez
      have hp6 : p < 6 := by omega
      rw [ez] at epw
      dsimp only at epw
      show ∃ σ', (if nI p = -1 then _ else _) = some σ' ∧ _
      simp only [if_neg (zm1 hp6), zi6 hp6, zxp hp6, ↓reduceIte, zOb, (tP p hp).2.1, t7, upd_no (show 1 ≠ 2 by omega), upd_no (show 6 + 6 * p ≠ 2 by omega)]
      by_cases c2 : w 1 = w (6 + 6 * p)
      · rw [if_pos c2] at epw ⊢
        refine ⟨_, rfl, ?_, hF.tr (Fr.wr _ (by omega))⟩
        rw [epw]
        refine ⟨⟨⟨?_, ?_, ?_, ?_, ?_, ?_⟩, fun i hi => ?_⟩, fun z => ?_⟩
        · rw [wr_no (by omega), upd_no (by omega)]; exact t5
        · rw [wr_no (by omega), upd_no (by omega)]; exact t6
        · rw [wr_no (by omega), upd_no (by omega)]; exact t7
        · rw [wr_at, upd_at, nI_pred]
        · rw [wr_no (by omega), zBn_upd (fun p _ => by omega)]; exact t9
        · rw [wr_no (by omega), upd_no (by omega)]; exact t10
        · exact RP_cong tP (fun i _ _ => wr_ne (by omega)) (fun j h5 _ => upd_no (by omega)) i hi
        · rw [upd_at] at z
          exact absurd z (nI_ne0 (by omega) (by omega))
      · rw [if_neg c2] at epw ⊢
        obtain ⟨d, ed, en⟩ := J_cmp (w (6 + 6 * p)) (w 1) σ2
        rw [ed, Option.bind_some]
        refine ⟨_, rfl, ?_, hF.tr (Fr.wr _ (by omega))⟩
        rw [epw, en]
        refine ⟨⟨⟨?_, ?_, ?_, ?_, ?_, ?_⟩, fun i hi => ?_⟩, fun z => ?_⟩
        · rw [wr_no (by omega), upd_no (by omega)]; exact t5
        · rw [wr_no (by omega), upd_no (by omega)]; exact t6
        · rw [wr_at, upd_at]
        · rw [wr_no (by omega), upd_no (by omega)]; exact t8
        · rw [wr_no (by omega), zBn_upd (fun p _ => by omega)]; exact t9
        · rw [wr_no (by omega), upd_no (by omega)]; exact t10
        · exact RP_cong tP (fun i _ _ => wr_ne (by omega)) (fun j h5 _ => upd_no (by omega)) i hi
        · rw [wr_no (by omega), zGo_cong (v := upd w 2 (w 2 + 1)) (fun j hj _ => upd_no (by omega)) hn]
          exact tG (by rw [upd_no (by omega)]; exact c1)
  · have q0 : 0 < q := Nat.pos_of_ne_zero (fun z => c1 (by rw [w3, z]; rfl))
    obtain ⟨p, rfl⟩ : ∃ p, q = p + 1 := ⟨q - 1, by omega⟩
    have hp6 : p < 6 := by omega
    have e4 : ix (w 3) - 1 = p := by rw [w3, zix (by omega)]; omega
    have e8' : σ1 h 8 = nI p := by rw [e8, w3, nI_pred]
    have epw : zPass n w = (if w 1 = w (7 + 6 * p) then upd (upd (upd w 2 (w 2 + 1)) (10 + 6 * p) 1) 3 0 else upd (upd (upd w 2 (w 2 + 1)) 1 (zNear (w 1) (w (7 + 6 * p)))) (6 + 6 * p) (zNear (w 1) (w (7 + 6 * p)))) := by
      unfold zPass
      rw [if_neg c1, e4]
    rw [if_neg (by rw [e8']; exact zm1 hp6)]
    obtain ⟨⟨⟨t5, t6, t7, t8, t9, t10⟩, tP⟩, tG⟩ := hr1
    unfold fH_carry ltc
    simp only [e8', zi6 hp6, zxp hp6, ↓reduceIte, (tP p (by omega)).2.2.1, t7, upd_no (show 1 ≠ 2 by omega), upd_no (show 7 + 6 * p ≠ 2 by omega)]
    by_cases c2 : w 1 = w (7 + 6 * p)
    · rw [if_pos c2] at epw ⊢
      refine ⟨_, rfl, ?_, ((hF1.tr (Fr.wr _ (by omega))).tr (Fr.wr _ (by omega))).tr (Fr.wr _ (by omega))⟩
      rw [epw]
      have e9 : σ1 h 9 = nI (zBn (upd w 2 (w 2 + 1)) n) := t9
      refine ⟨⟨⟨?_, ?_, ?_, ?_, ?_, ?_⟩, fun i hi => ?_⟩, fun z => ?_⟩
      · rw [wr_no (by omega), wr_no (by omega), wr_no (by omega), upd_no (by omega), upd_no (by omega)]; exact t5
      · rw [wr_no (by omega), wr_no (by omega), wr_no (by omega), upd_no (by omega), upd_no (by omega)]; exact t6
      · rw [wr_no (by omega), wr_no (by omega), wr_no (by omega), upd_no (by omega), upd_no (by omega)]; exact t7
      · rw [wr_no (by omega), wr_at, upd_at]; rfl
      · rw [wr_no (by omega), wr_no (by omega), wr_at, e9, zorb _ (zBn_lt _ hn) p hp6, zBn_upd (w := upd (upd w 2 (w 2 + 1)) (10 + 6 * p) 1) (j := 3) (fun p _ => by omega), zBn_or (by omega)]
      · rw [wr_no (by omega), wr_no (by omega), wr_no (by omega), upd_no (by omega), upd_no (by omega)]; exact t10
      · exact RP_cong tP (fun i _ _ => by rw [wr_ne (by omega), wr_ne (by omega), wr_ne (by omega)]) (fun j h5 hj => by rw [upd_no (by omega), upd_no (hj p)]) i hi
      · rw [wr_at]; exact Or.inl rfl
    · rw [if_neg c2] at epw ⊢
      obtain ⟨d, ed, en⟩ := J_cmp (w (7 + 6 * p)) (w 1) σ1
      rw [ed, Option.bind_some, wr_no (by omega), e8', zi6 hp6, if_pos rfl, zxp hp6, wr_at]
      refine ⟨_, rfl, ?_, (hF1.tr (Fr.wr _ (by omega))).tr (Fr.wr _ (by omega))⟩
      rw [epw, en]
      refine ⟨⟨⟨?_, ?_, ?_, ?_, ?_, ?_⟩, fun i hi => ?_⟩, fun z => ?_⟩
      · rw [wr_ne (by omega), wr_no (by omega), upd_no (by omega), upd_no (by omega)]; exact t5
      · rw [wr_ne (by omega), wr_no (by omega), upd_no (by omega), upd_no (by omega)]; exact t6
      · rw [wr_ne (by omega), wr_at, upd_no (by omega), upd_at]
      · rw [wr_ne (by omega), wr_no (by omega), upd_no (by omega), upd_no (by omega)]; exact t8
      · rw [wr_ne (by omega), wr_no (by omega), zBn_upd (fun p _ => by omega), zBn_upd (fun p _ => by omega)]; exact t9
      · rw [wr_ne (by omega), wr_no (by omega), upd_no (by omega), upd_no (by omega)]; exact t10
      · obtain ⟨a1, a2, a3, a4, a5⟩ := tP i hi
        refine ⟨?_, ?_, ?_, ?_, ?_⟩
        · rw [wr_ne (by omega), wr_ne (by omega), upd_no (by omega), upd_no (by omega)]; exact a1
        · by_cases ci : i = p
          · rw [ci, wr_at, upd_at]
          · rw [wr_no ci, wr_ne (by omega), upd_no (by omega), upd_no (by omega)]; exact a2
        · rw [wr_ne (by omega), wr_ne (by omega), upd_no (by omega), upd_no (by omega)]; exact a3
        · rw [wr_ne (by omega), wr_ne (by omega), upd_no (by omega), upd_no (by omega)]; exact a4
        · rw [wr_ne (by omega), wr_ne (by omega), upd_no (by omega), upd_no (by omega)]; exact a5
      · rw [upd_no (by omega), upd_no (by omega), upd_no (by omega)] at z
        exact absurd z c1
