theorem peoplecase {b : Nat → Nat} {T t : Nat} {fk : Int32} (hb : ∀ j, j < T → b j < 256) : ∀ (k p s : Nat) (w : Rw), p + k = 7 → Hp w p t → s ≤ T →
    (∃ w' n', Hp w' n' t ∧ (∀ N σ, k < N → CT b T σ s → Rp σ 10 w p → σ 10 11 = -2 → ∃ σ', fT_tellsHouse_L17 N (nI p) σ = some (1, σ') ∧ Rp σ' 10 w' n' ∧ HFr σ σ') ∧ ∀ N σ, k + 1 < N → MS b T σ s fk → Mp σ 207 0 w → ∃ σ', fM_house_L112 N σ = fM_house_B165 σ' ∧ σ' 200 8 = -1 ∧ σ' 200 7 = fk ∧ Mp σ' 207 0 w' ∧ DFr σ σ') ∨
    ∃ pl kd, pl ≤ T ∧ kd ≤ 3 ∧ (∀ N σ, k < N → CT b T σ s → Rp σ 10 w p → σ 10 11 = -2 → ∃ σ', fT_tellsHouse_L17 N (nI p) σ = some (0, σ') ∧ σ' 2 2 = nI pl ∧ σ' 2 3 = nI kd ∧ HFr σ σ') ∧ ∀ N σ, k + 1 < N → MS b T σ s fk → Mp σ 207 0 w → ∃ σ', fM_house_L112 N σ = fM_house_B165 σ' ∧ MF σ' pl kd ∧ DFr σ σ' := by
  intro k
  induction k with
  | zero =>
    intro p s w hp hH hs
    have := hH.1.1
    omega
  | succ k ih =>
    intro p s w hp hH hs
    have hp6 := hH.1.1
    obtain ⟨-, -, k1, k0, k5⟩ := @tkN_sign b T s
    have dr : ∀ σ, DFr σ σ := fun σ => ⟨fun _ _ _ => rfl, fun _ _ => rfl⟩
    by_cases c : T ≤ s
    · left
      refine ⟨w, p, hH, fun N σ hN h hr hg => ?_, fun N σ hN h hm => ?_⟩
      · obtain ⟨N, rfl⟩ : ∃ M, N = M + 1 := ⟨N - 1, by omega⟩
        refine ⟨σ, ?_, hr, ⟨fun _ _ _ => rfl, fun _ _ => rfl⟩⟩
        show fT_tellsHouse_b17 (fT_tellsHouse_L17 N) _ σ = _
        unfold fT_tellsHouse_b17
        rw [if_neg (show ¬ (6 : Int32) < nI p from nI_nlt (a := 6) hp6 (by omega)), h.2.1, h.2.2.1, if_pos (nI_le c (by have := h.1; omega))]
      · obtain ⟨N, rfl⟩ : ∃ M, N = M + 1 := ⟨N - 1, by omega⟩
        refine ⟨σ, ?_, h.2.2.1, h.2.2.2.1, hm, dr σ⟩
        have t0 : σ 200 11 = 0 := by rw [h.2.2.2.2.2.1, k0.mpr c]; rfl
        show fM_house_b112 (fM_house_L112 N) σ = _
        unfold fM_house_b112 fM_house_B144
        rw [M_well_t h, ob_e, i10, if_neg (by rw [t0]; decide), ob_e, i10, if_pos t0]
    · have hsT : s < T := by omega
      by_cases ck : kdN (b s) = 0
      · right
        refine ⟨s, 1, hs, by omega, fun N σ hN h hr hg => ?_, fun N σ hN h hm => ?_⟩
        · obtain ⟨N, rfl⟩ : ∃ M, N = M + 1 := ⟨N - 1, by omega⟩
          obtain ⟨σ', e1, e2, e3, e4⟩ := C_ref h (kd := 1) 1 rfl
          refine ⟨σ', ?_, e2.2.2.1, e3, e4.h⟩
          have ep : fT_tellsPerson (nI p) σ = some (0, σ') := by
            unfold fT_tellsPerson
            rw [C_sort h hsT, ob_e, ck, if_pos (show nI 0 = 0 from rfl), e1, ob_e]
            dsimp only
            rw [isb_0, if_pos rfl]
          show fT_tellsHouse_b17 (fT_tellsHouse_L17 N) _ σ = _
          unfold fT_tellsHouse_b17
          rw [if_neg (show ¬ (6 : Int32) < nI p from nI_nlt (a := 6) hp6 (by omega)), h.2.1, h.2.2.1, if_neg (nI_ge hsT (by have := h.1; omega)), bf0 ep]
        · obtain ⟨N, rfl⟩ : ∃ M, N = M + 1 := ⟨N - 1, by omega⟩
          obtain ⟨σ', e1, e2, e3⟩ := M_tak_0 h (kd := 1) 1 rfl
          refine ⟨σ', ?_, e2, e3.d⟩
          have t0 : ¬ σ 200 11 = 0 := by
            rw [h.2.2.2.2.2.1]
            refine nI_ne0 ?_ (by omega)
            have : ¬ tkN b T s = 0 := fun z => c (k0.mp z)
            omega
          have eB : fM_house_B144 σ = fM_house_B165 σ' := by
            unfold fM_house_B144
            rw [M_well_t h, ob_e, i10, if_neg t0, e1, ob_e]
          show fM_house_b112 (fM_house_L112 N) σ = _
          unfold fM_house_b112
          rw [M_well_t h, ob_e, i10]
          by_cases t1 : σ 200 11 = 1
          · have tk : tkN b T s = 1 := by
              rw [h.2.2.2.2.2.1] at t1
              exact nI_inj (b := 1) (by omega) (by omega) t1
            rw [if_pos t1, h.2.2.2.2.2.2.1 tk, M_kd (hb s hsT), ob_e, ck, if_pos (show nI 0 ≤ 0 by decide), eB]
          · rw [if_neg t1, eB]
      · have hk : 1 ≤ kdN (b s) := Nat.pos_of_ne_zero ck
        have tk1 : tkN b T s = 1 := k1.mpr ⟨hsT, kdN_l hk⟩
        have cS : ∀ N σ, CT b T σ s → fT_tellsHouse_L17 (N + 1) (nI p) σ = (fT_tellsPerson (nI p) σ).bind fun q6 => if q6.1 = 0 then some (0, q6.2) else fT_tellsHouse_L17 N (nI (p + 1)) q6.2 := by
          intro N σ h
          show fT_tellsHouse_b17 (fT_tellsHouse_L17 N) _ σ = _
          unfold fT_tellsHouse_b17
          rw [if_neg (show ¬ (6 : Int32) < nI p from nI_nlt (a := 6) hp6 (by omega)), h.2.1, h.2.2.1, if_neg (nI_ge hsT (by have := h.1; omega)), nI_1]
        have mS : ∀ N σ, MS b T σ s fk → fM_house_L112 (N + 1) σ = (fM_readsPerson σ).bind fun q21 => fM_house_L112 N q21 := by
          intro N σ h
          show fM_house_b112 (fM_house_L112 N) σ = _
          unfold fM_house_b112
          rw [M_well_t h, ob_e, i10, if_pos (by rw [h.2.2.2.2.2.1, tk1]; rfl), h.2.2.2.2.2.2.1 tk1, M_kd (hb s hsT), ob_e, if_neg (nI_nle (by omega) (by have := kdN_le (b s); omega))]
        rcases percase2 (fk := fk) hsT hH hk with ⟨w', s', a1, a2, a3, a4, a5⟩ | ⟨pl, kd, a1, a2, a4, a5⟩
        · rcases ih (p + 1) s' w' (by omega) a3 a1 with ⟨w2, n2, b1, b2, b3⟩ | ⟨pl, kd, b1, b2, b3, b4⟩
          · left
            refine ⟨w2, n2, b1, fun N σ hN h hr hg => ?_, fun N σ hN h hm => ?_⟩
            · obtain ⟨N, rfl⟩ : ∃ M, N = M + 1 := ⟨N - 1, by omega⟩
              obtain ⟨σ1, e1, e2, e3, e4, e5⟩ := a4 σ h hr hg
              obtain ⟨σ2, e6, e7, e8⟩ := b2 N σ1 (by omega) e2 e3 e4
              exact ⟨σ2, by rw [cS N σ h, bf1 e1]; exact e6, e7, e5.tr e8⟩
            · obtain ⟨N, rfl⟩ : ∃ M, N = M + 1 := ⟨N - 1, by omega⟩
              obtain ⟨σ1, e1, e2, e3, e4⟩ := a5 σ h hm
              obtain ⟨σ2, e5, e6, e7, e8, e9⟩ := b3 N σ1 (by omega) e2 e3
              exact ⟨σ2, by rw [mS N σ h, e1, ob_e, e5], e6, e7, e8, e4.tr e9⟩
          · right
            refine ⟨pl, kd, b1, b2, fun N σ hN h hr hg => ?_, fun N σ hN h hm => ?_⟩
            · obtain ⟨N, rfl⟩ : ∃ M, N = M + 1 := ⟨N - 1, by omega⟩
              obtain ⟨σ1, e1, e2, e3, e4, e5⟩ := a4 σ h hr hg
              obtain ⟨σ2, e6, e7, e8, e9⟩ := b3 N σ1 (by omega) e2 e3 e4
              exact ⟨σ2, by rw [cS N σ h, bf1 e1]; exact e6, e7, e8, e5.tr e9⟩
            · obtain ⟨N, rfl⟩ : ∃ M, N = M + 1 := ⟨N - 1, by omega⟩
              obtain ⟨σ1, e1, e2, e3, e4⟩ := a5 σ h hm
              obtain ⟨σ2, e5, e6, e7⟩ := b4 N σ1 (by omega) e2 e3
              exact ⟨σ2, by rw [mS N σ h, e1, ob_e, e5], e6, e4.tr e7⟩
        · right
          refine ⟨pl, kd, a1, a2, fun N σ hN h hr hg => ?_, fun N σ hN h hm => ?_⟩
          · obtain ⟨N, rfl⟩ : ∃ M, N = M + 1 := ⟨N - 1, by omega⟩
            obtain ⟨σ1, e1, e2, e3, e4⟩ := a4 σ h hr
            exact ⟨σ1, by rw [cS N σ h, bf0 e1], e2.2.2.1, e3, e4⟩
          · obtain ⟨N, rfl⟩ : ∃ M, N = M + 2 := ⟨N - 2, by omega⟩
            obtain ⟨σ1, e1, e2, e3⟩ := a5 σ h hm
            refine ⟨σ1, ?_, e2, e3⟩
            rw [mS (N + 1) σ h, e1, ob_e]
            show fM_house_b112 (fM_house_L112 N) σ1 = _
            unfold fM_house_b112 fM_house_B144
            rw [M_well_f e2, ob_e, i00, ob_e, i00]
/-- the reference behind the zeros of its draft -/
def hsEx (σ : Sg) : Option (Int32 × Sg) := ltc (wr σ 200 9 0) fun σ2 => ltc (wr σ2 200 8 (-1)) fun σ3 => (fM_advances σ3).bind fun q4 => if (q4 200 11) = 1 then (if (q4 200 12) = 102 then fM_house_B58 1 q4 else fM_house_B57 q4) else fM_house_B57 q4
theorem M_zero_L : ∀ (k i N : Nat) (σ : Sg), i + k = 41 → k < N → ∃ f, fM_house_L2 N (nI i) σ = hsEx (zsc σ 207 f) ∧ ∀ j, j < 41 → f j = if i ≤ j then 0 else σ 207 j := by
  intro k
  induction k with
  | zero =>
    intro i N σ hi hN
    obtain ⟨N, rfl⟩ : ∃ M, N = M + 1 := ⟨N - 1, by omega⟩
    obtain rfl : i = 41 := by omega
    refine ⟨σ 207, ?_, fun j hj => by rw [if_neg (by omega)]⟩
    show fM_house_b2 (fM_house_L2 N) _ σ = _
    unfold fM_house_b2 hsEx
    rw [if_pos (by decide), zsc_id]
  | succ k ih =>
    intro i N σ hi hN
    obtain ⟨N, rfl⟩ : ∃ M, N = M + 1 := ⟨N - 1, by omega⟩
    obtain ⟨f, e1, e2⟩ := ih (i + 1) N (wr σ 207 i 0) (by omega) (by omega)
    refine ⟨f, ?_, fun j hj => ?_⟩
    · show fM_house_b2 (fM_house_L2 N) _ σ = _
      unfold fM_house_b2
      rw [if_neg (show ¬ (41 : Int32) ≤ nI i from nI_ge (b := 41) (by omega) (by omega)), zin (by omega) (by omega), if_pos rfl, ltc_e, zix (by omega), nI_1, e1, zwr, zsc_t]
    · rw [e2 j hj]
      by_cases c : j = i
      · rw [if_neg (by omega), if_pos (by omega), c, wr_at]
      · by_cases d : i ≤ j
        · rw [if_pos (by omega), if_pos d]
        · rw [if_neg (by omega), if_neg d, wr_no c]
theorem M_house_0 {b : Nat → Nat} {T : Nat} {σ : Sg} (m : MT b T σ) : ∃ σ', fM_house σ = (if (σ' 200 11) = 1 then (if (σ' 200 12) = 102 then fM_house_B58 1 σ' else fM_house_B57 σ') else fM_house_B57 σ') ∧ MS b T σ' 0 (σ 200 7) ∧ Mp σ' 207 0 (fun _ => 0) ∧ DFr σ σ' := by
  obtain ⟨f, e1, e2⟩ := M_zero_L 41 0 2000 σ (by omega) (by omega)
  have e3 : fM_house σ = hsEx (zsc σ 207 f) := e1
  have dz : DFr σ (zsc σ 207 f) := ⟨fun k _ q => zsc_n q, fun j _ => by rw [zsc_n (by omega)]⟩
  have mz : MT b T (zsc σ 207 f) := ⟨m.1, by rw [zsc_n (by omega)]; exact m.2.1, fun j hj => by rw [zsc_n (by omega)]; exact m.2.2 j hj⟩
  have f1 : MFr (zsc σ 207 f) (wr (wr (zsc σ 207 f) 200 9 0) 200 8 (-1)) := (MFr.wr _ (by omega)).tr (MFr.wr _ (by omega))
  obtain ⟨σ', e4, e5, e6⟩ := M_adv (s := 0) (fk := σ 200 7) (f1.mt mz) (Nat.zero_le _) (by rw [wr_no (by omega), wr_at]; rfl) (wr_at _ _ _ _) (by rw [wr_no (by omega), wr_no (by omega), zsc_n (by omega)])
  refine ⟨σ', ?_, e5, ?_, (dz.tr f1.d).tr e6.d⟩
  · rw [e3]
    unfold hsEx
    rw [ltc_e, ltc_e, e4, ob_e]
  · have z : Mp (zsc σ 207 f) 207 0 (fun _ => 0) := Mp.zs (fun j hj => by rw [e2 j hj, if_pos (by omega)])
    exact (z.m f1).m e6
theorem T_house {σ : Sg} (h : Inv σ) : ∃ v σ1 σ2, fX_house σ = some (v, σ1) ∧ fM_house σ1 = some (v, σ2) ∧ Inv σ2 := by
  have hI := h
  obtain ⟨⟨w0, n0, t0, r0, hh⟩, h2, ⟨T, hT, t1, t2, t3⟩, h4, h5, h6, h7⟩ := hI
  obtain ⟨A, X, H, N, hA24, hX24, hA0, hC, hM, hW⟩ := h7.hist
  obtain ⟨b, hb⟩ : ∃ b : Nat → Nat, ∀ j, j < T → b j < 256 ∧ σ 3 j = nI (b j) := by
    refine ⟨fun j => ix (σ 3 j), fun j hj => ?_⟩
    obtain ⟨c, hc, e⟩ := (t3 j hj).2
    dsimp only
    rw [e, zix (by omega)]
    exact ⟨hc, rfl⟩
  have hb256 : ∀ j, j < T → b j < 256 := fun j hj => (hb j hj).1
  have c0 : CT b T (wr σ 2 2 0) 0 := ⟨hT, by rw [wr_no (by omega)]; exact t1, wr_at _ _ _ _, fun j hj => by rw [wr_ne (by omega)]; exact hb j hj⟩
  have f0 : HFr σ (wr σ 2 2 0) := (CFr.wr σ (by omega)).h
  -- the reference's tape stands wherever the class has been
  have mt : ∀ τ : Sg, τ 205 = σ 205 → τ 200 = σ 200 → MT b T τ := fun τ q1 q2 => ⟨hT, by rw [q2]; exact t2, fun j hj => by rw [q1, ← (t3 j hj).1]; exact hb j hj⟩
  have bad : ∀ (pl kd : Nat) (σc : Sg), pl ≤ T → fT_tellsHouse σ = some (0, σc) → HFr σ σc → σc 2 2 = nI pl → σc 2 3 = nI kd → (∀ τ : Sg, MS b T τ 0 (σ 200 7) → Mp τ 207 0 (fun _ => 0) → ∃ σ', (if (τ 200 11) = 1 then (if (τ 200 12) = 102 then fM_house_B58 1 τ else fM_house_B57 τ) else fM_house_B57 τ) = fM_house_B165 σ' ∧ MF σ' pl kd ∧ DFr τ σ') → ∃ v σ1 σ2, fX_house σ = some (v, σ1) ∧ fM_house σ1 = some (v, σ2) ∧ Inv σ2 := by
    intro pl kd σc hpl e1 e2 e3 e4 hmod
    have k1 : ∀ k, k ≠ 2 → k ≠ 0 → k < 10 ∨ 16 ≤ k → wr (wr σc 2 1 0) 0 10 (nI kd) k = σ k := fun k q1 q2 q3 => by rw [wr_ne q2, wr_ne q1, e2.1 k q1 q3]
    obtain ⟨τ, g1, g2, g3, g4⟩ := M_house_0 (mt (wr (wr σc 2 1 0) 0 10 (nI kd)) (k1 _ (by omega) (by omega) (by omega)) (k1 _ (by omega) (by omega) (by omega)))
    rw [k1 200 (by omega) (by omega) (by omega)] at g2
    obtain ⟨σ', g5, g6, g7⟩ := hmod τ g2 g3
    have gD := g4.tr g7
    have k2 : ∀ k, k ≠ 2 → k ≠ 0 → k < 10 ∨ 16 ≤ k → k ≠ 200 → k ≠ 207 → wr σ' 200 6 0 k = σ k := fun k q1 q2 q3 q4 q5 => by rw [wr_ne q4, gD.1 k q4 q5, k1 k q1 q2 q3]
    have k3 : ∀ j, j ≠ 6 → j < 7 ∨ 13 ≤ j → wr σ' 200 6 0 200 j = σ 200 j := fun j q1 q2 => by rw [wr_no q1, gD.2 j q2, k1 _ (by omega) (by omega) (by omega)]
    refine ⟨-1000100 - nI pl, wr (wr σc 2 1 0) 0 10 (nI kd), wr σ' 200 6 0, ?_, ?_, ?_⟩
    · unfold fX_house
      rw [e1, ob_e, ltc_e]
      dsimp only
      rw [i00, wr_no (show 3 ≠ 1 by omega), e4, ltc_e, wr_ne (show 2 ≠ 0 by omega), wr_no (show 2 ≠ 1 by omega), e3]
    · rw [g1, g5]
      unfold fM_house_B165
      have m8 : MF (wr σ' 200 6 0) pl kd := ⟨g6.1, by rw [wr_no (by omega)]; exact g6.2.1, by rw [wr_no (by omega)]; exact g6.2.2⟩
      rw [ltc_e, M_well_f m8, ob_e, i00, m8.2.1]
    · refine ⟨⟨w0, n0, t0, r0, hh.cong ?_ ?_ ?_⟩, h2.cong ?_ ?_ ?_ ?_, ⟨0, by omega, ?_, ?_, fun j hj => by omega⟩, ⟨?_, ?_⟩, h5.cong ?_ ?_ ?_ ?_, h6.cong ?_ ?_ ?_ ?_ ?_, h7.cong ?_ ?_ ?_ ?_ ?_⟩
      case refine_8 => rw [wr_ne (by omega), gD.1 _ (by omega) (by omega), wr_ne (by omega), wr_at]; rfl
      case refine_9 => rw [wr_at]; rfl
      case refine_10 => rw [wr_ne (by omega), gD.1 _ (by omega) (by omega), wr_at, wr_no (by omega), g6.2.2]
      case refine_11 => rw [wr_ne (by omega), gD.1 _ (by omega) (by omega), wr_no (by omega), wr_ne (by omega), e2.1 _ (by omega) (by omega), k3 4 (by omega) (by omega)]; exact h4.2
      all_goals first
        | (intro k q1 q2; exact k2 k (by omega) (by omega) (by omega) (by omega) (by omega))
        | exact k2 _ (by omega) (by omega) (by omega) (by omega) (by omega)
        | exact k3 _ (by omega) (by omega)
        | (rw [wr_ne (by omega), gD.1 _ (by omega) (by omega), wr_no (by omega), wr_ne (by omega), e2.1 _ (by omega) (by omega)]; done)
  rcases lawcase (b := b) (T := T) (fk := σ 200 7) with ⟨t, c, s, a1, a2, a3, a4, a5⟩ | ⟨pl, kd, a1, a2, a4, a5⟩
  · obtain ⟨σ1, e1, e2, e3, hg, e4⟩ := a4 _ c0
    have hHp : Hp (wL t c) 0 t := ⟨wL_wf a3, a2, fun q hq => by unfold wL; rw [if_neg (by omega), if_neg (by omega)]⟩
    rcases peoplecase (fk := σ 200 7) hb256 7 0 s (wL t c) (by omega) hHp a1 with ⟨w', n', b1, b2, b3⟩ | ⟨pl, kd, b1, b2, b3, b4⟩
    · obtain ⟨σ2, e5, e6, e7⟩ := b2 2000 σ1 (by omega) e2 e3 hg
      have eT : fT_tellsHouse σ = some (1, σ2) := by
        unfold fT_tellsHouse
        rw [ltc_e, bf1 e1]
        exact e5
      have fC := (f0.tr e4).tr e7
      have hn' := b1.1.1
      have rp : Rp (wr σ2 2 1 0) 10 w' n' := e6.cong (fun k q1 q2 => wr_ne (by omega))
      obtain ⟨σ3, e8, e9, e10⟩ := H_become (r0 := 4) (r1 := 10) (by omega) hn' rp
      have k1 : ∀ k, k ≠ 2 → k ≠ 0 → k ≠ 18 → k < 4 ∨ 16 ≤ k → wr (wr σ3 18 2 0) 0 9 1 k = σ k := fun k q1 q2 q3 q4 => by rw [wr_ne q2, wr_ne q3, e10 k (by omega), wr_ne q1, fC.1 k q1 (by omega)]
      obtain ⟨τ, g1, g2, g3, g4⟩ := M_house_0 (mt (wr (wr σ3 18 2 0) 0 9 1) (k1 _ (by omega) (by omega) (by omega) (by omega)) (k1 _ (by omega) (by omega) (by omega) (by omega)))
      rw [k1 200 (by omega) (by omega) (by omega) (by omega)] at g2
      obtain ⟨x, τ2, -, g5, g6, g7, g8⟩ := a5 τ g2 g3
      obtain ⟨τ3, g9, g10, g11, g12, g13⟩ := b3 2000 τ2 (by omega) g6 g7
      have gD := (g4.tr g8).tr g13
      have mp6 : Mp (wr τ3 200 6 0) 207 0 w' := g12.cong (wr_ne (by omega))
      have eC : fM_copies 207 41 0 206 41 0 (wr τ3 200 6 0) = some (cpy (wr τ3 200 6 0) 207 0 206 0 41) := M_copies (a := 0) (b := 0) (by omega) (by omega) (by omega) (by omega) (by omega)
      have k2 : ∀ k, k ≠ 2 → k ≠ 0 → k ≠ 18 → k < 4 ∨ 16 ≤ k → k ≠ 200 → k ≠ 206 → k ≠ 207 → wr (cpy (wr τ3 200 6 0) 207 0 206 0 41) 200 17 0 k = σ k := fun k q1 q2 q3 q4 q5 q6 q7 => by rw [wr_ne q5, cpy_ne q6, wr_ne q5, gD.1 k q5 q7, k1 k q1 q2 q3 q4]
      have k3 : ∀ j, j ≠ 6 → j ≠ 17 → j < 7 ∨ 13 ≤ j → wr (cpy (wr τ3 200 6 0) 207 0 206 0 41) 200 17 0 200 j = σ 200 j := fun j q1 q2 q3 => by rw [wr_no q2, cpy_ne (by omega), wr_no q1, gD.2 j q3, k1 _ (by omega) (by omega) (by omega) (by omega)]
      have k4 : ∀ k, k ≠ 200 → k ≠ 206 → k ≠ 207 → wr (cpy (wr τ3 200 6 0) 207 0 206 0 41) 200 17 0 k = wr (wr σ3 18 2 0) 0 9 1 k := fun k q5 q6 q7 => by rw [wr_ne q5, cpy_ne q6, wr_ne q5, gD.1 k q5 q7]
      have k5 : ∀ j, j ≠ 9 → wr (wr σ3 18 2 0) 0 9 1 0 j = σ 0 j := fun j q => by rw [wr_no q, wr_ne (by omega), e10 _ (by omega), wr_ne (by omega), fC.1 _ (by omega) (by omega)]
      have m6 : Mp (wr (cpy (wr τ3 200 6 0) 207 0 206 0 41) 200 17 0) 206 0 w' := (mp6.cpy (r2 := 206) (b := 0)).cong (wr_ne (by omega))
      have r4 : Rp (wr (wr σ3 18 2 0) 0 9 1) 4 w' n' := e9.cong (fun k q1 q2 => by rw [wr_ne (by omega), wr_ne (by omega)])
      refine ⟨nI n', wr (wr σ3 18 2 0) 0 9 1, wr (cpy (wr τ3 200 6 0) 207 0 206 0 41) 200 17 0, ?_, ?_, ?_⟩
      · unfold fX_house fA_forget
        rw [eT, ob_e, ltc_e]
        dsimp only
        rw [i10, e8, ob_e, ltc_e, ob_e, ltc_e, r4.1.1.1, b1.1.2.2.2.2.1]
      · rw [g1, g5, g9]
        unfold fM_house_B165
        have wl : fM_isWell (wr τ3 200 6 0) = some 1 := by
          unfold fM_isWell
          rw [wr_no (by omega), g10, if_neg (by decide)]
        rw [ltc_e, wl, ob_e, i10, eC, ob_e, ltc_e, m6.at 4 (by omega), b1.1.2.2.2.2.1]
      · have s9 : wr (cpy (wr τ3 200 6 0) 207 0 206 0 41) 200 17 0 0 9 = 1 := by rw [k4 _ (by omega) (by omega) (by omega), wr_at]
        refine ⟨⟨w', n', t, 0, b1.1, r4.cong (fun k q1 q2 => k4 k (by omega) (by omega) (by omega)), m6, by rw [s9, if_neg (by omega)]⟩, h2.cong ?_ ?_ ?_ ?_, ⟨0, by omega, ?_, ?_, fun j hj => by omega⟩, ⟨?_, ?_⟩, h5.cong ?_ ?_ ?_ ?_, fun k hk => ?_, ?_⟩
        case refine_5 => rw [k4 _ (by omega) (by omega) (by omega), wr_ne (by omega), wr_ne (by omega), e10 _ (by omega), wr_at]; rfl
        case refine_6 => rw [wr_no (by omega), cpy_ne (by omega), wr_at]; rfl
        case refine_7 =>
          rw [k4 _ (by omega) (by omega) (by omega), k5 _ (by omega), wr_no (by omega), cpy_ne (by omega), wr_no (by omega), g11]
          exact h4.1
        case refine_8 =>
          rw [k4 _ (by omega) (by omega) (by omega), k5 _ (by omega), k3 _ (by omega) (by omega) (by omega)]
          exact h4.2
        case refine_13 =>
          obtain ⟨q1, q2⟩ := h6 k hk
          rw [k2 17 (by omega) (by omega) (by omega) (by omega) (by omega) (by omega) (by omega), k2 211 (by omega) (by omega) (by omega) (by omega) (by omega) (by omega) (by omega), s9]
          refine ⟨q1, q2.imp id ?_⟩
          rintro ⟨y1, y2, w2, n2, t2', r2', y3, y4, y5, y6⟩
          exact ⟨y1, rfl, w2, n2, t2', r2', y3, y4, y5.cong (fun k' z1 z2 => k2 k' (by omega) (by omega) (by omega) (by omega) (by omega) (by omega) (by omega)), y6.cong (k2 _ (by omega) (by omega) (by omega) (by omega) (by omega) (by omega) (by omega))⟩
        case refine_14 =>
          refine Iact.mk (A := 0) (X := X) (H := H) (N := N) (by omega) hX24 (fun z => rfl) ⟨?_, ?_, fun i hi => by omega⟩ ⟨?_, fun i hi => by omega⟩ (fun i hi => by omega)
          · rw [k4 _ (by omega) (by omega) (by omega), wr_ne (by omega), wr_at]; rfl
          · rw [k4 _ (by omega) (by omega) (by omega), wr_ne (by omega), wr_no (by omega), e10 _ (by omega), wr_ne (by omega), fC.1 _ (by omega) (by omega)]; exact hC.2.1
          · rw [wr_at]; rfl
        all_goals first
          | (intro k q1 q2; exact k2 k (by omega) (by omega) (by omega) (by omega) (by omega) (by omega) (by omega))
          | exact k2 _ (by omega) (by omega) (by omega) (by omega) (by omega) (by omega) (by omega)
          | exact k3 _ (by omega) (by omega) (by omega)
    · obtain ⟨σ2, e5, e6, e7, e8⟩ := b3 2000 σ1 (by omega) e2 e3 hg
      refine bad pl kd σ2 b1 ?_ ((f0.tr e4).tr e8) e6 e7 (fun τ q1 q2 => ?_)
      · unfold fT_tellsHouse
        rw [ltc_e, bf1 e1]
        exact e5
      · obtain ⟨x, τ2, -, g5, g6, g7, g8⟩ := a5 τ q1 q2
        obtain ⟨τ3, g9, g10, g11⟩ := b4 2000 τ2 (by omega) g6 g7
        exact ⟨τ3, by rw [g5, g9], g10, g8.tr g11⟩
  · obtain ⟨σ1, e1, e2, e3, e4⟩ := a4 _ c0
    refine bad pl kd σ1 a1 ?_ (f0.tr e4) e2.2.2.1 e3 (fun τ q1 q2 => a5 τ q1)
    unfold fT_tellsHouse
    rw [ltc_e, e1, ob_e]
    dsimp only
    rw [i00]
