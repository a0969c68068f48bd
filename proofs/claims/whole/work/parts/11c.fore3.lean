theorem zGs_cong {n : Nat} {it it' : Nat → Int32} : ∀ (k i : Nat) (w : Rw), (∀ j, i ≤ j → j < i + k → it j = it' j) → zGs n it k i w = zGs n it' k i w := by
  intro k
  induction k with
  | zero => intro i w _; rfl
  | succ k ih =>
    intro i w h
    rw [zGs, zGs, h i (by omega) (by omega), ih (i + 1) (zPass n w) (fun j h1 h2 => h j (by omega) (by omega))]
theorem Wf.kind {w : Rw} {n t r : Nat} (hf : Wf w n t r) {p v : Nat} (h1 : 1 ≤ v) (h5 : v ≤ 5) : Wf (upd w (5 + 0 + 6 * p) (nI v)) n t r := by
  obtain ⟨hn, ht, hq, h0, w4, w0, w3, hb, hk⟩ := hf
  refine ⟨hn, ht, hq, h0, by rw [upd_no (by omega)]; exact w4, by rw [upd_no (by omega)]; exact w0, by rw [upd_no (by omega)]; exact w3, fun i hi => by rw [upd_no (by omega)]; exact hb i hi, fun i hi => ?_⟩
  by_cases c : i = p
  · exact ⟨v, h1, h5, by rw [c, Nat.add_zero, upd_at]⟩
  · rw [upd_no (by omega)]; exact hk i hi
/-- the values of a trait by which the car goes so -/
noncomputable def zFi (n : Nat) (w : Rw) (idx : Nat) (it : Nat → Int32) (c : Nat) : Nat → Nat → Int32 → Int32
  | 0, _, acc => acc
  | k + 1, v, acc => zFi n w idx it c k (v + 1) (acc ||| (if zGs n it c 0 (upd w idx (nI v)) = true then 1 <<< (nI v &&& 31) else 0))
theorem X_fit_L {n t r p a c cc lo hi row : Nat} {w : Rw} {x2 : Int32} (hf : Wf w n t r) (hp : p < n) (hac : a + c ≤ 40) (hcc : cc < 4) (hrow : row < 8) (hhi : hi ≤ 9) (hput : ∀ (σ : Sg) (v : Int32), fH_put 10 x2 (nI p) v σ = some (wr (wr σ (10 + (cc + 1)) p v) 10 11 (-2))) (hwf : ∀ v, lo ≤ v → v ≤ hi → Wf (upd w (5 + cc + 6 * p) (nI v)) n t r) (it : Nat → Int32) : ∀ (k i N : Nat) (acc : Int32) (σ : Sg), Rp σ 4 w n → (∀ j, σ (172 + 2 * row + 1) (a + j) = it j) → lo ≤ i → i + k = hi + 1 → k < N → ∃ σ', fX_fitting_L24 N (nI p) x2 (172 + 2 * row) (nI a) (nI c) acc (nI hi) (nI i) σ = some (zFi n w (5 + cc + 6 * p) it c k i acc, σ') ∧ Fr 10 σ σ' := by
  intro k
  induction k with
  | zero =>
    intro i N acc σ hr hit hlo hi' hN
    obtain ⟨N, rfl⟩ : ∃ M, N = M + 1 := ⟨N - 1, by omega⟩
    refine ⟨σ, ?_, Fr.rf 10 σ⟩
    show fX_fitting_b24 (fX_fitting_L24 N) _ _ _ _ _ _ _ _ σ = _
    unfold fX_fitting_b24
    rw [if_pos (nI_lt (by omega) (by omega))]
    rfl
  | succ k ih =>
    intro i N acc σ hr hit hlo hi' hN
    obtain ⟨N, rfl⟩ : ∃ M, N = M + 1 := ⟨N - 1, by omega⟩
    obtain ⟨q, g1, g2, g3⟩ := X_sup hf.1 hr
    have r2 := put_Rp g2.1 (c := cc) (p := p) hcc (nI i)
    have g4 : Fr 10 σ (wr (wr q (10 + (cc + 1)) p (nI i)) 10 11 (-2)) := g3.tr (put_Fr hcc (nI i))
    obtain ⟨σ1, k1, k2⟩ := H_goes (r := 172 + 2 * row + 1) hac (by omega) r2 (hwf i hlo (by omega))
    have hF : Fr 10 σ σ1 := g4.tr k2
    have eit : (fun j => wr (wr q (10 + (cc + 1)) p (nI i)) 10 11 (-2) (172 + 2 * row + 1) (a + j)) = it := by
      funext j
      rw [g4 _ (by omega)]
      exact hit j
    rw [eit] at k1
    show ∃ σ', fX_fitting_b24 (fX_fitting_L24 N) _ _ _ _ _ _ _ _ σ = _ ∧ _
    unfold fX_fitting_b24 fX_fitting_B81
    rw [if_neg (nI_nlt (by omega) (by omega)), g1, ob_e, hput, ob_e, k1, ob_e, zFi, nI_1]
    dsimp only
    by_cases d : zGs n it c 0 (upd w (5 + cc + 6 * p) (nI i)) = true
    · rw [if_pos d, i10, if_pos d]
      obtain ⟨σ2, e2, f2⟩ := ih (i + 1) N (acc ||| (1 <<< (nI i &&& 31))) σ1 (hr.cong (fun k q1 q2 => hF k (by omega))) (fun j => by rw [hF _ (by omega)]; exact hit j) (by omega) (by omega) (by omega)
      exact ⟨σ2, e2, hF.tr f2⟩
    · rw [if_neg d, i00, if_neg d]
      obtain ⟨σ2, e2, f2⟩ := ih (i + 1) N (acc ||| 0) σ1 (hr.cong (fun k q1 q2 => hF k (by omega))) (fun j => by rw [hF _ (by omega)]; exact hit j) (by omega) (by omega) (by omega)
      exact ⟨σ2, e2, hF.tr f2⟩
theorem M_fit_L {n t r p a c cc lo hi row : Nat} {w : Rw} (hf : Wf w n t r) (hp : p < n) (hac : a + c ≤ 40) (hcc : cc < 4) (hrow : row < 8) (hhi : hi ≤ 9) (hwf : ∀ v, lo ≤ v → v ≤ hi → Wf (upd w (5 + cc + 6 * p) (nI v)) n t r) (it : Nat → Int32) : ∀ (k i N : Nat) (acc : Int32) (σ : Sg), Mp σ 206 0 w → (∀ j, j < c → σ 203 (40 * row + a + j) = it j) → lo ≤ i → i + k = hi + 1 → k < N → ∃ f, fM_fits_L146 N (nI row) (nI a) (nI c) (nI (5 + cc + 6 * p)) (nI hi) acc (nI i) σ = some (zFi n w (5 + cc + 6 * p) it c k i acc, wr (zsc σ 208 f) 200 4 0) := by
  have hn := hf.1
  intro k
  induction k with
  | zero =>
    intro i N acc σ hr hit hlo hi' hN
    obtain ⟨N, rfl⟩ : ∃ M, N = M + 1 := ⟨N - 1, by omega⟩
    refine ⟨σ 208, ?_⟩
    show fM_fits_b146 (fM_fits_L146 N) _ _ _ _ _ _ _ σ = _
    unfold fM_fits_b146
    rw [if_pos (nI_lt (by omega) (by omega)), ob_id, M_well_eq, zsc_id]
    rfl
  | succ k ih =>
    intro i N acc σ hr hit hlo hi' hN
    obtain ⟨N, rfl⟩ : ∃ M, N = M + 1 := ⟨N - 1, by omega⟩
    obtain ⟨f, e1, e2⟩ := M_tries hr hf (d := 0) (by omega)
    have m2 : Mp (zsc σ 208 f) 208 0 w := Mp.zs e2
    obtain ⟨g, e3⟩ := M_goes (a := 40 * row + a) (c := c) (by omega) (m2.put (5 + cc + 6 * p) (nI i)) (hwf i hlo (by omega))
    have ea : (40 : Int32) * nI row + nI a = nI (40 * row + a) := by rw [zlit 40, pk_mul, nI_add]
    have eg : zGs n (fun j => wr (zsc σ 208 f) 208 (5 + cc + 6 * p) (nI i) 203 (40 * row + a + j)) c 0 (upd w (5 + cc + 6 * p) (nI i)) = zGs n it c 0 (upd w (5 + cc + 6 * p) (nI i)) := by
      refine zGs_cong c 0 _ (fun j h1 h2 => ?_)
      rw [wr_ne (by omega), zsc_n (by omega)]
      exact hit j (by omega)
    rw [eg, zwr, zsc_s, zsc_t, zsc_t] at e3
    have hr1 : Mp (zsc σ 208 g) 206 0 w := hr.cong (zsc_n (by omega))
    have go : ∀ acc', ∃ f, fM_fits_L146 N (nI row) (nI a) (nI c) (nI (5 + cc + 6 * p)) (nI hi) acc' (nI (i + 1)) (zsc σ 208 g) = some (zFi n w (5 + cc + 6 * p) it c k (i + 1) acc', wr (zsc σ 208 f) 200 4 0) := by
      intro acc'
      obtain ⟨f2, e4⟩ := ih (i + 1) N acc' (zsc σ 208 g) hr1 (fun j hj => by rw [zsc_n (by omega)]; exact hit j hj) (by omega) (by omega) (by omega)
      exact ⟨f2, by rw [e4, zsc_t]⟩
    show ∃ f, fM_fits_b146 (fM_fits_L146 N) _ _ _ _ _ _ _ σ = _
    unfold fM_fits_b146 fM_fits_B192
    rw [if_neg (nI_nlt (by omega) (by omega)), show (0 : Int32) = nI 0 from rfl, e1, ob_e, zin (show 5 + cc + 6 * p < 41 by omega) (by omega), if_pos rfl, ltc_e, zix (by omega), ea, zwr, zsc_s, zsc_t, e3, ob_e, zFi, nI_1]
    dsimp only
    by_cases d : zGs n it c 0 (upd w (5 + cc + 6 * p) (nI i)) = true
    · rw [if_pos d, nI_0, i10, if_pos d]
      exact go _
    · rw [if_neg d, nI_0, i00, if_neg d]
      exact go _
theorem Inv.fits {σ σ1 : Sg} (h : Inv σ) (hF : Fr 10 σ σ1) (f : Nat → Int32) : Inv (wr (zsc (wr σ1 0 11 0) 208 f) 200 4 0) := by
  have h1 : Inv σ1 := h.keep (fun k q1 q2 => hF k (by omega))
  refine (h1.stat 0).keep (fun k q1 q2 => ?_)
  by_cases c : k = 200
  · subst c
    rw [wr_eq, wr_eq, zsc_n (by omega)]
  · rw [wr_ne c, wr_ne c, zsc_n q2]
theorem T_fits {σ : Sg} (h : Inv σ) (x1 x2 x3 x4 x5 : Int32) : ∃ v σ1 σ2, fX_fits x1 x2 x3 x4 x5 σ = some (v, σ1) ∧ fM_fits x1 x2 x3 x4 x5 σ1 = some (v, σ2) ∧ Inv σ2 := by
  have hI := h
  obtain ⟨⟨w, n, t, r, hh⟩, hR, -⟩ := hI
  obtain ⟨hf, hr, hm, h9⟩ := id hh
  have hn := hf.1
  have ht := hf.2.1
  have w4 := hf.2.2.2.2.1
  have w0 := hf.2.2.2.2.2.1
  have s5 : σ 4 5 = nI n := by rw [hr.1.1.1]; exact w4
  have m4 : σ 206 4 = nI n := by rw [hm.at 4 (by omega)]; exact w4
  rcases percase hn x1 with ⟨p, hp, rfl, pA, pB⟩ | ⟨pA, pB⟩
  · rcases rowcase x2 with ⟨i, hi, rfl, hA⟩ | hA
    · rcases incase x4 1 16 with ⟨c1, c2, hB⟩ | ⟨-, hB⟩
      · rcases incase x5 0 2 with ⟨d1, d2, hD⟩ | ⟨-, hD⟩
        · have z8 := zin hi (show 8 < 2 ^ 31 by omega)
          have zi := zix (show i < 2 ^ 31 by omega)
          have p0 : ∀ v, fM_isPerson (nI p) (wr σ 0 11 v) = some 1 := fun v => pB _ (by rw [wr_ne (by omega)]; exact m4)
          rcases misscase hR hi with ⟨m1, m2⟩ | ⟨m1, m2, l, hl, l1, l2⟩
          · have m3 : fM_isMissing (nI i) (wr σ 0 11 1) = some 1 := by rw [M_miss_cong (σ := σ) _ (wr_ne (by omega)), m2]
            refine ⟨-1000010 - 1, wr σ 0 11 1, wr (wr σ 0 11 1) 200 4 1, ?_, ?_, h.stat 1⟩
            · unfold fX_fits
              rw [pA σ s5, ob_e, i10, (hA _).1, ob_e, i10, (hB _).1, ob_e, i10, (hD _).1, ob_e, i10, z8, if_pos rfl, zi, m1, ob_e, i10, ob_id, X_found_eq]
            · unfold fM_fits
              rw [p0, ob_e, i10, (hA _).2, ob_e, i10, (hB _).2, ob_e, i10, (hD _).2, ob_e, i10, m3, ob_e, i10, ob_id, M_found_eq]
          · obtain ⟨-, ⟨L, hL, L1, L2⟩, hI⟩ := hR i hi
            rcases holdcase hL x3 x4 with ⟨a, c, hac, rfl, rfl, s1, s2⟩ | ⟨s1, s2⟩
            · have main : ∀ (what cc lo hi' : Nat) (tr : Int32), what ≤ 2 → cc < 4 → hi' ≤ 9 → lo ≤ hi' + 1 → (∀ (σ : Sg) (v : Int32), fH_put 10 tr (nI p) v σ = some (wr (wr σ (10 + (cc + 1)) p v) 10 11 (-2))) → (∀ v, lo ≤ v → v ≤ hi' → Wf (upd w (5 + cc + 6 * p) (nI v)) n t r) →
                  (fX_fits (nI p) (nI i) (nI a) (nI c) x5 σ = ((fX_fitting_L24 2000 (nI p) tr (172 + 2 * i) (nI a) (nI c) 0 (nI hi') (nI lo) σ).bind fun q => fX_unhindered q.1 q.2)) →
                  (∀ τ : Sg, τ 206 = σ 206 → τ 201 = σ 201 → τ 202 = σ 202 → fM_fits (nI p) (nI i) (nI a) (nI c) x5 τ = fM_fits_L146 2000 (nI i) (nI a) (nI c) (nI (5 + cc + 6 * p)) (nI hi') 0 (nI lo) τ) →
                  ∃ v σ1 σ2, fX_fits (nI p) (nI i) (nI a) (nI c) x5 σ = some (v, σ1) ∧ fM_fits (nI p) (nI i) (nI a) (nI c) x5 σ1 = some (v, σ2) ∧ Inv σ2 := by
                intro what cc lo hi' tr q1 q2 q3 q4 q5 q6 q7 q8
                obtain ⟨σ1, e1, f1⟩ := X_fit_L (cc := cc) (row := i) hf hp (show a + c ≤ 40 by omega) q2 hi q3 q5 q6 (fun j => σ (172 + 2 * i + 1) (a + j)) (hi' + 1 - lo) lo 2000 0 σ hr (fun j => rfl) (Nat.le_refl lo) (by omega) (by omega)
                have t0 : ∀ k, k < 10 ∨ 16 ≤ k → k ≠ 0 → wr σ1 0 11 0 k = σ k := fun k y1 y2 => by rw [wr_ne y2, f1 k (by omega)]
                obtain ⟨g, e2⟩ := M_fit_L (cc := cc) (row := i) hf hp (show a + c ≤ 40 by omega) q2 hi q3 q6 (fun j => σ (172 + 2 * i + 1) (a + j)) (hi' + 1 - lo) lo 2000 0 (wr σ1 0 11 0) (hm.cong (t0 _ (by omega) (by omega))) (fun j hj => by rw [t0 _ (by omega) (by omega), hI _ (by omega), show 40 * i + (a + j) = 40 * i + a + j by omega]) (Nat.le_refl lo) (by omega) (by omega)
                refine ⟨zFi n w (5 + cc + 6 * p) (fun j => σ (172 + 2 * i + 1) (a + j)) c (hi' + 1 - lo) lo 0, wr σ1 0 11 0, wr (zsc (wr σ1 0 11 0) 208 g) 200 4 0, ?_, ?_, h.fits f1 g⟩
                · rw [q7, e1, ob_e, X_unh_eq]
                · rw [q8 _ (t0 _ (by omega) (by omega)) (t0 _ (by omega) (by omega)) (t0 _ (by omega) (by omega)), e2]
              obtain ⟨b, hb, rfl⟩ := zrng (n := 2) (by omega) d1 d2
              have mt : ∀ τ : Sg, τ 206 = σ 206 → τ 201 = σ 201 → τ 202 = σ 202 → fM_isPerson (nI p) τ = some 1 ∧ fM_isMissing (nI i) τ = some 0 ∧ fM_isPart (nI i) (nI a) (nI c) τ = some 1 ∧ τ 206 0 = nI t := by
                intro τ q1 q2 q3
                exact ⟨pB _ (by rw [q1]; exact m4), by rw [M_miss_cong (σ := σ) _ q2, m2], s2 τ i hi (by rw [q3]; exact L2), by rw [q1, hm.at 0 (by omega)]; exact w0⟩
              obtain rfl | rfl | rfl : b = 0 ∨ b = 1 ∨ b = 2 := by omega
              · refine main 0 0 1 5 0 (by omega) (by omega) (by omega) (by omega) (fun σ v => H_put0 (by omega) v) (fun v h1 h5 => hf.kind h1 h5) ?_ (fun τ q1 q2 q3 => ?_)
                · unfold fX_fits fX_fitting fX_fitting_B22 fH_mostOf
                  rw [pA σ s5, ob_e, i10, (hA _).1, ob_e, i10, (hB _).1, ob_e, i10, (hD _).1, ob_e, i10, z8, if_pos rfl, zi, m1, ob_e, i00, s1 _ _ L1, ob_e, i10, if_pos (show nI 0 = 0 from rfl), i00, ob_e, i00]
                  rfl
                · obtain ⟨u1, u2, u3, u4⟩ := mt τ q1 q2 q3
                  unfold fM_fits fM_fits_B96 fM_fits_B109 fM_fits_B137
                  rw [u1, ob_e, i10, (hA _).2, ob_e, i10, (hB _).2, ob_e, i10, (hD _).2, ob_e, i10, u2, ob_e, i00, u3, ob_e, i10, if_pos (show nI 0 = 0 from rfl), if_pos (show nI 0 = 0 from rfl), if_pos (show nI 0 = 0 from rfl), zp0, Int32.add_zero]
                  rfl
              · refine main 1 3 0 9 3 (by omega) (by omega) (by omega) (by omega) (fun σ v => H_put3 (by omega) v) (fun v h1 h5 => hf.put (by omega) (by omega) _) ?_ (fun τ q1 q2 q3 => ?_)
                · unfold fX_fits fX_fitting fX_fitting_B22 fH_mostOf
                  rw [pA σ s5, ob_e, i10, (hA _).1, ob_e, i10, (hB _).1, ob_e, i10, (hD _).1, ob_e, i10, z8, if_pos rfl, zi, m1, ob_e, i00, s1 _ _ L1, ob_e, i10, if_neg (show ¬ nI 1 = 0 by decide), if_pos (show nI 1 = 1 from rfl), if_neg (show ¬ (3 : Int32) = 0 by decide), if_pos (show (3 : Int32) = 3 from rfl), ob_e, if_neg (show ¬ (3 : Int32) = 0 by decide)]
                  rfl
                · obtain ⟨u1, u2, u3, u4⟩ := mt τ q1 q2 q3
                  unfold fM_fits fM_fits_B96 fM_fits_B109 fM_fits_B137
                  rw [u1, ob_e, i10, (hA _).2, ob_e, i10, (hB _).2, ob_e, i10, (hD _).2, ob_e, i10, u2, ob_e, i00, u3, ob_e, i10, if_neg (show ¬ nI 1 = 0 by decide), if_pos (show nI 1 = 1 from rfl), if_neg (show ¬ nI 1 = 0 by decide), if_neg (show ¬ nI 1 = 0 by decide), if_pos (show nI 1 = 1 from rfl), show (5 : Int32) + 6 * nI p + 3 = nI (5 + 3 + 6 * p) by rw [zlit 3, zpc]; congr 1; omega]
                  rfl
              · refine main 2 2 0 t 2 (by omega) (by omega) (by omega) (by omega) (fun σ v => H_put2 (by omega) v) (fun v h1 h5 => hf.put (by omega) (by omega) _) ?_ (fun τ q1 q2 q3 => ?_)
                · unfold fX_fits fX_fitting fX_fitting_B22 fH_mostOf
                  rw [pA σ s5, ob_e, i10, (hA _).1, ob_e, i10, (hB _).1, ob_e, i10, (hD _).1, ob_e, i10, z8, if_pos rfl, zi, m1, ob_e, i00, s1 _ _ L1, ob_e, i10, if_neg (show ¬ nI 2 = 0 by decide), if_neg (show ¬ nI 2 = 1 by decide), if_neg (show ¬ (2 : Int32) = 0 by decide), if_neg (show ¬ (2 : Int32) = 3 by decide), ob_e, if_neg (show ¬ (2 : Int32) = 0 by decide), hr.1.1.2.1, w0]
                  rfl
                · obtain ⟨u1, u2, u3, u4⟩ := mt τ q1 q2 q3
                  unfold fM_fits fM_fits_B96 fM_fits_B109 fM_fits_B137
                  rw [u1, ob_e, i10, (hA _).2, ob_e, i10, (hB _).2, ob_e, i10, (hD _).2, ob_e, i10, u2, ob_e, i00, u3, ob_e, i10, if_neg (show ¬ nI 2 = 0 by decide), if_neg (show ¬ nI 2 = 1 by decide), if_neg (show ¬ nI 2 = 0 by decide), if_neg (show ¬ nI 2 = 0 by decide), if_neg (show ¬ nI 2 = 1 by decide), u4, show (5 : Int32) + 6 * nI p + 2 = nI (5 + 2 + 6 * p) by rw [zlit 2, zpc]; congr 1; omega]
                  rfl
            · have m3 : fM_isMissing (nI i) (wr σ 0 11 2) = some 0 := by rw [M_miss_cong (σ := σ) _ (wr_ne (by omega)), m2]
              have m5 := s2 (wr σ 0 11 2) i hi (by rw [wr_ne (by omega)]; exact L2)
              refine ⟨-1000010 - 2, wr σ 0 11 2, wr (wr σ 0 11 2) 200 4 2, ?_, ?_, h.stat 2⟩
              · unfold fX_fits
                rw [pA σ s5, ob_e, i10, (hA _).1, ob_e, i10, (hB _).1, ob_e, i10, (hD _).1, ob_e, i10, z8, if_pos rfl, zi, m1, ob_e, i00, s1 _ _ L1, ob_e, i00, ob_id, X_found_eq]
              · unfold fM_fits
                rw [p0, ob_e, i10, (hA _).2, ob_e, i10, (hB _).2, ob_e, i10, (hD _).2, ob_e, i10, m3, ob_e, i00, m5, ob_e, i00, ob_id, M_found_eq]
        · exact ⟨-1000001, σ, σ, by simp only [fX_fits, pA σ s5, (hA _).1, (hB _).1, (hD _).1, ob_e, i10, ↓reduceIte], by simp only [fM_fits, pB σ m4, (hA _).2, (hB _).2, (hD _).2, ob_e, i10, ↓reduceIte], h⟩
      · exact ⟨-1000001, σ, σ, by simp only [fX_fits, pA σ s5, (hA _).1, (hB _).1, ob_e, i10, ↓reduceIte], by simp only [fM_fits, pB σ m4, (hA _).2, (hB _).2, ob_e, i10, ↓reduceIte], h⟩
    · exact ⟨-1000001, σ, σ, by simp only [fX_fits, pA σ s5, (hA _).1, ob_e, i10, ↓reduceIte], by simp only [fM_fits, pB σ m4, (hA _).2, ob_e, i10, ↓reduceIte], h⟩
  · exact ⟨-1000001, σ, σ, by simp only [fX_fits, pA σ s5, ob_e, ↓reduceIte], by simp only [fM_fits, pB σ m4, ob_e, ↓reduceIte], h⟩
