theorem Wf.put {w : Rw} {n t r : Nat} (hf : Wf w n t r) {c p : Nat} (h1 : 1 ≤ c) (h4 : c < 4) (v : Int32) : Wf (upd w (5 + c + 6 * p) v) n t r := by
  obtain ⟨hn, ht, hq, h0, w4, w0, w3, hb, hk⟩ := hf
  exact ⟨hn, ht, hq, h0, by rw [upd_no (by omega)]; exact w4, by rw [upd_no (by omega)]; exact w0, by rw [upd_no (by omega)]; exact w3, fun i hi => by rw [upd_no (by omega)]; exact hb i hi, fun i hi => by rw [upd_no (by omega)]; exact hk i hi⟩
theorem Mp.put {σ : Sg} {r : Nat} {w : Rw} (h : Mp σ r 0 w) (i : Nat) (v : Int32) : Mp (wr σ r i v) r 0 (upd w i v) := by
  intro j hj
  rw [Nat.zero_add, wr_eq]
  by_cases c : j = i
  · rw [c, upd_at, upd_at]
  · rw [upd_no c, upd_no c, h.at j hj]
/-- one act that puts a trait of one: what is common to show and walk -/
theorem T_put {σ : Sg} (h : Inv σ) {w : Rw} {n t r : Nat} (hh : Ih σ w n t r) (ht : 0 < t) {c p : Nat} (h1 : 1 ≤ c) (h4 : c < 4) (hp : p < n) (v : Int32) : ∃ σ1 f z, fA_keep σ = some σ1 ∧ fM_notes (wr (wr σ1 (4 + (c + 1)) p v) 4 11 (-2)) = some (wr (zsc (wr (wr σ1 (4 + (c + 1)) p v) 4 11 (-2)) 209 f) 200 17 z) ∧ (∀ k, k = 0 ∨ k = 206 ∨ (4 ≤ k ∧ k < 10) → σ1 k = σ k) ∧ Inv (wr (wr (zsc (wr (wr σ1 (4 + (c + 1)) p v) 4 11 (-2)) 209 f) 200 17 z) 206 (5 + c + 6 * p) v) := by
  have hI := h
  obtain ⟨-, -, -, -, -, -, hA⟩ := hI
  obtain ⟨A, X, H, N, hA24, hX24, hA0, hC, hM, hW⟩ := hA.hist
  obtain ⟨hf, hr, hm, h9⟩ := id hh
  have hn := hf.1
  obtain ⟨σ1, e1, c1, f1⟩ := A_keep hA24 hX24 hC hn hr
  have hr1 : Rp σ1 4 w n := hr.cong (fun k q1 q2 => f1 k (by omega) (by omega))
  have hm1 : Mp σ1 206 0 w := hm.cong (f1 _ (by omega) (by omega))
  have hM1 : MA σ1 A H := hM.cong (by rw [f1 _ (by omega) (by omega)]) (f1 _ (by omega) (by omega))
  have hr2 := put_Rp hr1.1 (c := c) (p := p) h4 v
  have g2 : ∀ k, k < 4 ∨ 10 ≤ k → wr (wr σ1 (4 + (c + 1)) p v) 4 11 (-2) k = σ1 k := put_Fr (h := 4) (c := c) h4 v
  obtain ⟨τ, hτ⟩ : ∃ τ, τ = wr (wr σ1 (4 + (c + 1)) p v) 4 11 (-2) := ⟨_, rfl⟩
  rw [← hτ] at hr2 g2
  have hm2 : Mp τ 206 0 w := hm1.cong (g2 _ (by omega))
  have hM2 : MA τ A H := hM1.cong (by rw [g2 _ (by omega)]) (g2 _ (by omega))
  obtain ⟨f, e3, M3⟩ := M_notes hA24 hM2 hm2
  refine ⟨σ1, f, nI (pA A), e1, ?_, fun k hk => f1 k (by omega) (by omega), ?_⟩
  · rw [← hτ]; exact e3
  rw [← hτ]
  have t0 : ∀ k, k ≠ 200 → k ≠ 206 → k ≠ 209 → wr (wr (zsc τ 209 f) 200 17 (nI (pA A))) 206 (5 + c + 6 * p) v k = τ k := fun k q1 q2 q3 => by rw [wr_ne q2, wr_ne q1, zsc_n q3]
  refine h.acts (fun k q1 q2 q3 q4 q5 => by rw [t0 k q2 q3 q5, g2 k (by omega), f1 k (by omega) (by omega)]) (fun j q => by rw [wr_ne (by omega), wr_no q, zsc_n (by omega), g2 _ (by omega), f1 _ (by omega) (by omega)]) ⟨upd w (5 + c + 6 * p) v, n, t, r, hf.put h1 h4 v, hr2.cong (fun k q1 q2 => t0 k (by omega) (by omega) (by omega)), ?_, ?_⟩ ?_
  · exact Mp.put (hm2.cong (by rw [wr_ne (by omega), zsc_n (by omega)])) _ _
  · rw [t0 _ (by omega) (by omega) (by omega), g2 _ (by omega), f1 _ (by omega) (by omega)]; exact h9
  · refine Iact.mk (pA_le A) (Nat.mod_lt _ (by omega)) (fun z => ?_) (c1.cong (by rw [t0 _ (by omega) (by omega) (by omega), g2 _ (by omega)]) (fun k q1 q2 => by rw [t0 _ (by omega) (by omega) (by omega), g2 _ (by omega)])) (M3.cong (by rw [wr_ne (by omega)]) (by rw [wr_ne (by omega)])) (hW.push hA24 hf ht)
    rw [t0 _ (by omega) (by omega) (by omega), g2 _ (by omega), f1 _ (by omega) (by omega), h9, if_neg (by omega)] at z
    exact absurd z (by decide)
theorem T_show {σ : Sg} (h : Inv σ) (x y : Int32) : ∃ v σ1 σ2, fX_show x y σ = some (v, σ1) ∧ fM_show x y σ1 = some (v, σ2) ∧ Inv σ2 := by
  have hI := h
  obtain ⟨⟨w, n, t, r, hh⟩, -⟩ := hI
  obtain ⟨hf, hr, hm, h9⟩ := id hh
  have hn := hf.1
  have w4 := hf.2.2.2.2.1
  have s5 : σ 4 5 = nI n := by rw [hr.1.1.1]; exact w4
  have m4 : σ 206 4 = nI n := by rw [hm.at 4 (by omega)]; exact w4
  rcases percase hn x with ⟨p, hp, rfl, pA, pB⟩ | ⟨pA, pB⟩
  · rcases incase y 0 9 with ⟨c1, c2, hB⟩ | ⟨-, hB⟩
    · have ht : 0 < t := Nat.pos_of_ne_zero (fun z => by have := hf.2.2.2.1 z; omega)
      have hp6 : p < 6 := by omega
      obtain ⟨σ1, f, z, e1, e2, k0, hv⟩ := T_put h hh ht (c := 3) (p := p) (by omega) (by omega) hp y
      refine ⟨w (8 + 6 * p), wr (wr σ1 (4 + (3 + 1)) p y) 4 11 (-2), _, ?_, ?_, hv⟩
      · have b2 : σ (4 + 4) p = w (8 + 6 * p) := (hr.1.2 p hp).2.2.2.1
        unfold fX_show
        rw [pA σ s5, ob_e, i10, (hB _).1, ob_e, i10, zi6 hp6, if_pos rfl, e1, ob_e, H_put3 hp6, ob_e, zxp hp6, b2]
      · have m206 : wr (wr σ1 (4 + (3 + 1)) p y) 4 11 (-2) 206 = σ 206 := by rw [wr_ne (by omega), wr_ne (by omega), k0 206 (by omega)]
        unfold fM_show
        rw [pB _ (by rw [m206]; exact m4), ob_e, i10, (hB _).2, ob_e, i10, e2, ob_e, zb3 hp6, if_pos rfl, ltc_e, zx3 hp6, wr_ne (show 206 ≠ 200 by omega), zsc_n (show 206 ≠ 209 by omega), m206, hm.at _ (by omega)]
    · exact ⟨-1000001, σ, σ, by simp only [fX_show, pA σ s5, (hB _).1, ob_e, i10, ↓reduceIte], by simp only [fM_show, pB σ m4, (hB _).2, ob_e, i10, ↓reduceIte], h⟩
  · exact ⟨-1000001, σ, σ, by simp only [fX_show, pA σ s5, ob_e, ↓reduceIte], by simp only [fM_show, pB σ m4, ob_e, ↓reduceIte], h⟩
theorem T_walk {σ : Sg} (h : Inv σ) (x y : Int32) : ∃ v σ1 σ2, fX_walk x y σ = some (v, σ1) ∧ fM_walk x y σ1 = some (v, σ2) ∧ Inv σ2 := by
  have hI := h
  obtain ⟨⟨w, n, t, r, hh⟩, -⟩ := hI
  obtain ⟨hf, hr, hm, h9⟩ := id hh
  have hn := hf.1
  have w4 := hf.2.2.2.2.1
  have s5 : σ 4 5 = nI n := by rw [hr.1.1.1]; exact w4
  have m4 : σ 206 4 = nI n := by rw [hm.at 4 (by omega)]; exact w4
  rcases percase hn x with ⟨p, hp, rfl, pA, pB⟩ | ⟨pA, pB⟩
  · rcases incase y 0 1 with ⟨c1, c2, hB⟩ | ⟨-, hB⟩
    · have ht : 0 < t := Nat.pos_of_ne_zero (fun z => by have := hf.2.2.2.1 z; omega)
      have hp6 : p < 6 := by omega
      have b2 : σ (4 + 2) p = w (6 + 6 * p) := (hr.1.2 p hp).2.1
      have w3 := hf.2.2.2.2.2.2.1
      have hq := hf.2.2.1
      obtain ⟨d, hd, rfl⟩ := zrng (n := 1) (by omega) c1 c2
      obtain ⟨s, es1, es2⟩ : ∃ s : Int32, (∀ (b : Int32) (τ : Sg), (if nI d = 1 then fX_walk_B39 (nI p) 1 b τ else fX_walk_B39 (nI p) (-1) b τ) = fX_walk_B39 (nI p) s b τ) ∧ ∀ b : Int32, b + 2 * nI d - 1 = b + s := by
        obtain rfl | rfl : d = 0 ∨ d = 1 := by omega
        · refine ⟨-1, fun b τ => by rw [if_neg (by decide)], fun b => ?_⟩
          rw [show (2 : Int32) * nI 0 = 0 by decide, Int32.add_zero, Int32.sub_eq_add_neg]
        · refine ⟨1, fun b τ => by rw [if_pos (by decide)], fun b => ?_⟩
          rw [show (2 : Int32) * nI 1 = 2 by decide, Int32.sub_eq_add_neg, Int32.add_assoc]
          rfl
      have eX : fX_walk (nI p) (nI d) σ = fX_walk_B39 (nI p) s (w (6 + 6 * p)) σ := by
        unfold fX_walk
        rw [pA σ s5, ob_e, i10, (hB _).1, ob_e, i10, zi6 hp6, if_pos rfl, zxp hp6, b2, es1]
      by_cases c3 : w 3 = nI (p + 1)
      · refine ⟨-1000002, σ, σ, ?_, ?_, h⟩
        · rw [eX]
          unfold fX_walk_B39
          rw [hr.1.1.2.2.2.1, if_pos (by rw [c3, nI_pred])]
        · unfold fM_walk
          rw [pB σ m4, ob_e, i10, (hB _).2, ob_e, i10, zb1 hp6, if_pos rfl, M_rides_t (by rw [hm.at 3 (by omega), c3, nI_1]), ob_e, i10]
      · have nr : ¬ σ 4 8 = nI p := by
          rw [hr.1.1.2.2.2.1, w3]; rw [w3] at c3
          exact fun z => c3 ((zr8 (by omega) hp6).mp z.symm)
        have mr : ∀ τ : Sg, τ 206 = σ 206 → fM_rides 206 (nI p) τ = some 0 := fun τ e => M_rides_f (by rw [e, hm.at 3 (by omega), nI_1]; exact c3)
        have s6 : σ 4 6 = w 0 := hr.1.1.2.1
        rcases incase (w (6 + 6 * p) + s) 0 (w 0) with ⟨-, -, hD⟩ | ⟨-, hD⟩
        · obtain ⟨σ1, f, z, e1, e2, k0, hv⟩ := T_put h hh ht (c := 1) (p := p) (by omega) (by omega) hp (w (6 + 6 * p) + s)
          refine ⟨w (6 + 6 * p) + s, wr (wr σ1 (4 + (1 + 1)) p (w (6 + 6 * p) + s)) 4 11 (-2), _, ?_, ?_, hv⟩
          · rw [eX]
            unfold fX_walk_B39
            rw [if_neg nr, s6, (hD _).1, ob_e, i10, e1, ob_e, H_put1 hp6, ob_e]
          · have m206 : wr (wr σ1 (4 + (1 + 1)) p (w (6 + 6 * p) + s)) 4 11 (-2) 206 = σ 206 := by rw [wr_ne (by omega), wr_ne (by omega), k0 206 (by omega)]
            unfold fM_walk
            rw [pB _ (by rw [m206]; exact m4), ob_e, i10, (hB _).2, ob_e, i10, zb1 hp6, if_pos rfl, mr _ m206, ob_e, i00, zx1 hp6, m206, hm.at _ (by omega), hm.at 0 (by omega), es2, (hD _).2, ob_e, i10, e2, ob_e, ltc_e]
        · refine ⟨-1000002, σ, σ, ?_, ?_, h⟩
          · rw [eX]
            unfold fX_walk_B39
            rw [if_neg nr, s6, (hD _).1, ob_e, i00]
          · unfold fM_walk
            rw [pB σ m4, ob_e, i10, (hB _).2, ob_e, i10, zb1 hp6, if_pos rfl, mr σ rfl, ob_e, i00, zx1 hp6, hm.at _ (by omega), hm.at 0 (by omega), es2, (hD _).2, ob_e, i00]
    · exact ⟨-1000001, σ, σ, by simp only [fX_walk, pA σ s5, (hB _).1, ob_e, i10, ↓reduceIte], by simp only [fM_walk, pB σ m4, (hB _).2, ob_e, i10, ↓reduceIte], h⟩
  · exact ⟨-1000001, σ, σ, by simp only [fX_walk, pA σ s5, ob_e, ↓reduceIte], by simp only [fM_walk, pB σ m4, ob_e, ↓reduceIte], h⟩
theorem T_undo {σ : Sg} (h : Inv σ) : ∃ v σ1 σ2, fX_undo σ = some (v, σ1) ∧ fM_undo σ1 = some (v, σ2) ∧ Inv σ2 := by
  have hI := h
  obtain ⟨⟨w, n, t, r, hh⟩, -, -, -, -, -, hA⟩ := hI
  obtain ⟨A, X, H, N, hA24, hX24, hA0, hC, hM, hW⟩ := hA.hist
  obtain ⟨hf, hr, hm, h9⟩ := id hh
  cases A with
  | zero =>
    refine ⟨-1000002, σ, σ, ?_, ?_, h⟩
    · unfold fX_undo; rw [if_pos (show σ 18 2 = 0 from hC.1)]
    · unfold fM_undo; rw [if_pos (show σ 200 17 = 0 from hM.1)]
  | succ A =>
    obtain ⟨h1, h2, h3⟩ := hC
    obtain ⟨t', r', hf', ht'⟩ := hW A (by omega)
    have e2 : (nI X + 24 - 1) - (nI X + 24 - 1) / 24 * 24 = nI ((X + 23) % 24) := by
      have : nI X + 24 - 1 = nI (X + 23) := by
        rw [show nI X + 24 = nI (X + 23 + 1) from nI_add X 24, nI_pred]
      rw [this]
      exact pk_rem (d := 24) (by omega) (by omega) (by omega)
    have ei : (X + 24 - (A + 1) + A) % 24 = (X + 23) % 24 := by omega
    have hX' : (X + 23) % 24 < 24 := Nat.mod_lt _ (by omega)
    have rp : Rp (wr (wr σ 18 1 (nI ((X + 23) % 24))) 18 2 (nI A)) (20 + 6 * ((X + 23) % 24)) (H A) (N A) := by
      have := h3 A (by omega)
      rw [ei] at this
      exact this.cong (fun k q1 q2 => by rw [wr_ne (by omega), wr_ne (by omega)])
    obtain ⟨q, g1, g2, g3⟩ := H_become (r0 := 4) (r1 := 20 + 6 * ((X + 23) % 24)) (by omega) hf'.1 rp
    have q18 : q 18 = wr (wr σ 18 1 (nI ((X + 23) % 24))) 18 2 (nI A) 18 := g3 18 (by omega)
    have k0 : ∀ k, k < 4 ∨ 10 ≤ k → k ≠ 18 → q k = σ k := fun k q1 q2 => by rw [g3 k (by omega), wr_ne q2, wr_ne q2]
    have m200 : q 200 17 = nI (A + 1) := by rw [k0 _ (by omega) (by omega)]; exact hM.1
    have mm : Mp (wr q 200 17 (nI A)) 209 (41 * A) (H A) := (hM.2 A (by omega)).cong (by rw [wr_ne (by omega), k0 _ (by omega) (by omega)])
    refine ⟨nI A, q, cpy (wr q 200 17 (nI A)) 209 (41 * A) 206 0 41, ?_, ?_, ?_⟩
    · unfold fX_undo fA_takeBack
      rw [if_neg (by rw [h1]; exact nI_ne0 (by omega) (by omega)), h2, e2, ltc_e, ltc_e, wr_no (show 1 ≠ 2 by omega), wr_at, zin hX' (by omega), if_pos rfl, zix (by omega), wr_no (show 2 ≠ 1 by omega), h1, nI_pred, g1, ob_e, ob_e, q18, wr_at]
    · unfold fM_undo
      have e : (41 : Int32) * nI A = nI (41 * A) := by rw [zlit 41, pk_mul]
      rw [if_neg (by rw [m200]; exact nI_ne0 (by omega) (by omega)), m200, nI_pred, ltc_e, wr_at, e, show (0 : Int32) = nI 0 from rfl, M_copies (by omega) (by omega) (by omega) (by omega) (by omega), ob_e, cpy_ne (by omega), wr_at]
    · have t0 : ∀ k, k ≠ 200 → k ≠ 206 → cpy (wr q 200 17 (nI A)) 209 (41 * A) 206 0 41 k = q k := fun k q1 q2 => by rw [cpy_ne q2, wr_ne q1]
      have f9 : σ 0 9 = 1 := by
        have : ¬ t = 0 := fun z => by have := hA0 (by rw [h9, if_pos z]); omega
        rw [h9, if_neg this]
      refine h.acts (fun k q1 q2 q3 q4 q5 => by rw [t0 k q2 q3, k0 k (by omega) (by omega)]) (fun j q' => by rw [cpy_ne (by omega), wr_no q', k0 _ (by omega) (by omega)]) ⟨H A, N A, t', r', hf', g2.cong (fun k q1 q2 => t0 k (by omega) (by omega)), mm.cpy, ?_⟩ ?_
      · rw [t0 _ (by omega) (by omega), k0 _ (by omega) (by omega), f9, if_neg (by omega)]
      · refine Iact.mk (A := A) (X := (X + 23) % 24) (H := H) (N := N) (by omega) hX' (fun z => ?_) ⟨?_, ?_, fun i hi => ?_⟩ ⟨?_, fun i hi => ?_⟩ (fun i hi => hW i (by omega))
        · rw [t0 _ (by omega) (by omega), k0 _ (by omega) (by omega), f9] at z
          exact absurd z (by decide)
        · rw [t0 _ (by omega) (by omega), q18, wr_at]
        · rw [t0 _ (by omega) (by omega), q18, wr_no (by omega), wr_at]
        · have := h3 i (by omega)
          rw [show ((X + 23) % 24 + 24 - A + i) % 24 = (X + 24 - (A + 1) + i) % 24 by omega]
          have lt := Nat.mod_lt (X + 24 - (A + 1) + i) (show 0 < 24 by omega)
          exact this.cong (fun k q1 q2 => by rw [t0 _ (by omega) (by omega), k0 _ (by omega) (by omega)])
        · rw [cpy_ne (by omega), wr_at]
        · exact (hM.2 i (by omega)).cong (by rw [t0 _ (by omega) (by omega), k0 _ (by omega) (by omega)])
theorem T_image {σ : Sg} (h : Inv σ) (x : Int32) : ∃ v σ1 σ2, fX_image x σ = some (v, σ1) ∧ fM_image x σ1 = some (v, σ2) ∧ Inv σ2 := by
  have hI := h
  obtain ⟨⟨w, n, t, r, hh⟩, h2, h3, h4, h5, h6, h7⟩ := hI
  obtain ⟨hf, hr, hm, h9⟩ := id hh
  rcases incase x 0 1 with ⟨c1, c2, hB⟩ | ⟨-, hB⟩
  · obtain ⟨d, hd, rfl⟩ := zrng (n := 1) (by omega) c1 c2
    rcases housed hh with ⟨a, b, c⟩ | ⟨a, b, c⟩
    · refine ⟨-1000002, σ, σ, ?_, ?_, h⟩
      · unfold fX_image; rw [(hB _).1, ob_e, i10, b, i00]
      · unfold fM_image; rw [(hB _).2, ob_e, i10, c σ (hm.at 0 (by omega)), ob_e, i00]
    · obtain ⟨q, g1, g2, g3⟩ := H_become (r0 := 188 + 6 * d) (r1 := 4) (by omega) hf.1 hr
      have k0 : ∀ k, k < 188 + 6 * d ∨ 194 + 6 * d ≤ k → k ≠ 17 → wr q 17 d 1 k = σ k := fun k q1 q2 => by rw [wr_ne q2, g3 k (by omega)]
      have m206 : wr q 17 d 1 206 = σ 206 := k0 _ (by omega) (by omega)
      have mm : Mp (wr q 17 d 1) 206 0 w := hm.cong m206
      have z2 := zin (show d < 2 by omega) (by omega)
      refine ⟨1, wr q 17 d 1, wr (cpy (wr q 17 d 1) 206 0 210 (41 * d) 41) 211 d 1, ?_, ?_, ?_⟩
      · unfold fX_image
        rw [(hB _).1, ob_e, i10, b, i10, z2, if_pos rfl, zix (by omega), g1, ob_e, ltc_e]
      · unfold fM_image
        have e : (41 : Int32) * nI d = nI (41 * d) := by rw [zlit 41, pk_mul]
        rw [(hB _).2, ob_e, i10, c _ (mm.at 0 (by omega)), ob_e, i10, e, show (0 : Int32) = nI 0 from rfl, M_copies (by omega) (by omega) (by omega) (by omega) (by omega), ob_e, z2, if_pos rfl, ltc_e, zix (by omega)]
      · generalize hτ : wr q 17 d 1 = τ at *
        have t0 : ∀ k, k ≠ 210 → k ≠ 211 → wr (cpy τ 206 0 210 (41 * d) 41) 211 d 1 k = τ k := fun k q1 q2 => by rw [wr_ne q2, cpy_ne q1]
        refine ⟨⟨w, n, t, r, hh.cong ?_ ?_ ?_⟩, h2.cong ?_ ?_ ?_ ?_, h3.cong ?_ ?_ ?_ ?_, h4.cong ?_ ?_ ?_ ?_, h5.cong ?_ ?_ ?_ ?_, fun k hk => ?_, h7.cong ?_ ?_ ?_ ?_ ?_⟩
        case refine_20 =>
          have u17 : wr (cpy τ 206 0 210 (41 * d) 41) 211 d 1 17 = upd (σ 17) d 1 := by
            rw [t0 _ (by omega) (by omega), ← hτ, wr_eq, g3 17 (by omega)]
          have u211 : wr (cpy τ 206 0 210 (41 * d) 41) 211 d 1 211 = upd (σ 211) d 1 := by
            rw [wr_eq, cpy_ne (by omega), k0 _ (by omega) (by omega)]
          have u9 : wr (cpy τ 206 0 210 (41 * d) 41) 211 d 1 0 9 = 1 := by
            rw [t0 _ (by omega) (by omega), k0 _ (by omega) (by omega)]; exact b
          rw [u17, u211, u9]
          by_cases e : k = d
          · rw [e, upd_at, upd_at]
            refine ⟨rfl, Or.inr ⟨rfl, rfl, w, n, t, r, hf, a, g2.cong (fun k' q1 q2 => ?_), ?_⟩⟩
            · rw [t0 _ (by omega) (by omega), ← hτ, wr_ne (by omega)]
            · exact (mm.cpy (r2 := 210) (b := 41 * d)).cong (by rw [wr_ne (by omega)])
          · rw [upd_no e, upd_no e]
            obtain ⟨a1, a2⟩ := h6 k hk
            refine ⟨a1, a2.imp id ?_⟩
            rintro ⟨b1, b2, w', n', t', r', b3, b4, b5, b6⟩
            refine ⟨b1, rfl, w', n', t', r', b3, b4, b5.cong (fun k' q1 q2 => ?_), fun j hj => ?_⟩
            · rw [t0 _ (by omega) (by omega), k0 _ (by omega) (by omega)]
            · rw [wr_ne (by omega), cpy_eq]
              unfold va_cpy
              rw [if_neg (by omega), k0 _ (by omega) (by omega)]
              exact b6 j hj
        all_goals first
          | (intro k q1 q2; rw [t0 k (by omega) (by omega), k0 k (by omega) (by omega)]; done)
          | (rw [t0 _ (by omega) (by omega), k0 _ (by omega) (by omega)]; done)
  · exact ⟨-1000001, σ, σ, by simp only [fX_image, (hB _).1, ob_e, ↓reduceIte], by simp only [fM_image, (hB _).2, ob_e, ↓reduceIte], h⟩
theorem T_restore {σ : Sg} (h : Inv σ) (x : Int32) : ∃ v σ1 σ2, fX_restore x σ = some (v, σ1) ∧ fM_restore x σ1 = some (v, σ2) ∧ Inv σ2 := by
  have hI := h
  obtain ⟨-, -, -, -, -, h6, hA⟩ := hI
  obtain ⟨A, X, H, N, hA24, hX24, hA0, hC, hM, hW⟩ := hA.hist
  rcases incase x 0 1 with ⟨c1, c2, hB⟩ | ⟨-, hB⟩
  · obtain ⟨d, hd, rfl⟩ := zrng (n := 1) (by omega) c1 c2
    have z2 := zin (show d < 2 by omega) (by omega)
    obtain ⟨a1, a2⟩ := h6 d (by omega)
    rcases a2 with a2 | ⟨a2, b2, w, n, t, r, hf, ht, hr, hm⟩
    · refine ⟨-1000002, σ, σ, ?_, ?_, h⟩
      · unfold fX_restore; rw [(hB _).1, ob_e, i10, z2, if_pos rfl, zix (by omega), a2, i00]
      · unfold fM_restore; rw [(hB _).2, ob_e, i10, z2, if_pos rfl, zix (by omega), ← a1, a2, i00]
    · obtain ⟨q, g1, g2, g3⟩ := H_become (r0 := 4) (r1 := 188 + 6 * d) (by omega) hf.1 hr
      have k0 : ∀ k, k < 4 ∨ 10 ≤ k → k ≠ 18 → wr q 18 2 0 k = σ k := fun k q1 q2 => by rw [wr_ne q2, g3 k (by omega)]
      have m211 : wr q 18 2 0 211 d = 1 := by rw [k0 _ (by omega) (by omega), ← a1, a2]
      have mm : Mp (wr q 18 2 0) 210 (41 * d) w := hm.cong (k0 _ (by omega) (by omega))
      refine ⟨1, wr q 18 2 0, wr (cpy (wr q 18 2 0) 210 (41 * d) 206 0 41) 200 17 0, ?_, ?_, ?_⟩
      · unfold fX_restore fA_forget
        rw [(hB _).1, ob_e, i10, z2, if_pos rfl, zix (by omega), a2, i10, g1, ob_e, ltc_e, ob_e]
      · unfold fM_restore
        have e : (41 : Int32) * nI d = nI (41 * d) := by rw [zlit 41, pk_mul]
        rw [(hB _).2, ob_e, i10, z2, if_pos rfl, zix (by omega), m211, i10, e, show (0 : Int32) = nI 0 from rfl, M_copies (by omega) (by omega) (by omega) (by omega) (by omega), ob_e, ltc_e]
      · generalize hτ : wr q 18 2 0 = τ at *
        have t0 : ∀ k, k ≠ 200 → k ≠ 206 → wr (cpy τ 210 (41 * d) 206 0 41) 200 17 0 k = τ k := fun k q1 q2 => by rw [wr_ne q1, cpy_ne q2]
        refine h.acts (fun k q1 q2 q3 q4 q5 => by rw [t0 k q2 q3, k0 k (by omega) (by omega)]) (fun j q' => by rw [wr_no q', cpy_ne (by omega), k0 _ (by omega) (by omega)]) ⟨w, n, t, r, hf, g2.cong (fun k q1 q2 => by rw [t0 k (by omega) (by omega), ← hτ, wr_ne (by omega)]), mm.cpy.cong (by rw [wr_ne (by omega)]), ?_⟩ ?_
        · rw [t0 _ (by omega) (by omega), k0 _ (by omega) (by omega), b2, if_neg (by omega)]
        · refine Iact.mk (A := 0) (X := X) (H := H) (N := N) (by omega) hX24 (fun z => rfl) ⟨?_, ?_, fun i hi => by omega⟩ ⟨?_, fun i hi => by omega⟩ (fun i hi => by omega)
          · rw [t0 _ (by omega) (by omega), ← hτ, wr_at]; rfl
          · rw [t0 _ (by omega) (by omega), ← hτ, wr_no (by omega), g3 18 (by omega)]; exact hC.2.1
          · rw [wr_at]; rfl
  · exact ⟨-1000001, σ, σ, by simp only [fX_restore, (hB _).1, ob_e, ↓reduceIte], by simp only [fM_restore, (hB _).2, ob_e, ↓reduceIte], h⟩
