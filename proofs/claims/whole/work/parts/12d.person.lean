/-! a person -/
def wP (w : Rw) (p k f a s e : Nat) : Rw := upd (upd (upd (upd (upd (upd w (5 + 6 * p) (nI k)) (6 + 6 * p) (nI f)) (7 + 6 * p) (nI a)) (8 + 6 * p) (nI s)) (9 + 6 * p) (nI e)) 4 (nI (p + 1))
def kdN (c : Nat) : Nat := if c = 99 then 1 else if c = 118 then 2 else if c = 109 then 3 else if c = 104 then 4 else if c = 101 then 5 else 0
theorem kdN_le (c : Nat) : kdN c ≤ 5 := by
  unfold kdN
  split
  · omega
  · split
    · omega
    · split
      · omega
      · split
        · omega
        · split <;> omega
theorem kdN_l {c : Nat} (h : 1 ≤ kdN c) : 97 ≤ c ∧ c ≤ 122 := by
  unfold kdN at h
  split at h
  · omega
  · split at h
    · omega
    · split at h
      · omega
      · split at h
        · omega
        · split at h <;> omega
theorem M_kd {c : Nat} (hc : c < 256) (σ : Sg) : fM_kindOf (nI c) σ = some (nI (kdN c)) := by
  have k : ∀ c, c < 256 → fM_kindOf (nI c) (fun _ _ => 0) = some (nI (kdN c)) := by decide +kernel
  exact (show fM_kindOf (nI c) σ = fM_kindOf (nI c) (fun _ _ => 0) from rfl).trans (k c hc)
theorem C_kd {c : Nat} (hc : c < 256) (σ : Sg) : fT_sort_B24 (nI c) σ = some (nI (kdN c)) := by
  have k : ∀ c, c < 256 → fT_sort_B24 (nI c) (fun _ _ => 0) = some (nI (kdN c)) := by decide +kernel
  exact (show fT_sort_B24 (nI c) σ = fT_sort_B24 (nI c) (fun _ _ => 0) from rfl).trans (k c hc)
theorem C_sort {b : Nat → Nat} {T s : Nat} {σ : Sg} (h : CT b T σ s) (hs : s < T) : fT_sort σ = some (nI (kdN (b s))) := by
  have hT := h.1
  obtain ⟨h1, h2⟩ := h.2.2.2 s hs
  unfold fT_sort
  rw [h.2.1, h.2.2.1, if_neg (nI_ge hs (by omega)), zin (by omega) (by omega), if_pos rfl, zix (by omega), h2, C_kd h1]
/-- a house that is being read: p people, none brought -/
def Hp (w : Rw) (p t : Nat) : Prop := Wf w p t 0 ∧ 1 ≤ t ∧ ∀ q, q < 6 → w (10 + 6 * q) = 0
theorem Hp.P {w : Rw} {p t k f a s e : Nat} (h : Hp w p t) (hp : p < 6) (hk1 : 1 ≤ k) (hk5 : k ≤ 5) : Hp (wP w p k f a s e) (p + 1) t := by
  obtain ⟨⟨hn, ht, hq, h0, w4, w0, w3, hb, hk⟩, h1, hz⟩ := h
  unfold wP
  refine ⟨⟨by omega, ht, by omega, fun z => by omega, upd_at _ _ _, ?_, ?_, fun i hi => ?_, fun i hi => ?_⟩, h1, fun i hi => ?_⟩
  · simp (disch := omega) only [upd_no]; exact w0
  · simp (disch := omega) only [upd_no]; exact w3
  · simp (disch := omega) only [upd_no]; exact Or.inl (hz i (by omega))
  · by_cases c : i = p
    · subst c
      refine ⟨k, hk1, hk5, ?_⟩
      simp (disch := omega) only [upd_no, upd_at]
    · simp (disch := omega) only [upd_no]; exact hk i (by omega)
  · simp (disch := omega) only [upd_no]; exact hz i hi
theorem zBn_0 {w : Rw} (hz : ∀ q, q < 6 → w (10 + 6 * q) = 0) : ∀ n, n ≤ 6 → zBn w n = 0 := by
  intro n
  unfold zBn
  induction n with
  | zero => intro _; rfl
  | succ n ih =>
    intro hn
    rw [zBs, ih (by omega), if_neg (zBr_f (by rw [hz n (by omega)]; decide))]
/-- the class's fields of a person are written one by one -/
theorem C_Rp {σ0 σ : Sg} {w : Rw} {p t k f a s e : Nat} (h : Hp w p t) (hp : p < 6) (hk1 : 1 ≤ k) (hk5 : k ≤ 5) (hr : Rp σ0 10 w p) (hg : σ0 10 11 = -2)
    (e1 : σ 11 = upd (σ0 11) p (nI k)) (e2 : σ 12 = upd (σ0 12) p (nI f)) (e3 : σ 13 = upd (σ0 13) p (nI a)) (e4 : σ 14 = upd (σ0 14) p (nI s)) (e5 : σ 15 = upd (σ0 15) p (nI e)) (e0 : σ 10 = upd (σ0 10) 5 (nI (p + 1))) : Rp σ 10 (wP w p k f a s e) (p + 1) ∧ σ 10 11 = -2 := by
  have hH := h.P (k := k) (f := f) (a := a) (s := s) (e := e) hp hk1 hk5
  obtain ⟨⟨⟨s5, s6, s7, s8, s9, s10⟩, hP⟩, -⟩ := hr
  have g11 : σ 10 11 = -2 := by rw [e0, upd_no (by omega)]; exact hg
  refine ⟨⟨⟨⟨?_, ?_, ?_, ?_, ?_, ?_⟩, fun i hi => ?_⟩, fun _ => Or.inl g11⟩, g11⟩
  · rw [e0, upd_at]; unfold wP; rw [upd_at]
  · rw [e0, upd_no (by omega), s6]; unfold wP; simp (disch := omega) only [upd_no]
  · rw [e0, upd_no (by omega), s7]; unfold wP; simp (disch := omega) only [upd_no]
  · rw [e0, upd_no (by omega), s8]; unfold wP; simp (disch := omega) only [upd_no]
  · rw [e0, upd_no (by omega), s9, zBn_0 h.2.2 p (by omega), zBn_0 hH.2.2 (p + 1) (by omega)]
  · rw [e0, upd_no (by omega), s10]; unfold wP; simp (disch := omega) only [upd_no]
  · show σ 11 i = _ ∧ σ 12 i = _ ∧ σ 13 i = _ ∧ σ 14 i = _ ∧ σ 15 i = _
    rw [e1, e2, e3, e4, e5]
    unfold wP
    by_cases c : i = p
    · subst c
      simp (disch := omega) only [upd_no, upd_at, and_self]
    · simp (disch := omega) only [upd_no]
      exact hP i (by omega)
theorem M_stop_F {σ : Sg} {s kd : Nat} (h : MF σ s kd) (x1 x2 x3 x4 x5 x6 s0 : Int32) : fM_readsPerson_B114 x1 x2 x3 x4 x5 x6 s0 σ = some σ := by
  unfold fM_readsPerson_B114
  rw [M_tak_f h, ob_e]
  dsimp only
  rw [M_well_f h, ob_e, i00]
theorem M_54_F {σ : Sg} {s kd : Nat} (h : MF σ s kd) (x1 s0 s1 s2 : Int32) : fM_readsPerson_B54 x1 s0 s1 s2 σ = some σ := by
  unfold fM_readsPerson_B54
  rw [M_fig_f h, ob_e]
  dsimp only
  rw [M_nxt_f h, ob_e]
  dsimp only
  rw [M_nxt_f h, ob_e]
  dsimp only
  rw [M_nxt_f h, ob_e]
  dsimp only
  rw [M_stop_F h, M_stop_F h, ite_self]
theorem bf0 {X : Option (Int32 × Sg)} {F : Int32 × Sg → Option (Int32 × Sg)} {σ' : Sg} (e : X = some (0, σ')) : (X.bind fun q => if q.1 = 0 then some (0, q.2) else F q) = some (0, σ') := by
  rw [e, ob_e]
  exact if_pos rfl
theorem bf1 {X : Option (Int32 × Sg)} {F : Int32 × Sg → Option (Int32 × Sg)} {σ' : Sg} (e : X = some (1, σ')) : (X.bind fun q => if q.1 = 0 then some (0, q.2) else F q) = F (1, σ') := by
  rw [e, ob_e]
  exact if_neg (show ¬ (1 : Int32) = 0 by decide)
/-- the class behind the letter of a person -/
def cP (p : Nat) (k : Int32) (t : Int32) (σ : Sg) : Option (Int32 × Sg) := (fT_takesNumber 0 t σ).bind fun q5 => if q5.1 = 0 then some (0, q5.2) else (fun q5 : Int32 × Sg => if inb (nI p) 6 = true then ltc (wr q5.2 (10 + 2) (ix (nI p)) (q5.2 2 4)) fun σ8 => (fT_takesSign 44 σ8).bind fun q9 => if q9.1 = 0 then some (0, q9.2) else (fun q9 : Int32 × Sg => (fT_takesNumber 0 (q9.2 10 6) q9.2).bind fun q11 => if q11.1 = 0 then some (0, q11.2) else (fun q11 : Int32 × Sg => ltc (wr q11.2 (10 + 3) (ix (nI p)) (q11.2 2 4)) fun σ13 => (fT_takesSign 44 σ13).bind fun q14 => if q14.1 = 0 then some (0, q14.2) else (fun q14 : Int32 × Sg => (fT_takesNumber 0 9 q14.2).bind fun q16 => if q16.1 = 0 then some (0, q16.2) else (fun q16 : Int32 × Sg => ltc (wr q16.2 (10 + 4) (ix (nI p)) (q16.2 2 4)) fun σ18 => (fT_takesSign 44 σ18).bind fun q19 => if q19.1 = 0 then some (0, q19.2) else (fun q19 : Int32 × Sg => (fT_takesNumber 0 9 q19.2).bind fun q21 => if q21.1 = 0 then some (0, q21.2) else (fun q21 : Int32 × Sg => (fT_takesSign 59 q21.2).bind fun q23 => if q23.1 = 0 then some (0, q23.2) else (fun q23 : Int32 × Sg => ltc (wr q23.2 (10 + 5) (ix (nI p)) (q23.2 2 4)) fun σ25 => ltc (wr σ25 (10 + 1) (ix (nI p)) k) fun σ26 => ltc (wr σ26 10 5 (nI p + 1)) fun σ27 => some (1, σ27)) q23) q21) q19) q16) q14) q11) q9 else none) q5
theorem C_letter {b : Nat → Nat} {T s p : Nat} {t : Int32} {σ : Sg} (h : CT b T σ s) (hs : s < T) (c6 : p < 6) (hk : 1 ≤ kdN (b s)) (h6 : σ 10 6 = t) : fT_tellsPerson (nI p) σ = cP p (nI (kdN (b s))) t (wr σ 2 2 (nI (s + 1))) := by
  have nk : ¬ nI (kdN (b s)) = 0 := nI_ne0 (by omega) (by have := kdN_le (b s); omega)
  unfold fT_tellsPerson cP
  rw [C_sort h hs, ob_e, if_neg nk, if_pos (show nI p < 6 from nI_lt (b := 6) c6 (by omega)), h.2.2.1, nI_1, ltc_e, wr_ne (show 10 ≠ 2 by omega), h6]
theorem percase2 {b : Nat → Nat} {T s p t : Nat} {w : Rw} {fk : Int32} (hs : s < T) (hH : Hp w p t) (hk : 1 ≤ kdN (b s)) :
    (∃ w' s', s' ≤ T ∧ p < 6 ∧ Hp w' (p + 1) t ∧ (∀ σ, CT b T σ s → Rp σ 10 w p → σ 10 11 = -2 → ∃ σ', fT_tellsPerson (nI p) σ = some (1, σ') ∧ CT b T σ' s' ∧ Rp σ' 10 w' (p + 1) ∧ σ' 10 11 = -2 ∧ HFr σ σ') ∧ ∀ σ, MS b T σ s fk → Mp σ 207 0 w → ∃ σ', fM_readsPerson σ = some σ' ∧ MS b T σ' s' fk ∧ Mp σ' 207 0 w' ∧ DFr σ σ') ∨
    ∃ pl kd, pl ≤ T ∧ kd ≤ 3 ∧ (∀ σ, CT b T σ s → Rp σ 10 w p → ∃ σ', fT_tellsPerson (nI p) σ = some (0, σ') ∧ CT b T σ' pl ∧ σ' 2 3 = nI kd ∧ HFr σ σ') ∧ ∀ σ, MS b T σ s fk → Mp σ 207 0 w → ∃ σ', fM_readsPerson σ = some σ' ∧ MF σ' pl kd ∧ DFr σ σ' := by
  obtain ⟨-, -, k1, -, k5⟩ := @tkN_sign b T s
  have hl := kdN_l hk
  have tk1 : tkN b T s = 1 := k1.mpr ⟨hs, hl⟩
  have hk5 := kdN_le (b s)
  have hp6 := hH.1.1
  have ht9 := hH.1.2.1
  have w4 := hH.1.2.2.2.2.1
  have w0 := hH.1.2.2.2.2.2.1
  have ek : ∀ σ, MS b T σ s fk → fM_kindOf (σ 200 12) σ = some (nI (kdN (b s))) := fun σ h => by rw [h.2.2.2.2.2.2.1 tk1, M_kd (by omega)]
  have nk : ¬ nI (kdN (b s)) = 0 := nI_ne0 (by omega) (by omega)
  by_cases c6 : p < 6
  · have i6 := zi6 c6
    have x6 := zxp c6
    have cL : ∀ σ, CT b T σ s → Rp σ 10 w p → fT_tellsPerson (nI p) σ = cP p (nI (kdN (b s))) (nI t) (wr σ 2 2 (nI (s + 1))) ∧ CT b T (wr σ 2 2 (nI (s + 1))) (s + 1) ∧ CFr σ (wr σ 2 2 (nI (s + 1))) := by
      intro σ h hr
      have f : CFr σ (wr σ 2 2 (nI (s + 1))) := CFr.wr σ (by omega)
      exact ⟨C_letter h hs c6 hk (by rw [hr.1.1.2.1, w0]), h.to f (wr_at _ _ _ _), f⟩
    have mL : ∀ σ, MS b T σ s fk → Mp σ 207 0 w → ∃ σ', fM_readsPerson σ = fM_readsPerson_B54 (nI (kdN (b s))) (nI p) 6 5 σ' ∧ MS b T σ' (s + 1) fk ∧ Mp σ' 207 0 w ∧ MFr σ σ' := by
      intro σ h hm
      obtain ⟨σ', e1, e2, e3⟩ := M_tak_1 h (by omega) (by omega) (tkX_le (by omega)) 3
      rw [tkX_1 (by omega)] at e2
      have hm' := hm.m e3
      refine ⟨σ', ?_, e2, hm', e3⟩
      have l6 : ¬ (6 : Int32) ≤ nI p := nI_ge (b := 6) c6 (by omega)
      unfold fM_readsPerson fM_readsPerson_B25
      rw [ek σ h, ob_e, hm.at 4 (by omega), w4, if_neg l6, e1, ob_e]
      dsimp only
      have z := hm'.at 4 (by omega)
      rw [w4] at z
      simp only [z, if_neg l6]
    have s1T : s + 1 ≤ T := by omega
    rcases numcase (b := b) (T := T) (fk := fk) (lo := 0) (hi := t) s1T (by omega) (by omega) with ⟨f, s1, a1, a2, a3, a4, a5⟩ | ⟨kd, a1, a4, a5⟩
    · -- behind the floor
      have cF : ∀ σ, CT b T σ s → Rp σ 10 w p → ∃ σ', fT_tellsPerson (nI p) σ = ((fT_takesSign 44 σ').bind fun q9 => if q9.1 = 0 then some (0, q9.2) else (fun q9 : Int32 × Sg => (fT_takesNumber 0 (q9.2 10 6) q9.2).bind fun q11 => if q11.1 = 0 then some (0, q11.2) else (fun q11 : Int32 × Sg => ltc (wr q11.2 (10 + 3) p (q11.2 2 4)) fun σ13 => (fT_takesSign 44 σ13).bind fun q14 => if q14.1 = 0 then some (0, q14.2) else (fun q14 : Int32 × Sg => (fT_takesNumber 0 9 q14.2).bind fun q16 => if q16.1 = 0 then some (0, q16.2) else (fun q16 : Int32 × Sg => ltc (wr q16.2 (10 + 4) p (q16.2 2 4)) fun σ18 => (fT_takesSign 44 σ18).bind fun q19 => if q19.1 = 0 then some (0, q19.2) else (fun q19 : Int32 × Sg => (fT_takesNumber 0 9 q19.2).bind fun q21 => if q21.1 = 0 then some (0, q21.2) else (fun q21 : Int32 × Sg => (fT_takesSign 59 q21.2).bind fun q23 => if q23.1 = 0 then some (0, q23.2) else (fun q23 : Int32 × Sg => ltc (wr q23.2 (10 + 5) p (q23.2 2 4)) fun σ25 => ltc (wr σ25 (10 + 1) p (nI (kdN (b s)))) fun σ26 => ltc (wr σ26 10 5 (nI p + 1)) fun σ27 => some (1, σ27)) q23) q21) q19) q16) q14) q11) q9) ∧ CT b T σ' s1 ∧ HFr σ σ' ∧ (∀ k, k ≠ 2 → k ≠ 12 → σ' k = σ k) ∧ σ' 12 = upd (σ 12) p (nI f) := by
        intro σ h hr
        obtain ⟨e1, e2, e3⟩ := cL σ h hr
        obtain ⟨σ5, e4, e5, e6, e7⟩ := a4 _ e2
        have e8 := e3.tr e7
        refine ⟨wr σ5 12 p (nI f), ?_, e5.h (HFr.wr σ5 (by omega)) (by rw [wr_ne (by omega)]), e8.h.tr (HFr.wr σ5 (by omega)), fun k q1 q2 => by rw [wr_ne q2, e8.1 k q1], by rw [wr_eq, e8.1 _ (by omega)]⟩
        rw [e1]
        unfold cP
        rw [bf1 (show fT_takesNumber 0 (nI t) _ = _ from e4), i6, if_pos rfl, x6, ltc_e]
        dsimp only
        rw [e6]
      have mF : ∀ σ, MS b T σ s fk → Mp σ 207 0 w → ∃ σ', fM_readsPerson σ = ((fM_next (nI 0) (nI t) σ').bind fun q6 => (fM_next (nI 0) (nI 9) q6.2).bind fun q7 => (fM_next (nI 0) (nI 9) q7.2).bind fun q8 => if (q8.2 200 11) = 4 then fM_readsPerson_B114 (nI (kdN (b s))) (nI (5 + 6 * p)) (nI f) q6.1 q7.1 q8.1 1 q8.2 else fM_readsPerson_B114 (nI (kdN (b s))) (nI (5 + 6 * p)) (nI f) q6.1 q7.1 q8.1 0 q8.2) ∧ MS b T σ' s1 fk ∧ Mp σ' 207 0 w ∧ MFr σ σ' := by
        intro σ h hm
        obtain ⟨σ1, e1, e2, e3, e4⟩ := mL σ h hm
        obtain ⟨σ2, e5, e6, e7⟩ := a5 σ1 e2
        have hm2 := e3.m e7
        refine ⟨σ2, ?_, e6, hm2, e4.tr e7⟩
        rw [e1]
        unfold fM_readsPerson_B54
        rw [e3.at 0 (by omega), w0, ← nI_0, e5, ob_e]
        dsimp only
        rw [hm2.at 0 (by omega), w0, show (5 : Int32) + 6 * nI p = nI (5 + 6 * p) from zp0 p]
        rfl
      rcases nxtcase (b := b) (T := T) (fk := fk) (lo := 0) (hi := t) a1 (by omega) (by omega) with ⟨wa, s2, b1, b2, b3, b4, b5⟩ | ⟨pl, kd, b1, b2, b4, b5⟩
      · rcases nxtcase (b := b) (T := T) (fk := fk) (lo := 0) (hi := 9) b1 (by omega) (by omega) with ⟨sh, s3, c1, c2, c3, c4, c5⟩ | ⟨pl, kd, c1, c2, c4, c5⟩
        · rcases nxtcase (b := b) (T := T) (fk := fk) (lo := 0) (hi := 9) c1 (by omega) (by omega) with ⟨te, s4, d1, d2, d3, d4, d5⟩ | ⟨pl, kd, d1, d2, d4, d5⟩
          · -- all numbers are there
            have cT : ∀ σ, CT b T σ s → Rp σ 10 w p → ∃ σ', fT_tellsPerson (nI p) σ = ((fT_takesSign (nI 59) σ').bind fun q23 => if q23.1 = 0 then some (0, q23.2) else (fun q23 : Int32 × Sg => ltc (wr q23.2 (10 + 5) p (q23.2 2 4)) fun σ25 => ltc (wr σ25 (10 + 1) p (nI (kdN (b s)))) fun σ26 => ltc (wr σ26 10 5 (nI p + 1)) fun σ27 => some (1, σ27)) q23) ∧ CT b T σ' s4 ∧ σ' 2 4 = nI te ∧ HFr σ σ' ∧ (∀ k, k ≠ 2 → k ≠ 12 → k ≠ 13 → k ≠ 14 → σ' k = σ k) ∧ σ' 12 = upd (σ 12) p (nI f) ∧ σ' 13 = upd (σ 13) p (nI wa) ∧ σ' 14 = upd (σ 14) p (nI sh) := by
              intro σ h hr
              obtain ⟨σ1, e1, e2, e3, e4, e5⟩ := cF σ h hr
              obtain ⟨σ2, σ3, e6, e7, e8, e9, e10, e11⟩ := b4 σ1 e2
              have t6 : σ2 10 6 = nI t := by rw [e7.1 10 (by omega), e4 10 (by omega) (by omega), hr.1.1.2.1, w0]
              have y1 : CT b T (wr σ3 13 p (nI wa)) s2 := e9.h (HFr.wr σ3 (by omega)) (by rw [wr_ne (by omega)])
              obtain ⟨σ4, σ5, e12, e13, e14, e15, e16, e17⟩ := c4 _ y1
              have y2 : CT b T (wr σ5 14 p (nI sh)) s3 := e15.h (HFr.wr σ5 (by omega)) (by rw [wr_ne (by omega)])
              obtain ⟨σ6, σ7, e18, e19, e20, e21, e22, e23⟩ := d4 _ y2
              refine ⟨σ7, ?_, e21, e22, ((((e3.tr e11.h).tr (HFr.wr σ3 (by omega))).tr e17.h).tr (HFr.wr σ5 (by omega))).tr e23.h, ?_, ?_, ?_, ?_⟩
              · rw [e1, bf1 e6]
                dsimp only
                rw [t6, bf1 (show fT_takesNumber 0 (nI t) _ = _ from e8)]
                dsimp only
                rw [ltc_e, e10, bf1 e12]
                dsimp only
                rw [bf1 (show fT_takesNumber 0 9 _ = _ from e14)]
                dsimp only
                rw [ltc_e, e16, bf1 e18]
                dsimp only
                rw [bf1 (show fT_takesNumber 0 9 _ = _ from e20)]
                rfl
              · intro k q1 q2 q3 q4
                rw [e23.1 k q1, wr_ne q4, e17.1 k q1, wr_ne q3, e11.1 k q1, e4 k q1 q2]
              · rw [e23.1 _ (by omega), wr_ne (by omega), e17.1 _ (by omega), wr_ne (by omega), e11.1 _ (by omega), e5]
              · rw [e23.1 _ (by omega), wr_ne (by omega), e17.1 _ (by omega), wr_eq, e11.1 _ (by omega), e4 _ (by omega) (by omega)]
              · rw [e23.1 _ (by omega), wr_eq, e17.1 _ (by omega), wr_ne (by omega), e11.1 _ (by omega), e4 _ (by omega) (by omega)]
            have mT : ∀ σ, MS b T σ s fk → Mp σ 207 0 w → ∃ σ', fM_readsPerson σ = (if (σ' 200 11) = 4 then fM_readsPerson_B114 (nI (kdN (b s))) (nI (5 + 6 * p)) (nI f) (nI wa) (nI sh) (nI te) 1 σ' else fM_readsPerson_B114 (nI (kdN (b s))) (nI (5 + 6 * p)) (nI f) (nI wa) (nI sh) (nI te) 0 σ') ∧ MS b T σ' s4 fk ∧ Mp σ' 207 0 w ∧ MFr σ σ' := by
              intro σ h hm
              obtain ⟨σ1, e1, e2, e3, e4⟩ := mF σ h hm
              obtain ⟨σ2, e5, e6, e7⟩ := b5 σ1 e2
              obtain ⟨σ3, e8, e9, e10⟩ := c5 σ2 e6
              obtain ⟨σ4, e11, e12, e13⟩ := d5 σ3 e9
              refine ⟨σ4, ?_, e12, ((e3.m e7).m e10).m e13, ((e4.tr e7).tr e10).tr e13⟩
              rw [e1, e5, ob_e]
              dsimp only
              rw [e8, ob_e]
              dsimp only
              rw [e11, ob_e]
            rcases sgncase (b := b) (T := T) (fk := fk) d1 (Or.inr ⟨rfl, rfl⟩) with ⟨f1, f2, f3⟩ | ⟨f2, f3⟩
            · left
              refine ⟨wP w p (kdN (b s)) f wa sh te, s4 + 1, f1, c6, hH.P c6 hk hk5, fun σ h hr hg => ?_, fun σ h hm => ?_⟩
              · obtain ⟨σ1, e1, e2, e3, e4, e5, e6, e7, e8⟩ := cT σ h hr
                obtain ⟨σ2, e9, e10, e11, e12⟩ := f2 σ1 e2
                have z : HFr σ2 (wr (wr (wr σ2 15 p (nI te)) 11 p (nI (kdN (b s)))) 10 5 (nI (p + 1))) := ((HFr.wr σ2 (by omega)).tr (HFr.wr _ (by omega))).tr (HFr.wr _ (by omega))
                obtain ⟨r1, r2⟩ := C_Rp (σ0 := σ) (σ := wr (wr (wr σ2 15 p (nI te)) 11 p (nI (kdN (b s)))) 10 5 (nI (p + 1))) (f := f) (a := wa) (s := sh) (e := te) hH c6 hk hk5 hr hg
                  (by rw [wr_ne (by omega), wr_eq, wr_ne (by omega), e12.1 _ (by omega), e5 _ (by omega) (by omega) (by omega) (by omega)])
                  (by rw [wr_ne (by omega), wr_ne (by omega), wr_ne (by omega), e12.1 _ (by omega), e6])
                  (by rw [wr_ne (by omega), wr_ne (by omega), wr_ne (by omega), e12.1 _ (by omega), e7])
                  (by rw [wr_ne (by omega), wr_ne (by omega), wr_ne (by omega), e12.1 _ (by omega), e8])
                  (by rw [wr_ne (by omega), wr_ne (by omega), wr_eq, e12.1 _ (by omega), e5 _ (by omega) (by omega) (by omega) (by omega)])
                  (by rw [wr_eq, wr_ne (by omega), wr_ne (by omega), e12.1 _ (by omega), e5 _ (by omega) (by omega) (by omega) (by omega)])
                refine ⟨_, ?_, e10.h z ?_, r1, r2, (e4.tr e12.h).tr z⟩
                · rw [e1, bf1 e9]
                  dsimp only
                  rw [ltc_e, ltc_e, ltc_e, e11, e3, nI_1]
                · rw [wr_ne (by omega), wr_ne (by omega), wr_ne (by omega)]
              · obtain ⟨σ1, e1, e2, e3, e4⟩ := mT σ h hm
                obtain ⟨t4, v, σ2, e5, e6, e7⟩ := f3 σ1 e2
                have hm2 := e3.m e7
                refine ⟨wr (wr (wr (wr (wr (wr σ2 207 (5 + 6 * p) (nI (kdN (b s)))) 207 (6 + 6 * p) (nI f)) 207 (7 + 6 * p) (nI wa)) 207 (8 + 6 * p) (nI sh)) 207 (9 + 6 * p) (nI te)) 207 4 (nI (p + 1)), ?_, e6.d.d.d.d.d.d, ?_, ((((((e4.tr e7).d.tr (DFr.wr σ2)).tr (DFr.wr _)).tr (DFr.wr _)).tr (DFr.wr _)).tr (DFr.wr _)).tr (DFr.wr _)⟩
                · rw [e1, if_pos (show σ1 200 11 = 4 from t4)]
                  unfold fM_readsPerson_B114
                  rw [e5, ob_e]
                  dsimp only
                  have g1 : nI (5 + 6 * p) + 1 = nI (6 + 6 * p) := by rw [nI_1]; congr 1; omega
                  have g2 : nI (5 + 6 * p) + 2 = nI (7 + 6 * p) := by rw [zlit 2, nI_add]; congr 1; omega
                  have g3 : nI (5 + 6 * p) + 3 = nI (8 + 6 * p) := by rw [zlit 3, nI_add]; congr 1; omega
                  have g4 : nI (5 + 6 * p) + 4 = nI (9 + 6 * p) := by rw [zlit 4, nI_add]; congr 1; omega
                  have z4 : wr (wr (wr (wr (wr σ2 207 (5 + 6 * p) (nI (kdN (b s)))) 207 (6 + 6 * p) (nI f)) 207 (7 + 6 * p) (nI wa)) 207 (8 + 6 * p) (nI sh)) 207 (9 + 6 * p) (nI te) 207 4 = nI p := by
                    simp (disch := omega) only [wr_no]
                    rw [hm2.at 4 (by omega), w4]
                  rw [M_well_t e6, ob_e, i10, g1, g2, g3, g4, zin (show 5 + 6 * p < 41 by omega) (by omega), if_pos rfl, zix (by omega), ltc_e, zin (show 6 + 6 * p < 41 by omega) (by omega), if_pos rfl, zix (by omega), ltc_e, zin (show 7 + 6 * p < 41 by omega) (by omega), if_pos rfl, zix (by omega), ltc_e, zin (show 8 + 6 * p < 41 by omega) (by omega), if_pos rfl, zix (by omega), ltc_e, zin (show 9 + 6 * p < 41 by omega) (by omega), if_pos rfl, zix (by omega), ltc_e, ltc_e, z4, nI_1]
                · exact (((((hm2.put _ _).put _ _).put _ _).put _ _).put _ _).put _ _
            · right
              refine ⟨s4, 1, d1, by omega, fun σ h hr => ?_, fun σ h hm => ?_⟩
              · obtain ⟨σ1, e1, e2, e3, e4, e5, e6, e7, e8⟩ := cT σ h hr
                obtain ⟨σ2, e9, e10, e11, e12⟩ := f2 σ1 e2
                exact ⟨σ2, by rw [e1, bf0 e9], e10, e11, e4.tr e12.h⟩
              · obtain ⟨σ1, e1, e2, e3, e4⟩ := mT σ h hm
                obtain ⟨t4, σ2, e5, e6, e7⟩ := f3 σ1 e2
                refine ⟨σ2, ?_, e6, (e4.tr e7).d⟩
                rw [e1, if_neg (show ¬ σ1 200 11 = 4 from t4)]
                unfold fM_readsPerson_B114
                rw [e5, ob_e]
                dsimp only
                rw [M_well_f e6, ob_e, i00]
          · right
            refine ⟨pl, kd, d1, d2, fun σ h hr => ?_, fun σ h hm => ?_⟩
            · obtain ⟨σ1, e1, e2, e3, e4, e5⟩ := cF σ h hr
              obtain ⟨σ2, σ3, e6, e7, e8, e9, e10, e11⟩ := b4 σ1 e2
              have t6 : σ2 10 6 = nI t := by rw [e7.1 10 (by omega), e4 10 (by omega) (by omega), hr.1.1.2.1, w0]
              have y1 : CT b T (wr σ3 13 p (nI wa)) s2 := e9.h (HFr.wr σ3 (by omega)) (by rw [wr_ne (by omega)])
              obtain ⟨σ4, σ5, e12, e13, e14, e15, e16, e17⟩ := c4 _ y1
              have y2 : CT b T (wr σ5 14 p (nI sh)) s3 := e15.h (HFr.wr σ5 (by omega)) (by rw [wr_ne (by omega)])
              have fr := (((e3.tr e11.h).tr (HFr.wr σ3 (k := 13) (j := p) (v := nI wa) (by omega))).tr e17.h).tr (HFr.wr σ5 (k := 14) (j := p) (v := nI sh) (by omega))
              rcases d4 _ y2 with ⟨σ6, e18, e19, e20, e21⟩ | ⟨σ6, σ7, e18, e19, e20, e21, e22, e23⟩
              · refine ⟨σ6, ?_, e19, e20, fr.tr e21.h⟩
                rw [e1, bf1 e6]
                dsimp only
                rw [t6, bf1 (show fT_takesNumber 0 (nI t) _ = _ from e8)]
                dsimp only
                rw [ltc_e, e10, bf1 e12]
                dsimp only
                rw [bf1 (show fT_takesNumber 0 9 _ = _ from e14)]
                dsimp only
                rw [ltc_e, e16, bf0 e18]
              · refine ⟨σ7, ?_, e21, e22, fr.tr e23.h⟩
                rw [e1, bf1 e6]
                dsimp only
                rw [t6, bf1 (show fT_takesNumber 0 (nI t) _ = _ from e8)]
                dsimp only
                rw [ltc_e, e10, bf1 e12]
                dsimp only
                rw [bf1 (show fT_takesNumber 0 9 _ = _ from e14)]
                dsimp only
                rw [ltc_e, e16, bf1 e18]
                dsimp only
                rw [bf0 (show fT_takesNumber 0 9 _ = _ from e20)]
            · obtain ⟨σ1, e1, e2, e3, e4⟩ := mF σ h hm
              obtain ⟨σ2, e5, e6, e7⟩ := b5 σ1 e2
              obtain ⟨σ3, e8, e9, e10⟩ := c5 σ2 e6
              obtain ⟨σ4, e11, e12, e13⟩ := d5 σ3 e9
              refine ⟨σ4, ?_, e12, (((e4.tr e7).tr e10).tr e13).d⟩
              rw [e1, e5, ob_e]
              dsimp only
              rw [e8, ob_e]
              dsimp only
              rw [e11, ob_e]
              dsimp only
              rw [M_stop_F e12, M_stop_F e12, ite_self]
        · right
          refine ⟨pl, kd, c1, c2, fun σ h hr => ?_, fun σ h hm => ?_⟩
          · obtain ⟨σ1, e1, e2, e3, e4, e5⟩ := cF σ h hr
            obtain ⟨σ2, σ3, e6, e7, e8, e9, e10, e11⟩ := b4 σ1 e2
            have t6 : σ2 10 6 = nI t := by rw [e7.1 10 (by omega), e4 10 (by omega) (by omega), hr.1.1.2.1, w0]
            have y1 : CT b T (wr σ3 13 p (nI wa)) s2 := e9.h (HFr.wr σ3 (by omega)) (by rw [wr_ne (by omega)])
            have fr := (e3.tr e11.h).tr (HFr.wr σ3 (k := 13) (j := p) (v := nI wa) (by omega))
            rcases c4 _ y1 with ⟨σ4, e12, e13, e14, e15⟩ | ⟨σ4, σ5, e12, e13, e14, e15, e16, e17⟩
            · refine ⟨σ4, ?_, e13, e14, fr.tr e15.h⟩
              rw [e1, bf1 e6]
              dsimp only
              rw [t6, bf1 (show fT_takesNumber 0 (nI t) _ = _ from e8)]
              dsimp only
              rw [ltc_e, e10, bf0 e12]
            · refine ⟨σ5, ?_, e15, e16, fr.tr e17.h⟩
              rw [e1, bf1 e6]
              dsimp only
              rw [t6, bf1 (show fT_takesNumber 0 (nI t) _ = _ from e8)]
              dsimp only
              rw [ltc_e, e10, bf1 e12]
              dsimp only
              rw [bf0 (show fT_takesNumber 0 9 _ = _ from e14)]
          · obtain ⟨σ1, e1, e2, e3, e4⟩ := mF σ h hm
            obtain ⟨σ2, e5, e6, e7⟩ := b5 σ1 e2
            obtain ⟨σ3, e8, e9, e10⟩ := c5 σ2 e6
            refine ⟨σ3, ?_, e9, ((e4.tr e7).tr e10).d⟩
            rw [e1, e5, ob_e]
            dsimp only
            rw [e8, ob_e]
            dsimp only
            rw [M_nxt_f e9, ob_e]
            dsimp only
            rw [M_stop_F e9, M_stop_F e9, ite_self]
      · right
        refine ⟨pl, kd, b1, b2, fun σ h hr => ?_, fun σ h hm => ?_⟩
        · obtain ⟨σ1, e1, e2, e3, e4, e5⟩ := cF σ h hr
          rcases b4 σ1 e2 with ⟨σ2, e6, e7, e8, e9⟩ | ⟨σ2, σ3, e6, e7, e8, e9, e10, e11⟩
          · exact ⟨σ2, by rw [e1, bf0 e6], e7, e8, e3.tr e9.h⟩
          · have t6 : σ2 10 6 = nI t := by rw [e7.1 10 (by omega), e4 10 (by omega) (by omega), hr.1.1.2.1, w0]
            refine ⟨σ3, ?_, e9, e10, e3.tr e11.h⟩
            rw [e1, bf1 e6]
            dsimp only
            rw [t6, bf0 (show fT_takesNumber 0 (nI t) _ = _ from e8)]
        · obtain ⟨σ1, e1, e2, e3, e4⟩ := mF σ h hm
          obtain ⟨σ2, e5, e6, e7⟩ := b5 σ1 e2
          refine ⟨σ2, ?_, e6, (e4.tr e7).d⟩
          rw [e1, e5, ob_e]
          dsimp only
          rw [M_nxt_f e6, ob_e]
          dsimp only
          rw [M_nxt_f e6, ob_e]
          dsimp only
          rw [M_stop_F e6, M_stop_F e6, ite_self]
    · right
      refine ⟨s + 1, kd, s1T, a1, fun σ h hr => ?_, fun σ h hm => ?_⟩
      · obtain ⟨e1, e2, e3⟩ := cL σ h hr
        obtain ⟨σ5, e4, e5, e6, e7⟩ := a4 _ e2
        refine ⟨σ5, ?_, e5, e6, (e3.tr e7).h⟩
        rw [e1]
        unfold cP
        rw [bf0 (show fT_takesNumber 0 (nI t) _ = _ from e4)]
      · obtain ⟨σ1, e1, e2, e3, e4⟩ := mL σ h hm
        obtain ⟨σ2, e5, e6, e7⟩ := a5 σ1 e2
        refine ⟨σ2, ?_, e6, (e4.tr e7).d⟩
        rw [e1]
        unfold fM_readsPerson_B54
        rw [e3.at 0 (by omega), w0, ← nI_0, e5, ob_e]
        dsimp only
        rw [M_nxt_f e6, ob_e]
        dsimp only
        rw [M_nxt_f e6, ob_e]
        dsimp only
        rw [M_nxt_f e6, ob_e]
        dsimp only
        rw [M_stop_F e6, M_stop_F e6, ite_self]
  · right
    obtain rfl : p = 6 := by omega
    refine ⟨s, 3, by omega, by omega, fun σ h hr => ?_, fun σ h hm => ?_⟩
    · obtain ⟨σ', e1, e2, e3, e4⟩ := C_ref h (kd := 3) 3 rfl
      refine ⟨σ', ?_, e2, e3, e4.h⟩
      unfold fT_tellsPerson
      rw [C_sort h hs, ob_e, if_neg nk, if_neg (show ¬ nI 6 < 6 by decide), e1, ob_e]
      dsimp only
      rw [isb_0, if_pos rfl]
    · obtain ⟨σ', e1, e2, e3⟩ := M_tak_0 h (kd := 3) 3 rfl
      refine ⟨σ', ?_, e2, e3.d⟩
      unfold fM_readsPerson fM_readsPerson_B25
      rw [ek σ h, ob_e, hm.at 4 (by omega), w4, if_pos (show (6 : Int32) ≤ nI 6 by decide), e1, ob_e]
      dsimp only
      rw [M_54_F e2, M_54_F e2, ite_self]
