/-! the law of a house -/
/-- a row with a top and a car and nobody -/
def wL (t c : Nat) : Rw := fun j => if j = 0 then nI t else if j = 1 then nI c else 0
theorem wL_wf {t c : Nat} (ht : t ≤ 9) : Wf (wL t c) 0 t 0 := ⟨by omega, ht, by omega, fun _ => rfl, rfl, rfl, rfl, fun p hp => by omega, fun p hp => by omega⟩
theorem CFr.rp {σ σ' : Sg} {w : Rw} {n : Nat} (f : CFr σ σ') (h : Rp σ 10 w n) : Rp σ' 10 w n := h.cong (fun k q1 q2 => f.1 k (by omega))
/-- what a parse of the class may change -/
def HFr (σ σ' : Sg) : Prop := (∀ k, k ≠ 2 → k < 10 ∨ 16 ≤ k → σ' k = σ k) ∧ ∀ j, j < 2 ∨ 5 ≤ j → σ' 2 j = σ 2 j
theorem HFr.tr {a b c : Sg} (h1 : HFr a b) (h2 : HFr b c) : HFr a c := ⟨fun k q1 q2 => (h2.1 k q1 q2).trans (h1.1 k q1 q2), fun j q => (h2.2 j q).trans (h1.2 j q)⟩
theorem CFr.h {σ σ' : Sg} (f : CFr σ σ') : HFr σ σ' := ⟨fun k q _ => f.1 k q, f.2⟩
theorem HFr.wr (σ : Sg) {k j : Nat} {v : Int32} (h : 10 ≤ k ∧ k < 16) : HFr σ (wr σ k j v) := ⟨fun i q1 q2 => wr_ne (by omega), fun i q => by rw [wr_ne (by omega)]⟩
theorem CT.h {b : Nat → Nat} {T s : Nat} {σ σ' : Sg} (h : CT b T σ s) (f : HFr σ σ') (e : σ' 2 2 = σ 2 2) : CT b T σ' s := ⟨h.1, by rw [f.2 1 (by omega)]; exact h.2.1, by rw [e]; exact h.2.2.1, fun j hj => by rw [f.1 3 (by omega) (by omega)]; exact h.2.2.2 j hj⟩
theorem H_begin (t c : Nat) (σ : Sg) : ∃ σ', fH_begin 10 (nI t) (nI c) σ = some σ' ∧ Rp σ' 10 (wL t c) 0 ∧ HFr σ σ' ∧ σ' 2 = σ 2 ∧ σ' 10 11 = -2 := by
  unfold fH_begin
  rw [ltc_e, ltc_e, ltc_e, ltc_e, ltc_e, ltc_e, ltc_e]
  refine ⟨_, rfl, ⟨⟨⟨?_, ?_, ?_, ?_, ?_, ?_⟩, fun p hp => by omega⟩, fun _ => Or.inl (wr_at _ _ _ _)⟩, ?_, ?_, wr_at _ _ _ _⟩
  · simp (disch := omega) only [wr_no, wr_at]; rfl
  · simp (disch := omega) only [wr_no, wr_at]; rfl
  · simp (disch := omega) only [wr_no, wr_at]; rfl
  · simp (disch := omega) only [wr_no, wr_at]; rfl
  · simp (disch := omega) only [wr_no, wr_at]; rfl
  · simp (disch := omega) only [wr_no, wr_at]; rfl
  · exact ((((((HFr.wr σ (by omega)).tr (HFr.wr _ (by omega))).tr (HFr.wr _ (by omega))).tr (HFr.wr _ (by omega))).tr (HFr.wr _ (by omega))).tr (HFr.wr _ (by omega))).tr (HFr.wr _ (by omega))
  · simp (disch := omega) only [wr_ne]
/-- what a parse of the reference may change -/
def DFr (σ σ' : Sg) : Prop := (∀ k, k ≠ 200 → k ≠ 207 → σ' k = σ k) ∧ ∀ j, j < 7 ∨ 13 ≤ j → σ' 200 j = σ 200 j
theorem DFr.tr {a b c : Sg} (h1 : DFr a b) (h2 : DFr b c) : DFr a c := ⟨fun k q1 q2 => (h2.1 k q1 q2).trans (h1.1 k q1 q2), fun j q => (h2.2 j q).trans (h1.2 j q)⟩
theorem MFr.d {σ σ' : Sg} (f : MFr σ σ') : DFr σ σ' := ⟨fun k q _ => f.1 k q, f.2⟩
theorem DFr.wr (σ : Sg) {j : Nat} {v : Int32} : DFr σ (wr σ 207 j v) := ⟨fun i _ q2 => wr_ne q2, fun i q => by rw [wr_ne (by omega)]⟩
theorem MS.d {b : Nat → Nat} {T s j : Nat} {v fk : Int32} {σ : Sg} (h : MS b T σ s fk) : MS b T (wr σ 207 j v) s fk := by
  unfold MS MT at *
  simp (disch := omega) only [wr_ne]
  exact h
theorem MF.d {s kd j : Nat} {v : Int32} {σ : Sg} (h : MF σ s kd) : MF (wr σ 207 j v) s kd := by
  unfold MF at *
  simp (disch := omega) only [wr_ne]
  exact h
theorem Mp.m {σ σ' : Sg} {w : Rw} (h : Mp σ 207 0 w) (f : MFr σ σ') : Mp σ' 207 0 w := h.cong (f.1 _ (by omega))
/-- a fault of the reference's law: nothing is done any more -/
theorem M_law_F {σ : Sg} {s kd : Nat} (h : MF σ s kd) (x : Int32) : ∃ σ', fM_house_B107 x σ = fM_house_B165 σ' ∧ MF σ' s kd ∧ DFr σ σ' := by
  refine ⟨σ, ?_, h, ⟨fun _ _ _ => rfl, fun _ _ => rfl⟩⟩
  unfold fM_house_B107
  rw [M_tak_f h, ob_e]
  dsimp only
  show fM_house_b112 (fM_house_L112 1999) σ = _
  unfold fM_house_b112 fM_house_B144
  rw [M_well_f h, ob_e, i00, ob_e, i00]
theorem lawcase {b : Nat → Nat} {T : Nat} {fk : Int32} :
    (∃ t c s, s ≤ T ∧ 1 ≤ t ∧ t ≤ 9 ∧ (∀ σ, CT b T σ 0 → ∃ σ', fT_tellsLaw σ = some (1, σ') ∧ CT b T σ' s ∧ Rp σ' 10 (wL t c) 0 ∧ σ' 10 11 = -2 ∧ HFr σ σ') ∧ ∀ σ, MS b T σ 0 fk → Mp σ 207 0 (fun _ => 0) → ∃ x σ', (x = 1 ∧ (if (σ 200 11) = 1 then (if (σ 200 12) = 102 then fM_house_B58 1 σ else fM_house_B57 σ) else fM_house_B57 σ) = fM_house_L112 2000 σ' ∧ MS b T σ' s fk ∧ Mp σ' 207 0 (wL t c) ∧ DFr σ σ')) ∨
    ∃ pl kd, pl ≤ T ∧ kd ≤ 3 ∧ (∀ σ, CT b T σ 0 → ∃ σ', fT_tellsLaw σ = some (0, σ') ∧ CT b T σ' pl ∧ σ' 2 3 = nI kd ∧ HFr σ σ') ∧ ∀ σ, MS b T σ 0 fk → ∃ σ', (if (σ 200 11) = 1 then (if (σ 200 12) = 102 then fM_house_B58 1 σ else fM_house_B57 σ) else fM_house_B57 σ) = fM_house_B165 σ' ∧ MF σ' pl kd ∧ DFr σ σ' := by
  obtain ⟨-, -, k1, -, -⟩ := @tkN_sign b T 0
  by_cases f : 0 < T ∧ b 0 = 102
  · have tk1 : tkN b T 0 = 1 := k1.mpr ⟨f.1, by omega, by omega⟩
    have cS : ∀ σ, CT b T σ 0 → ∃ σ', fT_takesSign 102 σ = some (1, σ') ∧ CT b T σ' 1 ∧ CFr σ σ' := fun σ h => by
      obtain ⟨σ', z1, z2, -, z3⟩ := C_sgn_t h f.1 f.2
      exact ⟨σ', z1, z2, z3⟩
    have mS : ∀ σ, MS b T σ 0 fk → ∃ σ', (if (σ 200 11) = 1 then (if (σ 200 12) = 102 then fM_house_B58 1 σ else fM_house_B57 σ) else fM_house_B57 σ) = ((fM_figure (nI 1) (nI 9) σ').bind fun q10 => ltc (wr q10.2 207 0 q10.1) fun σ11 => (fM_next (nI 0) (σ11 207 0) σ11).bind fun q12 => ltc (wr q12.2 207 1 q12.1) fun σ13 => if (σ13 200 11) = 4 then fM_house_B107 1 σ13 else fM_house_B107 0 σ13) ∧ MS b T σ' 1 fk ∧ MFr σ σ' := by
      intro σ h
      obtain ⟨σ', e1, e2, e3⟩ := M_tak_1 h (by omega) (by omega) (tkX_le (by omega)) 1
      rw [tkX_1 (by omega)] at e2
      refine ⟨σ', ?_, e2, e3⟩
      rw [if_pos (by rw [h.2.2.2.2.2.1, tk1]; rfl), if_pos (by rw [h.2.2.2.2.2.2.1 tk1, f.2]; rfl)]
      unfold fM_house_B58
      rw [e1, ob_e]
      rfl
    rcases numcase (b := b) (T := T) (fk := fk) (s := 1) (lo := 1) (hi := 9) (by omega) (by omega) (by omega) with ⟨t, s1, a1, a2, a3, a4, a5⟩ | ⟨kd, a1, a4, a5⟩
    · rcases nxtcase (b := b) (fk := fk) (s := s1) (lo := 0) (hi := t) a1 (by omega) (by omega) with ⟨c, s2, b1, b2, b3, b4, b5⟩ | ⟨pl, kd, b1, b2, b4, b5⟩
      · have mid : ∀ σ, MS b T σ 0 fk → ∃ σ', (if (σ 200 11) = 1 then (if (σ 200 12) = 102 then fM_house_B58 1 σ else fM_house_B57 σ) else fM_house_B57 σ) = (if (σ' 200 11) = 4 then fM_house_B107 1 σ' else fM_house_B107 0 σ') ∧ MS b T σ' s2 fk ∧ DFr σ σ' ∧ (Mp σ 207 0 (fun _ => 0) → Mp σ' 207 0 (wL t c)) := by
          intro σ h
          obtain ⟨σ1, e1, e2, e3⟩ := mS σ h
          obtain ⟨σ2, e4, e5, e6⟩ := a5 σ1 e2
          obtain ⟨σ3, e7, e8, e9⟩ := b5 (wr σ2 207 0 (nI t)) e5.d
          refine ⟨wr σ3 207 1 (nI c), ?_, e8.d, (((e3.d.tr e6.d).tr (DFr.wr σ2)).tr e9.d).tr (DFr.wr σ3), fun hm => ?_⟩
          · rw [e1, e4, ob_e, ltc_e]
            dsimp only
            rw [wr_at, e7, ob_e, ltc_e]
          · have q := ((((hm.m e3).m e6).put 0 (nI t)).m e9).put 1 (nI c)
            refine fun j hj => (q j hj).trans ?_
            unfold upd wL
            by_cases j0 : j = 0
            · subst j0; rfl
            · by_cases j1 : j = 1
              · subst j1; rfl
              · simp only [if_neg j0, if_neg j1]
        rcases sgncase (b := b) (fk := fk) b1 (Or.inr ⟨rfl, rfl⟩) with ⟨c1, c2, c3⟩ | ⟨c2, c3⟩
        · left
          refine ⟨t, c, s2 + 1, c1, a2, a3, fun σ h => ?_, fun σ h hm => ?_⟩
          · obtain ⟨σ1, e1, e2, e3⟩ := cS σ h
            obtain ⟨σ2, e4, e5, e6, e7⟩ := a4 σ1 e2
            obtain ⟨σ3, σ4, e8, e9, e10, e11, e12, e13⟩ := b4 σ2 e5
            obtain ⟨σ5, e14, e15, n5', e16⟩ := c2 σ4 e11
            have n5 : σ5 2 4 = nI c := by rw [n5']; exact e12
            obtain ⟨σ6, e17, e18, e19, e20, e21⟩ := H_begin t c σ5
            refine ⟨σ6, ?_, e15.h e19 (by rw [e20]), e18, e21, (((e3.tr e7).tr e13).tr e16).h.tr e19⟩
            unfold fT_tellsLaw
            rw [e1, ob_e]
            dsimp only
            rw [i10, show (1 : Int32) = nI 1 from rfl, show (9 : Int32) = nI 9 from rfl, e4, ob_e]
            dsimp only
            rw [if_neg (by decide), e8, ob_e]
            dsimp only
            rw [if_neg (by decide), e6, ← nI_0, e10, ob_e]
            dsimp only
            rw [if_neg (by decide), show (59 : Int32) = nI 59 from rfl, e14, ob_e]
            dsimp only
            rw [if_neg (by decide), n5, e17, ob_e]
          · obtain ⟨σ1, e1, e2, e3, e4⟩ := mid σ h
            obtain ⟨t4, v, σ2, e5, e6, e7⟩ := c3 σ1 e2
            refine ⟨1, σ2, rfl, ?_, e6, (e4 hm).m e7, e3.tr e7.d⟩
            rw [e1, if_pos (show σ1 200 11 = 4 from t4)]
            unfold fM_house_B107
            rw [e5, ob_e]
        · right
          refine ⟨s2, 1, b1, by omega, fun σ h => ?_, fun σ h => ?_⟩
          · obtain ⟨σ1, e1, e2, e3⟩ := cS σ h
            obtain ⟨σ2, e4, e5, e6, e7⟩ := a4 σ1 e2
            obtain ⟨σ3, σ4, e8, e9, e10, e11, e12, e13⟩ := b4 σ2 e5
            obtain ⟨σ5, e14, e15, e16, e17⟩ := c2 σ4 e11
            refine ⟨σ5, ?_, e15, e16, (((e3.tr e7).tr e13).tr e17).h⟩
            unfold fT_tellsLaw
            rw [e1, ob_e]
            dsimp only
            rw [i10, show (1 : Int32) = nI 1 from rfl, show (9 : Int32) = nI 9 from rfl, e4, ob_e]
            dsimp only
            rw [if_neg (by decide), e8, ob_e]
            dsimp only
            rw [if_neg (by decide), e6, ← nI_0, e10, ob_e]
            dsimp only
            rw [if_neg (by decide), show (59 : Int32) = nI 59 from rfl, e14, ob_e]
            dsimp only
            rw [if_pos (by decide)]
          · obtain ⟨σ1, e1, e2, e3, e4⟩ := mid σ h
            obtain ⟨t4, σ2, e5, e6, e7⟩ := c3 σ1 e2
            obtain ⟨σ3, e8, e9, e10⟩ : ∃ σ', fM_house_L112 2000 σ2 = fM_house_B165 σ' ∧ MF σ' s2 1 ∧ DFr σ2 σ' := by
              obtain ⟨σ', z1, z2, z3⟩ := M_law_F e6 0
              refine ⟨σ', ?_, z2, z3⟩
              unfold fM_house_B107 at z1
              rw [M_tak_f e6, ob_e] at z1
              exact z1
            refine ⟨σ3, ?_, e9, (e3.tr e7.d).tr e10⟩
            rw [e1, if_neg (show ¬ σ1 200 11 = 4 from t4), ← e8]
            unfold fM_house_B107
            rw [e5, ob_e]
      · right
        refine ⟨pl, kd, b1, b2, fun σ h => ?_, fun σ h => ?_⟩
        · obtain ⟨σ1, e1, e2, e3⟩ := cS σ h
          obtain ⟨σ2, e4, e5, e6, e7⟩ := a4 σ1 e2
          rcases b4 σ2 e5 with ⟨σ3, e8, e9, e10, e11⟩ | ⟨σ3, σ4, e8, e9, e10, e11, e12, e13⟩
          · refine ⟨σ3, ?_, e9, e10, ((e3.tr e7).tr e11).h⟩
            unfold fT_tellsLaw
            rw [e1, ob_e]
            dsimp only
            rw [i10, show (1 : Int32) = nI 1 from rfl, show (9 : Int32) = nI 9 from rfl, e4, ob_e]
            dsimp only
            rw [if_neg (by decide), e8, ob_e]
            dsimp only
            rw [if_pos (by decide)]
          · refine ⟨σ4, ?_, e11, e12, ((e3.tr e7).tr e13).h⟩
            unfold fT_tellsLaw
            rw [e1, ob_e]
            dsimp only
            rw [i10, show (1 : Int32) = nI 1 from rfl, show (9 : Int32) = nI 9 from rfl, e4, ob_e]
            dsimp only
            rw [if_neg (by decide), e8, ob_e]
            dsimp only
            rw [if_neg (by decide), e6, ← nI_0, e10, ob_e]
            dsimp only
            rw [if_pos (by decide)]
        · obtain ⟨σ1, e1, e2, e3⟩ := mS σ h
          obtain ⟨σ2, e4, e5, e6⟩ := a5 σ1 e2
          obtain ⟨σ3, e7, e8, e9⟩ := b5 (wr σ2 207 0 (nI t)) e5.d
          have fin : ∀ x, ∃ σ', fM_house_B107 x (wr σ3 207 1 0) = fM_house_B165 σ' ∧ MF σ' pl kd ∧ DFr σ σ' := by
            intro x
            obtain ⟨σ', z1, z2, z3⟩ := M_law_F (e8.d (j := 1) (v := 0)) x
            exact ⟨σ', z1, z2, ((((e3.d.tr e6.d).tr (DFr.wr σ2)).tr e9.d).tr (DFr.wr σ3)).tr z3⟩
          rw [e1, e4, ob_e, ltc_e]
          dsimp only
          rw [wr_at, e7, ob_e, ltc_e]
          dsimp only
          by_cases q : wr σ3 207 1 0 200 11 = 4
          · rw [if_pos q]; exact fin 1
          · rw [if_neg q]; exact fin 0
    · right
      refine ⟨1, kd, by omega, a1, fun σ h => ?_, fun σ h => ?_⟩
      · obtain ⟨σ1, e1, e2, e3⟩ := cS σ h
        obtain ⟨σ2, e4, e5, e6, e7⟩ := a4 σ1 e2
        refine ⟨σ2, ?_, e5, e6, (e3.tr e7).h⟩
        unfold fT_tellsLaw
        rw [e1, ob_e]
        dsimp only
        rw [i10, show (1 : Int32) = nI 1 from rfl, show (9 : Int32) = nI 9 from rfl, e4, ob_e]
        dsimp only
        rw [if_pos (by decide)]
      · obtain ⟨σ1, e1, e2, e3⟩ := mS σ h
        obtain ⟨σ2, e4, e5, e6⟩ := a5 σ1 e2
        have f3 := (e5.d (j := 0) (v := 0))
        have fin : ∀ x, ∃ σ', fM_house_B107 x (wr (wr σ2 207 0 0) 207 1 0) = fM_house_B165 σ' ∧ MF σ' 1 kd ∧ DFr σ σ' := by
          intro x
          obtain ⟨σ', z1, z2, z3⟩ := M_law_F (f3.d (j := 1) (v := 0)) x
          exact ⟨σ', z1, z2, (((e3.d.tr e6.d).tr (DFr.wr σ2)).tr (DFr.wr _)).tr z3⟩
        rw [e1, e4, ob_e, ltc_e]
        dsimp only
        rw [M_nxt_f f3, ob_e, ltc_e]
        dsimp only
        by_cases q : wr (wr σ2 207 0 0) 207 1 0 200 11 = 4
        · rw [if_pos q]; exact fin 1
        · rw [if_neg q]; exact fin 0
  · right
    refine ⟨0, 1, by omega, by omega, fun σ h => ?_, fun σ h => ?_⟩
    · obtain ⟨σ1, e1, e2, e3, e4⟩ := C_sgn_f h (by omega) (by omega) f
      refine ⟨σ1, ?_, e2, e3, e4.h⟩
      unfold fT_tellsLaw
      rw [show (102 : Int32) = nI 102 from rfl, e1, ob_e]
      dsimp only
      rw [i00]
    · have e0 : (if (σ 200 11) = 1 then (if (σ 200 12) = 102 then fM_house_B58 1 σ else fM_house_B57 σ) else fM_house_B57 σ) = fM_house_B58 0 σ := by
        by_cases q : σ 200 11 = 1
        · rw [if_pos q, if_neg]
          · rfl
          · intro z
            have tk : tkN b T 0 = 1 := by
              rw [h.2.2.2.2.2.1] at q
              exact nI_inj (b := 1) (by have := (@tkN_sign b T 0).2.2.2.2; omega) (by omega) q
            have l := k1.mp tk
            rw [h.2.2.2.2.2.2.1 tk] at z
            exact f ⟨l.1, nI_inj (b := 102) (by omega) (by omega) z⟩
        · rw [if_neg q]; rfl
      rw [e0]
      obtain ⟨σ1, e1, e2, e3⟩ := M_tak_0 h (kd := 1) 1 rfl
      have f2 := (e2.d (j := 0) (v := 0))
      have fin : ∀ x, ∃ σ', fM_house_B107 x (wr (wr σ1 207 0 0) 207 1 0) = fM_house_B165 σ' ∧ MF σ' 0 1 ∧ DFr σ σ' := by
        intro x
        obtain ⟨σ', z1, z2, z3⟩ := M_law_F (f2.d (j := 1) (v := 0)) x
        exact ⟨σ', z1, z2, ((e3.d.tr (DFr.wr σ1)).tr (DFr.wr _)).tr z3⟩
      unfold fM_house_B58
      rw [e1, ob_e]
      dsimp only
      rw [M_fig_f e2, ob_e, ltc_e]
      dsimp only
      rw [M_nxt_f f2, ob_e, ltc_e]
      dsimp only
      by_cases q : wr (wr σ1 207 0 0) 207 1 0 200 11 = 4
      · rw [if_pos q]; exact fin 1
      · rw [if_neg q]; exact fin 0
