/-- a fault stands -/
def MF (σ : Sg) (s kd : Nat) : Prop := s ≤ 120 ∧ σ 200 8 = nI s ∧ σ 200 7 = nI kd
theorem M_well_t {b : Nat → Nat} {T s : Nat} {σ : Sg} {fk : Int32} (h : MS b T σ s fk) : fM_isWell σ = some 1 := by
  unfold fM_isWell
  rw [h.2.2.1, if_neg (by decide)]
theorem M_well_f {s kd : Nat} {σ : Sg} (h : MF σ s kd) : fM_isWell σ = some 0 := by
  unfold fM_isWell
  rw [h.2.1, if_pos (nI_pos' (by have := h.1; omega))]
theorem M_tak_f {s kd : Nat} {σ : Sg} (h : MF σ s kd) (x k : Int32) : fM_takes x k σ = some (0, σ) := by
  unfold fM_takes
  rw [M_well_f h, ob_e, i00]
theorem M_fig_f {s kd : Nat} {σ : Sg} (h : MF σ s kd) (x y : Int32) : fM_figure x y σ = some (0, σ) := by
  unfold fM_figure fM_figure_B22
  rw [M_well_f h, ob_e, i00]
  rcases incase (σ 200 12) x y with ⟨-, -, hB⟩ | ⟨-, hB⟩
  · rw [(hB σ).2, ob_e, M_tak_f h, ob_e]
  · rw [(hB σ).2, ob_e, M_tak_f h, ob_e]
theorem M_nxt_f {s kd : Nat} {σ : Sg} (h : MF σ s kd) (x y : Int32) : fM_next x y σ = some (0, σ) := by
  unfold fM_next fM_next_B14
  by_cases c : σ 200 11 = 3
  · rw [if_pos c, M_tak_f h, ob_e]
    dsimp only
    rw [M_fig_f h, ob_e]
  · rw [if_neg c, M_tak_f h, ob_e]
    dsimp only
    rw [M_fig_f h, ob_e]
theorem M_tak_0 {b : Nat → Nat} {T s : Nat} {σ : Sg} {fk : Int32} (h : MS b T σ s fk) {kd : Nat} (x : Int32) (hx : x = nI kd) : ∃ σ', fM_takes 0 x σ = some (0, σ') ∧ MF σ' s kd ∧ MFr σ σ' := by
  have hT := h.1.1
  have hs := h.2.1
  unfold fM_takes
  rw [M_well_t h, ob_e, i10, i00, ltc_e, ltc_e, h.2.2.2.2.1]
  refine ⟨_, rfl, ⟨by omega, by rw [wr_no (by omega), wr_at], by rw [wr_at, hx]⟩, (MFr.wr σ (by omega)).tr (MFr.wr _ (by omega))⟩
theorem M_tak_1 {b : Nat → Nat} {T s : Nat} {σ : Sg} {fk : Int32} (h : MS b T σ s fk) (h1 : 1 ≤ tkN b T s) (h4 : tkN b T s ≤ 4) (hx : tkX b T s ≤ T) (x : Int32) : ∃ σ', fM_takes 1 x σ = some (σ 200 12, σ') ∧ MS b T σ' (tkX b T s) fk ∧ MFr σ σ' := by
  obtain ⟨σ', e1, e2, e3⟩ := M_adv h.1 hx (h.2.2.2.2.2.2.2.2 h1 h4) h.2.2.1 h.2.2.2.1
  refine ⟨σ', ?_, e2, e3⟩
  unfold fM_takes
  rw [M_well_t h, ob_e, i10, i10, e1, ob_e]
/-! the class's own -/
def CFr (σ σ' : Sg) : Prop := (∀ k, k ≠ 2 → σ' k = σ k) ∧ ∀ j, j < 2 ∨ 5 ≤ j → σ' 2 j = σ 2 j
theorem CFr.tr {a b c : Sg} (h1 : CFr a b) (h2 : CFr b c) : CFr a c := ⟨fun k q => (h2.1 k q).trans (h1.1 k q), fun j q => (h2.2 j q).trans (h1.2 j q)⟩
theorem CFr.wr (σ : Sg) {j : Nat} {v : Int32} (h : 2 ≤ j ∧ j < 5) : CFr σ (wr σ 2 j v) := ⟨fun k q => wr_ne q, fun i q => wr_no (by omega)⟩
theorem CT.to {b : Nat → Nat} {T s s' : Nat} {σ σ' : Sg} (h : CT b T σ s) (f : CFr σ σ') (e : σ' 2 2 = nI s') : CT b T σ' s' := ⟨h.1, by rw [f.2 1 (by omega)]; exact h.2.1, e, fun j hj => by rw [f.1 3 (by omega)]; exact h.2.2.2 j hj⟩
theorem C_ref {b : Nat → Nat} {T s : Nat} {σ : Sg} (h : CT b T σ s) {kd : Nat} (x : Int32) (hx : x = nI kd) : ∃ σ', fT_refuses x σ = some (0, σ') ∧ CT b T σ' s ∧ σ' 2 3 = nI kd ∧ CFr σ σ' := by
  have f : CFr σ (wr σ 2 3 x) := CFr.wr σ (by omega)
  unfold fT_refuses
  rw [ltc_e]
  exact ⟨_, rfl, h.to f (by rw [wr_no (by omega)]; exact h.2.2.1), by rw [wr_at, hx], f⟩
theorem C_sgn_t {b : Nat → Nat} {T s c : Nat} {σ : Sg} (h : CT b T σ s) (hs : s < T) (hc : b s = c) : ∃ σ', fT_takesSign (nI c) σ = some (1, σ') ∧ CT b T σ' (s + 1) ∧ σ' 2 4 = σ 2 4 ∧ CFr σ σ' := by
  have hT := h.1
  have f : CFr σ (wr σ 2 2 (nI (s + 1))) := CFr.wr σ (by omega)
  unfold fT_takesSign
  rw [h.2.1, h.2.2.1, if_neg (nI_ge hs (by omega)), zin (by omega) (by omega), if_pos rfl, zix (by omega), (h.2.2.2 s hs).2, if_pos (by rw [hc]), ltc_e, nI_1]
  exact ⟨_, rfl, h.to f (wr_at _ _ _ _), wr_no (by omega), f⟩
theorem C_sgn_f {b : Nat → Nat} {T s c : Nat} {σ : Sg} (h : CT b T σ s) (hsT : s ≤ T) (hc256 : c < 256) (hc : ¬ (s < T ∧ b s = c)) : ∃ σ', fT_takesSign (nI c) σ = some (0, σ') ∧ CT b T σ' s ∧ σ' 2 3 = nI 1 ∧ CFr σ σ' := by
  have hT := h.1
  obtain ⟨σ', e1, e2, e3, e4⟩ := C_ref h (kd := 1) 1 rfl
  refine ⟨σ', ?_, e2, e3, e4⟩
  unfold fT_takesSign fT_takesSign_B24
  rw [e1, ob_e, h.2.1, h.2.2.1]
  dsimp only
  rw [isb_0, if_pos rfl]
  by_cases d : s < T
  · have := (h.2.2.2 s d).1
    rw [if_neg (nI_ge d (by omega)), zin (by omega) (by omega), if_pos rfl, zix (by omega), (h.2.2.2 s d).2, if_neg (fun z => hc ⟨d, nI_inj (by omega) (by omega) z⟩)]
  · rw [if_pos (nI_le (by omega) (by omega))]
theorem C_fig {b : Nat → Nat} {T s : Nat} {σ : Sg} (h : CT b T σ s) {j : Nat} (hj : j < T) : fT_isFigure (σ 3 j) σ = some (if dD b T j = true then 1 else 0) := by
  obtain ⟨h1, h2⟩ := h.2.2.2 j hj
  unfold fT_isFigure
  rw [h2]
  by_cases d : dD b T j = true
  · obtain ⟨-, d1, d2⟩ := dD_t d
    rw [if_neg (show ¬ nI (b j) < 48 from nI_nlt (b := 48) d1 (by omega)), if_neg (show ¬ (57 : Int32) < nI (b j) from nI_nlt (a := 57) d2 (by omega)), if_pos d]
  · rw [if_neg d]
    rcases dD_f d hj with q | q
    · rw [if_pos (show nI (b j) < 48 from nI_lt (b := 48) q (by omega))]
    · rw [if_neg (show ¬ nI (b j) < 48 from nI_nlt (b := 48) (by omega) (by omega)), if_pos (show (57 : Int32) < nI (b j) from nI_lt (a := 57) q (by omega))]
/-- one turn of the class's loop over figures -/
theorem C_num_t {b : Nat → Nat} {T s e k v N : Nat} {σ : Sg} (h : CT b T σ s) (hk : k < 3) (d : dD b T e = true) (x y : Int32) : fT_takesNumber_L11 (N + 1) x y (nI e) (nI v) (nI k) σ = fT_takesNumber_L11 N x y (nI (e + 1)) (nI (v * 10 + (b e - 48))) (nI (k + 1)) σ := by
  have hT := h.1
  obtain ⟨d1, d2, d3⟩ := dD_t d
  have e1 : (nI v * 10 + nI (b e)) - 48 = nI (v * 10 + (b e - 48)) := by
    rw [zlit 10, pk_mul, nI_add, zlit 48, pk_sub (by omega)]
    congr 1
    omega
  show fT_takesNumber_b11 (fT_takesNumber_L11 N) _ _ _ _ _ σ = _
  unfold fT_takesNumber_b11
  rw [if_neg (show ¬ (3 : Int32) ≤ nI k from nI_ge (b := 3) hk (by omega)), h.2.1, if_neg (nI_ge d1 (by omega)), zin (by omega) (by omega), if_pos rfl, zix (by omega), C_fig h d1, ob_e, if_pos d, i10, (h.2.2.2 e d1).2, e1, nI_1, nI_1]
theorem C_num_f {b : Nat → Nat} {T s e k v N : Nat} {σ : Sg} (h : CT b T σ s) (hk : k ≤ 3) (he : e < 2 ^ 30) (d : k = 3 ∨ ¬ dD b T e = true) (x y : Int32) : fT_takesNumber_L11 (N + 1) x y (nI e) (nI v) (nI k) σ = fT_takesNumber_B63 x y (nI e) (nI v) σ := by
  have hT := h.1
  show fT_takesNumber_b11 (fT_takesNumber_L11 N) _ _ _ _ _ σ = _
  unfold fT_takesNumber_b11
  by_cases c : k = 3
  · rw [if_pos (by rw [c]; decide)]
  · have nd := d.resolve_left c
    rw [if_neg (show ¬ (3 : Int32) ≤ nI k from nI_ge (b := 3) (by omega) (by omega)), h.2.1]
    by_cases c2 : e < T
    · rw [if_neg (nI_ge c2 (by omega)), zin (by omega) (by omega), if_pos rfl, zix (by omega), C_fig h c2, ob_e, if_neg nd, i00]
    · rw [if_pos (nI_le (by omega) (by omega))]
/-- the class reads a number at s -/
theorem C_num {b : Nat → Nat} {T s lo hi : Nat} {σ : Sg} (h : CT b T σ s) (hs : s ≤ T) (hlo : lo < 100) (hhi : hi < 100) : (tkN b T s = 2 ∧ lo ≤ tkV b T s ∧ tkV b T s ≤ hi → ∃ σ', fT_takesNumber (nI lo) (nI hi) σ = some (1, σ') ∧ CT b T σ' (tkX b T s) ∧ σ' 2 4 = nI (tkV b T s) ∧ CFr σ σ') ∧ (tkN b T s = 2 → ¬ (lo ≤ tkV b T s ∧ tkV b T s ≤ hi) → ∃ σ', fT_takesNumber (nI lo) (nI hi) σ = some (0, σ') ∧ CT b T σ' s ∧ σ' 2 3 = nI 2 ∧ CFr σ σ') ∧ (¬ tkN b T s = 2 → ∃ σ', fT_takesNumber (nI lo) (nI hi) σ = some (0, σ') ∧ CT b T σ' s ∧ σ' 2 3 = nI 1 ∧ CFr σ σ') := by
  have hT := h.1
  have key : ∃ e v, fT_takesNumber (nI lo) (nI hi) σ = fT_takesNumber_B63 (nI lo) (nI hi) (nI e) (nI v) σ ∧ e ≤ s + 3 ∧ s ≤ e ∧ v < 1000 ∧ (tkN b T s = 2 → (e = s + 1 ∨ e = s + 2) ∧ e = tkX b T s ∧ v = tkV b T s) ∧ (¬ tkN b T s = 2 → e = s ∨ e = s + 3) := by
    unfold fT_takesNumber
    rw [h.2.2.1]
    have e0 : fT_takesNumber_L11 2000 (nI lo) (nI hi) (nI s) 0 0 σ = fT_takesNumber_L11 (1999 + 1) (nI lo) (nI hi) (nI s) (nI 0) (nI 0) σ := rfl
    rw [e0]
    by_cases d0 : dD b T s = true
    · obtain ⟨a1, a2, a3⟩ := dD_t d0
      rw [C_num_t h (by omega) d0, show 1999 = 1998 + 1 from rfl]
      by_cases d1 : dD b T (s + 1) = true
      · obtain ⟨b1, b2, b3⟩ := dD_t d1
        rw [C_num_t h (by omega) d1, show 1998 = 1997 + 1 from rfl]
        by_cases d2 : dD b T (s + 1 + 1) = true
        · obtain ⟨c1, c2, c3⟩ := dD_t d2
          rw [C_num_t h (by omega) d2, show 1997 = 1996 + 1 from rfl, C_num_f h (by omega) (by omega) (Or.inl rfl)]
          have tk : tkN b T s = 5 := by
            unfold tkN
            rw [if_neg (by omega), if_pos d0, if_pos ⟨d1, d2⟩]
          exact ⟨_, _, rfl, by omega, by omega, by omega, fun z => by omega, fun _ => Or.inr rfl⟩
        · rw [C_num_f h (by omega) (by omega) (Or.inr d2)]
          have tk : tkN b T s = 2 := by
            unfold tkN
            rw [if_neg (by omega), if_pos d0, if_neg (fun z => d2 z.2)]
          refine ⟨_, _, rfl, by omega, by omega, by omega, fun _ => ⟨Or.inr rfl, ?_, ?_⟩, fun z => absurd tk z⟩
          · unfold tkX; rw [if_pos ⟨tk, d1⟩]
          · unfold tkV; rw [if_pos d1]; omega
      · rw [C_num_f h (by omega) (by omega) (Or.inr d1)]
        have tk : tkN b T s = 2 := by
          unfold tkN
          rw [if_neg (by omega), if_pos d0, if_neg (fun z => d1 z.1)]
        refine ⟨_, _, rfl, by omega, by omega, by omega, fun _ => ⟨Or.inl rfl, ?_, ?_⟩, fun z => absurd tk z⟩
        · unfold tkX; rw [if_neg (fun z => d1 z.2)]
        · unfold tkV; rw [if_neg d1]; omega
    · rw [C_num_f h (by omega) (by omega) (Or.inr d0)]
      have tk : ¬ tkN b T s = 2 := by
        unfold tkN
        split
        · omega
        · split
          · omega
          · split
            · omega
            · split <;> omega
      exact ⟨_, _, rfl, by omega, by omega, by omega, fun z => absurd z tk, fun _ => Or.inl rfl⟩
  obtain ⟨e, v, e1, he, hse, hv, k2, k3⟩ := key
  obtain ⟨r1, p1, p2, p3, p4⟩ := C_ref h (kd := 1) 1 rfl
  obtain ⟨r2, q1, q2, q3, q4⟩ := C_ref h (kd := 2) 2 rfl
  rw [e1]
  unfold fT_takesNumber_B63 fT_takesNumber_B81 fT_takesNumber_B99
  rw [p1, ob_e, q1, ob_e, h.2.2.1]
  dsimp only
  rw [isb_0, if_pos rfl, if_pos rfl]
  have ne : e ≠ s → ¬ nI e = nI s := fun z y => z (nI_inj (by omega) (by omega) y)
  refine ⟨?_, ?_, ?_⟩
  · rintro ⟨t2, t3, t4⟩
    obtain ⟨k4, k5, k6⟩ := k2 t2
    subst k6
    rw [if_neg (ne (by omega)), pk_sub hse, if_pos (show nI (e - s) ≤ 2 from nI_le (b := 2) (by omega) (by omega)), if_neg (nI_nlt t3 (by omega)), if_pos (nI_le t4 (by omega)), ltc_e, ltc_e, ← k5]
    have f : CFr σ (wr (wr σ 2 2 (nI e)) 2 4 (nI (tkV b T s))) := (CFr.wr σ (by omega)).tr (CFr.wr _ (by omega))
    exact ⟨_, rfl, h.to f (by rw [wr_no (by omega), wr_at]), wr_at _ _ _ _, f⟩
  · intro t2 t3
    obtain ⟨k4, k5, k6⟩ := k2 t2
    subst k6
    rw [if_neg (ne (by omega)), pk_sub hse, if_pos (show nI (e - s) ≤ 2 from nI_le (b := 2) (by omega) (by omega))]
    refine ⟨r2, ?_, q2, q3, q4⟩
    by_cases c : tkV b T s < lo
    · rw [if_pos (nI_lt c (by omega))]
    · rw [if_neg (nI_nlt (by omega) (by omega)), if_neg (nI_ge (by omega) (by omega))]
  · intro t2
    refine ⟨r1, ?_, p2, p3, p4⟩
    rcases k3 t2 with z | z
    · rw [if_pos (by rw [z])]
    · rw [if_neg (ne (by omega)), pk_sub hse, if_neg (show ¬ nI (e - s) ≤ 2 from nI_ge (a := 2) (by omega) (by omega))]
theorem tkX_le {b : Nat → Nat} {T s : Nat} (h1 : 1 ≤ tkN b T s) : tkX b T s ≤ T := by
  have hs : s < T := by
    rcases Nat.lt_or_ge s T with q | q
    · exact q
    · unfold tkN at h1
      rw [if_pos q] at h1
      omega
  unfold tkX
  split
  · rename_i c
    have := (dD_t c.2).1
    omega
  · omega
/-- a number, in both -/
theorem numcase {b : Nat → Nat} {T s lo hi : Nat} {fk : Int32} (hs : s ≤ T) (hlo : lo < 100) (hhi : hi < 100) :
    (∃ v s', s' ≤ T ∧ lo ≤ v ∧ v ≤ hi ∧ (∀ σ, CT b T σ s → ∃ σ', fT_takesNumber (nI lo) (nI hi) σ = some (1, σ') ∧ CT b T σ' s' ∧ σ' 2 4 = nI v ∧ CFr σ σ') ∧ ∀ σ, MS b T σ s fk → ∃ σ', fM_figure (nI lo) (nI hi) σ = some (nI v, σ') ∧ MS b T σ' s' fk ∧ MFr σ σ') ∨
    ∃ kd, kd ≤ 3 ∧ (∀ σ, CT b T σ s → ∃ σ', fT_takesNumber (nI lo) (nI hi) σ = some (0, σ') ∧ CT b T σ' s ∧ σ' 2 3 = nI kd ∧ CFr σ σ') ∧ ∀ σ, MS b T σ s fk → ∃ σ', fM_figure (nI lo) (nI hi) σ = some (0, σ') ∧ MF σ' s kd ∧ MFr σ σ' := by
  have n2 : ∀ {σ : Sg}, MS b T σ s fk → (σ 200 11 = 2 ↔ tkN b T s = 2) := by
    intro σ h
    rw [h.2.2.2.2.2.1]
    have : tkN b T s ≤ 5 := by
      unfold tkN
      split
      · omega
      · split
        · split <;> omega
        · split
          · omega
          · split
            · omega
            · split <;> omega
    exact nI_eq (b := 2) (by omega) (by omega)
  by_cases t2 : tkN b T s = 2
  · by_cases t3 : lo ≤ tkV b T s ∧ tkV b T s ≤ hi
    · left
      refine ⟨tkV b T s, tkX b T s, tkX_le (by omega), t3.1, t3.2, fun σ h => (C_num h hs hlo hhi).1 ⟨t2, t3⟩, fun σ h => ?_⟩
      obtain ⟨σ', e1, e2, e3⟩ := M_tak_1 h (by omega) (by omega) (tkX_le (by omega)) 2
      refine ⟨σ', ?_, e2, e3⟩
      have v12 := h.2.2.2.2.2.2.2.1 t2
      unfold fM_figure fM_figure_B22
      rw [M_well_t h, ob_e, i10, if_pos ((n2 h).mpr t2)]
      have : fM_in (σ 200 12) (nI lo) (nI hi) σ = some 1 := by
        unfold fM_in
        rw [v12, if_neg (nI_nlt t3.1 (by omega)), if_neg (nI_nlt t3.2 (by omega))]
      rw [this, ob_e, e1, ob_id, v12]
    · right
      refine ⟨2, by omega, fun σ h => (C_num h hs hlo hhi).2.1 t2 t3, fun σ h => ?_⟩
      obtain ⟨σ', e1, e2, e3⟩ := M_tak_0 h (kd := 2) 2 rfl
      refine ⟨σ', ?_, e2, e3⟩
      have v12 := h.2.2.2.2.2.2.2.1 t2
      have vb : tkV b T s < 2 ^ 30 := by
        unfold tkV
        have t2' := t2
        unfold tkN at t2'
        split at t2'
        · omega
        · rename_i c
          have h1 := (h.1.2.2 s (by omega)).1
          split
          · rename_i d
            have h2 := (h.1.2.2 (s + 1) (dD_t d).1).1
            omega
          · omega
      unfold fM_figure fM_figure_B22
      rw [M_well_t h, ob_e, i10, if_pos ((n2 h).mpr t2)]
      have : fM_in (σ 200 12) (nI lo) (nI hi) σ = some 0 := by
        unfold fM_in
        rw [v12]
        by_cases c : tkV b T s < lo
        · rw [if_pos (nI_lt c (by omega))]
        · rw [if_neg (nI_nlt (by omega) (by omega)), if_pos (nI_lt (by omega) (by omega))]
      rw [this, ob_e, e1, ob_e]
  · right
    refine ⟨1, by omega, fun σ h => (C_num h hs hlo hhi).2.2 t2, fun σ h => ?_⟩
    obtain ⟨σ', e1, e2, e3⟩ := M_tak_0 h (kd := 1) 1 rfl
    refine ⟨σ', ?_, e2, e3⟩
    unfold fM_figure
    rw [M_well_t h, ob_e, i10, if_neg (fun z => t2 ((n2 h).mp z)), e1, ob_e]
theorem tkN_sign {b : Nat → Nat} {T s : Nat} : (tkN b T s = 3 ↔ s < T ∧ b s = 44) ∧ (tkN b T s = 4 ↔ s < T ∧ b s = 59) ∧ (tkN b T s = 1 ↔ s < T ∧ 97 ≤ b s ∧ b s ≤ 122) ∧ (tkN b T s = 0 ↔ T ≤ s) ∧ tkN b T s ≤ 5 := by
  unfold tkN
  by_cases c : T ≤ s
  · rw [if_pos c]; omega
  · rw [if_neg c]
    by_cases d : dD b T s = true
    · have := dD_t d
      rw [if_pos d]
      split <;> omega
    · rw [if_neg d]
      split
      · omega
      · split
        · omega
        · split <;> omega
theorem tkX_1 {b : Nat → Nat} {T s : Nat} (h : ¬ tkN b T s = 2) : tkX b T s = s + 1 := by
  unfold tkX
  rw [if_neg (fun z => h z.1)]
/-- a sign, in both; c: 44 is the token 3, 59 the token 4 -/
theorem sgncase {b : Nat → Nat} {T s c k : Nat} {fk : Int32} (hs : s ≤ T) (hc : (c = 44 ∧ k = 3) ∨ (c = 59 ∧ k = 4)) :
    (s + 1 ≤ T ∧ (∀ σ, CT b T σ s → ∃ σ', fT_takesSign (nI c) σ = some (1, σ') ∧ CT b T σ' (s + 1) ∧ σ' 2 4 = σ 2 4 ∧ CFr σ σ') ∧ ∀ σ, MS b T σ s fk → σ 200 11 = nI k ∧ ∃ v σ', fM_takes 1 1 σ = some (v, σ') ∧ MS b T σ' (s + 1) fk ∧ MFr σ σ') ∨
    ((∀ σ, CT b T σ s → ∃ σ', fT_takesSign (nI c) σ = some (0, σ') ∧ CT b T σ' s ∧ σ' 2 3 = nI 1 ∧ CFr σ σ') ∧ ∀ σ, MS b T σ s fk → ¬ σ 200 11 = nI k ∧ ∃ σ', fM_takes 0 1 σ = some (0, σ') ∧ MF σ' s 1 ∧ MFr σ σ') := by
  obtain ⟨k3, k4, -, -, k5⟩ := @tkN_sign b T s
  by_cases d : s < T ∧ b s = c
  · left
    have tk : tkN b T s = k := by
      rcases hc with ⟨h1, h2⟩ | ⟨h1, h2⟩
      · rw [h2]; exact k3.mpr (by rw [← h1]; exact d)
      · rw [h2]; exact k4.mpr (by rw [← h1]; exact d)
    refine ⟨by omega, fun σ h => C_sgn_t h d.1 d.2, fun σ h => ⟨by rw [h.2.2.2.2.2.1, tk], ?_⟩⟩
    obtain ⟨σ', e1, e2, e3⟩ := M_tak_1 h (by omega) (by omega) (tkX_le (by omega)) 1
    rw [tkX_1 (by omega)] at e2
    exact ⟨_, σ', e1, e2, e3⟩
  · right
    have tk : ¬ tkN b T s = k := by
      intro z
      rcases hc with ⟨h1, h2⟩ | ⟨h1, h2⟩
      · rw [h2] at z; exact d (by rw [h1]; exact k3.mp z)
      · rw [h2] at z; exact d (by rw [h1]; exact k4.mp z)
    refine ⟨fun σ h => C_sgn_f h hs (by omega) d, fun σ h => ⟨?_, M_tak_0 h (kd := 1) 1 rfl⟩⟩
    rw [h.2.2.2.2.2.1]
    exact fun z => tk (nI_inj (by omega) (by omega) z)
/-- a comma and a number, in both -/
theorem nxtcase {b : Nat → Nat} {T s lo hi : Nat} {fk : Int32} (hs : s ≤ T) (hlo : lo < 100) (hhi : hi < 100) :
    (∃ v s', s' ≤ T ∧ lo ≤ v ∧ v ≤ hi ∧ (∀ σ, CT b T σ s → ∃ σ1 σ', fT_takesSign 44 σ = some (1, σ1) ∧ CFr σ σ1 ∧ fT_takesNumber (nI lo) (nI hi) σ1 = some (1, σ') ∧ CT b T σ' s' ∧ σ' 2 4 = nI v ∧ CFr σ σ') ∧ ∀ σ, MS b T σ s fk → ∃ σ', fM_next (nI lo) (nI hi) σ = some (nI v, σ') ∧ MS b T σ' s' fk ∧ MFr σ σ') ∨
    ∃ pl kd, pl ≤ T ∧ kd ≤ 3 ∧ (∀ σ, CT b T σ s → (∃ σ', fT_takesSign 44 σ = some (0, σ') ∧ CT b T σ' pl ∧ σ' 2 3 = nI kd ∧ CFr σ σ') ∨ ∃ σ1 σ', fT_takesSign 44 σ = some (1, σ1) ∧ CFr σ σ1 ∧ fT_takesNumber (nI lo) (nI hi) σ1 = some (0, σ') ∧ CT b T σ' pl ∧ σ' 2 3 = nI kd ∧ CFr σ σ') ∧ ∀ σ, MS b T σ s fk → ∃ σ', fM_next (nI lo) (nI hi) σ = some (0, σ') ∧ MF σ' pl kd ∧ MFr σ σ' := by
  rcases sgncase (b := b) (fk := fk) hs (Or.inl ⟨rfl, rfl⟩) with ⟨h1, h2, h3⟩ | ⟨h2, h3⟩
  · rcases numcase (b := b) (fk := fk) h1 hlo hhi with ⟨v, s', n1, n2, n3, n4, n5⟩ | ⟨kd, n1, n4, n5⟩
    · left
      refine ⟨v, s', n1, n2, n3, fun σ h => ?_, fun σ h => ?_⟩
      · obtain ⟨σ1, e1, e2, -, e3⟩ := h2 σ h
        obtain ⟨σ', e4, e5, e6, e7⟩ := n4 σ1 e2
        exact ⟨σ1, σ', e1, e3, e4, e5, e6, e3.tr e7⟩
      · obtain ⟨t, v', σ1, e1, e2, e3⟩ := h3 σ h
        obtain ⟨σ', e4, e5, e6⟩ := n5 σ1 e2
        refine ⟨σ', ?_, e5, e3.tr e6⟩
        unfold fM_next fM_next_B14
        rw [if_pos (show σ 200 11 = 3 from t), e1, ob_e]
        dsimp only
        rw [e4, ob_e]
    · right
      refine ⟨s + 1, kd, h1, n1, fun σ h => Or.inr ?_, fun σ h => ?_⟩
      · obtain ⟨σ1, e1, e2, -, e3⟩ := h2 σ h
        obtain ⟨σ', e4, e5, e6, e7⟩ := n4 σ1 e2
        exact ⟨σ1, σ', e1, e3, e4, e5, e6, e3.tr e7⟩
      · obtain ⟨t, v', σ1, e1, e2, e3⟩ := h3 σ h
        obtain ⟨σ', e4, e5, e6⟩ := n5 σ1 e2
        refine ⟨σ', ?_, e5, e3.tr e6⟩
        unfold fM_next fM_next_B14
        rw [if_pos (show σ 200 11 = 3 from t), e1, ob_e]
        dsimp only
        rw [e4, ob_e]
  · right
    refine ⟨s, 1, hs, by omega, fun σ h => Or.inl (h2 σ h), fun σ h => ?_⟩
    obtain ⟨t, σ1, e1, e2, e3⟩ := h3 σ h
    refine ⟨σ1, ?_, e2, e3⟩
    unfold fM_next fM_next_B14
    rw [if_neg (show ¬ σ 200 11 = 3 from t), e1, ob_e]
    dsimp only
    rw [M_fig_f e2, ob_e]
