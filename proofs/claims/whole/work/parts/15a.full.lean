/-! all is made: every reference stands, and the ints are those of the beginning -/
theorem arrV_cong {cA : ClassId} {n : Nat} {f g : Nat → Value} (h : ∀ j, j < n → f j = g j) : arrV cA n f = arrV cA n g := by
  unfold arrV
  have e : (fun j : Fin n => f j.val) = fun j : Fin n => g j.val := by
    funext j
    exact h j.val j.isLt
  rw [e]
def lim (k : Nat) : Nat := if (shp k).1 < 20 then nf (shp k).1 else (shp k).2
theorem wd_full {G : Gx} {μ : Mu} {H : Heap} (hn : μ.1 = 213) (hf : ∀ k, k < 213 → ∀ j, j < lim k → (rfs k j).isSome = true → μ.2.1 k j = true) (hP : va_P (gD G) vwCl (wd G μ) H) : va_P (gD G) vwCl (wd G (full μ.2.2)) H := by
  intro k q hq
  have hk : k < 213 := by
    have h := (List.getElem?_eq_some_iff.mp hq).1
    rw [wd_len] at h
    exact h
  rw [wd_at (μ := full μ.2.2) hk] at hq
  cases hq
  have h0 := hP k _ (wd_at (by rw [hn]; exact hk))
  have hfk := hf k hk
  unfold lim at hfk
  by_cases h20 : (shp k).1 < 20
  · rw [if_pos h20] at hfk
    rw [ent_obj rfl h20] at h0 ⊢
    have e : (List.range (nf (shp k).1)).map (fv (gb G) (full μ.2.2) k) = (List.range (nf (shp k).1)).map (fv (gb G) μ k) := by
      apply List.map_congr_left
      intro j hj
      have hj2 := List.mem_range.mp hj
      unfold fv
      cases hr : rfs k j with
      | none => rfl
      | some t =>
        have := hfk j hj2 (by rw [hr]; rfl)
        show (if true = true then _ else _) = if μ.2.1 k j = true then _ else _
        rw [this]
    rw [e]
    exact h0
  · rw [if_neg h20] at hfk
    by_cases h22 : (shp k).1 < 22
    · rw [ent_arr (n := (shp k).2) rfl h20 h22] at h0 ⊢
      exact h0
    · rw [ent_ref (n := (shp k).2) rfl h20 h22] at h0 ⊢
      have h1 : H[gb G + k]? = some (vp_cell _ _) := h0
      show H[gb G + k]? = some (vp_cell _ _)
      rw [h1, vp_cell_q, vp_cell_q]
      refine congrArg some (arrV_cong fun j hj => ?_)
      show va_rf (if μ.2.1 k j = true then _ else none) = va_rf (if true = true then _ else none)
      rw [if_pos rfl]
      cases hr : rfs k j with
      | none => 
        split <;> rfl
      | some t => rw [if_pos (hfk j hj (by rw [hr]; rfl))]
theorem t13_fl : ((List.range 213).all fun k => (List.range 24).all fun j => !((rfs k j).isSome && decide (j < lim k)) || t13.2.1 k j) = true := by decide +kernel
theorem rfs_24 : ((List.range 213).all fun k => decide (lim k ≤ 24) || decide ((shp k).1 = 20)) = true := by decide +kernel
theorem rfs_no {k j : Nat} (h : (shp k).1 = 20) (hk : k < 213) : rfs k j = none := by
  have e : ((List.range 213).all fun k => !(decide ((shp k).1 = 20)) || !(k == 0 || k == 1 || k == 2 || k == 16 || k == 18 || k == 19 || k == 164 || k == 170 || k == 200)) = true := by decide +kernel
  have e2 := List.all_eq_true.mp e k (List.mem_range.mpr hk)
  simp only [h, decide_true, Bool.not_true, Bool.false_or, Bool.not_eq_true', Bool.or_eq_false_iff, beq_eq_false_iff_ne] at e2
  obtain ⟨⟨⟨⟨⟨⟨⟨⟨a0, a1⟩, a2⟩, a3⟩, a4⟩, a5⟩, a6⟩, a7⟩, a8⟩ := e2
  unfold rfs
  rw [if_neg a0, if_neg a1, if_neg a2, if_neg a3, if_neg a4, if_neg a5, if_neg a6, if_neg a7, if_neg a8, if_neg (by rw [h]; decide), if_neg (by rw [h]; decide)]
theorem t13_f : ∀ k, k < 213 → ∀ j, j < lim k → (rfs k j).isSome = true → t13.2.1 k j = true := by
  intro k hk j hj hr
  have h24 := List.all_eq_true.mp rfs_24 k (List.mem_range.mpr hk)
  rcases Bool.or_eq_true_iff.mp h24 with h | h
  · have h1 := List.all_eq_true.mp (List.all_eq_true.mp t13_fl k (List.mem_range.mpr hk)) j (List.mem_range.mpr (Nat.lt_of_lt_of_le hj (of_decide_eq_true h)))
    simpa [hr, hj] using h1
  · rw [rfs_no (of_decide_eq_true h) hk] at hr
    cases hr
theorem t13_n : t13.1 = 213 := by
  unfold t13
  rw [mLn_1, nt12]
