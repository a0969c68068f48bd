/-! what holds between the class's cells and the reference's -/
def Ih (σ : Sg) (w : Rw) (n t r : Nat) : Prop := Wf w n t r ∧ Rp σ 4 w n ∧ Mp σ 206 0 w ∧ σ 0 9 = if t = 0 then 0 else 1
def Irow (σ : Sg) : Prop := ∀ i, i < 8 → ((σ (172 + 2 * i) 1 = -1 ∧ σ 201 i = -1000000) ∨ ∃ l, l < 3 ∧ σ (172 + 2 * i) 1 = nI l ∧ σ 201 i = nI l) ∧ (∃ L, L ≤ 40 ∧ σ (172 + 2 * i) 2 = nI L ∧ σ 202 i = nI L) ∧ ∀ j, j < 40 → σ (172 + 2 * i + 1) j = σ 203 (40 * i + j)
def Itape (σ : Sg) : Prop := ∃ T, T ≤ 120 ∧ σ 2 1 = nI T ∧ σ 200 6 = nI T ∧ ∀ j, j < T → σ 3 j = σ 205 j ∧ ∃ b, b < 256 ∧ σ 3 j = nI b
def Imisc (σ : Sg) : Prop := σ 0 10 = σ 200 7 ∧ σ 0 11 = σ 200 4
def Itr (σ : Sg) : Prop := ∃ T, T ≤ 16 ∧ σ 170 1 = nI T ∧ σ 200 21 = nI T ∧ ∀ j, j < T → σ 171 j = σ 212 j
def Iimg (σ : Sg) : Prop := ∀ k, k < 2 → σ 17 k = σ 211 k ∧ (σ 17 k = 0 ∨ (σ 17 k = 1 ∧ σ 0 9 = 1 ∧ ∃ w n t r, Wf w n t r ∧ 0 < t ∧ Rp σ (188 + 6 * k) w n ∧ Mp σ 210 (41 * k) w))
def Iact (σ : Sg) : Prop := ∃ A X, A ≤ 24 ∧ X < 24 ∧ σ 18 2 = nI A ∧ σ 200 17 = nI A ∧ σ 18 1 = nI X ∧ (σ 0 9 = 0 → A = 0) ∧ ∀ i, i < A → ∃ w n t r, Wf w n t r ∧ 0 < t ∧ Rp σ (20 + 6 * ((X + 24 - A + i) % 24)) w n ∧ Mp σ 209 (41 * i) w
def Inv (σ : Sg) : Prop := (∃ w n t r, Ih σ w n t r) ∧ Irow σ ∧ Itape σ ∧ Imisc σ ∧ Itr σ ∧ Iimg σ ∧ Iact σ
theorem Mp.cong {σ σ' : Sg} {k a : Nat} {w : Rw} (h : Mp σ k a w) (e : σ' k = σ k) : Mp σ' k a w := fun j hj => by rw [e]; exact h j hj
theorem Ih.cong {σ σ' : Sg} {w : Rw} {n t r : Nat} (h : Ih σ w n t r) (e9 : σ' 0 9 = σ 0 9) (e : ∀ k, 4 ≤ k → k < 10 → σ' k = σ k) (e6 : σ' 206 = σ 206) : Ih σ' w n t r := ⟨h.1, h.2.1.cong (fun k h1 h2 => e k h1 (by omega)), h.2.2.1.cong e6, by rw [e9]; exact h.2.2.2⟩
theorem Irow.cong {σ σ' : Sg} (h : Irow σ) (e : ∀ k, 172 ≤ k → k < 188 → σ' k = σ k) (e1 : σ' 201 = σ 201) (e2 : σ' 202 = σ 202) (e3 : σ' 203 = σ 203) : Irow σ' := by
  intro i hi
  rw [e (172 + 2 * i) (by omega) (by omega), e (172 + 2 * i + 1) (by omega) (by omega), e1, e2, e3]
  exact h i hi
theorem Itape.cong {σ σ' : Sg} (h : Itape σ) (e2 : σ' 2 1 = σ 2 1) (e3 : σ' 3 = σ 3) (e6 : σ' 200 6 = σ 200 6) (e5 : σ' 205 = σ 205) : Itape σ' := by
  unfold Itape
  rw [e2, e3, e6, e5]
  exact h
theorem Imisc.cong {σ σ' : Sg} (h : Imisc σ) (e1 : σ' 0 10 = σ 0 10) (e2 : σ' 0 11 = σ 0 11) (e3 : σ' 200 7 = σ 200 7) (e4 : σ' 200 4 = σ 200 4) : Imisc σ' := by
  unfold Imisc
  rw [e1, e2, e3, e4]
  exact h
theorem Itr.cong {σ σ' : Sg} (h : Itr σ) (e1 : σ' 170 = σ 170) (e2 : σ' 171 = σ 171) (e3 : σ' 212 = σ 212) (e4 : σ' 200 21 = σ 200 21) : Itr σ' := by
  unfold Itr
  rw [e1, e2, e3, e4]
  exact h
theorem Iimg.cong {σ σ' : Sg} (h : Iimg σ) (e9 : σ' 0 9 = σ 0 9) (e1 : σ' 17 = σ 17) (e2 : σ' 211 = σ 211) (e : ∀ k, 188 ≤ k → k < 200 → σ' k = σ k) (e3 : σ' 210 = σ 210) : Iimg σ' := by
  intro k hk
  obtain ⟨a, b⟩ := h k hk
  rw [e1, e2, e9]
  refine ⟨a, b.imp id ?_⟩
  rintro ⟨c, d, w, n, t, r, h1, h2, h3, h4⟩
  exact ⟨c, d, w, n, t, r, h1, h2, h3.cong (fun k' q1 q2 => e k' (by omega) (by omega)), h4.cong e3⟩
theorem Iact.cong {σ σ' : Sg} (h : Iact σ) (e9 : σ' 0 9 = σ 0 9) (e1 : σ' 18 = σ 18) (e2 : σ' 200 17 = σ 200 17) (e : ∀ k, 20 ≤ k → k < 164 → σ' k = σ k) (e3 : σ' 209 = σ 209) : Iact σ' := by
  obtain ⟨A, X, h1, h2, h3, h4, h5, h6, h7⟩ := h
  refine ⟨A, X, h1, h2, by rw [e1]; exact h3, by rw [e2]; exact h4, by rw [e1]; exact h5, by rw [e9]; exact h6, fun i hi => ?_⟩
  obtain ⟨w, n, t, r, g1, g2, g3, g4⟩ := h7 i hi
  exact ⟨w, n, t, r, g1, g2, g3.cong (fun k' q1 q2 => e k' (by omega) (by have := Nat.mod_lt (X + 24 - A + i) (show 0 < 24 by omega); omega)), g4.cong e3⟩
/-- what is only scratch may change -/
theorem Inv.keep {σ σ' : Sg} (h : Inv σ) (e : ∀ k, k < 10 ∨ 16 ≤ k → k ≠ 208 → σ' k = σ k) : Inv σ' := by
  obtain ⟨⟨w, n, t, r, h1⟩, h2, h3, h4, h5, h6, h7⟩ := h
  refine ⟨⟨w, n, t, r, h1.cong ?_ ?_ ?_⟩, h2.cong ?_ ?_ ?_ ?_, h3.cong ?_ ?_ ?_ ?_, h4.cong ?_ ?_ ?_ ?_, h5.cong ?_ ?_ ?_ ?_, h6.cong ?_ ?_ ?_ ?_ ?_, h7.cong ?_ ?_ ?_ ?_ ?_⟩
  all_goals first
    | (intro k q1 q2; exact e k (by omega) (by omega))
    | exact e _ (by omega) (by omega)
    | exact congrFun (e _ (by omega) (by omega)) _
/-! cases -/
theorem ltc_e {α β : Type} (x : α) (f : α → β) : ltc x f = f x := by
  unfold ltc
  exact Eq.refl _
theorem ob_e {α β : Type} (a : α) (f : α → Option β) : (some a).bind f = f a := by
  have h := Option.bind_some a f
  exact h
theorem n10 : ((1 : Int32) = 0) = False := eq_false (by decide)
theorem isb_1 : isb 1 = true := rfl
theorem isb_0 : isb 0 = true := rfl
theorem incase (x a b : Int32) : (¬ x < a ∧ ¬ b < x ∧ ∀ σ, fX_isWithin x a b σ = some 1 ∧ fM_in x a b σ = some 1) ∨ ((x < a ∨ b < x) ∧ ∀ σ, fX_isWithin x a b σ = some 0 ∧ fM_in x a b σ = some 0) := by
  unfold fX_isWithin fM_in
  by_cases h1 : x < a
  · right
    exact ⟨Or.inl h1, fun σ => by rw [if_pos h1]; exact ⟨rfl, rfl⟩⟩
  · by_cases h2 : b < x
    · right
      exact ⟨Or.inr h2, fun σ => by rw [if_neg h1, if_pos h2]; exact ⟨rfl, rfl⟩⟩
    · left
      exact ⟨h1, h2, fun σ => by rw [if_neg h1, if_neg h2]; exact ⟨rfl, rfl⟩⟩
theorem zrng {x : Int32} {n : Nat} (hn : n < 2 ^ 30) (h1 : ¬ x < 0) (h2 : ¬ nI n < x) : ∃ p, p ≤ n ∧ x = nI p := by
  obtain ⟨j, hj, rfl⟩ := nI_of h1
  refine ⟨j, ?_, rfl⟩
  rcases Nat.lt_or_ge n j with q | q
  · exact absurd (nI_lt q hj) h2
  · exact q
theorem rowcase (x : Int32) : (∃ i, i < 8 ∧ x = nI i ∧ ∀ σ, fX_isRow x σ = some 1 ∧ fM_isRow x σ = some 1) ∨ ∀ σ, fX_isRow x σ = some 0 ∧ fM_isRow x σ = some 0 := by
  unfold fX_isRow fM_isRow
  rcases incase x 0 7 with ⟨h1, h2, h⟩ | ⟨-, h⟩
  · obtain ⟨p, hp, rfl⟩ := zrng (n := 7) (by omega) h1 h2
    left
    exact ⟨p, by omega, rfl, fun σ => by rw [(h σ).1, (h σ).2]; exact ⟨rfl, rfl⟩⟩
  · right
    exact fun σ => by rw [(h σ).1, (h σ).2]; exact ⟨rfl, rfl⟩
theorem percase {n : Nat} (hn : n ≤ 6) (x : Int32) : (∃ p, p < n ∧ x = nI p ∧ (∀ σ : Sg, σ 4 5 = nI n → fX_isPerson x σ = some 1) ∧ ∀ σ : Sg, σ 206 4 = nI n → fM_isPerson x σ = some 1) ∨ ((∀ σ : Sg, σ 4 5 = nI n → fX_isPerson x σ = some 0) ∧ ∀ σ : Sg, σ 206 4 = nI n → fM_isPerson x σ = some 0) := by
  unfold fX_isPerson fM_isPerson
  rcases incase x 0 (nI n - 1) with ⟨h1, h2, h⟩ | ⟨-, h⟩
  · left
    cases n with
    | zero =>
      exfalso
      obtain ⟨j, hj, rfl⟩ := nI_of h1
      apply h2
      rw [Int32.lt_iff_toInt_lt, nI_toInt hj]
      have e : (nI 0 - 1).toInt = -1 := by decide +kernel
      omega
    | succ n =>
      rw [nI_pred] at h2
      obtain ⟨p, hp, rfl⟩ := zrng (by omega) h1 h2
      exact ⟨p, by omega, rfl, fun σ e => by rw [e, (h σ).1]; rfl, fun σ e => by rw [e, (h σ).2]; rfl⟩
  · right
    exact ⟨fun σ e => by rw [e, (h σ).1]; rfl, fun σ e => by rw [e, (h σ).2]; rfl⟩
