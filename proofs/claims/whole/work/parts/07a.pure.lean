/-! pure rows: cells as functions, numbers -/
def zsc (σ : Sg) (k : Nat) (f : Nat → Int32) : Sg := fun a => if a = k then f else σ a
theorem zsc_s (σ : Sg) (k : Nat) (f : Nat → Int32) : zsc σ k f k = f := if_pos rfl
theorem zsc_n {σ : Sg} {k a : Nat} {f : Nat → Int32} (h : a ≠ k) : zsc σ k f a = σ a := if_neg h
theorem zsc_t (σ : Sg) (k : Nat) (f g : Nat → Int32) : zsc (zsc σ k f) k g = zsc σ k g := by
  funext a
  by_cases h : a = k
  · rw [h, zsc_s, zsc_s]
  · rw [zsc_n h, zsc_n h, zsc_n h]
theorem zwr (σ : Sg) (k j : Nat) (v : Int32) : wr σ k j v = zsc σ k (upd (σ k) j v) := by
  funext a
  by_cases h : a = k
  · subst h; rw [zsc_s, wr_eq]
  · rw [zsc_n h, wr_ne h]
theorem zcpy (σ : Sg) (a sp b dp n : Nat) : cpy σ a sp b dp n = zsc σ b (va_cpy (σ a) (σ b) sp dp n) := by
  funext k
  by_cases h : k = b
  · subst h; rw [zsc_s, cpy_eq]
  · rw [zsc_n h, cpy_ne h]
theorem wr_at (σ : Sg) (k j : Nat) (v : Int32) : wr σ k j v k j = v := by simp [wr]
theorem wr_no {σ : Sg} {k j b : Nat} {v : Int32} (h : b ≠ j) : wr σ k j v k b = σ k b := by simp [wr, h]
theorem upd_at (f : Nat → Int32) (j : Nat) (v : Int32) : upd f j v j = v := by simp [upd]
theorem upd_no {f : Nat → Int32} {j b : Nat} {v : Int32} (h : b ≠ j) : upd f j v b = f b := by simp [upd, h]
theorem zin {i n : Nat} (h : i < n) (hn : n < 2 ^ 31) : inb (nI i) n = true := by
  unfold inb
  rw [nI_clamp (by omega)]
  have h1 : ¬ nI i < 0 := nI_pos (by omega)
  simp [h1, h]
theorem zix {i : Nat} (h : i < 2 ^ 31) : ix (nI i) = i := nI_clamp h
theorem zlit (n : Nat) : (OfNat.ofNat n : Int32) = nI n := rfl
theorem zp0 (p : Nat) : 5 + 6 * nI p = nI (5 + 6 * p) := by
  rw [zlit 5, zlit 6, pk_mul, nI_add]
theorem zpc (p c : Nat) : 5 + 6 * nI p + nI c = nI (5 + 6 * p + c) := by
  rw [zp0, nI_add]
theorem zx {p c : Nat} (hp : p < 6) (hc : c < 6) : ix (5 + 6 * nI p + nI c) = 5 + 6 * p + c := by
  rw [zpc, zix (by omega)]
theorem zb {p c : Nat} (hp : p < 6) (hc : c < 6) : inb (5 + 6 * nI p + nI c) 41 = true := by
  rw [zpc, zin (by omega) (by omega)]
theorem zx0 {p : Nat} (hp : p < 6) : ix (5 + 6 * nI p) = 5 + 6 * p := by rw [zp0, zix (by omega)]
theorem zb0 {p : Nat} (hp : p < 6) : inb (5 + 6 * nI p) 41 = true := by rw [zp0, zin (by omega) (by omega)]
theorem zx1 {p : Nat} (hp : p < 6) : ix (5 + 6 * nI p + 1) = 6 + 6 * p := by rw [zlit 1, zx hp (by omega)]; omega
theorem zb1 {p : Nat} (hp : p < 6) : inb (5 + 6 * nI p + 1) 41 = true := zb (c := 1) hp (by omega)
theorem zx2 {p : Nat} (hp : p < 6) : ix (5 + 6 * nI p + 2) = 7 + 6 * p := by rw [zlit 2, zx hp (by omega)]; omega
theorem zb2 {p : Nat} (hp : p < 6) : inb (5 + 6 * nI p + 2) 41 = true := zb (c := 2) hp (by omega)
theorem zx3 {p : Nat} (hp : p < 6) : ix (5 + 6 * nI p + 3) = 8 + 6 * p := by rw [zlit 3, zx hp (by omega)]; omega
theorem zb3 {p : Nat} (hp : p < 6) : inb (5 + 6 * nI p + 3) 41 = true := zb (c := 3) hp (by omega)
theorem zx4 {p : Nat} (hp : p < 6) : ix (5 + 6 * nI p + 4) = 9 + 6 * p := by rw [zlit 4, zx hp (by omega)]; omega
theorem zb4 {p : Nat} (hp : p < 6) : inb (5 + 6 * nI p + 4) 41 = true := zb (c := 4) hp (by omega)
theorem zx5 {p : Nat} (hp : p < 6) : ix (5 + 6 * nI p + 5) = 10 + 6 * p := (zx (c := 5) hp (by omega)).trans (by omega)
theorem zb5 {p : Nat} (hp : p < 6) : inb (5 + 6 * nI p + 5) 41 = true := zb (c := 5) hp (by omega)
theorem zi6 {p : Nat} (hp : p < 6) : inb (nI p) 6 = true := zin hp (by omega)
theorem zxp {p : Nat} (hp : p < 6) : ix (nI p) = p := zix (by omega)
/-! a house as a row of 41 numbers: 0 top, 1 car, 2 step, 3 rides, 4 people, then 6 for each: kind, floor, wants, shows, temper, brought -/
abbrev Rw : Type := Nat → Int32
def zMore (w : Rw) (a b : Nat) : Int32 := if w (8 + 6 * b) ≤ w (8 + 6 * a) then 0 else w (8 + 6 * b) - w (8 + 6 * a)
def zRank (w : Rw) (a b : Nat) : Int32 := if w (8 + 6 * b) ≤ 0 then 0 else w (9 + 6 * a)
def zMnd (w : Rw) (a b : Nat) : Int32 :=
  if w (5 + 6 * a) = 1 then zMore w a b else if w (5 + 6 * a) = 2 then 2 * zMore w a b
  else if w (5 + 6 * a) = 3 then (if zMore w a b ≤ w (9 + 6 * a) then 0 else zMore w a b - w (9 + 6 * a))
  else if w (5 + 6 * a) = 4 then zRank w a b else if w (7 + 6 * a) = w (7 + 6 * b) then 9 else zRank w a b
/-- does o mind p here -/
def zMs (w : Rw) (p o : Nat) : Prop := o ≠ p ∧ w 3 ≠ nI (p + 1) ∧ w 3 ≠ nI (o + 1) ∧ w (6 + 6 * o) = w (6 + 6 * p)
theorem zMs_dec (w : Rw) (p o : Nat) : zMs w p o ∨ ¬ zMs w p o := Classical.em _
noncomputable def zM1 (w : Rw) (p o : Nat) : Int32 := @ite _ (zMs w p o) (Classical.propDecidable _) (zMnd w o p) 0
theorem zM1_t {w : Rw} {p o : Nat} (h : zMs w p o) : zM1 w p o = zMnd w o p := if_pos h
theorem zM1_f {w : Rw} {p o : Nat} (h : ¬ zMs w p o) : zM1 w p o = 0 := if_neg h
/-- the envy of p, of the first m -/
noncomputable def zEn (w : Rw) (p : Nat) : Nat → Int32
  | 0 => 0
  | o + 1 => zEn w p o + zM1 w p o
/-- for whom the car goes, among the first m, n people in all -/
noncomputable def zCl (w : Rw) (n : Nat) : Nat → Option Nat × Int32
  | 0 => (none, 0)
  | p + 1 => if w 3 = 0 ∧ w (10 + 6 * p) = 0 then (if zEn w p n ≤ (zCl w n p).2 then zCl w n p else (some p, zEn w p n)) else zCl w n p
noncomputable def zGo (w : Rw) (n : Nat) : Option Nat := (zCl w n n).1
def zNear (a b : Int32) : Int32 := if b ≤ a then (if a ≤ b then a else a - 1) else a + 1
/-- a step -/
noncomputable def zPass (n : Nat) (w : Rw) : Rw :=
  if w 3 = 0 then
    (match zGo w n with
    | none => upd w 2 (w 2 + 1)
    | some p => if w 1 = w (6 + 6 * p) then upd (upd w 2 (w 2 + 1)) 3 (nI (p + 1)) else upd (upd w 2 (w 2 + 1)) 1 (zNear (w 1) (w (6 + 6 * p))))
  else if w 1 = w (7 + 6 * (ix (w 3) - 1)) then upd (upd (upd w 2 (w 2 + 1)) (10 + 6 * (ix (w 3) - 1)) 1) 3 0
  else upd (upd (upd w 2 (w 2 + 1)) 1 (zNear (w 1) (w (7 + 6 * (ix (w 3) - 1))))) (6 + 6 * (ix (w 3) - 1)) (zNear (w 1) (w (7 + 6 * (ix (w 3) - 1))))
noncomputable def zPs (n : Nat) : Nat → Rw → Rw
  | 0, w => w
  | k + 1, w => zPs n k (zPass n w)
/-- a house is well: n people, top t, r: who rides and 1, 0 nobody -/
def Wf (w : Rw) (n t r : Nat) : Prop := n ≤ 6 ∧ t ≤ 9 ∧ r ≤ n ∧ (t = 0 → n = 0) ∧ w 4 = nI n ∧ w 0 = nI t ∧ w 3 = nI r ∧ (∀ p, p < n → w (10 + 6 * p) = 0 ∨ w (10 + 6 * p) = 1) ∧ ∀ p, p < n → ∃ k, 1 ≤ k ∧ k ≤ 5 ∧ w (5 + 6 * p) = nI k
/-- sets -/
def zBs (f : Nat → Bool) : Nat → Nat
  | 0 => 0
  | n + 1 => zBs f n + (if f n = true then 2 ^ n else 0)
theorem zBs_lt (f : Nat → Bool) (n : Nat) : zBs f n < 2 ^ n := by
  induction n with
  | zero => simp [zBs]
  | succ n ih =>
    rw [zBs, Nat.pow_succ]
    by_cases h : f n = true
    · rw [if_pos h]; omega
    · rw [if_neg h]; omega
theorem zBs_bit (f : Nat → Bool) (n p : Nat) : (zBs f n).testBit p = (decide (p < n) && f p) := by
  induction n with
  | zero => simp [zBs]
  | succ n ih =>
    rw [zBs]
    by_cases h : f n = true
    · rw [if_pos h, Nat.add_comm]
      by_cases hp : p < n
      · rw [Nat.testBit_two_pow_add_gt hp, ih]
        simp [hp, Nat.lt_succ_of_lt hp]
      · by_cases hq : p = n
        · subst hq
          rw [Nat.testBit_two_pow_add_eq, Nat.testBit_lt_two_pow (zBs_lt f p)]
          simp [h]
        · have h1 : 2 ^ n + zBs f n < 2 ^ p := by
            have h2 : 2 ^ (n + 1) ≤ 2 ^ p := Nat.pow_le_pow_right (by omega) (by omega)
            have h3 := zBs_lt f n
            rw [Nat.pow_succ] at h2
            omega
          rw [Nat.testBit_lt_two_pow h1]
          have h4 : ¬ p < n + 1 := by omega
          simp [h4]
    · rw [if_neg h, Nat.add_zero, ih]
      by_cases hp : p < n
      · simp [hp, Nat.lt_succ_of_lt hp]
      · by_cases hq : p = n
        · subst hq
          simp [h]
        · have h4 : ¬ p < n + 1 := by omega
          simp [hp, h4]
theorem zBs_cong {f g : Nat → Bool} {n : Nat} (h : ∀ p, p < n → f p = g p) : zBs f n = zBs g n := by
  induction n with
  | zero => rfl
  | succ n ih => rw [zBs, zBs, ih (fun p hp => h p (by omega)), h n (by omega)]
/-- who is brought, as a number -/
def zBr (w : Rw) (p : Nat) : Bool := w (10 + 6 * p) == 1
def zBn (w : Rw) (n : Nat) : Nat := zBs (zBr w) n
theorem zBn_lt (w : Rw) {n : Nat} (h : n ≤ 6) : zBn w n < 64 := Nat.lt_of_lt_of_le (zBs_lt _ n) (Nat.pow_le_pow_right (by omega) h)
theorem zbit : ∀ m, m < 64 → ∀ p, p < 8 → (nI m >>> (nI p &&& 31)) &&& 1 = if m.testBit p = true then 1 else 0 := by decide +kernel
theorem zorb : ∀ m, m < 64 → ∀ p, p < 6 → nI m ||| (1 <<< (nI p &&& 31)) = nI (m ||| 2 ^ p) := by decide +kernel
theorem zor0 (x : Int32) : x ||| 0 = x := by simp
theorem zshl0 (x : Int32) : (0 : Int32) <<< x = 0 := by simp
