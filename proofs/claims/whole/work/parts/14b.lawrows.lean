/-! the law's own walk: the two objects stand full, the loop's place is i -/
def Lx (G : Gx) (b L : Nat) (xs : Nat → Int32) (p : Program) (s : State) (m : MethodId) (meth : Method) (c : Code) : Prop := lw_At p s m meth c b L xs ∧ Kx G s ∧ gb G = s.heap.size
def LV (G : Gx) (b L : Nat) (xs : Nat → Int32) (pc i : Nat) (S : List Value) (σ : Sg) : Prop :=
  ∀ (p : Program) (e : Env) (s : State) (m : MethodId) (below : List Frame) (meth : Method) (c : Code) (H : Heap) (locs : List Loc) (ls : Array Slot),
    Lx G b L xs p s m meth c → va_P (gD G) vwCl (wd G (full σ)) H → va_S (fun q => gb G ≤ q) s.heap H locs → lv_has ls 4 [(3, .int (nI i)), (2, .ref (gb G + 200)), (1, .ref (gb G + 0)), (0, .ref b)] →
    W p (gl G) e room_1 s m #[Value.ref b] below meth c H locs 600000 7302250 (lw_Z below #[Value.ref b] s) (F0 m pc ls S)
section LR
variable {G : Gx} {b L i pc idx n : Nat} {xs : Nat → Int32} {σ σ' : Sg} {S S0 As : List Value} {M2 : Mx} {y : MethodName}
theorem Lx.hts {p : Program} {s : State} {m : MethodId} {meth : Method} {c : Code} (C : Lx G b L xs p s m meth c) : ∀ w ∈ tG, w.before #[Value.ref b] s = true := fun w hw => C.1.2.2.2.2.2.1 w (tG_in hw)
theorem l_ald {j : Fin 4} {x jj : Nat} (hd : decode code pc = .ok (.aload_n j, 1)) (q : Nat) (hq : ([(3, .int (nI i)), (2, .ref (gb G + 200)), (1, .ref (gb G + 0)), (0, .ref b)] : List (Nat × Value))[q]? = some (jj, .ref x)) (hj : (j : Nat) = jj) (kk : LV G b L xs (pc + 1) i (.ref x :: S) σ) : LV G b L xs pc i S σ :=
  fun p e s m below meth c H locs ls C hP hS hl => lv_aload_n C.1.1 C.1.2.1 hd hj (lv_at hl q hq) (kk p e s m below meth c H locs ls C hP hS hl)
theorem l_arg {z : Int} {k : Nat} (h0 : decode code pc = .ok (.aload_n 0, 1)) (h1 : decode code (pc + 1) = .ok (.iload_n 3, 1)) (h2 : decode code (pc + 1 + 1) = .ok (.iconst z, 1)) (hz : Int32.ofInt z = nI k) (h3 : decode code (pc + 1 + 1 + 1) = .ok (.iadd, 1)) (h4 : decode code (pc + 1 + 1 + 1 + 1) = .ok (.iaload, 1)) (hi : i + k < L) (hL : L ≤ 384) (kk : LV G b L xs (pc + 1 + 1 + 1 + 1 + 1) i (.int (xs (i + k)) :: S) σ) : LV G b L xs pc i S σ := by
  intro p e s m below meth c H locs ls C hP hS hl
  refine lv_aload_n C.1.1 C.1.2.1 h0 rfl (lv_at hl 3 rfl) ?_
  refine lv_iload_n C.1.1 C.1.2.1 h1 rfl (lv_at hl 0 rfl) ?_
  refine lv_iconst C.1.1 C.1.2.1 h2 hz ?_
  refine lv_iadd C.1.1 C.1.2.1 h3 ?_
  rw [nI_add]
  have hlt : i + k < 2 ^ 31 := by omega
  refine va_sld C.1.1 C.1.2.1 C.1.2.2.2.2.2.2.1 C.1.2.2.2.2.2.2.2.1 (by rw [C.2.2]; exact Nat.not_le.mpr C.1.2.2.2.2.2.2.2.1) hS (nI_in hi (by omega)) h4 ?_
  rw [show (nI (i + k)).toNatClampNeg = i + k from zix hlt]
  exact kk p e s m below meth c H locs ls C hP hS hl
theorem l_call {k ci : Nat} {Cn : String} {T : u_T} {ty : Nat → FieldType} {v : Int32} (hd : decode code pc = .ok (.invokevirtual idx, 3)) (hlk : Cond.methodLink RL idx y ∈ tG) (hin : Cond.instanceMethod y ∈ tG) (hse : Cond.selects Cn y y ∈ tG) (hy : Yk y M2 n) (hkk : k < 213) (hs : (shp k).1 = ci) (hci : ci < 20) (hcl : ClsOk ci Cn T ty) (hn : As.length = n) (hR : (mR M2).cells = 0 ∧ (mR M2).slots = 0 ∧ (mR M2).frames + 1 ≤ 9 ∧ 8 + (mL M2 + 11) + (mR M2).locals ≤ 342) (hm : mI M2 = false) (hS0 : S0 = As.reverse ++ .ref (gb G + k) :: S) (hW : (S.map fun v => v.category).sum ≤ 8) (E : Evm G y M2 (.ref (gb G + k) :: As) σ (some (.int v)) σ')
    (kk : LV G b L xs (pc + 3) i (.int v :: S) σ') : LV G b L xs pc i S0 σ := by
  intro p e s m below meth c H locs ls C hP hS hl
  have hts := C.hts
  have cb : CallB room_1 s #[Value.ref b] RL idx y (mC M2) (mL M2) (mT M2) (.code y (mC M2) (mL M2) (mT M2) :: tG) (mR M2) 0 0 n :=
    callB_of n hts (tG_good hy.1) rfl hR.1 hR.2.1 (hts _ hy.2.1) (hts _ hlk) ⟨hy.2.2.1.1, hy.2.2.1.2, hy.2.2.2⟩ ⟨hR.2.2.1, hR.2.2.2⟩
  have hr := va_runV (e := e) (below := below) (meth := meth) (locs := locs) (cells := 600000) (slots := 7302250) (R := room_1) (H := H) (g := F0 m pc ls S0) (As := As) (rest := S) (Ts := tG) (C := Cn) (b := gb G + k) ⟨C.1.1, C.1.2.1, C.1.2.2.2.1, C.1.2.2.2.2.1, hts⟩ E ⟨cb, hts _ hin, hts _ hse⟩ ⟨Pcm.blind G _ _ (full σ), va_recv C.2.1.1 hP hcl.1 (q0 := k) (by rw [wd_at (μ := full σ) hkk, ent_obj hs hci]), fun U hU hW => ⟨rfl, by rw [hU, C.2.2]; exact hS.1, (fun h => absurd (hm.symm.trans h) (by decide)), by rw [hU]; exact hP, C.2.1.warm hW⟩⟩ rfl hn hl.1 hS0 (lv_room hW) hd ⟨Nat.le_of_ble_eq_true rfl, Nat.le_of_ble_eq_true rfl⟩
  intro T hT X
  obtain ⟨v2, st₀, t, T', L2, h0, X', hL2, e1, e2, ⟨hv, hz1, hP1, hF1, hF2⟩, st⟩ := hr T hT X
  cases hv
  obtain ⟨t2, a1, b1⟩ := kk p e s m below meth c T'.heap (locs ++ L2) ls C (by rw [e1]; exact hP1)
    ⟨by rw [e1]; exact Nat.le_trans hS.1 (by rw [h0] at hF1; exact hF1), fun q h1 h2 => by
      rw [e1]
      rw [h0] at hF2
      rw [hF2 q (Nat.lt_of_lt_of_le h1 hS.1) h2]
      exact hS.2.1 q h1 h2, fun q hq => by
      rcases List.mem_append.mp hq with h | h
      · exact hS.2.2 q h
      · exact hL2 q h⟩ hl T' rfl X'
  exact ⟨t2, st t2 a1, b1⟩
theorem l_eq {off : Int} {tgt : Nat} {v : Int32} (hd : decode code pc = .ok (.if_icmp .eq off, 3)) (ht : (pc : Int) + off = (tgt : Int)) (kk : LV G b L xs tgt i S σ) : LV G b L xs pc i (.int v :: .int v :: S) σ :=
  fun p e s m below meth c H locs ls C hP hS hl => lv_icmp_eq C.1.1 C.1.2.1 hd ht (fun _ => kk p e s m below meth c H locs ls C hP hS hl) (fun h => absurd rfl h)
theorem l_next (kk : LV G b L xs 18 (i + 6) [] σ) : LV G b L xs 1122 i [] σ := by
  intro p e s m below meth c H locs ls C hP hS hl
  refine lv_iinc (v := nI (i + 6)) (lv' := [(3, .int (nI (i + 6))), (2, .ref (gb G + 200)), (1, .ref (gb G + 0)), (0, .ref b)]) C.1.1 C.1.2.1 dL_law_1122 hl (k := 0) rfl (nI_add i 6) (by decide) rfl (fun ls2 h2 => ?_)
  refine lv_goto (tgt := 18) C.1.1 C.1.2.1 dL_law_1125 (by decide) ?_
  exact kk p e s m below meth c H locs ls2 C hP hS h2
theorem l_done : LV G b L xs 1128 i [] σ := by
  intro p e s m below meth c H locs ls C hP hS hl
  refine lv_iconst (v := 1) C.1.1 C.1.2.1 dL_law_1128 (by decide) ?_
  refine va_forget (fun q hq => by rw [← C.2.2]; exact hS.2.2 q hq) ?_
  exact lw_ret C.1.1 C.1.2.1 C.1.2.2.1 C.1.2.2.2.2.2.2.2.2.1 dL_law_1129
end LR
