def fM_hide_B100 (K33 : Int32 → Int32 → Int32 → Int32 → Int32 → Sg → Option (Int32 × Sg)) (K67 : Int32 → Int32 → Int32 → Int32 → Int32 → Int32 → Int32 → Int32 → Sg → Option (Int32 × Sg)) (x1 : Int32) (x2 : Int32) (x3 : Int32) (x4 : Int32) (x5 : Int32) (x8 : Int32) (s0 : Int32) (σ : Sg) : Option (Int32 × Sg) := (fM_broughtIn 208 σ).bind fun q23 => K67 x1 x2 x3 x4 x5 s0 q23 (x8 + 1) σ
set_option maxRecDepth 100000 in
set_option maxHeartbeats 4000000 in
theorem sM_hide_B100 {G : Gx} {q : (Int32 × Sg)} (K33 : Int32 → Int32 → Int32 → Int32 → Int32 → Sg → Option (Int32 × Sg)) (hK33 : ∀ (x1 : Int32) (x2 : Int32) (x3 : Int32) (x4 : Int32) (x5 : Int32) (σ : Sg), K33 x1 x2 x3 x4 x5 σ = some q → Vm G MX12_hide (some (.int q.1)) q.2 33 [(0, .ref (gb G + 200)), (1, .int x1), (2, .int x2), (3, .int x3), (4, .int x4), (5, .int x5)] [] σ) (K67 : Int32 → Int32 → Int32 → Int32 → Int32 → Int32 → Int32 → Int32 → Sg → Option (Int32 × Sg)) (hK67 : ∀ (x1 : Int32) (x2 : Int32) (x3 : Int32) (x4 : Int32) (x5 : Int32) (x6 : Int32) (x7 : Int32) (x8 : Int32) (σ : Sg), K67 x1 x2 x3 x4 x5 x6 x7 x8 σ = some q → Vm G MX12_hide (some (.int q.1)) q.2 67 [(0, .ref (gb G + 200)), (1, .int x1), (2, .int x2), (3, .int x3), (4, .int x4), (5, .int x5), (6, .int x6), (7, .int x7), (8, .int x8)] [] σ) (x1 : Int32) (x2 : Int32) (x3 : Int32) (x4 : Int32) (x5 : Int32) (x8 : Int32) (s0 : Int32) (σ : Sg) (h : fM_hide_B100 K33 K67 x1 x2 x3 x4 x5 x8 s0 σ = some q) : Vm G MX12_hide (some (.int q.1)) q.2 100 [(0, .ref (gb G + 200)), (1, .int x1), (2, .int x2), (3, .int x3), (4, .int x4), (5, .int x5), (8, .int x8)] [.int s0] σ := by
  unfold fM_hide_B100 at h
  refine v_istore dX12_hide_100 [0, 1, 2, 3, 4, 5, 6, 7] rfl (by decide) (v_aload_n dX12_hide_102 1 rfl rfl (vm_getR (t := 208) dX12_hide_103 fsX12_31 lc_200 shc_200 (by decide) rf_200_15 ?_))
  obtain ⟨q23, hq23, h⟩ := bind_some h
  refine v_callS (As := [.ref (gb G + 208)]) (S := []) dX12_hide_106 tw907 tw908 ykX12_broughtIn rfl (by decide) rfl rfl (Nat.le_of_ble_eq_true rfl) (by decide) (eM_broughtIn 208 sha_208 lc_208 _ _ hq23) ?_
  exact v_istore dX12_hide_109 [0, 1, 2, 3, 4, 5, 6, 7, 8] rfl (by decide) (v_iinc (v := x8 + 1) dX12_hide_111 8 rfl rfl [0, 1, 2, 3, 4, 5, 6, 7, 8] rfl (by decide) (v_goto (tgt := 67) dX12_hide_114 (by decide) (v_sub [3, 4, 5, 6, 7, 8, 2, 1, 0] rfl (hK67 x1 x2 x3 x4 x5 s0 q23 (x8 + 1) _ h))))
def fM_hide_B229 (K33 : Int32 → Int32 → Int32 → Int32 → Int32 → Sg → Option (Int32 × Sg)) (x1 : Int32) (x2 : Int32) (x3 : Int32) (x5 : Int32) (s0 : Int32) (σ : Sg) : Option (Int32 × Sg) := K33 x1 x2 x3 s0 (x5 + 1) σ
set_option maxRecDepth 100000 in
set_option maxHeartbeats 4000000 in
theorem sM_hide_B229 {G : Gx} {q : (Int32 × Sg)} (K33 : Int32 → Int32 → Int32 → Int32 → Int32 → Sg → Option (Int32 × Sg)) (hK33 : ∀ (x1 : Int32) (x2 : Int32) (x3 : Int32) (x4 : Int32) (x5 : Int32) (σ : Sg), K33 x1 x2 x3 x4 x5 σ = some q → Vm G MX12_hide (some (.int q.1)) q.2 33 [(0, .ref (gb G + 200)), (1, .int x1), (2, .int x2), (3, .int x3), (4, .int x4), (5, .int x5)] [] σ) (x1 : Int32) (x2 : Int32) (x3 : Int32) (x5 : Int32) (s0 : Int32) (σ : Sg) (h : fM_hide_B229 K33 x1 x2 x3 x5 s0 σ = some q) : Vm G MX12_hide (some (.int q.1)) q.2 229 [(0, .ref (gb G + 200)), (1, .int x1), (2, .int x2), (3, .int x3), (5, .int x5)] [.int s0] σ := by
  unfold fM_hide_B229 at h
  exact v_istore dX12_hide_229 [0, 1, 2, 3, 4, 5] rfl (by decide) (v_iinc (v := x5 + 1) dX12_hide_231 5 rfl rfl [0, 1, 2, 3, 4, 5] rfl (by decide) (v_goto (tgt := 33) dX12_hide_234 (by decide) (v_sub [2, 3, 4, 5, 1, 0] rfl (hK33 x1 x2 x3 s0 (x5 + 1) _ h))))
def fM_hide_B216 (K33 : Int32 → Int32 → Int32 → Int32 → Int32 → Sg → Option (Int32 × Sg)) (x1 : Int32) (x2 : Int32) (x4 : Int32) (x5 : Int32) (x6 : Int32) (x10 : Int32) (s0 : Int32) (σ : Sg) : Option (Int32 × Sg) := if x10 = 0 then fM_hide_B229 K33 x1 x2 s0 x5 x4 σ else fM_hide_B229 K33 x1 x2 s0 x5 x6 σ
set_option maxRecDepth 100000 in
set_option maxHeartbeats 4000000 in
theorem sM_hide_B216 {G : Gx} {q : (Int32 × Sg)} (K33 : Int32 → Int32 → Int32 → Int32 → Int32 → Sg → Option (Int32 × Sg)) (hK33 : ∀ (x1 : Int32) (x2 : Int32) (x3 : Int32) (x4 : Int32) (x5 : Int32) (σ : Sg), K33 x1 x2 x3 x4 x5 σ = some q → Vm G MX12_hide (some (.int q.1)) q.2 33 [(0, .ref (gb G + 200)), (1, .int x1), (2, .int x2), (3, .int x3), (4, .int x4), (5, .int x5)] [] σ) (x1 : Int32) (x2 : Int32) (x4 : Int32) (x5 : Int32) (x6 : Int32) (x10 : Int32) (s0 : Int32) (σ : Sg) (h : fM_hide_B216 K33 x1 x2 x4 x5 x6 x10 s0 σ = some q) : Vm G MX12_hide (some (.int q.1)) q.2 216 [(0, .ref (gb G + 200)), (1, .int x1), (2, .int x2), (4, .int x4), (5, .int x5), (6, .int x6), (10, .int x10)] [.int s0] σ := by
  unfold fM_hide_B216 at h
  refine v_istore_n dX12_hide_216 [0, 1, 2, 3, 4, 5, 6, 7] rfl (by decide) rfl (v_iload dX12_hide_217 7 rfl (v_if_eq (tgt := 227) dX12_hide_219 (by decide) (fun c27 => ?_) (fun c27 => ?_)))
  · replace h := ite_t c27 h
    exact v_iload dX12_hide_227 4 rfl (v_sub [1, 2, 3, 0, 5] rfl (sM_hide_B229 K33 hK33 x1 x2 s0 x5 x4 _ h))
  · replace h := ite_f c27 h
    exact v_iload dX12_hide_222 6 rfl (v_goto (tgt := 229) dX12_hide_224 (by decide) (v_sub [1, 2, 3, 0, 5] rfl (sM_hide_B229 K33 hK33 x1 x2 s0 x5 x6 _ h)))
def fM_hide_B204 (K33 : Int32 → Int32 → Int32 → Int32 → Int32 → Sg → Option (Int32 × Sg)) (x1 : Int32) (x3 : Int32) (x4 : Int32) (x5 : Int32) (x6 : Int32) (x8 : Int32) (x10 : Int32) (s0 : Int32) (σ : Sg) : Option (Int32 × Sg) := if x10 = 0 then fM_hide_B216 K33 x1 s0 x4 x5 x6 x10 x3 σ else fM_hide_B216 K33 x1 s0 x4 x5 x6 x10 x8 σ
set_option maxRecDepth 100000 in
set_option maxHeartbeats 4000000 in
theorem sM_hide_B204 {G : Gx} {q : (Int32 × Sg)} (K33 : Int32 → Int32 → Int32 → Int32 → Int32 → Sg → Option (Int32 × Sg)) (hK33 : ∀ (x1 : Int32) (x2 : Int32) (x3 : Int32) (x4 : Int32) (x5 : Int32) (σ : Sg), K33 x1 x2 x3 x4 x5 σ = some q → Vm G MX12_hide (some (.int q.1)) q.2 33 [(0, .ref (gb G + 200)), (1, .int x1), (2, .int x2), (3, .int x3), (4, .int x4), (5, .int x5)] [] σ) (x1 : Int32) (x3 : Int32) (x4 : Int32) (x5 : Int32) (x6 : Int32) (x8 : Int32) (x10 : Int32) (s0 : Int32) (σ : Sg) (h : fM_hide_B204 K33 x1 x3 x4 x5 x6 x8 x10 s0 σ = some q) : Vm G MX12_hide (some (.int q.1)) q.2 204 [(0, .ref (gb G + 200)), (1, .int x1), (3, .int x3), (4, .int x4), (5, .int x5), (6, .int x6), (8, .int x8), (10, .int x10)] [.int s0] σ := by
  unfold fM_hide_B204 at h
  refine v_istore_n dX12_hide_204 [0, 1, 2, 3, 4, 5, 6, 7, 8] rfl (by decide) rfl (v_iload dX12_hide_205 8 rfl (v_if_eq (tgt := 215) dX12_hide_207 (by decide) (fun c26 => ?_) (fun c26 => ?_)))
  · replace h := ite_t c26 h
    exact v_iload_n dX12_hide_215 3 rfl rfl (v_sub [1, 2, 0, 4, 5, 6, 8] rfl (sM_hide_B216 K33 hK33 x1 s0 x4 x5 x6 x10 x3 _ h))
  · replace h := ite_f c26 h
    exact v_iload dX12_hide_210 7 rfl (v_goto (tgt := 216) dX12_hide_212 (by decide) (v_sub [1, 2, 0, 4, 5, 6, 8] rfl (sM_hide_B216 K33 hK33 x1 s0 x4 x5 x6 x10 x8 _ h)))
def fM_hide_B191 (K33 : Int32 → Int32 → Int32 → Int32 → Int32 → Sg → Option (Int32 × Sg)) (x1 : Int32) (x2 : Int32) (x3 : Int32) (x4 : Int32) (x5 : Int32) (x6 : Int32) (x8 : Int32) (s0 : Int32) (σ : Sg) : Option (Int32 × Sg) := if s0 = 0 then fM_hide_B204 K33 x1 x3 x4 x5 x6 x8 s0 x2 σ else fM_hide_B204 K33 x1 x3 x4 x5 x6 x8 s0 x5 σ
set_option maxRecDepth 100000 in
set_option maxHeartbeats 4000000 in
theorem sM_hide_B191 {G : Gx} {q : (Int32 × Sg)} (K33 : Int32 → Int32 → Int32 → Int32 → Int32 → Sg → Option (Int32 × Sg)) (hK33 : ∀ (x1 : Int32) (x2 : Int32) (x3 : Int32) (x4 : Int32) (x5 : Int32) (σ : Sg), K33 x1 x2 x3 x4 x5 σ = some q → Vm G MX12_hide (some (.int q.1)) q.2 33 [(0, .ref (gb G + 200)), (1, .int x1), (2, .int x2), (3, .int x3), (4, .int x4), (5, .int x5)] [] σ) (x1 : Int32) (x2 : Int32) (x3 : Int32) (x4 : Int32) (x5 : Int32) (x6 : Int32) (x8 : Int32) (s0 : Int32) (σ : Sg) (h : fM_hide_B191 K33 x1 x2 x3 x4 x5 x6 x8 s0 σ = some q) : Vm G MX12_hide (some (.int q.1)) q.2 191 [(0, .ref (gb G + 200)), (1, .int x1), (2, .int x2), (3, .int x3), (4, .int x4), (5, .int x5), (6, .int x6), (8, .int x8)] [.int s0] σ := by
  unfold fM_hide_B191 at h
  refine v_istore dX12_hide_191 [0, 1, 2, 3, 4, 5, 6, 7, 8] rfl (by decide) (v_iload dX12_hide_193 0 rfl (v_if_eq (tgt := 203) dX12_hide_195 (by decide) (fun c25 => ?_) (fun c25 => ?_)))
  · replace h := ite_t c25 h
    exact v_iload_n dX12_hide_203 3 rfl rfl (v_sub [1, 2, 4, 5, 6, 7, 8, 0] rfl (sM_hide_B204 K33 hK33 x1 x3 x4 x5 x6 x8 s0 x2 _ h))
  · replace h := ite_f c25 h
    exact v_iload dX12_hide_198 6 rfl (v_goto (tgt := 204) dX12_hide_200 (by decide) (v_sub [1, 2, 4, 5, 6, 7, 8, 0] rfl (sM_hide_B204 K33 hK33 x1 x3 x4 x5 x6 x8 s0 x5 _ h)))
def fM_hide_B186 (K33 : Int32 → Int32 → Int32 → Int32 → Int32 → Sg → Option (Int32 × Sg)) (x1 : Int32) (x2 : Int32) (x3 : Int32) (x4 : Int32) (x5 : Int32) (x6 : Int32) (x8 : Int32) (σ : Sg) : Option (Int32 × Sg) := fM_hide_B191 K33 x1 x2 x3 x4 x5 x6 x8 1 σ
set_option maxRecDepth 100000 in
set_option maxHeartbeats 4000000 in
theorem sM_hide_B186 {G : Gx} {q : (Int32 × Sg)} (K33 : Int32 → Int32 → Int32 → Int32 → Int32 → Sg → Option (Int32 × Sg)) (hK33 : ∀ (x1 : Int32) (x2 : Int32) (x3 : Int32) (x4 : Int32) (x5 : Int32) (σ : Sg), K33 x1 x2 x3 x4 x5 σ = some q → Vm G MX12_hide (some (.int q.1)) q.2 33 [(0, .ref (gb G + 200)), (1, .int x1), (2, .int x2), (3, .int x3), (4, .int x4), (5, .int x5)] [] σ) (x1 : Int32) (x2 : Int32) (x3 : Int32) (x4 : Int32) (x5 : Int32) (x6 : Int32) (x8 : Int32) (σ : Sg) (h : fM_hide_B186 K33 x1 x2 x3 x4 x5 x6 x8 σ = some q) : Vm G MX12_hide (some (.int q.1)) q.2 186 [(0, .ref (gb G + 200)), (1, .int x1), (2, .int x2), (3, .int x3), (4, .int x4), (5, .int x5), (6, .int x6), (8, .int x8)] [] σ := by
  unfold fM_hide_B186 at h
  exact v_iconst dX12_hide_186 rfl (v_goto (tgt := 191) dX12_hide_187 (by decide) (sM_hide_B191 K33 hK33 x1 x2 x3 x4 x5 x6 x8 1 _ h))
def fM_hide_B181 (K33 : Int32 → Int32 → Int32 → Int32 → Int32 → Sg → Option (Int32 × Sg)) (x1 : Int32) (x2 : Int32) (x3 : Int32) (x4 : Int32) (x5 : Int32) (x6 : Int32) (x8 : Int32) (x9 : Int32) (σ : Sg) : Option (Int32 × Sg) := if x9 = 0 then fM_hide_B191 K33 x1 x2 x3 x4 x5 x6 x8 0 σ else fM_hide_B186 K33 x1 x2 x3 x4 x5 x6 x8 σ
set_option maxRecDepth 100000 in
set_option maxHeartbeats 4000000 in
theorem sM_hide_B181 {G : Gx} {q : (Int32 × Sg)} (K33 : Int32 → Int32 → Int32 → Int32 → Int32 → Sg → Option (Int32 × Sg)) (hK33 : ∀ (x1 : Int32) (x2 : Int32) (x3 : Int32) (x4 : Int32) (x5 : Int32) (σ : Sg), K33 x1 x2 x3 x4 x5 σ = some q → Vm G MX12_hide (some (.int q.1)) q.2 33 [(0, .ref (gb G + 200)), (1, .int x1), (2, .int x2), (3, .int x3), (4, .int x4), (5, .int x5)] [] σ) (x1 : Int32) (x2 : Int32) (x3 : Int32) (x4 : Int32) (x5 : Int32) (x6 : Int32) (x8 : Int32) (x9 : Int32) (σ : Sg) (h : fM_hide_B181 K33 x1 x2 x3 x4 x5 x6 x8 x9 σ = some q) : Vm G MX12_hide (some (.int q.1)) q.2 181 [(0, .ref (gb G + 200)), (1, .int x1), (2, .int x2), (3, .int x3), (4, .int x4), (5, .int x5), (6, .int x6), (8, .int x8), (9, .int x9)] [] σ := by
  unfold fM_hide_B181 at h
  refine v_iload dX12_hide_181 8 rfl (v_if_eq (tgt := 190) dX12_hide_183 (by decide) (fun c24 => ?_) (fun c24 => ?_))
  · replace h := ite_t c24 h
    exact v_iconst dX12_hide_190 rfl (v_sub [0, 1, 2, 3, 4, 5, 6, 7] rfl (sM_hide_B191 K33 hK33 x1 x2 x3 x4 x5 x6 x8 0 _ h))
  · replace h := ite_f c24 h
    exact v_sub [0, 1, 2, 3, 4, 5, 6, 7] rfl (sM_hide_B186 K33 hK33 x1 x2 x3 x4 x5 x6 x8 _ h)
def fM_hide_B154 (K33 : Int32 → Int32 → Int32 → Int32 → Int32 → Sg → Option (Int32 × Sg)) (x1 : Int32) (x2 : Int32) (x3 : Int32) (x4 : Int32) (x5 : Int32) (x6 : Int32) (x8 : Int32) (s0 : Int32) (σ : Sg) : Option (Int32 × Sg) := if x2 = (-1000000) then fM_hide_B186 K33 x1 x2 x3 x4 x5 x6 x8 σ else if x3 < x8 then fM_hide_B186 K33 x1 x2 x3 x4 x5 x6 x8 σ else if x8 = x3 then (if x6 < x4 then fM_hide_B186 K33 x1 x2 x3 x4 x5 x6 x8 σ else fM_hide_B181 K33 x1 x2 x3 x4 x5 x6 x8 s0 σ) else fM_hide_B181 K33 x1 x2 x3 x4 x5 x6 x8 s0 σ
set_option maxRecDepth 100000 in
set_option maxHeartbeats 4000000 in
theorem sM_hide_B154 {G : Gx} {q : (Int32 × Sg)} (K33 : Int32 → Int32 → Int32 → Int32 → Int32 → Sg → Option (Int32 × Sg)) (hK33 : ∀ (x1 : Int32) (x2 : Int32) (x3 : Int32) (x4 : Int32) (x5 : Int32) (σ : Sg), K33 x1 x2 x3 x4 x5 σ = some q → Vm G MX12_hide (some (.int q.1)) q.2 33 [(0, .ref (gb G + 200)), (1, .int x1), (2, .int x2), (3, .int x3), (4, .int x4), (5, .int x5)] [] σ) (x1 : Int32) (x2 : Int32) (x3 : Int32) (x4 : Int32) (x5 : Int32) (x6 : Int32) (x8 : Int32) (s0 : Int32) (σ : Sg) (h : fM_hide_B154 K33 x1 x2 x3 x4 x5 x6 x8 s0 σ = some q) : Vm G MX12_hide (some (.int q.1)) q.2 154 [(0, .ref (gb G + 200)), (1, .int x1), (2, .int x2), (3, .int x3), (4, .int x4), (5, .int x5), (6, .int x6), (8, .int x8)] [.int s0] σ := by
  unfold fM_hide_B154 at h
  refine v_istore dX12_hide_154 [0, 1, 2, 3, 4, 5, 6, 7, 8] rfl (by decide) (v_iload_n dX12_hide_156 3 rfl rfl (v_ldc dX12_hide_157 tw686 (v_icmp_eq (tgt := 186) dX12_hide_159 (by decide) (fun c19 => ?_) (fun c19 => ?_))))
  · replace h := ite_t c19 h
    exact v_sub [1, 2, 3, 4, 5, 6, 7, 8] rfl (sM_hide_B186 K33 hK33 x1 x2 x3 x4 x5 x6 x8 _ h)
  · replace h := ite_f c19 h
    refine v_iload dX12_hide_162 8 rfl (v_iload_n dX12_hide_164 4 rfl rfl (v_icmp_gt (tgt := 186) dX12_hide_165 (by decide) (fun c20 => ?_) (fun c20 => ?_)))
    · replace h := ite_t c20 h
      exact v_sub [1, 2, 3, 4, 5, 6, 7, 8] rfl (sM_hide_B186 K33 hK33 x1 x2 x3 x4 x5 x6 x8 _ h)
    · replace h := ite_f c20 h
      refine v_iload dX12_hide_168 8 rfl (v_iload_n dX12_hide_170 4 rfl rfl (v_icmp_ne (tgt := 181) dX12_hide_171 (by decide) (fun c21 => ?_) (fun c21 => ?_)))
      · replace h := ite_f c21 h
        exact v_sub [1, 2, 3, 4, 5, 6, 7, 8, 0] rfl (sM_hide_B181 K33 hK33 x1 x2 x3 x4 x5 x6 x8 s0 _ h)
      · replace h := ite_t c21 h
        refine v_iload dX12_hide_174 7 rfl (v_iload dX12_hide_176 5 rfl (v_icmp_lt (tgt := 186) dX12_hide_178 (by decide) (fun c22 => ?_) (fun c22 => ?_)))
        · replace h := ite_t c22 h
          exact v_sub [1, 2, 3, 4, 5, 6, 7, 8] rfl (sM_hide_B186 K33 hK33 x1 x2 x3 x4 x5 x6 x8 _ h)
        · replace h := ite_f c22 h
          exact v_sub [1, 2, 3, 4, 5, 6, 7, 8, 0] rfl (sM_hide_B181 K33 hK33 x1 x2 x3 x4 x5 x6 x8 s0 _ h)
def fM_hide_B153 (K33 : Int32 → Int32 → Int32 → Int32 → Int32 → Sg → Option (Int32 × Sg)) (x1 : Int32) (x2 : Int32) (x3 : Int32) (x4 : Int32) (x5 : Int32) (x6 : Int32) (x8 : Int32) (σ : Sg) : Option (Int32 × Sg) := fM_hide_B154 K33 x1 x2 x3 x4 x5 x6 x8 0 σ
set_option maxRecDepth 100000 in
set_option maxHeartbeats 4000000 in
theorem sM_hide_B153 {G : Gx} {q : (Int32 × Sg)} (K33 : Int32 → Int32 → Int32 → Int32 → Int32 → Sg → Option (Int32 × Sg)) (hK33 : ∀ (x1 : Int32) (x2 : Int32) (x3 : Int32) (x4 : Int32) (x5 : Int32) (σ : Sg), K33 x1 x2 x3 x4 x5 σ = some q → Vm G MX12_hide (some (.int q.1)) q.2 33 [(0, .ref (gb G + 200)), (1, .int x1), (2, .int x2), (3, .int x3), (4, .int x4), (5, .int x5)] [] σ) (x1 : Int32) (x2 : Int32) (x3 : Int32) (x4 : Int32) (x5 : Int32) (x6 : Int32) (x8 : Int32) (σ : Sg) (h : fM_hide_B153 K33 x1 x2 x3 x4 x5 x6 x8 σ = some q) : Vm G MX12_hide (some (.int q.1)) q.2 153 [(0, .ref (gb G + 200)), (1, .int x1), (2, .int x2), (3, .int x3), (4, .int x4), (5, .int x5), (6, .int x6), (8, .int x8)] [] σ := by
  unfold fM_hide_B153 at h
  exact v_iconst dX12_hide_153 rfl (sM_hide_B154 K33 hK33 x1 x2 x3 x4 x5 x6 x8 0 _ h)
def fM_hide_b67 (K33 : Int32 → Int32 → Int32 → Int32 → Int32 → Sg → Option (Int32 × Sg)) (K67 : Int32 → Int32 → Int32 → Int32 → Int32 → Int32 → Int32 → Int32 → Sg → Option (Int32 × Sg)) (x1 : Int32) (x2 : Int32) (x3 : Int32) (x4 : Int32) (x5 : Int32) (x6 : Int32) (x7 : Int32) (x8 : Int32) (σ : Sg) : Option (Int32 × Sg) := if (100 : Int32) ≤ x8 then ((fM_ones x7 σ).bind fun q10 => if q10 = x3 then (if x6 = x4 then ((fM_ones x5 σ).bind fun q13 => (fM_ones x2 σ).bind fun q14 => if q14 ≤ q13 then fM_hide_B153 K33 x1 x2 x3 x4 x5 x6 q10 σ else fM_hide_B154 K33 x1 x2 x3 x4 x5 x6 q10 1 σ) else fM_hide_B153 K33 x1 x2 x3 x4 x5 x6 q10 σ) else fM_hide_B153 K33 x1 x2 x3 x4 x5 x6 q10 σ) else (fM_passes 208 σ).bind fun q16 => (fM_broughtIn 208 q16).bind fun q17 => if q17 = x7 then fM_hide_B100 K33 K67 x1 x2 x3 x4 x5 x8 x6 q16 else fM_hide_B100 K33 K67 x1 x2 x3 x4 x5 x8 x8 q16
def fM_hide_L67 (K33 : Int32 → Int32 → Int32 → Int32 → Int32 → Sg → Option (Int32 × Sg)) (n : Nat) : Int32 → Int32 → Int32 → Int32 → Int32 → Int32 → Int32 → Int32 → Sg → Option (Int32 × Sg) := Nat.rec (fun _ _ _ _ _ _ _ _ _ => none) (fun _ K => fM_hide_b67 K33 K) n
set_option maxRecDepth 100000 in
set_option maxHeartbeats 4000000 in
theorem sM_hide_b67 {G : Gx} {q : (Int32 × Sg)} (K33 : Int32 → Int32 → Int32 → Int32 → Int32 → Sg → Option (Int32 × Sg)) (hK33 : ∀ (x1 : Int32) (x2 : Int32) (x3 : Int32) (x4 : Int32) (x5 : Int32) (σ : Sg), K33 x1 x2 x3 x4 x5 σ = some q → Vm G MX12_hide (some (.int q.1)) q.2 33 [(0, .ref (gb G + 200)), (1, .int x1), (2, .int x2), (3, .int x3), (4, .int x4), (5, .int x5)] [] σ) (K67 : Int32 → Int32 → Int32 → Int32 → Int32 → Int32 → Int32 → Int32 → Sg → Option (Int32 × Sg)) (hK67 : ∀ (x1 : Int32) (x2 : Int32) (x3 : Int32) (x4 : Int32) (x5 : Int32) (x6 : Int32) (x7 : Int32) (x8 : Int32) (σ : Sg), K67 x1 x2 x3 x4 x5 x6 x7 x8 σ = some q → Vm G MX12_hide (some (.int q.1)) q.2 67 [(0, .ref (gb G + 200)), (1, .int x1), (2, .int x2), (3, .int x3), (4, .int x4), (5, .int x5), (6, .int x6), (7, .int x7), (8, .int x8)] [] σ) (x1 : Int32) (x2 : Int32) (x3 : Int32) (x4 : Int32) (x5 : Int32) (x6 : Int32) (x7 : Int32) (x8 : Int32) (σ : Sg) (h : fM_hide_b67 K33 K67 x1 x2 x3 x4 x5 x6 x7 x8 σ = some q) : Vm G MX12_hide (some (.int q.1)) q.2 67 [(0, .ref (gb G + 200)), (1, .int x1), (2, .int x2), (3, .int x3), (4, .int x4), (5, .int x5), (6, .int x6), (7, .int x7), (8, .int x8)] [] σ := by
  unfold fM_hide_b67 at h
  refine v_iload dX12_hide_67 8 rfl (v_bipush (v := 100) dX12_hide_69 rfl (v_icmp_ge (tgt := 117) dX12_hide_71 (by decide) (fun c9 => ?_) (fun c9 => ?_)))
  · replace h := ite_t c9 h
    refine v_iload dX12_hide_117 7 rfl ?_
    obtain ⟨q10, hq10, h⟩ := bind_some h
    refine v_callS (As := [.int x7]) (S := []) dX12_hide_119 tw952 tw953 ykX12_ones rfl (by decide) rfl rfl (Nat.le_of_ble_eq_true rfl) (by decide) (eM_ones x7 _ _ hq10) ?_
    refine v_istore dX12_hide_122 [0, 1, 2, 3, 4, 5, 6, 7] rfl (by decide) (v_iload dX12_hide_124 0 rfl (v_iload_n dX12_hide_126 4 rfl rfl (v_icmp_ne (tgt := 153) dX12_hide_127 (by decide) (fun c11 => ?_) (fun c11 => ?_))))
    · replace h := ite_f c11 h
      exact v_sub [1, 2, 3, 4, 5, 6, 7, 0] rfl (sM_hide_B153 K33 hK33 x1 x2 x3 x4 x5 x6 q10 _ h)
    · replace h := ite_t c11 h
      refine v_iload dX12_hide_130 7 rfl (v_iload dX12_hide_132 5 rfl (v_icmp_ne (tgt := 153) dX12_hide_134 (by decide) (fun c12 => ?_) (fun c12 => ?_)))
      · replace h := ite_f c12 h
        exact v_sub [1, 2, 3, 4, 5, 6, 7, 0] rfl (sM_hide_B153 K33 hK33 x1 x2 x3 x4 x5 x6 q10 _ h)
      · replace h := ite_t c12 h
        refine v_iload dX12_hide_137 6 rfl ?_
        obtain ⟨q13, hq13, h⟩ := bind_some h
        refine v_callS (As := [.int x5]) (S := []) dX12_hide_139 tw952 tw953 ykX12_ones rfl (by decide) rfl rfl (Nat.le_of_ble_eq_true rfl) (by decide) (eM_ones x5 _ _ hq13) ?_
        refine v_iload_n dX12_hide_142 3 rfl rfl ?_
        obtain ⟨q14, hq14, h⟩ := bind_some h
        refine v_callS (As := [.int x2]) (S := [.int q13]) dX12_hide_143 tw952 tw953 ykX12_ones rfl (by decide) rfl rfl (Nat.le_of_ble_eq_true rfl) (by decide) (eM_ones x2 _ _ hq14) ?_
        refine v_icmp_ge (tgt := 153) dX12_hide_146 (by decide) (fun c15 => ?_) (fun c15 => ?_)
        · replace h := ite_t c15 h
          exact v_sub [1, 2, 3, 4, 5, 6, 7, 0] rfl (sM_hide_B153 K33 hK33 x1 x2 x3 x4 x5 x6 q10 _ h)
        · replace h := ite_f c15 h
          exact v_iconst dX12_hide_149 rfl (v_goto (tgt := 154) dX12_hide_150 (by decide) (v_sub [1, 2, 3, 4, 5, 6, 7, 0] rfl (sM_hide_B154 K33 hK33 x1 x2 x3 x4 x5 x6 q10 1 _ h)))
  · replace h := ite_f c9 h
    refine v_aload_n dX12_hide_74 0 rfl rfl (vm_getR (t := 208) dX12_hide_75 fsX12_31 lc_200 shc_200 (by decide) rf_200_15 ?_)
    obtain ⟨q16, hq16, h⟩ := bind_some h
    refine v_callS (As := [.ref (gb G + 208)]) (S := []) dX12_hide_78 tw858 tw859 ykX12_passes rfl (by decide) rfl rfl (Nat.le_of_ble_eq_true rfl) (by decide) (eM_passes 208 sha_208 lc_208 _ _ hq16) ?_
    refine v_aload_n dX12_hide_81 0 rfl rfl (vm_getR (t := 208) dX12_hide_82 fsX12_31 lc_200 shc_200 (by decide) rf_200_15 ?_)
    obtain ⟨q17, hq17, h⟩ := bind_some h
    refine v_callS (As := [.ref (gb G + 208)]) (S := []) dX12_hide_85 tw907 tw908 ykX12_broughtIn rfl (by decide) rfl rfl (Nat.le_of_ble_eq_true rfl) (by decide) (eM_broughtIn 208 sha_208 lc_208 _ _ hq17) ?_
    refine v_iload dX12_hide_88 7 rfl (v_icmp_ne (tgt := 98) dX12_hide_90 (by decide) (fun c18 => ?_) (fun c18 => ?_))
    · replace h := ite_f c18 h
      exact v_iload dX12_hide_98 8 rfl (v_sub [0, 1, 2, 3, 4, 5, 8] rfl (sM_hide_B100 K33 hK33 K67 hK67 x1 x2 x3 x4 x5 x8 x8 _ h))
    · replace h := ite_t c18 h
      exact v_iload dX12_hide_93 6 rfl (v_goto (tgt := 100) dX12_hide_95 (by decide) (v_sub [0, 1, 2, 3, 4, 5, 8] rfl (sM_hide_B100 K33 hK33 K67 hK67 x1 x2 x3 x4 x5 x8 x6 _ h)))
theorem sM_hide_L67 {G : Gx} {q : (Int32 × Sg)} (K33 : Int32 → Int32 → Int32 → Int32 → Int32 → Sg → Option (Int32 × Sg)) (hK33 : ∀ (x1 : Int32) (x2 : Int32) (x3 : Int32) (x4 : Int32) (x5 : Int32) (σ : Sg), K33 x1 x2 x3 x4 x5 σ = some q → Vm G MX12_hide (some (.int q.1)) q.2 33 [(0, .ref (gb G + 200)), (1, .int x1), (2, .int x2), (3, .int x3), (4, .int x4), (5, .int x5)] [] σ) (n : Nat) : ∀ (x1 : Int32) (x2 : Int32) (x3 : Int32) (x4 : Int32) (x5 : Int32) (x6 : Int32) (x7 : Int32) (x8 : Int32) (σ : Sg) (h : fM_hide_L67 K33 n x1 x2 x3 x4 x5 x6 x7 x8 σ = some q), Vm G MX12_hide (some (.int q.1)) q.2 67 [(0, .ref (gb G + 200)), (1, .int x1), (2, .int x2), (3, .int x3), (4, .int x4), (5, .int x5), (6, .int x6), (7, .int x7), (8, .int x8)] [] σ := by
  induction n with
  | zero => intro x1 x2 x3 x4 x5 x6 x7 x8 σ h; cases h
  | succ n ih => intro x1 x2 x3 x4 x5 x6 x7 x8 σ h; exact sM_hide_b67 K33 hK33 _ ih x1 x2 x3 x4 x5 x6 x7 x8 σ h
def fM_hide_b33 (K33 : Int32 → Int32 → Int32 → Int32 → Int32 → Sg → Option (Int32 × Sg)) (x1 : Int32) (x2 : Int32) (x3 : Int32) (x4 : Int32) (x5 : Int32) (σ : Sg) : Option (Int32 × Sg) := if (1 <<< ((σ 206 4) &&& 31)) ≤ x5 then (if x1 = 0 then some (x3, σ) else some (x2, σ)) else (fM_hides x5 σ).bind fun q7 => (fM_broughtIn 208 q7).bind fun q8 => fM_hide_L67 K33 2000 x1 x2 x3 x4 x5 0 q8 1 q7
def fM_hide_L33 (n : Nat) : Int32 → Int32 → Int32 → Int32 → Int32 → Sg → Option (Int32 × Sg) := Nat.rec (fun _ _ _ _ _ _ => none) (fun _ K => fM_hide_b33 K) n
set_option maxRecDepth 100000 in
set_option maxHeartbeats 4000000 in
theorem sM_hide_b33 {G : Gx} {q : (Int32 × Sg)} (K33 : Int32 → Int32 → Int32 → Int32 → Int32 → Sg → Option (Int32 × Sg)) (hK33 : ∀ (x1 : Int32) (x2 : Int32) (x3 : Int32) (x4 : Int32) (x5 : Int32) (σ : Sg), K33 x1 x2 x3 x4 x5 σ = some q → Vm G MX12_hide (some (.int q.1)) q.2 33 [(0, .ref (gb G + 200)), (1, .int x1), (2, .int x2), (3, .int x3), (4, .int x4), (5, .int x5)] [] σ) (x1 : Int32) (x2 : Int32) (x3 : Int32) (x4 : Int32) (x5 : Int32) (σ : Sg) (h : fM_hide_b33 K33 x1 x2 x3 x4 x5 σ = some q) : Vm G MX12_hide (some (.int q.1)) q.2 33 [(0, .ref (gb G + 200)), (1, .int x1), (2, .int x2), (3, .int x3), (4, .int x4), (5, .int x5)] [] σ := by
  unfold fM_hide_b33 at h
  refine v_iload dX12_hide_33 5 rfl (v_iconst dX12_hide_35 rfl (v_aload_n dX12_hide_36 0 rfl rfl (vm_getR (t := 206) dX12_hide_37 fsX12_25 lc_200 shc_200 (by decide) rf_200_13 (v_iconst dX12_hide_40 rfl (vn_iald dX12_hide_41 lc_206 sha_206 ib_4_41 ixc_4 (v_ishl dX12_hide_42 (v_icmp_ge (tgt := 237) dX12_hide_43 (by decide) (fun c5 => ?_) (fun c5 => ?_))))))))
  · replace h := ite_t c5 h
    refine v_iload_n dX12_hide_237 1 rfl rfl (v_if_ne (tgt := 245) dX12_hide_238 (by decide) (fun c6 => ?_) (fun c6 => ?_))
    · replace h := ite_f c6 h
      refine v_iload_n dX12_hide_245 2 rfl rfl ?_
      replace h := Option.some.inj h
      subst h
      exact v_iret dX12_hide_246 rfl rfl rfl rfl rfl
    · replace h := ite_t c6 h
      refine v_iload_n dX12_hide_241 3 rfl rfl (v_goto (tgt := 246) dX12_hide_242 (by decide) ?_)
      replace h := Option.some.inj h
      subst h
      exact v_iret dX12_hide_246 rfl rfl rfl rfl rfl
  · replace h := ite_f c5 h
    refine v_aload_n dX12_hide_46 0 rfl rfl (v_iload dX12_hide_47 5 rfl ?_)
    obtain ⟨q7, hq7, h⟩ := bind_some h
    refine v_callV (As := [.int x5]) (S := []) dX12_hide_49 tw948 tw950 tw32 ykX12_hides lc_200 shc_200 (by decide) ok_11 rfl (by decide) rfl rfl (Nat.le_of_ble_eq_true rfl) (by decide) (eM_hides x5 _ _ hq7) ?_
    refine v_iconst dX12_hide_52 rfl (v_istore dX12_hide_53 [0, 1, 2, 3, 4, 5, 6] rfl (by decide) (v_aload_n dX12_hide_55 1 rfl rfl (vm_getR (t := 208) dX12_hide_56 fsX12_31 lc_200 shc_200 (by decide) rf_200_15 ?_)))
    obtain ⟨q8, hq8, h⟩ := bind_some h
    refine v_callS (As := [.ref (gb G + 208)]) (S := []) dX12_hide_59 tw907 tw908 ykX12_broughtIn rfl (by decide) rfl rfl (Nat.le_of_ble_eq_true rfl) (by decide) (eM_broughtIn 208 sha_208 lc_208 _ _ hq8) ?_
    exact v_istore dX12_hide_62 [0, 1, 2, 3, 4, 5, 6, 7] rfl (by decide) (v_iconst dX12_hide_64 rfl (v_istore dX12_hide_65 [0, 1, 2, 3, 4, 5, 6, 7, 8] rfl (by decide) (v_sub [3, 4, 5, 6, 7, 8, 2, 1, 0] rfl (sM_hide_L67 K33 hK33 2000 x1 x2 x3 x4 x5 0 q8 1 _ h))))
theorem sM_hide_L33 {G : Gx} {q : (Int32 × Sg)} (n : Nat) : ∀ (x1 : Int32) (x2 : Int32) (x3 : Int32) (x4 : Int32) (x5 : Int32) (σ : Sg) (h : fM_hide_L33 n x1 x2 x3 x4 x5 σ = some q), Vm G MX12_hide (some (.int q.1)) q.2 33 [(0, .ref (gb G + 200)), (1, .int x1), (2, .int x2), (3, .int x3), (4, .int x4), (5, .int x5)] [] σ := by
  induction n with
  | zero => intro x1 x2 x3 x4 x5 σ h; cases h
  | succ n ih => intro x1 x2 x3 x4 x5 σ h; exact sM_hide_b33  _ ih x1 x2 x3 x4 x5 σ h
def fM_hide (x1 : Int32) (σ : Sg) : Option (Int32 × Sg) := (fM_isHouse σ).bind fun q1 => if q1 = 0 then some ((-1000002), σ) else (fM_in x1 0 1 σ).bind fun q3 => if q3 = 0 then some ((-1000001), σ) else fM_hide_L33 2000 x1 (-1000000) 0 0 0 σ
set_option maxRecDepth 100000 in
set_option maxHeartbeats 4000000 in
theorem eM_hide {G : Gx} (x1 : Int32) (σ : Sg) (q : (Int32 × Sg)) (h : fM_hide x1 σ = some q) : Evm G yX12_hide MX12_hide [.ref (gb G + 200), .int x1] σ (some (.int q.1)) q.2 := by
  refine Ev.of (by decide +kernel) rfl rfl (Nat.le_of_ble_eq_true rfl) ?_
  show Vm G MX12_hide (some (.int q.1)) q.2 0 [(0, .ref (gb G + 200)), (1, .int x1)] [] σ
  unfold fM_hide at h
  refine v_aload_n dX12_hide_0 0 rfl rfl ?_
  obtain ⟨q1, hq1, h⟩ := bind_some h
  refine v_callV (As := []) (S := []) dX12_hide_1 tw849 tw851 tw27 ykX12_isHouse lc_200 shc_200 (by decide) ok_11 rfl (by decide) rfl rfl (Nat.le_of_ble_eq_true rfl) (by decide) (eM_isHouse _ _ hq1) ?_
  refine v_if_ne (tgt := 10) dX12_hide_4 (by decide) (fun c2 => ?_) (fun c2 => ?_)
  · replace h := ite_f c2 h
    refine v_iload_n dX12_hide_10 1 rfl rfl (v_iconst dX12_hide_11 rfl (v_iconst dX12_hide_12 rfl ?_))
    obtain ⟨q3, hq3, h⟩ := bind_some h
    refine v_callS (As := [.int x1, .int 0, .int 1]) (S := []) dX12_hide_13 tw761 tw762 ykX12_in rfl (by decide) rfl rfl (Nat.le_of_ble_eq_true rfl) (by decide) (eM_in x1 0 1 _ _ hq3) ?_
    refine v_if_ne (tgt := 22) dX12_hide_16 (by decide) (fun c4 => ?_) (fun c4 => ?_)
    · replace h := ite_f c4 h
      exact v_ldc dX12_hide_22 tw686 (v_istore_n dX12_hide_24 [0, 1, 2] rfl (by decide) rfl (v_iconst dX12_hide_25 rfl (v_istore_n dX12_hide_26 [0, 1, 2, 3] rfl (by decide) rfl (v_iconst dX12_hide_27 rfl (v_istore dX12_hide_28 [0, 1, 2, 3, 4] rfl (by decide) (v_iconst dX12_hide_30 rfl (v_istore dX12_hide_31 [0, 1, 2, 3, 4, 5] rfl (by decide) (v_sub [4, 5, 3, 2, 1, 0] rfl (sM_hide_L33 2000 x1 (-1000000) 0 0 0 _ h)))))))))
    · replace h := ite_t c4 h
      refine v_ldc dX12_hide_19 tw764 ?_
      replace h := Option.some.inj h
      subst h
      exact v_iret dX12_hide_21 rfl rfl rfl rfl rfl
  · replace h := ite_t c2 h
    refine v_ldc dX12_hide_7 tw853 ?_
    replace h := Option.some.inj h
    subst h
    exact v_iret dX12_hide_9 rfl rfl rfl rfl rfl
def fM_beside_B152 (K61 : Int32 → Int32 → Int32 → Int32 → Int32 → Sg → Option (Int32 × Sg)) (x1 : Int32) (x2 : Int32) (x3 : Int32) (x5 : Int32) (s0 : Int32) (σ : Sg) : Option (Int32 × Sg) := K61 x1 x2 x3 s0 (x5 + 1) σ
set_option maxRecDepth 100000 in
set_option maxHeartbeats 4000000 in
theorem sM_beside_B152 {G : Gx} {q : (Int32 × Sg)} (K61 : Int32 → Int32 → Int32 → Int32 → Int32 → Sg → Option (Int32 × Sg)) (hK61 : ∀ (x1 : Int32) (x2 : Int32) (x3 : Int32) (x4 : Int32) (x5 : Int32) (σ : Sg), K61 x1 x2 x3 x4 x5 σ = some q → Vm G MX12_beside (some (.int q.1)) q.2 61 [(0, .ref (gb G + 200)), (1, .int x1), (2, .int x2), (3, .int x3), (4, .int x4), (5, .int x5)] [] σ) (x1 : Int32) (x2 : Int32) (x3 : Int32) (x5 : Int32) (s0 : Int32) (σ : Sg) (h : fM_beside_B152 K61 x1 x2 x3 x5 s0 σ = some q) : Vm G MX12_beside (some (.int q.1)) q.2 152 [(0, .ref (gb G + 200)), (1, .int x1), (2, .int x2), (3, .int x3), (5, .int x5)] [.int s0] σ := by
  unfold fM_beside_B152 at h
  exact v_istore dX12_beside_152 [0, 1, 2, 3, 4, 5] rfl (by decide) (v_iinc (v := x5 + 1) dX12_beside_154 5 rfl rfl [0, 1, 2, 3, 4, 5] rfl (by decide) (v_goto (tgt := 61) dX12_beside_157 (by decide) (v_sub [2, 3, 4, 5, 1, 0] rfl (hK61 x1 x2 x3 s0 (x5 + 1) _ h))))
def fM_beside_B139 (K61 : Int32 → Int32 → Int32 → Int32 → Int32 → Sg → Option (Int32 × Sg)) (x1 : Int32) (x2 : Int32) (x4 : Int32) (x5 : Int32) (x6 : Int32) (x7 : Int32) (s0 : Int32) (σ : Sg) : Option (Int32 × Sg) := if x7 = 0 then fM_beside_B152 K61 x1 x2 s0 x5 x4 σ else fM_beside_B152 K61 x1 x2 s0 x5 x6 σ
set_option maxRecDepth 100000 in
set_option maxHeartbeats 4000000 in
theorem sM_beside_B139 {G : Gx} {q : (Int32 × Sg)} (K61 : Int32 → Int32 → Int32 → Int32 → Int32 → Sg → Option (Int32 × Sg)) (hK61 : ∀ (x1 : Int32) (x2 : Int32) (x3 : Int32) (x4 : Int32) (x5 : Int32) (σ : Sg), K61 x1 x2 x3 x4 x5 σ = some q → Vm G MX12_beside (some (.int q.1)) q.2 61 [(0, .ref (gb G + 200)), (1, .int x1), (2, .int x2), (3, .int x3), (4, .int x4), (5, .int x5)] [] σ) (x1 : Int32) (x2 : Int32) (x4 : Int32) (x5 : Int32) (x6 : Int32) (x7 : Int32) (s0 : Int32) (σ : Sg) (h : fM_beside_B139 K61 x1 x2 x4 x5 x6 x7 s0 σ = some q) : Vm G MX12_beside (some (.int q.1)) q.2 139 [(0, .ref (gb G + 200)), (1, .int x1), (2, .int x2), (4, .int x4), (5, .int x5), (6, .int x6), (7, .int x7)] [.int s0] σ := by
  unfold fM_beside_B139 at h
  refine v_istore_n dX12_beside_139 [0, 1, 2, 3, 4, 5, 6, 7] rfl (by decide) rfl (v_iload dX12_beside_140 7 rfl (v_if_eq (tgt := 150) dX12_beside_142 (by decide) (fun c19 => ?_) (fun c19 => ?_)))
  · replace h := ite_t c19 h
    exact v_iload dX12_beside_150 4 rfl (v_sub [1, 2, 3, 0, 5] rfl (sM_beside_B152 K61 hK61 x1 x2 s0 x5 x4 _ h))
  · replace h := ite_f c19 h
    exact v_iload dX12_beside_145 6 rfl (v_goto (tgt := 152) dX12_beside_147 (by decide) (v_sub [1, 2, 3, 0, 5] rfl (sM_beside_B152 K61 hK61 x1 x2 s0 x5 x6 _ h)))
def fM_beside_B126 (K61 : Int32 → Int32 → Int32 → Int32 → Int32 → Sg → Option (Int32 × Sg)) (x1 : Int32) (x2 : Int32) (x3 : Int32) (x4 : Int32) (x5 : Int32) (x6 : Int32) (s0 : Int32) (σ : Sg) : Option (Int32 × Sg) := if s0 = 0 then fM_beside_B139 K61 x1 x2 x4 x5 x6 s0 x3 σ else fM_beside_B139 K61 x1 x2 x4 x5 x6 s0 x5 σ
set_option maxRecDepth 100000 in
set_option maxHeartbeats 4000000 in
theorem sM_beside_B126 {G : Gx} {q : (Int32 × Sg)} (K61 : Int32 → Int32 → Int32 → Int32 → Int32 → Sg → Option (Int32 × Sg)) (hK61 : ∀ (x1 : Int32) (x2 : Int32) (x3 : Int32) (x4 : Int32) (x5 : Int32) (σ : Sg), K61 x1 x2 x3 x4 x5 σ = some q → Vm G MX12_beside (some (.int q.1)) q.2 61 [(0, .ref (gb G + 200)), (1, .int x1), (2, .int x2), (3, .int x3), (4, .int x4), (5, .int x5)] [] σ) (x1 : Int32) (x2 : Int32) (x3 : Int32) (x4 : Int32) (x5 : Int32) (x6 : Int32) (s0 : Int32) (σ : Sg) (h : fM_beside_B126 K61 x1 x2 x3 x4 x5 x6 s0 σ = some q) : Vm G MX12_beside (some (.int q.1)) q.2 126 [(0, .ref (gb G + 200)), (1, .int x1), (2, .int x2), (3, .int x3), (4, .int x4), (5, .int x5), (6, .int x6)] [.int s0] σ := by
  unfold fM_beside_B126 at h
  refine v_istore dX12_beside_126 [0, 1, 2, 3, 4, 5, 6, 7] rfl (by decide) (v_iload dX12_beside_128 0 rfl (v_if_eq (tgt := 138) dX12_beside_130 (by decide) (fun c18 => ?_) (fun c18 => ?_)))
  · replace h := ite_t c18 h
    exact v_iload_n dX12_beside_138 4 rfl rfl (v_sub [1, 2, 3, 5, 6, 7, 0] rfl (sM_beside_B139 K61 hK61 x1 x2 x4 x5 x6 s0 x3 _ h))
  · replace h := ite_f c18 h
    exact v_iload dX12_beside_133 6 rfl (v_goto (tgt := 139) dX12_beside_135 (by decide) (v_sub [1, 2, 3, 5, 6, 7, 0] rfl (sM_beside_B139 K61 hK61 x1 x2 x4 x5 x6 s0 x5 _ h)))
def fM_beside_B121 (K61 : Int32 → Int32 → Int32 → Int32 → Int32 → Sg → Option (Int32 × Sg)) (x1 : Int32) (x2 : Int32) (x3 : Int32) (x4 : Int32) (x5 : Int32) (x6 : Int32) (σ : Sg) : Option (Int32 × Sg) := fM_beside_B126 K61 x1 x2 x3 x4 x5 x6 1 σ
set_option maxRecDepth 100000 in
set_option maxHeartbeats 4000000 in
theorem sM_beside_B121 {G : Gx} {q : (Int32 × Sg)} (K61 : Int32 → Int32 → Int32 → Int32 → Int32 → Sg → Option (Int32 × Sg)) (hK61 : ∀ (x1 : Int32) (x2 : Int32) (x3 : Int32) (x4 : Int32) (x5 : Int32) (σ : Sg), K61 x1 x2 x3 x4 x5 σ = some q → Vm G MX12_beside (some (.int q.1)) q.2 61 [(0, .ref (gb G + 200)), (1, .int x1), (2, .int x2), (3, .int x3), (4, .int x4), (5, .int x5)] [] σ) (x1 : Int32) (x2 : Int32) (x3 : Int32) (x4 : Int32) (x5 : Int32) (x6 : Int32) (σ : Sg) (h : fM_beside_B121 K61 x1 x2 x3 x4 x5 x6 σ = some q) : Vm G MX12_beside (some (.int q.1)) q.2 121 [(0, .ref (gb G + 200)), (1, .int x1), (2, .int x2), (3, .int x3), (4, .int x4), (5, .int x5), (6, .int x6)] [] σ := by
  unfold fM_beside_B121 at h
  exact v_iconst dX12_beside_121 rfl (v_goto (tgt := 126) dX12_beside_122 (by decide) (sM_beside_B126 K61 hK61 x1 x2 x3 x4 x5 x6 1 _ h))
def fM_beside_B125 (K61 : Int32 → Int32 → Int32 → Int32 → Int32 → Sg → Option (Int32 × Sg)) (x1 : Int32) (x2 : Int32) (x3 : Int32) (x4 : Int32) (x5 : Int32) (x6 : Int32) (σ : Sg) : Option (Int32 × Sg) := fM_beside_B126 K61 x1 x2 x3 x4 x5 x6 0 σ
set_option maxRecDepth 100000 in
set_option maxHeartbeats 4000000 in
theorem sM_beside_B125 {G : Gx} {q : (Int32 × Sg)} (K61 : Int32 → Int32 → Int32 → Int32 → Int32 → Sg → Option (Int32 × Sg)) (hK61 : ∀ (x1 : Int32) (x2 : Int32) (x3 : Int32) (x4 : Int32) (x5 : Int32) (σ : Sg), K61 x1 x2 x3 x4 x5 σ = some q → Vm G MX12_beside (some (.int q.1)) q.2 61 [(0, .ref (gb G + 200)), (1, .int x1), (2, .int x2), (3, .int x3), (4, .int x4), (5, .int x5)] [] σ) (x1 : Int32) (x2 : Int32) (x3 : Int32) (x4 : Int32) (x5 : Int32) (x6 : Int32) (σ : Sg) (h : fM_beside_B125 K61 x1 x2 x3 x4 x5 x6 σ = some q) : Vm G MX12_beside (some (.int q.1)) q.2 125 [(0, .ref (gb G + 200)), (1, .int x1), (2, .int x2), (3, .int x3), (4, .int x4), (5, .int x5), (6, .int x6)] [] σ := by
  unfold fM_beside_B125 at h
  exact v_iconst dX12_beside_125 rfl (sM_beside_B126 K61 hK61 x1 x2 x3 x4 x5 x6 0 _ h)
def fM_beside_b61 (K61 : Int32 → Int32 → Int32 → Int32 → Int32 → Sg → Option (Int32 × Sg)) (x1 : Int32) (x2 : Int32) (x3 : Int32) (x4 : Int32) (x5 : Int32) (σ : Sg) : Option (Int32 × Sg) := if (σ 206 0) < x5 then (if x2 = 0 then some (x3, σ) else some (x4, σ)) else (fM_tries 0 σ).bind fun q11 => if inb ((5 + (6 * x1)) + 1) 41 = true then ltc (wr q11 208 (ix ((5 + (6 * x1)) + 1)) x5) fun σ13 => (fM_broughtBy x1 99 σ13).bind fun q14 => if q14.1 = (-1000000) then fM_beside_B125 K61 x1 x2 x3 x4 x5 q14.1 q14.2 else if x3 = (-1000000) then fM_beside_B121 K61 x1 x2 x3 x4 x5 q14.1 q14.2 else if x4 ≤ q14.1 then fM_beside_B125 K61 x1 x2 x3 x4 x5 q14.1 q14.2 else fM_beside_B121 K61 x1 x2 x3 x4 x5 q14.1 q14.2 else none
def fM_beside_L61 (n : Nat) : Int32 → Int32 → Int32 → Int32 → Int32 → Sg → Option (Int32 × Sg) := Nat.rec (fun _ _ _ _ _ _ => none) (fun _ K => fM_beside_b61 K) n
set_option maxRecDepth 100000 in
set_option maxHeartbeats 4000000 in
theorem sM_beside_b61 {G : Gx} {q : (Int32 × Sg)} (K61 : Int32 → Int32 → Int32 → Int32 → Int32 → Sg → Option (Int32 × Sg)) (hK61 : ∀ (x1 : Int32) (x2 : Int32) (x3 : Int32) (x4 : Int32) (x5 : Int32) (σ : Sg), K61 x1 x2 x3 x4 x5 σ = some q → Vm G MX12_beside (some (.int q.1)) q.2 61 [(0, .ref (gb G + 200)), (1, .int x1), (2, .int x2), (3, .int x3), (4, .int x4), (5, .int x5)] [] σ) (x1 : Int32) (x2 : Int32) (x3 : Int32) (x4 : Int32) (x5 : Int32) (σ : Sg) (h : fM_beside_b61 K61 x1 x2 x3 x4 x5 σ = some q) : Vm G MX12_beside (some (.int q.1)) q.2 61 [(0, .ref (gb G + 200)), (1, .int x1), (2, .int x2), (3, .int x3), (4, .int x4), (5, .int x5)] [] σ := by
  unfold fM_beside_b61 at h
  refine v_iload dX12_beside_61 5 rfl (v_aload_n dX12_beside_63 0 rfl rfl (vm_getR (t := 206) dX12_beside_64 fsX12_25 lc_200 shc_200 (by decide) rf_200_13 (v_iconst dX12_beside_67 rfl (vn_iald dX12_beside_68 lc_206 sha_206 ib_0_41 ixc_0 (v_icmp_gt (tgt := 160) dX12_beside_69 (by decide) (fun c9 => ?_) (fun c9 => ?_))))))
  · replace h := ite_t c9 h
    refine v_iload_n dX12_beside_160 2 rfl rfl (v_if_ne (tgt := 168) dX12_beside_161 (by decide) (fun c10 => ?_) (fun c10 => ?_))
    · replace h := ite_f c10 h
      refine v_iload dX12_beside_168 4 rfl ?_
      replace h := Option.some.inj h
      subst h
      exact v_iret dX12_beside_170 rfl rfl rfl rfl rfl
    · replace h := ite_t c10 h
      refine v_iload_n dX12_beside_164 3 rfl rfl (v_goto (tgt := 170) dX12_beside_165 (by decide) ?_)
      replace h := Option.some.inj h
      subst h
      exact v_iret dX12_beside_170 rfl rfl rfl rfl rfl
  · replace h := ite_f c9 h
    refine v_aload_n dX12_beside_72 0 rfl rfl (v_iconst dX12_beside_73 rfl ?_)
    obtain ⟨q11, hq11, h⟩ := bind_some h
    refine v_callV (As := [.int 0]) (S := []) dX12_beside_74 tw917 tw919 tw30 ykX12_tries lc_200 shc_200 (by decide) ok_11 rfl (by decide) rfl rfl (Nat.le_of_ble_eq_true rfl) (by decide) (eM_tries 0 _ _ hq11) ?_
    refine v_aload_n dX12_beside_77 0 rfl rfl (vm_getR (t := 208) dX12_beside_78 fsX12_31 lc_200 shc_200 (by decide) rf_200_15 (v_iconst dX12_beside_81 rfl (v_bipush (v := 6) dX12_beside_82 rfl (v_iload_n dX12_beside_84 1 rfl rfl (v_imul dX12_beside_85 (v_iadd dX12_beside_86 (v_iconst dX12_beside_87 rfl (v_iadd dX12_beside_88 (v_iload dX12_beside_89 5 rfl ?_)))))))))
    obtain ⟨g12, h⟩ := guard_some h
    obtain ⟨σ13, eσ13, h⟩ := ltc_some h
    refine vn_iast dX12_beside_91 lc_208 sha_208 g12 rfl eσ13 (v_aload_n dX12_beside_92 0 rfl rfl (v_iload_n dX12_beside_93 1 rfl rfl (v_bipush (v := 99) dX12_beside_94 rfl ?_)))
    obtain ⟨q14, hq14, h⟩ := bind_some h
    refine v_callV (As := [.int x1, .int 99]) (S := []) dX12_beside_96 tw925 tw927 tw31 ykX12_broughtBy lc_200 shc_200 (by decide) ok_11 rfl (by decide) rfl rfl (Nat.le_of_ble_eq_true rfl) (by decide) (eM_broughtBy x1 99 _ _ hq14) ?_
    refine v_istore dX12_beside_99 [0, 1, 2, 3, 4, 5, 6] rfl (by decide) (v_iload dX12_beside_101 0 rfl (v_ldc dX12_beside_103 tw686 (v_icmp_eq (tgt := 125) dX12_beside_105 (by decide) (fun c15 => ?_) (fun c15 => ?_))))
    · replace h := ite_t c15 h
      exact v_sub [1, 2, 3, 4, 5, 6, 0] rfl (sM_beside_B125 K61 hK61 x1 x2 x3 x4 x5 q14.1 _ h)
    · replace h := ite_f c15 h
      refine v_iload_n dX12_beside_108 4 rfl rfl (v_ldc dX12_beside_109 tw686 (v_icmp_eq (tgt := 121) dX12_beside_111 (by decide) (fun c16 => ?_) (fun c16 => ?_)))
      · replace h := ite_t c16 h
        exact v_sub [1, 2, 3, 4, 5, 6, 0] rfl (sM_beside_B121 K61 hK61 x1 x2 x3 x4 x5 q14.1 _ h)
      · replace h := ite_f c16 h
        refine v_iload dX12_beside_114 0 rfl (v_iload dX12_beside_116 5 rfl (v_icmp_ge (tgt := 125) dX12_beside_118 (by decide) (fun c17 => ?_) (fun c17 => ?_)))
        · replace h := ite_t c17 h
          exact v_sub [1, 2, 3, 4, 5, 6, 0] rfl (sM_beside_B125 K61 hK61 x1 x2 x3 x4 x5 q14.1 _ h)
        · replace h := ite_f c17 h
          exact v_sub [1, 2, 3, 4, 5, 6, 0] rfl (sM_beside_B121 K61 hK61 x1 x2 x3 x4 x5 q14.1 _ h)
theorem sM_beside_L61 {G : Gx} {q : (Int32 × Sg)} (n : Nat) : ∀ (x1 : Int32) (x2 : Int32) (x3 : Int32) (x4 : Int32) (x5 : Int32) (σ : Sg) (h : fM_beside_L61 n x1 x2 x3 x4 x5 σ = some q), Vm G MX12_beside (some (.int q.1)) q.2 61 [(0, .ref (gb G + 200)), (1, .int x1), (2, .int x2), (3, .int x3), (4, .int x4), (5, .int x5)] [] σ := by
  induction n with
  | zero => intro x1 x2 x3 x4 x5 σ h; cases h
  | succ n ih => intro x1 x2 x3 x4 x5 σ h; exact sM_beside_b61  _ ih x1 x2 x3 x4 x5 σ h
def fM_beside (x1 : Int32) (x2 : Int32) (σ : Sg) : Option (Int32 × Sg) := (fM_isPerson x1 σ).bind fun q1 => if q1 = 0 then some ((-1000001), σ) else (fM_in x2 0 1 σ).bind fun q3 => if q3 = 0 then some ((-1000001), σ) else (fM_rides 206 x1 σ).bind fun q5 => if q5 = 0 then (if inb ((5 + (6 * x1)) + 5) 41 = true then if (σ 206 (ix ((5 + (6 * x1)) + 5))) = 1 then some ((-1000002), σ) else fM_beside_L61 2000 x1 x2 (-1000000) (-1000000) 0 σ else none) else some ((-1000002), σ)
set_option maxRecDepth 100000 in
set_option maxHeartbeats 4000000 in
theorem eM_beside {G : Gx} (x1 : Int32) (x2 : Int32) (σ : Sg) (q : (Int32 × Sg)) (h : fM_beside x1 x2 σ = some q) : Evm G yX12_beside MX12_beside [.ref (gb G + 200), .int x1, .int x2] σ (some (.int q.1)) q.2 := by
  refine Ev.of (by decide +kernel) rfl rfl (Nat.le_of_ble_eq_true rfl) ?_
  show Vm G MX12_beside (some (.int q.1)) q.2 0 [(0, .ref (gb G + 200)), (1, .int x1), (2, .int x2)] [] σ
  unfold fM_beside at h
  refine v_aload_n dX12_beside_0 0 rfl rfl (v_iload_n dX12_beside_1 1 rfl rfl ?_)
  obtain ⟨q1, hq1, h⟩ := bind_some h
  refine v_callV (As := [.int x1]) (S := []) dX12_beside_2 tw880 tw882 tw29 ykX12_isPerson lc_200 shc_200 (by decide) ok_11 rfl (by decide) rfl rfl (Nat.le_of_ble_eq_true rfl) (by decide) (eM_isPerson x1 _ _ hq1) ?_
  refine v_if_eq (tgt := 17) dX12_beside_5 (by decide) (fun c2 => ?_) (fun c2 => ?_)
  · replace h := ite_t c2 h
    refine v_ldc dX12_beside_17 tw764 ?_
    replace h := Option.some.inj h
    subst h
    exact v_iret dX12_beside_19 rfl rfl rfl rfl rfl
  · replace h := ite_f c2 h
    refine v_iload_n dX12_beside_8 2 rfl rfl (v_iconst dX12_beside_9 rfl (v_iconst dX12_beside_10 rfl ?_))
    obtain ⟨q3, hq3, h⟩ := bind_some h
    refine v_callS (As := [.int x2, .int 0, .int 1]) (S := []) dX12_beside_11 tw761 tw762 ykX12_in rfl (by decide) rfl rfl (Nat.le_of_ble_eq_true rfl) (by decide) (eM_in x2 0 1 _ _ hq3) ?_
    refine v_if_ne (tgt := 20) dX12_beside_14 (by decide) (fun c4 => ?_) (fun c4 => ?_)
    · replace h := ite_f c4 h
      refine v_aload_n dX12_beside_20 0 rfl rfl (vm_getR (t := 206) dX12_beside_21 fsX12_25 lc_200 shc_200 (by decide) rf_200_13 (v_iload_n dX12_beside_24 1 rfl rfl ?_))
      obtain ⟨q5, hq5, h⟩ := bind_some h
      refine v_callS (As := [.ref (gb G + 206), .int x1]) (S := []) dX12_beside_25 tw870 tw871 ykX12_rides rfl (by decide) rfl rfl (Nat.le_of_ble_eq_true rfl) (by decide) (eM_rides 206 sha_206 lc_206 x1 _ _ hq5) ?_
      refine v_if_ne (tgt := 48) dX12_beside_28 (by decide) (fun c6 => ?_) (fun c6 => ?_)
      · replace h := ite_f c6 h
        refine v_ldc dX12_beside_48 tw853 ?_
        replace h := Option.some.inj h
        subst h
        exact v_iret dX12_beside_50 rfl rfl rfl rfl rfl
      · replace h := ite_t c6 h
        refine v_aload_n dX12_beside_31 0 rfl rfl (vm_getR (t := 206) dX12_beside_32 fsX12_25 lc_200 shc_200 (by decide) rf_200_13 (v_iconst dX12_beside_35 rfl (v_bipush (v := 6) dX12_beside_36 rfl (v_iload_n dX12_beside_38 1 rfl rfl (v_imul dX12_beside_39 (v_iadd dX12_beside_40 (v_iconst dX12_beside_41 rfl (v_iadd dX12_beside_42 ?_))))))))
        obtain ⟨g7, h⟩ := guard_some h
        refine vn_iald dX12_beside_43 lc_206 sha_206 g7 rfl (v_iconst dX12_beside_44 rfl (v_icmp_ne (tgt := 51) dX12_beside_45 (by decide) (fun c8 => ?_) (fun c8 => ?_)))
        · replace h := ite_f c8 h
          exact v_ldc dX12_beside_51 tw686 (v_istore_n dX12_beside_53 [0, 1, 2, 3] rfl (by decide) rfl (v_ldc dX12_beside_54 tw686 (v_istore dX12_beside_56 [0, 1, 2, 3, 4] rfl (by decide) (v_iconst dX12_beside_58 rfl (v_istore dX12_beside_59 [0, 1, 2, 3, 4, 5] rfl (by decide) (v_sub [3, 4, 5, 2, 1, 0] rfl (sM_beside_L61 2000 x1 x2 (-1000000) (-1000000) 0 _ h)))))))
        · replace h := ite_t c8 h
          refine v_ldc dX12_beside_48 tw853 ?_
          replace h := Option.some.inj h
          subst h
          exact v_iret dX12_beside_50 rfl rfl rfl rfl rfl
    · replace h := ite_t c4 h
      refine v_ldc dX12_beside_17 tw764 ?_
      replace h := Option.some.inj h
      subst h
      exact v_iret dX12_beside_19 rfl rfl rfl rfl rfl
def fM_goesSo_B45 (K5 : Int32 → Int32 → Int32 → Int32 → Sg → Option (Int32 × Sg)) (x1 : Int32) (x2 : Int32) (x4 : Int32) (s0 : Int32) (σ : Sg) : Option (Int32 × Sg) := K5 x1 x2 s0 (x4 + 1) σ
set_option maxRecDepth 100000 in
set_option maxHeartbeats 4000000 in
theorem sM_goesSo_B45 {G : Gx} {q : (Int32 × Sg)} (K5 : Int32 → Int32 → Int32 → Int32 → Sg → Option (Int32 × Sg)) (hK5 : ∀ (x1 : Int32) (x2 : Int32) (x3 : Int32) (x4 : Int32) (σ : Sg), K5 x1 x2 x3 x4 σ = some q → Vm G MX12_goesSo (some (.int q.1)) q.2 5 [(0, .ref (gb G + 200)), (1, .int x1), (2, .int x2), (3, .int x3), (4, .int x4)] [] σ) (x1 : Int32) (x2 : Int32) (x4 : Int32) (s0 : Int32) (σ : Sg) (h : fM_goesSo_B45 K5 x1 x2 x4 s0 σ = some q) : Vm G MX12_goesSo (some (.int q.1)) q.2 45 [(0, .ref (gb G + 200)), (1, .int x1), (2, .int x2), (4, .int x4)] [.int s0] σ := by
  unfold fM_goesSo_B45 at h
  exact v_istore_n dX12_goesSo_45 [0, 1, 2, 3, 4] rfl (by decide) rfl (v_iinc (v := x4 + 1) dX12_goesSo_46 4 rfl rfl [0, 1, 2, 3, 4] rfl (by decide) (v_goto (tgt := 5) dX12_goesSo_49 (by decide) (v_sub [2, 3, 4, 1, 0] rfl (hK5 x1 x2 s0 (x4 + 1) _ h))))
def fM_goesSo_B44 (K5 : Int32 → Int32 → Int32 → Int32 → Sg → Option (Int32 × Sg)) (x1 : Int32) (x2 : Int32) (x4 : Int32) (σ : Sg) : Option (Int32 × Sg) := fM_goesSo_B45 K5 x1 x2 x4 0 σ
set_option maxRecDepth 100000 in
set_option maxHeartbeats 4000000 in
theorem sM_goesSo_B44 {G : Gx} {q : (Int32 × Sg)} (K5 : Int32 → Int32 → Int32 → Int32 → Sg → Option (Int32 × Sg)) (hK5 : ∀ (x1 : Int32) (x2 : Int32) (x3 : Int32) (x4 : Int32) (σ : Sg), K5 x1 x2 x3 x4 σ = some q → Vm G MX12_goesSo (some (.int q.1)) q.2 5 [(0, .ref (gb G + 200)), (1, .int x1), (2, .int x2), (3, .int x3), (4, .int x4)] [] σ) (x1 : Int32) (x2 : Int32) (x4 : Int32) (σ : Sg) (h : fM_goesSo_B44 K5 x1 x2 x4 σ = some q) : Vm G MX12_goesSo (some (.int q.1)) q.2 44 [(0, .ref (gb G + 200)), (1, .int x1), (2, .int x2), (4, .int x4)] [] σ := by
  unfold fM_goesSo_B44 at h
  exact v_iconst dX12_goesSo_44 rfl (sM_goesSo_B45 K5 hK5 x1 x2 x4 0 _ h)
def fM_goesSo_b5 (K5 : Int32 → Int32 → Int32 → Int32 → Sg → Option (Int32 × Sg)) (x1 : Int32) (x2 : Int32) (x3 : Int32) (x4 : Int32) (σ : Sg) : Option (Int32 × Sg) := if x2 ≤ x4 then (if isb x3 = true then some (x3, σ) else none) else (fM_passes 208 σ).bind fun q3 => if x3 = 0 then fM_goesSo_B44 K5 x1 x2 x4 q3 else if inb (x1 + x4) 320 = true then if (q3 208 1) = (q3 203 (ix (x1 + x4))) then fM_goesSo_B45 K5 x1 x2 x4 1 q3 else fM_goesSo_B44 K5 x1 x2 x4 q3 else none
def fM_goesSo_L5 (n : Nat) : Int32 → Int32 → Int32 → Int32 → Sg → Option (Int32 × Sg) := Nat.rec (fun _ _ _ _ _ => none) (fun _ K => fM_goesSo_b5 K) n
set_option maxRecDepth 100000 in
set_option maxHeartbeats 4000000 in
theorem sM_goesSo_b5 {G : Gx} {q : (Int32 × Sg)} (K5 : Int32 → Int32 → Int32 → Int32 → Sg → Option (Int32 × Sg)) (hK5 : ∀ (x1 : Int32) (x2 : Int32) (x3 : Int32) (x4 : Int32) (σ : Sg), K5 x1 x2 x3 x4 σ = some q → Vm G MX12_goesSo (some (.int q.1)) q.2 5 [(0, .ref (gb G + 200)), (1, .int x1), (2, .int x2), (3, .int x3), (4, .int x4)] [] σ) (x1 : Int32) (x2 : Int32) (x3 : Int32) (x4 : Int32) (σ : Sg) (h : fM_goesSo_b5 K5 x1 x2 x3 x4 σ = some q) : Vm G MX12_goesSo (some (.int q.1)) q.2 5 [(0, .ref (gb G + 200)), (1, .int x1), (2, .int x2), (3, .int x3), (4, .int x4)] [] σ := by
  unfold fM_goesSo_b5 at h
  refine v_iload dX12_goesSo_5 4 rfl (v_iload_n dX12_goesSo_7 2 rfl rfl (v_icmp_ge (tgt := 52) dX12_goesSo_8 (by decide) (fun c1 => ?_) (fun c1 => ?_)))
  · replace h := ite_t c1 h
    refine v_iload_n dX12_goesSo_52 3 rfl rfl ?_
    obtain ⟨g2, h⟩ := guard_some h
    replace h := Option.some.inj h
    subst h
    exact v_zret dX12_goesSo_53 rfl (isb_or g2) rfl rfl rfl rfl
  · replace h := ite_f c1 h
    refine v_aload_n dX12_goesSo_11 0 rfl rfl (vm_getR (t := 208) dX12_goesSo_12 fsX12_31 lc_200 shc_200 (by decide) rf_200_15 ?_)
    obtain ⟨q3, hq3, h⟩ := bind_some h
    refine v_callS (As := [.ref (gb G + 208)]) (S := []) dX12_goesSo_15 tw858 tw859 ykX12_passes rfl (by decide) rfl rfl (Nat.le_of_ble_eq_true rfl) (by decide) (eM_passes 208 sha_208 lc_208 _ _ hq3) ?_
    refine v_iload_n dX12_goesSo_18 3 rfl rfl (v_if_eq (tgt := 44) dX12_goesSo_19 (by decide) (fun c4 => ?_) (fun c4 => ?_))
    · replace h := ite_t c4 h
      exact v_sub [0, 1, 2, 4] rfl (sM_goesSo_B44 K5 hK5 x1 x2 x4 _ h)
    · replace h := ite_f c4 h
      refine v_aload_n dX12_goesSo_22 0 rfl rfl (vm_getR (t := 208) dX12_goesSo_23 fsX12_31 lc_200 shc_200 (by decide) rf_200_15 (v_iconst dX12_goesSo_26 rfl (vn_iald dX12_goesSo_27 lc_208 sha_208 ib_1_41 ixc_1 (v_aload_n dX12_goesSo_28 0 rfl rfl (vm_getR (t := 203) dX12_goesSo_29 fsX12_16 lc_200 shc_200 (by decide) rf_200_2 (v_iload_n dX12_goesSo_32 1 rfl rfl (v_iload dX12_goesSo_33 4 rfl (v_iadd dX12_goesSo_35 ?_))))))))
      obtain ⟨g5, h⟩ := guard_some h
      refine vn_iald dX12_goesSo_36 lc_203 sha_203 g5 rfl (v_icmp_ne (tgt := 44) dX12_goesSo_37 (by decide) (fun c6 => ?_) (fun c6 => ?_))
      · replace h := ite_f c6 h
        exact v_sub [0, 1, 2, 4] rfl (sM_goesSo_B44 K5 hK5 x1 x2 x4 _ h)
      · replace h := ite_t c6 h
        exact v_iconst dX12_goesSo_40 rfl (v_goto (tgt := 45) dX12_goesSo_41 (by decide) (v_sub [0, 1, 2, 4] rfl (sM_goesSo_B45 K5 hK5 x1 x2 x4 1 _ h)))
theorem sM_goesSo_L5 {G : Gx} {q : (Int32 × Sg)} (n : Nat) : ∀ (x1 : Int32) (x2 : Int32) (x3 : Int32) (x4 : Int32) (σ : Sg) (h : fM_goesSo_L5 n x1 x2 x3 x4 σ = some q), Vm G MX12_goesSo (some (.int q.1)) q.2 5 [(0, .ref (gb G + 200)), (1, .int x1), (2, .int x2), (3, .int x3), (4, .int x4)] [] σ := by
  induction n with
  | zero => intro x1 x2 x3 x4 σ h; cases h
  | succ n ih => intro x1 x2 x3 x4 σ h; exact sM_goesSo_b5  _ ih x1 x2 x3 x4 σ h
def fM_goesSo (x1 : Int32) (x2 : Int32) (σ : Sg) : Option (Int32 × Sg) := fM_goesSo_L5 2000 x1 x2 1 0 σ
set_option maxRecDepth 100000 in
set_option maxHeartbeats 4000000 in
theorem eM_goesSo {G : Gx} (x1 : Int32) (x2 : Int32) (σ : Sg) (q : (Int32 × Sg)) (h : fM_goesSo x1 x2 σ = some q) : Evm G yX12_goesSo MX12_goesSo [.ref (gb G + 200), .int x1, .int x2] σ (some (.int q.1)) q.2 := by
  refine Ev.of (by decide +kernel) rfl rfl (Nat.le_of_ble_eq_true rfl) ?_
  show Vm G MX12_goesSo (some (.int q.1)) q.2 0 [(0, .ref (gb G + 200)), (1, .int x1), (2, .int x2)] [] σ
  unfold fM_goesSo at h
  exact v_iconst dX12_goesSo_0 rfl (v_istore_n dX12_goesSo_1 [0, 1, 2, 3] rfl (by decide) rfl (v_iconst dX12_goesSo_2 rfl (v_istore dX12_goesSo_3 [0, 1, 2, 3, 4] rfl (by decide) (v_sub [2, 3, 4, 1, 0] rfl (sM_goesSo_L5 2000 x1 x2 1 0 _ h)))))
