/-! one subscriber: the class's changes and the row's -/
def ms_fr (lo hi : Nat) (M M' : ce_M) : Prop := M'.2 = M.2 ∧ ∀ q, q < lo ∨ hi ≤ q → ce_rd M' q = ce_rd M q
theorem ms_fr_t {lo hi : Nat} {M M1 M2 : ce_M} (h : ms_fr lo hi M M1) (h2 : ms_fr lo hi M1 M2) : ms_fr lo hi M M2 := ⟨h2.1.trans h.1, fun q hq => (h2.2 q hq).trans (h.2 q hq)⟩
theorem ms_fr_w {lo hi k j : Nat} {M : ce_M} {v : Int32} (h : lo ≤ k) (h2 : k < hi) : ms_fr lo hi M (ce_wr M k j v) := ⟨rfl, fun q hq => ms_row (by omega)⟩
theorem ms_fr_up {lo hi lo2 hi2 : Nat} {M M' : ce_M} (h : ms_fr lo hi M M') (h1 : lo2 ≤ lo) (h2 : hi ≤ hi2) : ms_fr lo2 hi2 M M' := ⟨h.1, fun q hq => h.2 q (by omega)⟩
theorem ms_fr_r {lo hi : Nat} {M : ce_M} : ms_fr lo hi M M := ⟨rfl, fun _ _ => rfl⟩
theorem sp_rt_eq {σ τ : Nat → Int32} {a : Nat} : ∀ n, (∀ e, e < n → τ (456 + 6 * e + 4) = σ (456 + 6 * e + 4)) → sp_rt τ a n = sp_rt σ a n := by
  intro n
  induction n with
  | zero => intro _; rfl
  | succ n ih => intro h; show sp_rt τ a n + sp_bit _ a = sp_rt σ a n + sp_bit _ a; rw [ih (fun e he => h e (by omega)), h n (by omega)]
theorem ms_SR_fr {M M' : ce_M} {k a : Nat} {σ τ : Nat → Int32} (h : ms_SR M k σ a) (hM : ∀ q, k ≤ q → q < k + 7 → ce_rd M' q = ce_rd M q) (hs : ∀ j, j < 54 → τ (24 + 54 * a + j) = σ (24 + 54 * a + j)) (hr : sp_rt τ a 60 = sp_rt σ a 60) : ms_SR M' k τ a := by
  obtain ⟨r0, r1, r2, r3, r4, r5, r6, r7, r8, r9, r10, r11, r12, r13, r14⟩ := h
  unfold ms_SR
  rw [hM k (by omega) (by omega), hM (k + 1) (by omega) (by omega), hM (k + 5) (by omega) (by omega), hM (k + 5 + 1) (by omega) (by omega), hM (k + 1 + 1) (by omega) (by omega), hM (k + 1 + 2) (by omega) (by omega), hM (k + 1 + 3) (by omega) (by omega), hs 0 (by omega), hs 1 (by omega), hs 2 (by omega), hs 3 (by omega), hs 4 (by omega), hs 5 (by omega), hs 6 (by omega), hs 7 (by omega), hs 8 (by omega), hs 9 (by omega), hs 10 (by omega), hs 11 (by omega), hr]
  refine ⟨r0, r1, r2, r3, r4, r5, r6, r7, r8, r9, r10, r11, r12, fun w h1 h2 i hi => ?_, fun c h1 h2 j hj => ?_⟩
  · rw [hs (12 + i) (by omega)]; exact r13 w h1 h2 i hi
  · rw [hs _ (by omega), hs _ (by omega), hs _ (by omega)]; exact r14 c h1 h2 j hj
theorem cs_F2 {M : ce_M} {k a : Nat} {σ : Nat → Int32} (ha : a < 8) (h : ms_SR M k σ a) (v : Int32) : ms_SR (ce_wr M k 2 v) k (upd σ (24 + 54 * a + 0) v) a := by
  obtain ⟨r0, r1, r2, r3, r4, r5, r6, r7, r8, r9, r10, r11, r12, r13, r14⟩ := h
  refine ⟨by rw [ms_rw1 rfl rfl, ms_u1 rfl], by rw [ms_rw3 (by omega), ms_u2 (by omega)]; exact r1, by rw [ms_rw3 (by omega), ms_u2 (by omega)]; exact r2, by rw [ms_rw3 (by omega), ms_u2 (by omega)]; exact r3, by rw [ms_rw3 (by omega), ms_u2 (by omega)]; exact r4, by rw [ms_rw3 (by omega), ms_u2 (by omega)]; exact r5, by rw [ms_row (by omega), ms_u2 (by omega)]; exact r6, by rw [ms_rw3 (by omega), ms_u2 (by omega)]; exact r7, by rw [ms_rw3 (by omega), ms_u2 (by omega)]; exact r8, by rw [ms_rw3 (by omega), ms_u2 (by omega)]; exact r9, by rw [ms_rw3 (by omega), ms_u2 (by omega)]; exact r10, by rw [ms_row (by omega), ms_u2 (by omega)]; exact r11, by rw [ms_rw3 (by omega), sp_rt_eq 60 (fun e he => ms_u2 (by omega))]; exact r12, fun w h1 h2 i hi => ?_, fun c h1 h2 j hj => ?_⟩
  · rw [ms_u2 (by omega)] at h1
    rw [ms_row (by omega), ms_u2 (by omega)]
    exact r13 w h1 h2 i hi
  · rw [ms_u2 (by omega)] at h1
    rw [ms_row (by omega), ms_row (by omega), ms_row (by omega), ms_u2 (by omega), ms_u2 (by omega), ms_u2 (by omega)]
    exact r14 c h1 h2 j hj
theorem cs_F3 {M : ce_M} {k a : Nat} {σ : Nat → Int32} (ha : a < 8) (h : ms_SR M k σ a) (v : Int32) : ms_SR (ce_wr M k 3 v) k (upd σ (24 + 54 * a + 1) v) a := by
  obtain ⟨r0, r1, r2, r3, r4, r5, r6, r7, r8, r9, r10, r11, r12, r13, r14⟩ := h
  refine ⟨by rw [ms_rw3 (by omega), ms_u2 (by omega)]; exact r0, by rw [ms_rw1 rfl rfl, ms_u1 rfl], by rw [ms_rw3 (by omega), ms_u2 (by omega)]; exact r2, by rw [ms_rw3 (by omega), ms_u2 (by omega)]; exact r3, by rw [ms_rw3 (by omega), ms_u2 (by omega)]; exact r4, by rw [ms_rw3 (by omega), ms_u2 (by omega)]; exact r5, by rw [ms_row (by omega), ms_u2 (by omega)]; exact r6, by rw [ms_rw3 (by omega), ms_u2 (by omega)]; exact r7, by rw [ms_rw3 (by omega), ms_u2 (by omega)]; exact r8, by rw [ms_rw3 (by omega), ms_u2 (by omega)]; exact r9, by rw [ms_rw3 (by omega), ms_u2 (by omega)]; exact r10, by rw [ms_row (by omega), ms_u2 (by omega)]; exact r11, by rw [ms_rw3 (by omega), sp_rt_eq 60 (fun e he => ms_u2 (by omega))]; exact r12, fun w h1 h2 i hi => ?_, fun c h1 h2 j hj => ?_⟩
  · rw [ms_u2 (by omega)] at h1
    rw [ms_row (by omega), ms_u2 (by omega)]
    exact r13 w h1 h2 i hi
  · rw [ms_u2 (by omega)] at h1
    rw [ms_row (by omega), ms_row (by omega), ms_row (by omega), ms_u2 (by omega), ms_u2 (by omega), ms_u2 (by omega)]
    exact r14 c h1 h2 j hj
theorem cs_F4 {M : ce_M} {k a : Nat} {σ : Nat → Int32} (ha : a < 8) (h : ms_SR M k σ a) (v : Int32) : ms_SR (ce_wr M k 4 v) k (upd σ (24 + 54 * a + 2) v) a := by
  obtain ⟨r0, r1, r2, r3, r4, r5, r6, r7, r8, r9, r10, r11, r12, r13, r14⟩ := h
  refine ⟨by rw [ms_rw3 (by omega), ms_u2 (by omega)]; exact r0, by rw [ms_rw3 (by omega), ms_u2 (by omega)]; exact r1, by rw [ms_rw1 rfl rfl, ms_u1 rfl], by rw [ms_rw3 (by omega), ms_u2 (by omega)]; exact r3, by rw [ms_rw3 (by omega), ms_u2 (by omega)]; exact r4, by rw [ms_rw3 (by omega), ms_u2 (by omega)]; exact r5, by rw [ms_row (by omega), ms_u2 (by omega)]; exact r6, by rw [ms_rw3 (by omega), ms_u2 (by omega)]; exact r7, by rw [ms_rw3 (by omega), ms_u2 (by omega)]; exact r8, by rw [ms_rw3 (by omega), ms_u2 (by omega)]; exact r9, by rw [ms_rw3 (by omega), ms_u2 (by omega)]; exact r10, by rw [ms_row (by omega), ms_u2 (by omega)]; exact r11, by rw [ms_rw3 (by omega), sp_rt_eq 60 (fun e he => ms_u2 (by omega))]; exact r12, fun w h1 h2 i hi => ?_, fun c h1 h2 j hj => ?_⟩
  · rw [ms_u2 (by omega)] at h1
    rw [ms_row (by omega), ms_u2 (by omega)]
    exact r13 w h1 h2 i hi
  · rw [ms_u2 (by omega)] at h1
    rw [ms_row (by omega), ms_row (by omega), ms_row (by omega), ms_u2 (by omega), ms_u2 (by omega), ms_u2 (by omega)]
    exact r14 c h1 h2 j hj
theorem cs_F5 {M : ce_M} {k a : Nat} {σ : Nat → Int32} (ha : a < 8) (h : ms_SR M k σ a) (v : Int32) : ms_SR (ce_wr M k 5 v) k (upd σ (24 + 54 * a + 3) v) a := by
  obtain ⟨r0, r1, r2, r3, r4, r5, r6, r7, r8, r9, r10, r11, r12, r13, r14⟩ := h
  refine ⟨by rw [ms_rw3 (by omega), ms_u2 (by omega)]; exact r0, by rw [ms_rw3 (by omega), ms_u2 (by omega)]; exact r1, by rw [ms_rw3 (by omega), ms_u2 (by omega)]; exact r2, by rw [ms_rw1 rfl rfl, ms_u1 rfl], by rw [ms_rw3 (by omega), ms_u2 (by omega)]; exact r4, by rw [ms_rw3 (by omega), ms_u2 (by omega)]; exact r5, by rw [ms_row (by omega), ms_u2 (by omega)]; exact r6, by rw [ms_rw3 (by omega), ms_u2 (by omega)]; exact r7, by rw [ms_rw3 (by omega), ms_u2 (by omega)]; exact r8, by rw [ms_rw3 (by omega), ms_u2 (by omega)]; exact r9, by rw [ms_rw3 (by omega), ms_u2 (by omega)]; exact r10, by rw [ms_row (by omega), ms_u2 (by omega)]; exact r11, by rw [ms_rw3 (by omega), sp_rt_eq 60 (fun e he => ms_u2 (by omega))]; exact r12, fun w h1 h2 i hi => ?_, fun c h1 h2 j hj => ?_⟩
  · rw [ms_u2 (by omega)] at h1
    rw [ms_row (by omega), ms_u2 (by omega)]
    exact r13 w h1 h2 i hi
  · rw [ms_u2 (by omega)] at h1
    rw [ms_row (by omega), ms_row (by omega), ms_row (by omega), ms_u2 (by omega), ms_u2 (by omega), ms_u2 (by omega)]
    exact r14 c h1 h2 j hj
theorem cs_F6 {M : ce_M} {k a : Nat} {σ : Nat → Int32} (ha : a < 8) (h : ms_SR M k σ a) (v : Int32) : ms_SR (ce_wr M k 6 v) k (upd σ (24 + 54 * a + 4) v) a := by
  obtain ⟨r0, r1, r2, r3, r4, r5, r6, r7, r8, r9, r10, r11, r12, r13, r14⟩ := h
  refine ⟨by rw [ms_rw3 (by omega), ms_u2 (by omega)]; exact r0, by rw [ms_rw3 (by omega), ms_u2 (by omega)]; exact r1, by rw [ms_rw3 (by omega), ms_u2 (by omega)]; exact r2, by rw [ms_rw3 (by omega), ms_u2 (by omega)]; exact r3, by rw [ms_rw1 rfl rfl, ms_u1 rfl], by rw [ms_rw3 (by omega), ms_u2 (by omega)]; exact r5, by rw [ms_row (by omega), ms_u2 (by omega)]; exact r6, by rw [ms_rw3 (by omega), ms_u2 (by omega)]; exact r7, by rw [ms_rw3 (by omega), ms_u2 (by omega)]; exact r8, by rw [ms_rw3 (by omega), ms_u2 (by omega)]; exact r9, by rw [ms_rw3 (by omega), ms_u2 (by omega)]; exact r10, by rw [ms_row (by omega), ms_u2 (by omega)]; exact r11, by rw [ms_rw3 (by omega), sp_rt_eq 60 (fun e he => ms_u2 (by omega))]; exact r12, fun w h1 h2 i hi => ?_, fun c h1 h2 j hj => ?_⟩
  · rw [ms_u2 (by omega)] at h1
    rw [ms_row (by omega), ms_u2 (by omega)]
    exact r13 w h1 h2 i hi
  · rw [ms_u2 (by omega)] at h1
    rw [ms_row (by omega), ms_row (by omega), ms_row (by omega), ms_u2 (by omega), ms_u2 (by omega), ms_u2 (by omega)]
    exact r14 c h1 h2 j hj
theorem cs_F7 {M : ce_M} {k a : Nat} {σ : Nat → Int32} (ha : a < 8) (h : ms_SR M k σ a) (v : Int32) : ms_SR (ce_wr M k 7 v) k (upd σ (24 + 54 * a + 5) v) a := by
  obtain ⟨r0, r1, r2, r3, r4, r5, r6, r7, r8, r9, r10, r11, r12, r13, r14⟩ := h
  refine ⟨by rw [ms_rw3 (by omega), ms_u2 (by omega)]; exact r0, by rw [ms_rw3 (by omega), ms_u2 (by omega)]; exact r1, by rw [ms_rw3 (by omega), ms_u2 (by omega)]; exact r2, by rw [ms_rw3 (by omega), ms_u2 (by omega)]; exact r3, by rw [ms_rw3 (by omega), ms_u2 (by omega)]; exact r4, by rw [ms_rw1 rfl rfl, ms_u1 rfl], by rw [ms_row (by omega), ms_u2 (by omega)]; exact r6, by rw [ms_rw3 (by omega), ms_u2 (by omega)]; exact r7, by rw [ms_rw3 (by omega), ms_u2 (by omega)]; exact r8, by rw [ms_rw3 (by omega), ms_u2 (by omega)]; exact r9, by rw [ms_rw3 (by omega), ms_u2 (by omega)]; exact r10, by rw [ms_row (by omega), ms_u2 (by omega)]; exact r11, by rw [ms_rw3 (by omega), sp_rt_eq 60 (fun e he => ms_u2 (by omega))]; exact r12, fun w h1 h2 i hi => ?_, fun c h1 h2 j hj => ?_⟩
  · rw [ms_u2 (by omega)] at h1
    rw [ms_row (by omega), ms_u2 (by omega)]
    exact r13 w h1 h2 i hi
  · rw [ms_u2 (by omega)] at h1
    rw [ms_row (by omega), ms_row (by omega), ms_row (by omega), ms_u2 (by omega), ms_u2 (by omega), ms_u2 (by omega)]
    exact r14 c h1 h2 j hj
theorem cs_F9 {M : ce_M} {k a : Nat} {σ : Nat → Int32} (ha : a < 8) (h : ms_SR M k σ a) (v : Int32) : ms_SR (ce_wr M k 9 v) k (upd σ (24 + 54 * a + 7) v) a := by
  obtain ⟨r0, r1, r2, r3, r4, r5, r6, r7, r8, r9, r10, r11, r12, r13, r14⟩ := h
  refine ⟨by rw [ms_rw3 (by omega), ms_u2 (by omega)]; exact r0, by rw [ms_rw3 (by omega), ms_u2 (by omega)]; exact r1, by rw [ms_rw3 (by omega), ms_u2 (by omega)]; exact r2, by rw [ms_rw3 (by omega), ms_u2 (by omega)]; exact r3, by rw [ms_rw3 (by omega), ms_u2 (by omega)]; exact r4, by rw [ms_rw3 (by omega), ms_u2 (by omega)]; exact r5, by rw [ms_row (by omega), ms_u2 (by omega)]; exact r6, by rw [ms_rw1 rfl rfl, ms_u1 rfl], by rw [ms_rw3 (by omega), ms_u2 (by omega)]; exact r8, by rw [ms_rw3 (by omega), ms_u2 (by omega)]; exact r9, by rw [ms_rw3 (by omega), ms_u2 (by omega)]; exact r10, by rw [ms_row (by omega), ms_u2 (by omega)]; exact r11, by rw [ms_rw3 (by omega), sp_rt_eq 60 (fun e he => ms_u2 (by omega))]; exact r12, fun w h1 h2 i hi => ?_, fun c h1 h2 j hj => ?_⟩
  · rw [ms_u2 (by omega)] at h1
    rw [ms_row (by omega), ms_u2 (by omega)]
    exact r13 w h1 h2 i hi
  · rw [ms_u2 (by omega)] at h1
    rw [ms_row (by omega), ms_row (by omega), ms_row (by omega), ms_u2 (by omega), ms_u2 (by omega), ms_u2 (by omega)]
    exact r14 c h1 h2 j hj
theorem cs_F10 {M : ce_M} {k a : Nat} {σ : Nat → Int32} (ha : a < 8) (h : ms_SR M k σ a) (v : Int32) : ms_SR (ce_wr M k 10 v) k (upd σ (24 + 54 * a + 8) v) a := by
  obtain ⟨r0, r1, r2, r3, r4, r5, r6, r7, r8, r9, r10, r11, r12, r13, r14⟩ := h
  refine ⟨by rw [ms_rw3 (by omega), ms_u2 (by omega)]; exact r0, by rw [ms_rw3 (by omega), ms_u2 (by omega)]; exact r1, by rw [ms_rw3 (by omega), ms_u2 (by omega)]; exact r2, by rw [ms_rw3 (by omega), ms_u2 (by omega)]; exact r3, by rw [ms_rw3 (by omega), ms_u2 (by omega)]; exact r4, by rw [ms_rw3 (by omega), ms_u2 (by omega)]; exact r5, by rw [ms_row (by omega), ms_u2 (by omega)]; exact r6, by rw [ms_rw3 (by omega), ms_u2 (by omega)]; exact r7, by rw [ms_rw1 rfl rfl, ms_u1 rfl], by rw [ms_rw3 (by omega), ms_u2 (by omega)]; exact r9, by rw [ms_rw3 (by omega), ms_u2 (by omega)]; exact r10, by rw [ms_row (by omega), ms_u2 (by omega)]; exact r11, by rw [ms_rw3 (by omega), sp_rt_eq 60 (fun e he => ms_u2 (by omega))]; exact r12, fun w h1 h2 i hi => ?_, fun c h1 h2 j hj => ?_⟩
  · rw [ms_u2 (by omega)] at h1
    rw [ms_row (by omega), ms_u2 (by omega)]
    exact r13 w h1 h2 i hi
  · rw [ms_u2 (by omega)] at h1
    rw [ms_row (by omega), ms_row (by omega), ms_row (by omega), ms_u2 (by omega), ms_u2 (by omega), ms_u2 (by omega)]
    exact r14 c h1 h2 j hj
theorem cs_F12 {M : ce_M} {k a : Nat} {σ : Nat → Int32} (ha : a < 8) (h : ms_SR M k σ a) (v : Int32) : ms_SR (ce_wr M k 12 v) k (upd σ (24 + 54 * a + 9) v) a := by
  obtain ⟨r0, r1, r2, r3, r4, r5, r6, r7, r8, r9, r10, r11, r12, r13, r14⟩ := h
  refine ⟨by rw [ms_rw3 (by omega), ms_u2 (by omega)]; exact r0, by rw [ms_rw3 (by omega), ms_u2 (by omega)]; exact r1, by rw [ms_rw3 (by omega), ms_u2 (by omega)]; exact r2, by rw [ms_rw3 (by omega), ms_u2 (by omega)]; exact r3, by rw [ms_rw3 (by omega), ms_u2 (by omega)]; exact r4, by rw [ms_rw3 (by omega), ms_u2 (by omega)]; exact r5, by rw [ms_row (by omega), ms_u2 (by omega)]; exact r6, by rw [ms_rw3 (by omega), ms_u2 (by omega)]; exact r7, by rw [ms_rw3 (by omega), ms_u2 (by omega)]; exact r8, by rw [ms_rw1 rfl rfl, ms_u1 rfl], by rw [ms_rw3 (by omega), ms_u2 (by omega)]; exact r10, by rw [ms_row (by omega), ms_u2 (by omega)]; exact r11, by rw [ms_rw3 (by omega), sp_rt_eq 60 (fun e he => ms_u2 (by omega))]; exact r12, fun w h1 h2 i hi => ?_, fun c h1 h2 j hj => ?_⟩
  · rw [ms_u2 (by omega)] at h1
    rw [ms_row (by omega), ms_u2 (by omega)]
    exact r13 w h1 h2 i hi
  · rw [ms_u2 (by omega)] at h1
    rw [ms_row (by omega), ms_row (by omega), ms_row (by omega), ms_u2 (by omega), ms_u2 (by omega), ms_u2 (by omega)]
    exact r14 c h1 h2 j hj
theorem cs_F13 {M : ce_M} {k a : Nat} {σ : Nat → Int32} (ha : a < 8) (h : ms_SR M k σ a) (v : Int32) : ms_SR (ce_wr M k 13 v) k (upd σ (24 + 54 * a + 10) v) a := by
  obtain ⟨r0, r1, r2, r3, r4, r5, r6, r7, r8, r9, r10, r11, r12, r13, r14⟩ := h
  refine ⟨by rw [ms_rw3 (by omega), ms_u2 (by omega)]; exact r0, by rw [ms_rw3 (by omega), ms_u2 (by omega)]; exact r1, by rw [ms_rw3 (by omega), ms_u2 (by omega)]; exact r2, by rw [ms_rw3 (by omega), ms_u2 (by omega)]; exact r3, by rw [ms_rw3 (by omega), ms_u2 (by omega)]; exact r4, by rw [ms_rw3 (by omega), ms_u2 (by omega)]; exact r5, by rw [ms_row (by omega), ms_u2 (by omega)]; exact r6, by rw [ms_rw3 (by omega), ms_u2 (by omega)]; exact r7, by rw [ms_rw3 (by omega), ms_u2 (by omega)]; exact r8, by rw [ms_rw3 (by omega), ms_u2 (by omega)]; exact r9, by rw [ms_rw1 rfl rfl, ms_u1 rfl], by rw [ms_row (by omega), ms_u2 (by omega)]; exact r11, by rw [ms_rw3 (by omega), sp_rt_eq 60 (fun e he => ms_u2 (by omega))]; exact r12, fun w h1 h2 i hi => ?_, fun c h1 h2 j hj => ?_⟩
  · rw [ms_u2 (by omega)] at h1
    rw [ms_row (by omega), ms_u2 (by omega)]
    exact r13 w h1 h2 i hi
  · rw [ms_u2 (by omega)] at h1
    rw [ms_row (by omega), ms_row (by omega), ms_row (by omega), ms_u2 (by omega), ms_u2 (by omega), ms_u2 (by omega)]
    exact r14 c h1 h2 j hj
theorem cs_SR_close {M : ce_M} {k a c : Nat} {σ : Nat → Int32} (ha : a < 8) (h : ms_SR M k σ a) (hc : σ (24 + 54 * a + 11) = nI c) (hc1 : 1 ≤ c) (hc2 : c ≤ 10) (v : Int32) : ms_SR (ce_wr M (k + 1 + 3) 0 v) k (upd σ (24 + 54 * a + (24 + 3 * c - 1)) v) a := by
  obtain ⟨r0, r1, r2, r3, r4, r5, r6, r7, r8, r9, r10, r11, r12, r13, r14⟩ := h
  refine ⟨by rw [ms_row (by omega), ms_u2 (by omega)]; exact r0, by rw [ms_row (by omega), ms_u2 (by omega)]; exact r1, by rw [ms_row (by omega), ms_u2 (by omega)]; exact r2, by rw [ms_row (by omega), ms_u2 (by omega)]; exact r3, by rw [ms_row (by omega), ms_u2 (by omega)]; exact r4, by rw [ms_row (by omega), ms_u2 (by omega)]; exact r5, by rw [ms_row (by omega), ms_u2 (by omega)]; exact r6, by rw [ms_row (by omega), ms_u2 (by omega)]; exact r7, by rw [ms_row (by omega), ms_u2 (by omega)]; exact r8, by rw [ms_row (by omega), ms_u2 (by omega)]; exact r9, by rw [ms_row (by omega), ms_u2 (by omega)]; exact r10, by rw [ms_row (by omega), ms_u2 (by omega)]; exact r11, by rw [ms_row (by omega), sp_rt_eq 60 (fun e he => ms_u2 (by omega))]; exact r12, fun w h1 h2 i hi => ?_, fun c3 h1 h2 j hj => ?_⟩
  · rw [ms_u2 (by omega)] at h1
    rw [ms_row (by omega), ms_u2 (by omega)]
    exact r13 w h1 h2 i hi
  · rw [ms_u2 (by omega)] at h1
    have e : c3 = c := ms_nI (h1.symm.trans hc) (by omega) (by omega)
    subst e
    obtain ⟨q1, q2, q3⟩ := r14 c3 hc h2 j hj
    rw [ms_row (by omega), ms_row (by omega), ms_u2 (by omega), ms_u2 (by omega)]
    refine ⟨q1, q2, ?_⟩
    by_cases cj : j = 0
    · subst cj
      rw [ms_rw1 rfl rfl, ms_u1 (by omega)]
    · rw [ms_rw3 cj, ms_u2 (by omega)]
      exact q3
theorem cs_SR_open {M M' : ce_M} {k a c : Nat} {σ τ : Nat → Int32} {lf tk : Int32} (h : ms_SR M k σ a) (hc : σ (24 + 54 * a + 11) = nI c) (hc2 : c ≤ 10) (h1 : ∀ q, q < k + 1 ∨ k + 1 + 4 ≤ q → ce_rd M' q = ce_rd M q) (h2 : ce_rd M' (k + 1) 3 = nI (if c < 10 then c + 1 else 10)) (h3 : ∀ j, j < 10 → ce_rd M' (k + 1 + 1) j = if j = 0 then lf else ce_rd M (k + 1 + 1) (j - 1)) (h4 : ∀ j, j < 10 → ce_rd M' (k + 1 + 2) j = if j = 0 then tk else ce_rd M (k + 1 + 2) (j - 1)) (h5 : ∀ j, j < 10 → ce_rd M' (k + 1 + 3) j = if j = 0 then -1 else ce_rd M (k + 1 + 3) (j - 1)) (t1 : ∀ j, j < 24 → j ≠ 11 → τ (24 + 54 * a + j) = σ (24 + 54 * a + j)) (t2 : τ (24 + 54 * a + 11) = nI (if c < 10 then c + 1 else 10)) (t3 : ∀ j, j < (if c < 10 then c + 1 else 10) → τ (24 + 54 * a + (24 + 3 * ((if c < 10 then c + 1 else 10) - (j + 1)) + 0)) = (if j = 0 then lf else σ (24 + 54 * a + (24 + 3 * (c - (j - 1 + 1)) + 0))) ∧ τ (24 + 54 * a + (24 + 3 * ((if c < 10 then c + 1 else 10) - (j + 1)) + 1)) = (if j = 0 then tk else σ (24 + 54 * a + (24 + 3 * (c - (j - 1 + 1)) + 1))) ∧ τ (24 + 54 * a + (24 + 3 * ((if c < 10 then c + 1 else 10) - (j + 1)) + 2)) = (if j = 0 then -1 else σ (24 + 54 * a + (24 + 3 * (c - (j - 1 + 1)) + 2)))) (hr : sp_rt τ a 60 = sp_rt σ a 60) : ms_SR M' k τ a := by
  obtain ⟨r0, r1, r2, r3, r4, r5, r6, r7, r8, r9, r10, r11, r12, r13, r14⟩ := h
  refine ⟨by rw [h1 k (by omega), t1 0 (by omega) (by omega)]; exact r0, by rw [h1 k (by omega), t1 1 (by omega) (by omega)]; exact r1, by rw [h1 k (by omega), t1 2 (by omega) (by omega)]; exact r2, by rw [h1 k (by omega), t1 3 (by omega) (by omega)]; exact r3, by rw [h1 k (by omega), t1 4 (by omega) (by omega)]; exact r4, by rw [h1 k (by omega), t1 5 (by omega) (by omega)]; exact r5, by rw [h1 (k + 5) (by omega), t1 6 (by omega) (by omega)]; exact r6, by rw [h1 k (by omega), t1 7 (by omega) (by omega)]; exact r7, by rw [h1 k (by omega), t1 8 (by omega) (by omega)]; exact r8, by rw [h1 k (by omega), t1 9 (by omega) (by omega)]; exact r9, by rw [h1 k (by omega), t1 10 (by omega) (by omega)]; exact r10, by rw [h2, t2], by rw [h1 k (by omega), hr]; exact r12, fun w q1 q2 i hi => ?_, fun c3 q1 q2 j hj => ?_⟩
  · rw [t1 6 (by omega) (by omega)] at q1
    rw [h1 (k + 5 + 1) (by omega), t1 (12 + i) (by omega) (by omega)]
    exact r13 w q1 q2 i hi
  · rw [t2] at q1
    have e : c3 = (if c < 10 then c + 1 else 10) := (ms_nI q1 (by by_cases c0 : c < 10 <;> simp only [c0, if_true, if_false] <;> omega) (by omega)).symm
    rw [e] at hj ⊢
    obtain ⟨s1, s2, s3⟩ := t3 j hj
    have hj10 : j < 10 := by
      by_cases c0 : c < 10
      · rw [if_pos c0] at hj; omega
      · rw [if_neg c0] at hj; exact hj
    rw [s1, s2, s3, h3 j hj10, h4 j hj10, h5 j hj10]
    by_cases cj : j = 0
    · rw [if_pos cj, if_pos cj, if_pos cj, if_pos cj, if_pos cj, if_pos cj]
      exact ⟨rfl, rfl, rfl⟩
    · rw [if_neg cj, if_neg cj, if_neg cj, if_neg cj, if_neg cj, if_neg cj]
      refine r14 c hc hc2 (j - 1) ?_
      by_cases c0 : c < 10
      · rw [if_pos c0] at hj; omega
      · rw [if_neg c0] at hj; omega
theorem sp_bs0_o {σ : Nat → Int32} {a c j : Nat} {lf tk : Int32} (h1 : j ≠ 24 + 54 * a + (24 + 3 * c)) (h2 : j ≠ 24 + 54 * a + (24 + 3 * c + 1)) (h3 : j ≠ 24 + 54 * a + (24 + 3 * c + 2)) (h4 : j ≠ 24 + 54 * a + 4) (h5 : j ≠ 24 + 54 * a + 11) : sp_bs0 σ a lf tk c j = σ j := by
  unfold sp_bs0
  rw [ms_u2 h5, ms_u2 h4, ms_u2 h3, ms_u2 h2, ms_u2 h1]
theorem sp_bs_o {σ : Nat → Int32} {a c j : Nat} {lf : Int32} (hc2 : c ≤ 10) (h4 : j ≠ 24 + 54 * a + 4) (h5 : j ≠ 24 + 54 * a + 11) (h : j < 24 + 54 * a + 24 ∨ 24 + 54 * a + 54 ≤ j) : sp_bs σ a lf c j = σ j := by
  unfold sp_bs
  by_cases c0 : c < 10
  · rw [if_pos c0, sp_bs0_o (by omega) (by omega) (by omega) h4 h5]
  · rw [if_neg c0, sp_bs0_o (by omega) (by omega) (by omega) h4 h5, ms_u2 h5]
    unfold sp_shf
    rw [if_neg (by omega)]
theorem sp_bs_4 {σ : Nat → Int32} {a c : Nat} {lf : Int32} : sp_bs σ a lf c (24 + 54 * a + 4) = lf := by
  unfold sp_bs
  by_cases c0 : c < 10
  · rw [if_pos c0]; unfold sp_bs0; rw [ms_u2 (by omega), ms_u1 rfl]
  · rw [if_neg c0]; unfold sp_bs0; rw [ms_u2 (by omega), ms_u1 rfl]
theorem sp_bs_11 {σ : Nat → Int32} {a c : Nat} {lf : Int32} : sp_bs σ a lf c (24 + 54 * a + 11) = nI (if c < 10 then c + 1 else 10) := by
  unfold sp_bs
  by_cases c0 : c < 10
  · rw [if_pos c0, if_pos c0]; unfold sp_bs0; rw [ms_u1 rfl]
  · rw [if_neg c0, if_neg c0]; unfold sp_bs0; rw [ms_u1 rfl]
theorem sp_bs_st {σ : Nat → Int32} {a c j : Nat} {lf : Int32} (hc2 : c ≤ 10) (hj : j < (if c < 10 then c + 1 else 10)) : sp_bs σ a lf c (24 + 54 * a + (24 + 3 * ((if c < 10 then c + 1 else 10) - (j + 1)) + 0)) = (if j = 0 then lf else σ (24 + 54 * a + (24 + 3 * (c - (j - 1 + 1)) + 0))) ∧ sp_bs σ a lf c (24 + 54 * a + (24 + 3 * ((if c < 10 then c + 1 else 10) - (j + 1)) + 1)) = (if j = 0 then σ 0 else σ (24 + 54 * a + (24 + 3 * (c - (j - 1 + 1)) + 1))) ∧ sp_bs σ a lf c (24 + 54 * a + (24 + 3 * ((if c < 10 then c + 1 else 10) - (j + 1)) + 2)) = (if j = 0 then -1 else σ (24 + 54 * a + (24 + 3 * (c - (j - 1 + 1)) + 2))) := by
  unfold sp_bs
  by_cases c0 : c < 10
  · simp only [if_pos c0] at hj ⊢
    by_cases cj : j = 0
    · subst cj
      simp only [if_true]
      unfold sp_bs0
      refine ⟨?_, ?_, ?_⟩
      · rw [ms_u2 (by omega), ms_u2 (by omega), ms_u2 (by omega), ms_u2 (by omega), ms_u1 (by omega)]
      · rw [ms_u2 (by omega), ms_u2 (by omega), ms_u2 (by omega), ms_u1 (by omega)]
      · rw [ms_u2 (by omega), ms_u2 (by omega), ms_u1 (by omega)]
    · simp only [if_neg cj]
      have e : c + 1 - (j + 1) = c - (j - 1 + 1) := by omega
      rw [e]
      refine ⟨?_, ?_, ?_⟩ <;> exact sp_bs0_o (by omega) (by omega) (by omega) (by omega) (by omega)
  · simp only [if_neg c0] at hj ⊢
    have c10 : c = 10 := by omega
    subst c10
    by_cases cj : j = 0
    · subst cj
      simp only [if_true]
      unfold sp_bs0
      refine ⟨?_, ?_, ?_⟩
      · rw [ms_u2 (by omega), ms_u2 (by omega), ms_u2 (by omega), ms_u2 (by omega), ms_u1 (by omega)]
      · rw [ms_u2 (by omega), ms_u2 (by omega), ms_u2 (by omega), ms_u1 (by omega)]
      · rw [ms_u2 (by omega), ms_u2 (by omega), ms_u1 (by omega)]
    · simp only [if_neg cj]
      refine ⟨?_, ?_, ?_⟩
      all_goals
        rw [sp_bs0_o (by omega) (by omega) (by omega) (by omega) (by omega), ms_u2 (by omega)]
        unfold sp_shf
        rw [if_pos (by omega)]
        exact congrArg σ (by omega)
