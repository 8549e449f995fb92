/-! one subscriber changes in a World -/
theorem ms_SR_cg {M : ce_M} {k a : Nat} {σ τ : Nat → Int32} (h : ms_SR M k σ a) (hs : ∀ j, j < 54 → τ (24 + 54 * a + j) = σ (24 + 54 * a + j)) (hr : sp_rt τ a 60 = sp_rt σ a 60) : ms_SR M k τ a := ms_SR_fr h (fun _ _ _ => rfl) hs hr
theorem cs_F11 {M : ce_M} {k a : Nat} {σ : Nat → Int32} (h : ms_SR M k σ a) (v : Int32) : ms_SR (ce_wr M k 11 v) k σ a := by
  obtain ⟨r0, r1, r2, r3, r4, r5, r6, r7, r8, r9, r10, r11, r12, r13, r14⟩ := h
  exact ⟨by rw [ms_rw3 (by omega)]; exact r0, by rw [ms_rw3 (by omega)]; exact r1, by rw [ms_rw3 (by omega)]; exact r2, by rw [ms_rw3 (by omega)]; exact r3, by rw [ms_rw3 (by omega)]; exact r4, by rw [ms_rw3 (by omega)]; exact r5, by rw [ms_row (by omega)]; exact r6, by rw [ms_rw3 (by omega)]; exact r7, by rw [ms_rw3 (by omega)]; exact r8, by rw [ms_rw3 (by omega)]; exact r9, by rw [ms_rw3 (by omega)]; exact r10, by rw [ms_row (by omega)]; exact r11, by rw [ms_rw3 (by omega)]; exact r12, fun w h1 h2 i hi => by rw [ms_row (by omega)]; exact r13 w h1 h2 i hi, fun c h1 h2 j hj => by rw [ms_row (by omega), ms_row (by omega), ms_row (by omega)]; exact r14 c h1 h2 j hj⟩
theorem cs_SR_rm {M M' : ce_M} {k a wz d : Nat} {σ τ : Nat → Int32} (h : ms_SR M k σ a) (hw : σ (24 + 54 * a + 6) = nI wz) (hw2 : wz ≤ 12) (hd : d ≤ wz) (h1 : ∀ q, q < k + 5 ∨ k + 5 + 2 ≤ q → ce_rd M' q = ce_rd M q) (h2 : ce_rd M' (k + 5) 1 = nI (wz - d)) (h3 : ∀ i, i < wz - d → ce_rd M' (k + 5 + 1) i = ce_rd M (k + 5 + 1) (i + d)) (t1 : ∀ j, j < 54 → j ≠ 6 → (j < 12 ∨ 24 ≤ j) → τ (24 + 54 * a + j) = σ (24 + 54 * a + j)) (t2 : τ (24 + 54 * a + 6) = nI (wz - d)) (t3 : ∀ i, i < wz - d → τ (24 + 54 * a + (12 + i)) = σ (24 + 54 * a + (12 + (i + d)))) (hr : sp_rt τ a 60 = sp_rt σ a 60) : ms_SR M' k τ a := by
  obtain ⟨r0, r1, r2, r3, r4, r5, r6, r7, r8, r9, r10, r11, r12, r13, r14⟩ := h
  refine ⟨by rw [h1 k (by omega), t1 0 (by omega) (by omega) (by omega)]; exact r0, by rw [h1 k (by omega), t1 1 (by omega) (by omega) (by omega)]; exact r1, by rw [h1 k (by omega), t1 2 (by omega) (by omega) (by omega)]; exact r2, by rw [h1 k (by omega), t1 3 (by omega) (by omega) (by omega)]; exact r3, by rw [h1 k (by omega), t1 4 (by omega) (by omega) (by omega)]; exact r4, by rw [h1 k (by omega), t1 5 (by omega) (by omega) (by omega)]; exact r5, by rw [h2, t2], by rw [h1 k (by omega), t1 7 (by omega) (by omega) (by omega)]; exact r7, by rw [h1 k (by omega), t1 8 (by omega) (by omega) (by omega)]; exact r8, by rw [h1 k (by omega), t1 9 (by omega) (by omega) (by omega)]; exact r9, by rw [h1 k (by omega), t1 10 (by omega) (by omega) (by omega)]; exact r10, by rw [h1 (k + 1) (by omega), t1 11 (by omega) (by omega) (by omega)]; exact r11, by rw [h1 k (by omega), hr]; exact r12, fun w q1 q2 i hi => ?_, fun c q1 q2 j hj => ?_⟩
  · rw [t2] at q1
    have e : wz - d = w := ms_nI q1 (by omega) (by omega)
    rw [h3 i (by omega), t3 i (by omega)]
    exact r13 wz hw hw2 (i + d) (by omega)
  · rw [t1 11 (by omega) (by omega) (by omega)] at q1
    rw [h1 (k + 1 + 1) (by omega), h1 (k + 1 + 2) (by omega), h1 (k + 1 + 3) (by omega), t1 _ (by omega) (by omega) (by omega), t1 _ (by omega) (by omega) (by omega), t1 _ (by omega) (by omega) (by omega)]
    exact r14 c q1 q2 j hj
theorem sp_lost_eq {M M' : ce_M} {w : Nat} : ∀ n, (∀ b, b < n → ce_rd M' (w + 2 + (10 + 7 * b)) 11 = ce_rd M (w + 2 + (10 + 7 * b)) 11) → sp_lost M' w n = sp_lost M w n := by
  intro n
  induction n with
  | zero => intro _; rfl
  | succ n ih => intro h; show sp_lost M' w n + _ = sp_lost M w n + _; rw [ih (fun b hb => h b (by omega)), h n (by omega)]
theorem sp_lost_add {M M' : ce_M} {w a : Nat} {v : Int32} (h1 : ∀ b, b ≠ a → ce_rd M' (w + 2 + (10 + 7 * b)) 11 = ce_rd M (w + 2 + (10 + 7 * b)) 11) (h2 : ce_rd M' (w + 2 + (10 + 7 * a)) 11 = ce_rd M (w + 2 + (10 + 7 * a)) 11 + v) : ∀ n, a < n → sp_lost M' w n = sp_lost M w n + v := by
  intro n
  induction n with
  | zero => intro h; omega
  | succ n ih =>
    intro h
    show sp_lost M' w n + _ = sp_lost M w n + _ + v
    by_cases c : n = a
    · subst c
      rw [sp_lost_eq n (fun b hb => h1 b (by omega)), h2]
      exact (Int32.add_assoc _ _ _).symm
    · rw [ih (by omega), h1 n c, Int32.add_assoc, Int32.add_assoc, Int32.add_comm v]
theorem cs_WR_one {M M' : ce_M} {w a : Nat} {σ τ : Nat → Int32} (hR : ms_WR M w σ) (ha : a < 8) (hf : ms_fr (w + 2 + (10 + 7 * a)) (w + 2 + (10 + 7 * a) + 7) M M') (hS : ms_SR M' (w + 2 + (10 + 7 * a)) τ a) (h0 : ∀ j, j < 7 → τ j = σ j) (h8 : ∀ l, l < 16 → τ (8 + l) = σ (8 + l)) (hb : ∀ b, b < 8 → b ≠ a → ∀ j, j < 54 → τ (24 + 54 * b + j) = σ (24 + 54 * b + j)) (he : ∀ e, e < 60 → ∀ k, k < 6 → τ (456 + 6 * e + k) = σ (456 + 6 * e + k)) (hl : sp_lost M' w 8 = τ 7) (hz : ∀ n, σ 1 = nI n → n ≤ 8 → a < n ∨ ce_rd M' (w + 2 + (10 + 7 * a)) 11 = ce_rd M (w + 2 + (10 + 7 * a)) 11) : ms_WR M' w τ := by
  obtain ⟨R0, R1, R2, R3, R4, R5, R6, R7, R8⟩ := hR
  obtain ⟨hf1, hf2⟩ := hf
  refine ⟨by rw [hf2 w (by omega), h0 0 (by omega)]; exact R0, by rw [hf2 w (by omega), h0 1 (by omega)]; exact R1, by rw [hf2 (w + 3) (by omega), h0 2 (by omega)]; exact R2, fun i hi => by rw [hf2 (w + 1) (by omega), h0 (3 + i) (by omega)]; exact R3 i hi, fun l hl => by rw [hf2 (w + 10) (by omega), h8 l hl]; exact R4 l hl, fun b hb8 => ?_, fun e he60 => ?_, hl, fun n hn hn8 b hb1 hb8 => ?_⟩
  · by_cases c : b = a
    · rw [c]; exact hS
    · exact ms_SR_fr (R5 b hb8) (fun q q1 q2 => hf2 q (by omega)) (hb b hb8 c) (sp_rt_eq 60 (fun e he60 => he e he60 4 (by omega)))
  · rw [hf2 (w + 3 + 1) (by omega), hf2 (w + 3 + 2) (by omega), hf2 (w + 3 + 3) (by omega), hf2 (w + 3 + 4) (by omega), hf2 (w + 3 + 5) (by omega), hf2 (w + 3 + 6) (by omega), he e he60 0 (by omega), he e he60 1 (by omega), he e he60 2 (by omega), he e he60 3 (by omega), he e he60 4 (by omega), he e he60 5 (by omega)]
    exact R6 e he60
  · rw [h0 1 (by omega)] at hn
    by_cases c : b = a
    · subst c
      rcases hz n hn hn8 with q | q
      · omega
      · rw [q]; exact R8 n hn hn8 b hb1 hb8
    · rw [hf2 (w + 2 + (10 + 7 * b)) (by omega)]; exact R8 n hn hn8 b hb1 hb8
theorem ms_SI_cg {σ τ : Nat → Int32} {a t en : Nat} (h : ms_SI σ a t en) (hs : ∀ j, j < 54 → τ (24 + 54 * a + j) = σ (24 + 54 * a + j)) : ms_SI τ a t en := by
  obtain ⟨so, le, po, ca, se, th, wz, c, i0, i0', i1, i1', i2, i2', i3, i3', i4, i4', i5, i5', i6, i6', i11, i11', iw, ip, ib, ix, is⟩ := h
  refine ⟨so, le, po, ca, se, th, wz, c, by rw [hs 0 (by omega)]; exact i0, i0', by rw [hs 1 (by omega)]; exact i1, i1', by rw [hs 2 (by omega)]; exact i2, i2', by rw [hs 3 (by omega)]; exact i3, i3', by rw [hs 4 (by omega)]; exact i4, i4', by rw [hs 5 (by omega)]; exact i5, i5', by rw [hs 6 (by omega)]; exact i6, i6', by rw [hs 11 (by omega)]; exact i11, i11', iw, ip, fun i hi => ?_, fun i j q1 q2 => ?_, fun j hj => ?_⟩
  · rw [hs (12 + i) (by omega)]; exact ib i hi
  · rw [hs (12 + i) (by omega), hs (12 + j) (by omega)]; exact ix i j q1 q2
  · rw [hs (24 + 3 * j + 0) (by omega)]; exact is j hj
theorem ms_SI_up {σ : Nat → Int32} {a t en t2 en2 : Nat} (h : ms_SI σ a t en) (ht : t ≤ t2) (he : en ≤ en2) : ms_SI σ a t2 en2 := by
  obtain ⟨so, le, po, ca, se, th, wz, c, i0, i0', i1, i1', i2, i2', i3, i3', i4, i4', i5, i5', i6, i6', i11, i11', iw, ip, ib, ix, is⟩ := h
  exact ⟨so, le, po, ca, se, th, wz, c, i0, i0', i1, i1', i2, i2', i3, by omega, i4, i4', i5, i5', i6, i6', i11, i11', iw, ip, fun i hi => by
    obtain ⟨e, h1, h2⟩ := ib i hi
    exact ⟨e, by omega, h2⟩, ix, is⟩
theorem ms_IN_one {σ τ : Nat → Int32} {a t n en : Nat} (hI : ms_IN σ t n en) (ha : a < n) (hS : ms_SI τ a t en) (hc : ∃ c, 1 ≤ c ∧ c ≤ 10 ∧ τ (24 + 54 * a + 11) = nI c) (h0 : ∀ j, j < 7 → τ j = σ j) (hb : ∀ b, b < 8 → b ≠ a → ∀ j, j < 54 → τ (24 + 54 * b + j) = σ (24 + 54 * b + j)) (he : ∀ e, e < 60 → ∀ k, k < 6 → e < en ∨ τ (456 + 6 * e + k) = σ (456 + 6 * e + k)) : ms_IN τ t n en := by
  obtain ⟨I0, I1, I1', I2, I2', I3, I4, I5, I6, I7, I8, I9, I10⟩ := hI
  refine ⟨by rw [h0 0 (by omega)]; exact I0, by rw [h0 1 (by omega)]; exact I1, I1', by rw [h0 2 (by omega)]; exact I2, I2', by rw [h0 3 (by omega)]; exact I3, by rw [h0 4 (by omega)]; exact I4, by rw [h0 5 (by omega)]; exact I5, by rw [h0 6 (by omega)]; exact I6, fun b hb8 => ?_, fun b hbn => ?_, fun b hbn hb8 k hk => ?_, fun e h1 h2 k hk => ?_⟩
  · by_cases c : b = a
    · rw [c]; exact hS
    · exact ms_SI_cg (I7 b hb8) (hb b hb8 c)
  · by_cases c : b = a
    · rw [c]; exact hc
    · rw [hb b (by omega) c 11 (by omega)]; exact I8 b hbn
  · rw [hb b hb8 (by omega) k hk]; exact I9 b hbn hb8 k hk
  · rcases he e h2 k hk with q | q
    · omega
    · rw [q]; exact I10 e h1 h2 k hk
