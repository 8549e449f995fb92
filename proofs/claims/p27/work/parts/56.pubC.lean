/-! publish: the class -/
theorem cs_F8 {M : ce_M} {k a : Nat} {σ τ : Nat → Int32} (h : ms_SR M k σ a) (hs : ∀ j, j < 54 → τ (24 + 54 * a + j) = σ (24 + 54 * a + j)) {v : Int32} (hv : v = sp_rt τ a 60) : ms_SR (ce_wr M k 8 v) k τ a := by
  obtain ⟨r0, r1, r2, r3, r4, r5, r6, r7, r8, r9, r10, r11, r12, r13, r14⟩ := h
  exact ⟨by rw [ms_rw3 (by omega), hs 0 (by omega)]; exact r0, by rw [ms_rw3 (by omega), hs 1 (by omega)]; exact r1, by rw [ms_rw3 (by omega), hs 2 (by omega)]; exact r2, by rw [ms_rw3 (by omega), hs 3 (by omega)]; exact r3, by rw [ms_rw3 (by omega), hs 4 (by omega)]; exact r4, by rw [ms_rw3 (by omega), hs 5 (by omega)]; exact r5, by rw [ms_row (by omega), hs 6 (by omega)]; exact r6, by rw [ms_rw3 (by omega), hs 7 (by omega)]; exact r7, by rw [ms_rw3 (by omega), hs 8 (by omega)]; exact r8, by rw [ms_rw3 (by omega), hs 9 (by omega)]; exact r9, by rw [ms_rw3 (by omega), hs 10 (by omega)]; exact r10, by rw [ms_row (by omega), hs 11 (by omega)]; exact r11, by rw [ms_rw1 rfl rfl, hv], fun w h1 h2 i hi => by
    rw [hs 6 (by omega)] at h1
    rw [ms_row (by omega), hs (12 + i) (by omega)]; exact r13 w h1 h2 i hi, fun c h1 h2 j hj => by
    rw [hs 11 (by omega)] at h1
    rw [ms_row (by omega), ms_row (by omega), ms_row (by omega), hs _ (by omega), hs _ (by omega), hs _ (by omega)]; exact r14 c h1 h2 j hj⟩
theorem cs_SR_add {M : ce_M} {k a wz : Nat} {σ : Nat → Int32} (h : ms_SR M k σ a) (ha : a < 8) (hw : σ (24 + 54 * a + 6) = nI wz) (hw2 : wz < 12) (e : Int32) : ms_SR (ce_wr (ce_wr M (k + 5 + 1) wz e) (k + 5) 1 (nI (wz + 1))) k (upd (upd σ (24 + 54 * a + (12 + wz)) e) (24 + 54 * a + 6) (nI (wz + 1))) a := by
  obtain ⟨r0, r1, r2, r3, r4, r5, r6, r7, r8, r9, r10, r11, r12, r13, r14⟩ := h
  refine ⟨by rw [ms_row (by omega), ms_row (by omega), ms_u2 (by omega), ms_u2 (by omega)]; exact r0, by rw [ms_row (by omega), ms_row (by omega), ms_u2 (by omega), ms_u2 (by omega)]; exact r1, by rw [ms_row (by omega), ms_row (by omega), ms_u2 (by omega), ms_u2 (by omega)]; exact r2, by rw [ms_row (by omega), ms_row (by omega), ms_u2 (by omega), ms_u2 (by omega)]; exact r3, by rw [ms_row (by omega), ms_row (by omega), ms_u2 (by omega), ms_u2 (by omega)]; exact r4, by rw [ms_row (by omega), ms_row (by omega), ms_u2 (by omega), ms_u2 (by omega)]; exact r5, by rw [ms_rw1 rfl rfl, ms_u1 rfl], by rw [ms_row (by omega), ms_row (by omega), ms_u2 (by omega), ms_u2 (by omega)]; exact r7, by rw [ms_row (by omega), ms_row (by omega), ms_u2 (by omega), ms_u2 (by omega)]; exact r8, by rw [ms_row (by omega), ms_row (by omega), ms_u2 (by omega), ms_u2 (by omega)]; exact r9, by rw [ms_row (by omega), ms_row (by omega), ms_u2 (by omega), ms_u2 (by omega)]; exact r10, by rw [ms_row (by omega), ms_row (by omega), ms_u2 (by omega), ms_u2 (by omega)]; exact r11, by rw [ms_row (by omega), ms_row (by omega), sp_rt_eq 60 (fun e he => by rw [ms_u2 (by omega), ms_u2 (by omega)])]; exact r12, fun w h1 h2 i hi => ?_, fun c h1 h2 j hj => ?_⟩
  · rw [ms_u1 rfl] at h1
    have e1 : wz + 1 = w := ms_nI h1 (by omega) (by omega)
    rw [ms_row (by omega)]
    by_cases c : i = wz
    · rw [ms_rw1 rfl c, ms_u2 (by omega), ms_u1 (by omega)]
    · rw [ms_rw3 c, ms_u2 (by omega), ms_u2 (by omega)]
      exact r13 wz hw (by omega) i (by omega)
  · rw [ms_u2 (by omega), ms_u2 (by omega)] at h1
    rw [ms_row (by omega), ms_row (by omega), ms_row (by omega), ms_row (by omega), ms_row (by omega), ms_row (by omega), ms_u2 (by omega), ms_u2 (by omega), ms_u2 (by omega), ms_u2 (by omega), ms_u2 (by omega), ms_u2 (by omega)]
    exact r14 c h1 h2 j hj
theorem cs_receive {M : ce_M} {k a wz : Nat} {σ ρ : Nat → Int32} {e : Int32} (ha : a < 8) (hS : ms_SR M k σ a) (hw : σ (24 + 54 * a + 6) = nI wz) (hw2 : wz ≤ 12) (hb : ∀ j, j < 54 → ρ (24 + 54 * a + j) = sp_ar1 σ a wz e (24 + 54 * a + j)) (hr : sp_rt ρ a 60 = sp_rt σ a 60 + nI 1) : ∃ M', f_X4_receive k M e = some M' ∧ (ms_SR M' k ρ a ∧ ms_fr k (k + 7) M M' ∧ ce_rd M' k 11 = ce_rd M k 11) := by
  have r12 : ce_rd M k 8 = sp_rt σ a 60 := hS.2.2.2.2.2.2.2.2.2.2.2.2.1
  have r6 : ce_rd M (k + 5) 1 = nI wz := hS.2.2.2.2.2.2.1.trans hw
  have r8 : ce_rd M k 10 = σ (24 + 54 * a + 8) := hS.2.2.2.2.2.2.2.2.1
  have hr1 : sp_rt (fun j => if j < 456 then σ j else ρ j) a 60 = sp_rt ρ a 60 := sp_rt_eq 60 (fun e he => if_neg (by omega))
  have s1 : ms_SR (ce_wr M k 8 (ce_rd M k 8 + 1)) k (fun j => if j < 456 then σ j else ρ j) a := cs_F8 hS (fun j hj => if_pos (by omega)) (by rw [hr1, hr, r12]; rfl)
  have w1 : (fun j => if j < 456 then σ j else ρ j : Nat → Int32) (24 + 54 * a + 6) = nI wz := by
    rw [← hw]; exact if_pos (by omega)
  have z1 : ce_rd (ce_wr M k 8 (ce_rd M k 8 + 1)) (k + 5) 1 = nI wz := by rw [ms_row (by omega)]; exact r6
  unfold f_X4_receive f_X2_isFull f_X2_add
  simp only [ms_nm, z1]
  by_cases c : wz = 12
  · subst c
    rw [if_neg (show ¬ nI 12 < 12 by decide), ms_b1, if_neg (by decide)]
    have s2 := cs_F10 ha s1 (ce_rd (ce_wr M k 8 (ce_rd M k 8 + 1)) k 10 + 1)
    refine ⟨_, rfl, ms_SR_cg s2 (fun j hj => ?_) ?_, ms_fr_t (ms_fr_w (by omega) (by omega)) (ms_fr_w (by omega) (by omega)), by rw [ms_rw3 (by omega), ms_rw3 (by omega)]⟩
    · rw [hb j hj]
      unfold sp_ar1
      rw [if_pos rfl, ms_rw3 (by omega), r8]
      by_cases q : j = 8
      · subst q; rw [ms_u1 rfl, ms_u1 rfl]; rfl
      · rw [ms_u2 (by omega), ms_u2 (by omega)]; exact (if_pos (by omega)).symm
    · rw [← hr1]; exact (sp_rt_eq 60 (fun e he => ms_u2 (by omega))).symm
  · rw [if_pos (show nI wz < 12 from nI_lt (show wz < 12 by omega) (show 12 < 2 ^ 31 by omega)), ms_b1, if_pos (by decide), if_neg (show ¬ (12 : Int32) ≤ nI wz from nI_ge (show wz < 12 by omega) (show 12 < 2 ^ 31 by omega)), ms_gi (show wz < 12 by omega) (by omega), nI_clamp (show wz < 2 ^ 31 by omega)]
    have z2 : ce_rd (ce_wr (ce_wr M k 8 (ce_rd M k 8 + 1)) (k + 5 + 1) wz e) (k + 5) 1 = nI wz := by rw [ms_row (by omega)]; exact z1
    rw [z2, nI_1, ms_b1]
    have s2 := cs_SR_add s1 ha w1 (by omega) e
    refine ⟨_, rfl, ms_SR_cg s2 (fun j hj => ?_) ?_, ms_fr_t (ms_fr_w (by omega) (by omega)) (ms_fr_t (ms_fr_w (by omega) (by omega)) (ms_fr_w (by omega) (by omega))), by rw [ms_row (by omega), ms_row (by omega), ms_rw3 (by omega)]⟩
    · rw [hb j hj]
      unfold sp_ar1
      rw [if_neg c]
      by_cases q : j = 6
      · subst q; rw [ms_u1 rfl, ms_u1 rfl]
      · rw [ms_u2 (by omega), ms_u2 (k := 24 + 54 * a + 6) (by omega)]
        by_cases q2 : j = 12 + wz
        · subst q2; rw [ms_u1 rfl, ms_u1 rfl]
        · rw [ms_u2 (by omega), ms_u2 (by omega)]; exact (if_pos (by omega)).symm
    · rw [← hr1]; exact (sp_rt_eq 60 (fun e he => by rw [ms_u2 (by omega), ms_u2 (by omega)])).symm
