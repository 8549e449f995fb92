/-! one is handed over -/
def sp_du (σ : Nat → Int32) (a : Nat) : Bool := decide (σ (24 + 54 * a + 5) = nI 1) && (!decide (σ (24 + 54 * a + 2) = σ (24 + 54 * a + 4)) && !decide (σ 0 - σ (24 + 54 * a + 3) < sp_dw σ a))
theorem cs_isDue {M : ce_M} {k a t en : Nat} {σ : Nat → Int32} (hR : ms_SR M k σ a) (hI : ms_SI σ a t en) : f_X4_isDue k M (σ 0) (σ (3 + 0)) = some (nI (if sp_du σ a = true then 1 else 0)) := by
  have hd := cs_dwell hR
  obtain ⟨so, le, po, ca, se, th, wz, c, i0, i0', i1, i1', i2, i2', i3, i3', i4, i4', i5, i5', i6, i6', i11, i11', iw, ip, ib, ix, is⟩ := hI
  obtain ⟨r0, r1, r2, r3, r4, r5, r6, r7, r8, r9, r10, r11, r12, r13, r14⟩ := hR
  unfold f_X4_isDue sp_du
  simp only [ms_lit, r5, r2, r4, r3, hd, ms_b1, i5]
  rcases (by omega : th = 0 ∨ th = 1) with rfl | rfl
  · simp [ms_01]
  · by_cases c2 : σ (24 + 54 * a + 2) = σ (24 + 54 * a + 4)
    · simp [ms_10, c2]
    · by_cases c3 : σ 0 - σ (24 + 54 * a + 3) < sp_dw σ a
      · simp [ms_10, c2, c3]
      · simp [ms_10, c2, c3]
theorem ms_may (M : ce_M) {a t en : Nat} {σ : Nat → Int32} (ha : a < 8) (hI : ms_SI σ a t en) : f_X8_mayChange 414 (ms_S M σ) (nI a) = some (nI (if sp_du σ a = true then 1 else 0)) := by
  have hI0 := hI
  obtain ⟨so, le, po, ca, se, th, wz, c, i0, i0', i1, i1', i2, i2', i3, i3', i4, i4', i5, i5', i6, i6', i11, i11', iw, ip, ib, ix, is⟩ := hI
  unfold f_X8_mayChange sp_du
  simp only [ms_lit, ms_of M σ ha (show 5 < 54 by omega), ms_of M σ ha (show 2 < 54 by omega), ms_of M σ ha (show 4 < 54 by omega), ms_of M σ ha (show 3 < 54 by omega), ms_b1, i5, ms_gi (show 0 < 816 by omega) (show 816 < 2 ^ 31 by omega), nI_clamp (show 0 < 2 ^ 31 by omega), ms_rd1, ms_nm]
  rcases (by omega : th = 0 ∨ th = 1) with rfl | rfl
  · simp [ms_01]
  · by_cases c2 : σ (24 + 54 * a + 2) = σ (24 + 54 * a + 4)
    · simp [c2]
    · rw [ms_dwell M ha hI0 c2, ms_b1]
      by_cases c3 : σ 0 - σ (24 + 54 * a + 3) < sp_dw σ a
      · simp [c2, c3]
      · simp [c2, c3]
def sp_h1 (σ : Nat → Int32) (a c : Nat) : Nat → Int32 := upd σ (24 + 54 * a + (24 + 3 * c - 1)) (σ 0)
def sp_ho (σ : Nat → Int32) (a c : Nat) (po : Int32) (wz : Nat) : Nat → Int32 := upd (upd (sp_bs (sp_h1 σ a c) a po c) (24 + 54 * a + 9) (σ (24 + 54 * a + 9) + nI 1)) (24 + 54 * a + 10) (if wz = 0 then σ (24 + 54 * a + 10) else σ 0 + σ (3 + 2))
theorem sp_h1_o {σ : Nat → Int32} {a c j : Nat} (hc : 1 ≤ c) (h : j < 24 + 54 * a + 24 ∨ 24 + 54 * a + 54 ≤ j) (hc2 : c ≤ 10) : sp_h1 σ a c j = σ j := ms_u2 (by omega)
theorem cs_handOver {M : ce_M} {k a t en c wz : Nat} {σ : Nat → Int32} (ha : a < 8) (hS : ms_SR M k σ a) (i6 : σ (24 + 54 * a + 6) = nI wz) (i6' : wz ≤ 12) (i11 : σ (24 + 54 * a + 11) = nI c) (hc1 : 1 ≤ c) (hc2 : c ≤ 10) : ∃ M', f_X4_handOver k M (σ 0) (σ (3 + 2)) = some M' ∧ (ms_SR M' k (sp_ho σ a c (σ (24 + 54 * a + 2)) wz) a ∧ ms_fr k (k + 7) M M' ∧ ce_rd M' k 11 = ce_rd M k 11) := by
  have s1 := cs_SR_close (v := σ 0) ha hS i11 hc1 hc2
  have e11 : sp_h1 σ a c (24 + 54 * a + 11) = nI c := by rw [sp_h1_o hc1 (by omega) hc2]; exact i11
  have z4 : ce_rd (ce_wr M (k + 1 + 3) 0 (σ 0)) k 4 = σ (24 + 54 * a + 2) := by rw [ms_row (by omega)]; exact hS.2.2.1
  obtain ⟨M2, e2, f1, f2, f3, f4, f5, f6⟩ := cs_open (k := k + 1) (M := ce_wr M (k + 1 + 3) 0 (σ 0)) (c := c) (by rw [ms_row (by omega)]; exact hS.2.2.2.2.2.2.2.2.2.2.2.1.trans i11) hc2 (σ (24 + 54 * a + 2)) (σ 0)
  have z42 : ce_rd M2 k 4 = σ (24 + 54 * a + 2) := by rw [f2 k (by omega)]; exact z4
  unfold f_X4_handOver
  simp only [cs_close, ms_b1, z4, e2, ms_nm, z42]
  have z12 : ce_rd (ce_wr M2 k 6 (σ (24 + 54 * a + 2))) k 12 = σ (24 + 54 * a + 9) := by
    rw [ms_rw3 (by omega), f2 k (by omega), ms_row (by omega)]; exact hS.2.2.2.2.2.2.2.2.2.1
  have z5 : ce_rd (ce_wr (ce_wr M2 k 6 (σ (24 + 54 * a + 2))) k 12 (σ (24 + 54 * a + 9) + 1)) (k + 5) 1 = nI wz := by
    rw [ms_row (by omega), ms_row (by omega), f2 (k + 5) (by omega), ms_row (by omega)]; exact hS.2.2.2.2.2.2.1.trans i6
  rw [z12, z5]
  have h0 : sp_h1 σ a c 0 = σ 0 := sp_h1_o hc1 (by omega) hc2
  have s2 : ms_SR M2 k (upd (sp_bs (sp_h1 σ a c) a (σ (24 + 54 * a + 2)) c) (24 + 54 * a + 4) (σ (24 + 54 * a + 4))) a := cs_SR_open s1 e11 hc2 f2 f3 f4 f5 f6 (fun j q1 q2 => by
    by_cases q4 : j = 4
    · subst q4; rw [ms_u1 rfl, ms_u2 (by omega)]
    · rw [ms_u2 (by omega), sp_bs_o hc2 (by omega) (by omega) (by omega)]; rfl) (by rw [ms_u2 (by omega)]; exact sp_bs_11) (fun j hj => by
    have h3 := sp_bs_st (σ := sp_h1 σ a c) (a := a) (c := c) (lf := σ (24 + 54 * a + 2)) hc2 hj
    rw [h0] at h3
    rw [ms_u2 (k := 24 + 54 * a + 4) (v := σ (24 + 54 * a + 4)) (by omega), ms_u2 (k := 24 + 54 * a + 4) (v := σ (24 + 54 * a + 4)) (by omega), ms_u2 (k := 24 + 54 * a + 4) (v := σ (24 + 54 * a + 4)) (by omega)]
    exact h3) (sp_rt_eq 60 (fun e he => by rw [ms_u2 (by omega), sp_bs_o hc2 (by omega) (by omega) (by omega)]; rfl))
  have s3 := cs_F12 ha (cs_F6 ha s2 (σ (24 + 54 * a + 2))) (σ (24 + 54 * a + 9) + 1)
  have rt : sp_rt (sp_ho σ a c (σ (24 + 54 * a + 2)) wz) a 60 = sp_rt σ a 60 := sp_rt_eq 60 (fun e he => by
    unfold sp_ho
    rw [ms_u2 (by omega), ms_u2 (by omega), sp_bs_o hc2 (by omega) (by omega) (by omega), sp_h1_o hc1 (by omega) hc2])
  have fr : ms_fr k (k + 7) M (ce_wr (ce_wr M2 k 6 (σ (24 + 54 * a + 2))) k 12 (σ (24 + 54 * a + 9) + 1)) := ms_fr_t (ms_fr_w (k := k + 1 + 3) (by omega) (by omega)) (ms_fr_t ⟨f1, fun q hq => f2 q (by omega)⟩ (ms_fr_t (ms_fr_w (by omega) (by omega)) (ms_fr_w (by omega) (by omega))))
  have l11 : ce_rd (ce_wr (ce_wr M2 k 6 (σ (24 + 54 * a + 2))) k 12 (σ (24 + 54 * a + 9) + 1)) k 11 = ce_rd M k 11 := by
    rw [ms_rw3 (by omega), ms_rw3 (by omega), f2 k (by omega), ms_row (by omega)]
  have rt3 : sp_rt (upd (upd (upd (sp_bs (sp_h1 σ a c) a (σ (24 + 54 * a + 2)) c) (24 + 54 * a + 4) (σ (24 + 54 * a + 4))) (24 + 54 * a + 4) (σ (24 + 54 * a + 2))) (24 + 54 * a + 9) (σ (24 + 54 * a + 9) + 1)) a 60 = sp_rt σ a 60 := sp_rt_eq 60 (fun e he => by
    rw [ms_u2 (by omega), ms_u2 (by omega), ms_u2 (by omega), sp_bs_o hc2 (by omega) (by omega) (by omega), sp_h1_o hc1 (by omega) hc2])
  have pt : ∀ j, j < 54 → j ≠ 10 → sp_ho σ a c (σ (24 + 54 * a + 2)) wz (24 + 54 * a + j) = upd (upd (upd (sp_bs (sp_h1 σ a c) a (σ (24 + 54 * a + 2)) c) (24 + 54 * a + 4) (σ (24 + 54 * a + 4))) (24 + 54 * a + 4) (σ (24 + 54 * a + 2))) (24 + 54 * a + 9) (σ (24 + 54 * a + 9) + 1) (24 + 54 * a + j) := fun j hj q => by
    unfold sp_ho
    rw [ms_u2 (by omega)]
    by_cases q9 : j = 9
    · subst q9; rw [ms_u1 rfl, ms_u1 rfl]; rfl
    · rw [ms_u2 (by omega), ms_u2 (k := 24 + 54 * a + 9) (by omega)]
      by_cases q4 : j = 4
      · subst q4; rw [ms_u1 rfl]; exact sp_bs_4
      · rw [ms_u2 (by omega), ms_u2 (by omega)]
  have p10 : upd (upd (upd (sp_bs (sp_h1 σ a c) a (σ (24 + 54 * a + 2)) c) (24 + 54 * a + 4) (σ (24 + 54 * a + 4))) (24 + 54 * a + 4) (σ (24 + 54 * a + 2))) (24 + 54 * a + 9) (σ (24 + 54 * a + 9) + 1) (24 + 54 * a + 10) = σ (24 + 54 * a + 10) := by
    rw [ms_u2 (by omega), ms_u2 (by omega), ms_u2 (by omega), sp_bs_o hc2 (by omega) (by omega) (by omega), sp_h1_o hc1 (by omega) hc2]
  by_cases c0 : wz = 0
  · subst c0
    rw [if_pos (show nI 0 ≤ 0 by decide)]
    refine ⟨_, rfl, ms_SR_cg s3 (fun j hj => ?_) (rt.trans rt3.symm), fr, l11⟩
    by_cases q : j = 10
    · subst q
      rw [p10]; unfold sp_ho; rw [ms_u1 rfl, if_pos rfl]
    · exact pt j hj q
  · rw [if_neg (show ¬ nI wz ≤ 0 from nI_nle (by omega) (by omega))]
    have s4 := cs_F13 ha s3 (σ 0 + σ (3 + 2))
    refine ⟨_, rfl, ms_SR_cg s4 (fun j hj => ?_) (rt.trans ?_), ms_fr_t fr (ms_fr_w (by omega) (by omega)), ?_⟩
    · by_cases q : j = 10
      · subst q
        unfold sp_ho; rw [ms_u1 rfl, ms_u1 rfl, if_neg c0]
      · rw [pt j hj q, ms_u2 (k := 24 + 54 * a + 10) (by omega)]
    · rw [← rt3]; exact (sp_rt_eq 60 (fun e he => ms_u2 (by omega))).symm
    · rw [ms_rw3 (by omega)]; exact l11
