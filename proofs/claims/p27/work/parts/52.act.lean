/-! leave -/
theorem cs_p2 (w : Nat) (M : ce_M) (x y z : Int32) : f_X6_perform w M 2 x y z = ce_gi x 8 (ce_nm ((w + 2) + (10 + 7 * (Int32.toNatClampNeg x))) (fun (k6 : Nat) => ce_b2 (f_X4_quit k6 M (ce_rd M w 6)) (fun (M9 : ce_M) (x10 : Int32) => some (M9, x10)))) := by
  unfold f_X6_perform
  rw [if_neg (by decide), if_neg (by decide), if_pos rfl]
def sp_qt (σ : Nat → Int32) (a wz c : Nat) : Nat → Int32 := upd (upd (upd (upd σ 7 (σ 7 + nI wz)) (24 + 54 * a + 6) (nI 0)) (24 + 54 * a + 5) (nI 0)) (24 + 54 * a + (24 + 3 * c - 1)) (σ 0)
theorem ms_quits (Mm : ce_M) {a n wz c : Nat} {σ : Nat → Int32} (I1 : σ 1 = nI n) (I1' : n ≤ 8) (ha : a < n) (i5 : σ (24 + 54 * a + 5) = nI 1) (i6 : σ (24 + 54 * a + 6) = nI wz) (i11 : σ (24 + 54 * a + 11) = nI c) (hc1 : 1 ≤ c) (hc2 : c ≤ 10) : f_X8_quits 414 (ms_S Mm σ) (nI a) = some (ms_S (ce_wr Mm 414 5 (nI wz)) (sp_qt σ a wz c), 0) := by
  have ha8 : a < 8 := by omega
  unfold f_X8_quits
  rw [ms_one_y Mm I1 I1' ha, ms_b1, if_neg (by decide)]
  have r5 : ce_rd (ce_wr Mm 414 5 (nI wz)) 414 5 = nI wz := ms_rw1 rfl rfl
  simp only [ms_lit, ms_of Mm σ ha8 (show 5 < 54 by omega), ms_of Mm σ ha8 (show 6 < 54 by omega), ms_b1, i5, i6, ms_10, if_false, ms_wr' Mm σ (show (414 : Nat) ≠ 415 by omega), ms_gi (show 7 < 816 by omega) (show 816 < 2 ^ 31 by omega), nI_clamp (show 7 < 2 ^ 31 by omega), ms_rd1, ms_wr1, ms_nm, ms_rd' _ _ (show (414 : Nat) ≠ 415 by omega), r5, ms_put _ _ ha8 (show 5 < 54 by omega), ms_put _ _ ha8 (show 6 < 54 by omega)]
  rw [ms_endS (c := c) _ ha8 (by rw [ms_u2 (by omega), ms_u2 (by omega), ms_u2 (by omega)]; exact i11) hc2, ms_u2 (show 0 ≠ 24 + 54 * a + 5 by omega), ms_u2 (show 0 ≠ 24 + 54 * a + 6 by omega), ms_u2 (show 0 ≠ 7 by omega)]
  rfl
theorem cs_quit {M : ce_M} {k a wz c : Nat} {σ τ : Nat → Int32} {tk : Int32} (ha : a < 8) (hS : ms_SR M k σ a) (i6 : σ (24 + 54 * a + 6) = nI wz) (i6' : wz ≤ 12) (i11 : σ (24 + 54 * a + 11) = nI c) (hc1 : 1 ≤ c) (hc2 : c ≤ 10) (ht : ∀ j, j < 54 → τ (24 + 54 * a + j) = upd (upd (upd σ (24 + 54 * a + 6) (nI 0)) (24 + 54 * a + (24 + 3 * c - 1)) tk) (24 + 54 * a + 5) 0 (24 + 54 * a + j)) (hr : sp_rt τ a 60 = sp_rt σ a 60) : ∃ M', f_X4_quit k M tk = some (M', nI wz) ∧ (ms_SR M' k τ a ∧ ms_fr k (k + 7) M M' ∧ ce_rd M' k 11 = ce_rd M k 11 + nI wz) := by
  have hS0 := hS
  obtain ⟨r0, r1, r2, r3, r4, r5, r6, r7, r8, r9, r10, r11, r12, r13, r14⟩ := hS
  have hz : ce_rd M (k + 5) 1 = nI wz := r6.trans i6
  obtain ⟨M3, e3, f1, f2, f3, f4⟩ := cs_remove (k := k + 5) (d := wz) hz i6' (Nat.le_refl wz)
  unfold f_X4_quit
  rw [hz]
  simp only [ms_nm, e3, ms_b1, cs_close]
  have s1 : ms_SR M3 k (upd σ (24 + 54 * a + 6) (nI 0)) a := cs_SR_rm hS0 i6 i6' (Nat.le_refl wz) f2 f3 (fun i hi => f4 i hi) (fun j q1 q2 q3 => ms_u2 (by omega)) (by rw [ms_u1 rfl, Nat.sub_self]) (fun i hi => by omega) (sp_rt_eq 60 (fun e he => ms_u2 (by omega)))
  have s2 := cs_F11 s1 (ce_rd M3 k 11 + nI wz)
  have s3 := cs_SR_close (v := tk) ha s2 (by rw [ms_u2 (by omega)]; exact i11) hc1 hc2
  have s4 := cs_F7 ha s3 0
  refine ⟨_, rfl, ms_SR_cg s4 ht (hr.trans ?_), ?_, ?_⟩
  · exact (sp_rt_eq 60 (fun e he => by rw [ms_u2 (by omega), ms_u2 (by omega), ms_u2 (by omega)])).symm
  · exact ms_fr_t ⟨f1, fun q hq => f2 q (by omega)⟩ (ms_fr_t (ms_fr_w (by omega) (by omega)) (ms_fr_t (ms_fr_w (by omega) (by omega)) (ms_fr_w (by omega) (by omega))))
  · rw [ms_rw3 (by omega), ms_row (by omega), ms_rw1 rfl rfl, f2 k (by omega)]
theorem act_quit {T t n en w : Nat} {M : ce_M} {σ : Nat → Int32} (hR : ms_WR M w σ) (hI : ms_IN σ t n en) (ht : t ≤ T) (x y z : Int32) : ms_OK T M w σ (f_X6_againstLeaving w M x) (f_X6_perform w M 2 x y z) (fun Mm => f_X8_quits 414 Mm x) (fun ca cm => (ca = 1 ∧ cm = 1) ∨ (ca = 3 ∧ cm = 2)) := by
  have hI0 := hI
  have hR0 := hR
  obtain ⟨R0, R1, R2, R3, R4, R5, R6, R7, R8⟩ := hR
  obtain ⟨I0, I1, I1', I2, I2', I3, I4, I5, I6, I7, I8, I9, I10⟩ := hI
  have hn : ce_rd M w 5 = nI n := R1.trans I1
  unfold f_X6_againstLeaving
  rcases ms_ix x n with hx | ⟨a, ha, rfl⟩
  · refine Or.inl ⟨1, 1, Or.inl ⟨rfl, rfl⟩, ?_, fun Mm => ?_⟩
    · rw [cs_sub_n hn hx]; rfl
    · show f_X8_quits 414 (ms_S Mm σ) x = _
      unfold f_X8_quits
      rw [ms_one_n Mm I1 I1' hx]; rfl
  · have ha8 : a < 8 := by omega
    have hS0 := R5 a ha8
    have hS := R5 a ha8
    obtain ⟨r0, r1, r2, r3, r4, r5, r6, r7, r8, r9, r10, r11, r12, r13, r14⟩ := hS
    obtain ⟨so, le, po, ca, se, th, wz, c, i0, i0', i1, i1', i2, i2', i3, i3', i4, i4', i5, i5', i6, i6', i11, i11', iw, ip, ib, ix, is⟩ := I7 a ha8
    obtain ⟨c9, hc1, hc2, hc3⟩ := I8 a ha
    have ec : c9 = c := ms_nI (hc3.symm.trans i11) (by omega) (by omega)
    subst ec
    rw [cs_sub_y hn I1' ha, ms_b1, if_neg (by decide), ms_gi ha8 (by omega), nI_clamp (show a < 2 ^ 31 by omega), ms_nm, r5, i5]
    rcases (by omega : th = 0 ∨ th = 1) with rfl | rfl
    · refine Or.inl ⟨3, 2, Or.inr ⟨rfl, rfl⟩, rfl, fun Mm => ?_⟩
      show f_X8_quits 414 (ms_S Mm σ) (nI a) = _
      unfold f_X8_quits
      rw [ms_one_y Mm I1 I1' ha, ms_b1, if_neg (by decide), show f_X8_of 414 (ms_S Mm σ) (nI a) 5 = some (nI 0) from by rw [← i5]; exact ms_of Mm σ ha8 (show 5 < 54 by omega)]
      rfl
    · have p : ∀ j, j ≠ 7 → j ≠ 24 + 54 * a + 6 → j ≠ 24 + 54 * a + 5 → j ≠ 24 + 54 * a + (24 + 3 * c9 - 1) → sp_qt σ a wz c9 j = σ j := fun j q1 q2 q3 q4 => by
        unfold sp_qt
        rw [ms_u2 q4, ms_u2 q3, ms_u2 q2, ms_u2 q1]
      have p7 : sp_qt σ a wz c9 7 = σ 7 + nI wz := by
        unfold sp_qt
        rw [ms_u2 (by omega), ms_u2 (by omega), ms_u2 (by omega), ms_u1 rfl]
      have p6 : sp_qt σ a wz c9 (24 + 54 * a + 6) = nI 0 := by
        unfold sp_qt
        rw [ms_u2 (by omega), ms_u2 (by omega), ms_u1 rfl]
      have p5 : sp_qt σ a wz c9 (24 + 54 * a + 5) = nI 0 := by
        unfold sp_qt
        rw [ms_u2 (by omega), ms_u1 rfl]
      have pe : sp_qt σ a wz c9 (24 + 54 * a + (24 + 3 * c9 - 1)) = σ 0 := by
        unfold sp_qt
        rw [ms_u1 rfl]
      obtain ⟨M9, e9, s9, f9, l9⟩ := cs_quit (τ := sp_qt σ a wz c9) (tk := σ 0) ha8 hS0 i6 i6' i11 hc1 hc2 (fun j hj => by
        by_cases q1 : j = 5
        · subst q1; rw [p5, ms_u1 rfl]; rfl
        · rw [ms_u2 (by omega)]
          by_cases q2 : j = 24 + 3 * c9 - 1
          · subst q2; rw [pe, ms_u1 rfl]
          · rw [ms_u2 (by omega)]
            by_cases q3 : j = 6
            · subst q3; rw [p6, ms_u1 rfl]
            · rw [ms_u2 (by omega), p _ (by omega) (by omega) (by omega) (by omega)]) (sp_rt_eq 60 (fun e he => p _ (by omega) (by omega) (by omega) (by omega)))
      refine Or.inr ⟨rfl, sp_qt σ a wz c9, nI wz, M9, ⟨t, n, en, ht, ?_⟩, ?_, ?_, ms_fr_up f9 (by omega) (by omega), fun Mm => ⟨_, ms_quits Mm I1 I1' ha i5 i6 i11 hc1 hc2, ms_MF_w Mm _⟩⟩
      · refine ms_IN_one hI0 ha ⟨so, le, po, ca, se, 0, 0, c9, by rw [p _ (by omega) (by omega) (by omega) (by omega)]; exact i0, i0', by rw [p _ (by omega) (by omega) (by omega) (by omega)]; exact i1, i1', by rw [p _ (by omega) (by omega) (by omega) (by omega)]; exact i2, i2', by rw [p _ (by omega) (by omega) (by omega) (by omega)]; exact i3, i3', by rw [p _ (by omega) (by omega) (by omega) (by omega)]; exact i4, i4', p5, by omega, p6, by omega, by rw [p _ (by omega) (by omega) (by omega) (by omega)]; exact i11, i11', fun _ => rfl, ip, fun i hi => by omega, fun i j q1 q2 => by omega, fun j hj => by rw [p _ (by omega) (by omega) (by omega) (by omega)]; exact is j hj⟩ ⟨c9, hc1, hc2, by rw [p _ (by omega) (by omega) (by omega) (by omega)]; exact i11⟩ (fun j hj => p _ (by omega) (by omega) (by omega) (by omega)) (fun b hb hne j hj => p _ (by omega) (by omega) (by omega) (by omega)) (fun e he k hk => Or.inr (p _ (by omega) (by omega) (by omega) (by omega)))
      · rw [cs_p2, ms_gi ha8 (by omega), nI_clamp (show a < 2 ^ 31 by omega), ms_nm, R0, e9]
        rfl
      · refine cs_WR_one hR0 ha8 f9 s9 (fun j hj => p _ (by omega) (by omega) (by omega) (by omega)) (fun l hl => p _ (by omega) (by omega) (by omega) (by omega)) (fun b hb hne j hj => p _ (by omega) (by omega) (by omega) (by omega)) (fun e he k hk => p _ (by omega) (by omega) (by omega) (by omega)) ?_ (fun m q1 q2 => Or.inl ?_)
        · rw [p7, ← R7]
          exact sp_lost_add (fun b hb => congrFun (f9.2 _ (by omega)) 11) l9 8 ha8
        · have := ms_nI (q1.symm.trans I1) (by omega) (by omega)
          omega
