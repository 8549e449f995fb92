/-! the loops that hand over -/
def sp_hs (ρ : Nat → Int32) (i : Nat) : Nat → Int32 := if sp_du ρ i = true then sp_ho ρ i (ρ (24 + 54 * i + 11)).toNatClampNeg (ρ (24 + 54 * i + 2)) (ρ (24 + 54 * i + 6)).toNatClampNeg else ρ
def sp_hall (σ : Nat → Int32) : Nat → Nat → Int32
  | 0 => σ
  | i + 1 => sp_hs (sp_hall σ i) i
theorem ms_IN_hs {ρ : Nat → Int32} {t n en i : Nat} (hI : ms_IN ρ t n en) (hi : i < n) : ms_IN (sp_hs ρ i) t n en := by
  unfold sp_hs
  by_cases c : sp_du ρ i = true
  · rw [if_pos c]
    have hI0 := hI
    obtain ⟨I0, I1, I1', I2, I2', I3, I4, I5, I6, I7, I8, I9, I10⟩ := hI
    obtain ⟨c, h1, h2, h3⟩ := I8 i hi
    rw [h3, nI_clamp (show c < 2 ^ 31 by omega)]
    exact ms_IN_ho hI0 hi h3 h1 h2
  · rw [if_neg c]; exact hI
theorem ms_IN_hall {σ : Nat → Int32} {t n en : Nat} (hI : ms_IN σ t n en) : ∀ i, i ≤ n → ms_IN (sp_hall σ i) t n en := by
  intro i
  induction i with
  | zero => intro _; exact hI
  | succ i ih => intro h; exact ms_IN_hs (ih (by omega)) (by omega)
theorem ms_hstep (M : ce_M) {ρ : Nat → Int32} {t n en i : Nat} (hI : ms_IN ρ t n en) (hi : i < n) (u : ce_M → Option (ce_M × Int32)) (rec : ce_M → Int32 → Option (ce_M × Int32)) : f_X8_ticks_L25 414 u rec (ms_S M ρ) (nI i) = rec (ms_S M (sp_hs ρ i)) (nI (i + 1)) := by
  obtain ⟨I0, I1, I1', I2, I2', I3, I4, I5, I6, I7, I8, I9, I10⟩ := hI
  have ha : i < 8 := by omega
  have hS := I7 i ha
  obtain ⟨c9, hc1, hc2, hc3⟩ := I8 i hi
  unfold f_X8_ticks_L25
  simp only [ms_lit, ms_gi (show 1 < 816 by omega) (show 816 < 2 ^ 31 by omega), nI_clamp (show 1 < 2 ^ 31 by omega), ms_rd1, ms_nm, I1, if_neg (nI_ge (show i < n by omega) (show n < 2 ^ 31 by omega)), ms_may M ha hS, ms_b1, nI_add]
  unfold sp_hs
  cases hdu : sp_du ρ i with
  | false => simp
  | true =>
    obtain ⟨so, le, po, ca, se, th, wz, c, i0, i0', i1, i1', i2, i2', i3, i3', i4, i4', i5, i5', i6, i6', i11, i11', iw, ip, ib, ix, is⟩ := hS
    have e : c = c9 := ms_nI (i11.symm.trans hc3) (by omega) (by omega)
    subst e
    have q2 : sp_h1 ρ i c (24 + 54 * i + 2) = ρ (24 + 54 * i + 2) := sp_h1_o hc1 (by omega) hc2
    have hE : f_X8_endsStay 414 (ms_S M ρ) (nI i) = some (ms_S M (sp_h1 ρ i c)) := ms_endS M ha i11 hc2
    have e11 : sp_h1 ρ i c (24 + 54 * i + 11) = nI c := by rw [sp_h1_o hc1 (by omega) hc2]; exact i11
    have b : ∀ j, j ≠ 24 + 54 * i + 4 → j ≠ 24 + 54 * i + 11 → (j < 24 + 54 * i + 24 ∨ 24 + 54 * i + 54 ≤ j) → sp_bs (sp_h1 ρ i c) i (ρ (24 + 54 * i + 2)) c j = ρ j := fun j h1 h2 h3 => by rw [sp_bs_o hc2 h1 h2 h3, sp_h1_o hc1 h3 hc2]
    rw [if_pos rfl, if_neg (by decide), if_pos rfl, hE, ms_b1]
    simp only [ms_of M _ ha (show 2 < 54 by omega), ms_b1, q2, ms_begin M ha e11 hc2, ms_adds M _ ha (show 9 < 54 by omega), ms_of M _ ha (show 6 < 54 by omega), ms_of M _ ha (show 10 < 54 by omega), ms_put M _ ha (show 10 < 54 by omega), ms_gi (show 0 < 816 by omega) (show 816 < 2 ^ 31 by omega), nI_clamp (show 0 < 2 ^ 31 by omega), ms_rd1, ms_set M _ (show 2 < 4 by omega)]
    rw [ms_u2 (show 24 + 54 * i + 6 ≠ 24 + 54 * i + 9 by omega), b (24 + 54 * i + 9) (by omega) (by omega) (by omega), b (24 + 54 * i + 6) (by omega) (by omega) (by omega), i6, i11, nI_clamp (show c < 2 ^ 31 by omega), nI_clamp (show wz < 2 ^ 31 by omega)]
    unfold sp_ho
    by_cases c0 : wz = 0
    · subst c0
      rw [if_pos (by decide), if_pos rfl, ms_u2 (show 24 + 54 * i + 10 ≠ 24 + 54 * i + 9 by omega), b (24 + 54 * i + 10) (by omega) (by omega) (by omega)]
    · rw [if_neg (show ¬ nI wz ≤ nI 0 from nI_nle (by omega) (by omega)), if_neg c0, ms_u2 (show 0 ≠ 24 + 54 * i + 9 by omega), ms_u2 (show 3 + 2 ≠ 24 + 54 * i + 9 by omega), b 0 (by omega) (by omega) (by omega), b (3 + 2) (by omega) (by omega) (by omega)]
theorem ms_hloop (M : ce_M) {σ : Nat → Int32} {t n en : Nat} (hI : ms_IN σ t n en) (u : ce_M → Option (ce_M × Int32)) : ce_lp2 (f_X8_ticks_L25 414 u) ce_FU (ms_S M σ) 0 = u (ms_S M (sp_hall σ n)) := by
  have hn8 : n ≤ 8 := hI.2.2.1
  refine ms_f2 (F := f_X8_ticks_L25 414 u) (fun i => ms_S M (sp_hall σ i)) (fun i => nI i) n (fun i hi rec => ms_hstep M (ms_IN_hall hI i (by omega)) hi u rec) (fun rec => ?_) (by rw [ms_FU]; omega)
  obtain ⟨I0, I1, I1', I2, I2', I3, I4, I5, I6, I7, I8, I9, I10⟩ := ms_IN_hall hI n (Nat.le_refl n)
  unfold f_X8_ticks_L25
  simp only [ms_lit, ms_gi (show 1 < 816 by omega) (show 816 < 2 ^ 31 by omega), nI_clamp (show 1 < 2 ^ 31 by omega), ms_rd1, ms_nm, I1, if_pos (nI_le (show n ≤ n by omega) (show n < 2 ^ 31 by omega))]
theorem cs_hloop {M : ce_M} {w t n en : Nat} {σ : Nat → Int32} (hR : ms_WR M w σ) (hI : ms_IN σ t n en) (u : ce_M → Option (ce_M × Int32)) (P : ce_M × Int32 → Prop) (hu : ∀ M1, ms_WR M1 w (sp_hall σ n) → ms_fr (w + 12) (w + 68) M M1 → ∃ r, u M1 = some r ∧ P r) : ∃ r, ce_lp2 (f_X6_passTick_L2 w u) ce_FU M 0 = some r ∧ P r := by
  have hn8 : n ≤ 8 := hI.2.2.1
  refine ms_p2 (F := f_X6_passTick_L2 w u) (fun m M1 x => ∃ i, x = nI i ∧ i + m = n ∧ ms_WR M1 w (sp_hall σ i) ∧ ms_fr (w + 12) (w + 68) M M1) P (fun m rec M1 x hrec hJ => ?_) n ce_FU M 0 (by rw [ms_FU]; omega) ⟨0, rfl, by omega, hR, ms_fr_r⟩
  obtain ⟨i, rfl, him, hW, hf⟩ := hJ
  have hIi := ms_IN_hall hI i (by omega)
  have hW0 := hW
  have hIi0 := hIi
  obtain ⟨R0, R1, R2, R3, R4, R5, R6, R7, R8⟩ := hW
  obtain ⟨I0, I1, I1', I2, I2', I3, I4, I5, I6, I7, I8, I9, I10⟩ := hIi
  unfold f_X6_passTick_L2
  rw [R1, I1]
  by_cases c0 : m = 0
  · have e : i = n := by omega
    subst e
    rw [if_pos (nI_le (show i ≤ i by omega) (show i < 2 ^ 31 by omega))]
    exact hu M1 hW0 hf
  · have hi : i < n := by omega
    have hi8 : i < 8 := by omega
    rw [if_neg (nI_ge (show i < n by omega) (show n < 2 ^ 31 by omega)), ms_gi hi8 (by omega), nI_clamp (show i < 2 ^ 31 by omega), ms_nm, show ∀ K : Option (ce_M × Int32), ce_gi 0 4 K = K from fun K => ms_gi (n := 0) (by omega) (by omega), show ce_rd M1 (w + 1) (Int32.toNatClampNeg 0) = sp_hall σ i (3 + 0) from R3 0 (by omega), ms_nm, R0, cs_isDue (R5 i hi8) (I7 i hi8), ms_b1]
    have hs : sp_hall σ (i + 1) = sp_hs (sp_hall σ i) i := rfl
    cases hdu : sp_du (sp_hall σ i) i with
    | false =>
      rw [if_pos (by decide), ms_nm]
      refine hrec (m - 1) (by omega) _ _ ⟨i + 1, nI_1 i, by omega, ?_, hf⟩
      rw [hs]
      unfold sp_hs
      rw [hdu, if_neg (by decide)]
      exact hW0
    | true =>
      obtain ⟨so, le, po, ca, se, th, wz, c, i0, i0', i1, i1', i2, i2', i3, i3', i4, i4', i5, i5', i6, i6', i11, i11', iw, ip, ib, ix, is⟩ := I7 i hi8
      obtain ⟨c9, hc1, hc2, hc3⟩ := I8 i hi
      obtain ⟨M2, e2, w2, f2⟩ := cs_WR_ho hW0 hIi0 hi i6 i6' hc3 hc1 hc2
      rw [if_neg (by decide), show ∀ K : Option (ce_M × Int32), ce_gi 2 4 K = K from fun K => ms_gi (n := 2) (by omega) (by omega), show ce_rd M1 (w + 1) (Int32.toNatClampNeg 2) = sp_hall σ i (3 + 2) from R3 2 (by omega), ms_nm, e2, ms_b1, ms_nm]
      refine hrec (m - 1) (by omega) _ _ ⟨i + 1, nI_1 i, by omega, ?_, ms_fr_t hf f2⟩
      rw [hs]
      unfold sp_hs
      rw [hdu, if_pos rfl, hc3, i6, nI_clamp (show c9 < 2 ^ 31 by omega), nI_clamp (show wz < 2 ^ 31 by omega)]
      exact w2
