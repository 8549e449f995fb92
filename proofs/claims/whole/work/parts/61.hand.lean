/-! the loops that hand over -/
def sp_hs (ρ : Nat → Int32) (i : Nat) : Nat → Int32 := if sp_du ρ i = true then sp_ho ρ i (ρ (24 + 54 * i + 11)).toNatClampNeg (ρ (24 + 54 * i + 2)) (ρ (24 + 54 * i + 6)).toNatClampNeg else ρ
def sp_hall (σ : Nat → Int32) : Nat → Nat → Int32
  | 0 => σ
  | i + 1 => sp_hs (sp_hall σ i) i
theorem ms_IN_hs {ρ : Nat → Int32} {t n en i : Nat} (hI : ms_IN ρ t n en) (hi : i < n) : ms_IN (sp_hs ρ i) t n en := by
  unfold sp_hs
  by_cases c : sp_du ρ i = true
  · rw [if_pos c]
    have hI0 := hI
    obtain ⟨I0, I1, I1', I2, I2', I3, I4, I5, I6, I7, I8, I9, I10⟩ := hI
    obtain ⟨c, h1, h2, h3⟩ := I8 i hi
    rw [h3, nI_clamp (show c < 2 ^ 31 by omega)]
    exact ms_IN_ho hI0 hi h3 h1 h2
  · rw [if_neg c]; exact hI
theorem ms_IN_hall {σ : Nat → Int32} {t n en : Nat} (hI : ms_IN σ t n en) : ∀ i, i ≤ n → ms_IN (sp_hall σ i) t n en := by
  intro i
  induction i with
  | zero => intro _; exact hI
  | succ i ih => intro h; exact ms_IN_hs (ih (by omega)) (by omega)
theorem ms_hstep (M : ce_M) {ρ : Nat → Int32} {t n en i : Nat} (hI : ms_IN ρ t n en) (hi : i < n) (u : ce_M → Option (ce_M × Int32)) (rec : ce_M → Int32 → Option (ce_M × Int32)) : f_X8_ticks_L25 414 u rec (ms_S M ρ) (nI i) = rec (ms_S M (sp_hs ρ i)) (nI (i + 1)) := by
  obtain ⟨I0, I1, I1', I2, I2', I3, I4, I5, I6, I7, I8, I9, I10⟩ := hI
  have ha : i < 8 := by omega
  have hS := I7 i ha
  obtain ⟨c9, hc1, hc2, hc3⟩ := I8 i hi
  unfold f_X8_ticks_L25
  simp only [ms_lit, ms_gi (show 1 < 816 by omega) (show 816 < 2 ^ 31 by omega), nI_clamp (show 1 < 2 ^ 31 by omega), ms_rd1, ms_nm, I1, if_neg (nI_ge (show i < n by omega) (show n < 2 ^ 31 by omega)), ms_may M ha hS, ms_b1, nI_add]
  unfold sp_hs
  cases hdu : sp_du ρ i with
  | false => simp
  | true =>
    obtain ⟨so, le, po, ca, se, th, wz, c, i0, i0', i1, i1', i2, i2', i3, i3', i4, i4', i5, i5', i6, i6', i11, i11', iw, ip, ib, ix, is⟩ := hS
    have e : c = c9 := ms_nI (i11.symm.trans hc3) (by omega) (by omega)
    subst e
    have q2 : sp_h1 ρ i c (24 + 54 * i + 2) = ρ (24 + 54 * i + 2) := sp_h1_o hc1 (by omega) hc2
    have hE : f_X8_endsStay 414 (ms_S M ρ) (nI i) = some (ms_S M (sp_h1 ρ i c)) := ms_endS M ha i11 hc2
    have e11 : sp_h1 ρ i c (24 + 54 * i + 11) = nI c := by rw [sp_h1_o hc1 (by omega) hc2]; exact i11
    have b : ∀ j, j ≠ 24 + 54 * i + 4 → j ≠ 24 + 54 * i + 11 → (j < 24 + 54 * i + 24 ∨ 24 + 54 * i + 54 ≤ j) → sp_bs (sp_h1 ρ i c) i (ρ (24 + 54 * i + 2)) c j = ρ j := fun j h1 h2 h3 => by rw [sp_bs_o hc2 h1 h2 h3, sp_h1_o hc1 h3 hc2]
    rw [if_pos rfl, if_neg (by decide), if_pos rfl, hE, ms_b1]
    simp only [ms_of M _ ha (show 2 < 54 by omega), ms_b1, q2, ms_begin M ha e11 hc2, ms_adds M _ ha (show 9 < 54 by omega), ms_of M _ ha (show 6 < 54 by omega), ms_of M _ ha (show 10 < 54 by omega), ms_put M _ ha (show 10 < 54 by omega), ms_gi (show 0 < 816 by omega) (show 816 < 2 ^ 31 by omega), nI_clamp (show 0 < 2 ^ 31 by omega), ms_rd1, ms_set M _ (show 2 < 4 by omega)]
    rw [ms_u2 (show 24 + 54 * i + 6 ≠ 24 + 54 * i + 9 by omega), b (24 + 54 * i + 9) (by omega) (by omega) (by omega), b (24 + 54 * i + 6) (by omega) (by omega) (by omega), i6, i11, nI_clamp (show c < 2 ^ 31 by omega), nI_clamp (show wz < 2 ^ 31 by omega)]
    unfold sp_ho
    by_cases c0 : wz = 0
    · subst c0
      rw [if_pos (by decide), if_pos rfl, ms_u2 (show 24 + 54 * i + 10 ≠ 24 + 54 * i + 9 by omega), b (24 + 54 * i + 10) (by omega) (by omega) (by omega)]
    · rw [if_neg (show ¬ nI wz ≤ nI 0 from nI_nle (by omega) (by omega)), if_neg c0, ms_u2 (show 0 ≠ 24 + 54 * i + 9 by omega), ms_u2 (show 3 + 2 ≠ 24 + 54 * i + 9 by omega), b 0 (by omega) (by omega) (by omega), b (3 + 2) (by omega) (by omega) (by omega)]
