/-! stays and inbox of the class: what a call leaves -/
theorem ms_row {M : ce_M} {k j q : Nat} {v : Int32} (h : q ≠ k) : ce_rd (ce_wr M k j v) q = ce_rd M q := funext fun _ => ms_rw2 h
theorem cs_open {M : ce_M} {k c : Nat} (hc : ce_rd M k 3 = nI c) (hc2 : c ≤ 10) (lf tk : Int32) : ∃ M', f_X3_open k M lf tk = some M' ∧ (M'.2 = M.2 ∧ (∀ q, q < k ∨ k + 4 ≤ q → ce_rd M' q = ce_rd M q) ∧ ce_rd M' k 3 = nI (if c < 10 then c + 1 else 10) ∧ (∀ j, j < 10 → ce_rd M' (k + 1) j = if j = 0 then lf else ce_rd M (k + 1) (j - 1)) ∧ (∀ j, j < 10 → ce_rd M' (k + 2) j = if j = 0 then tk else ce_rd M (k + 2) (j - 1)) ∧ (∀ j, j < 10 → ce_rd M' (k + 3) j = if j = 0 then -1 else ce_rd M (k + 3) (j - 1))) := by
  unfold f_X3_open
  rw [ms_nm]
  refine ms_p2 (F := f_X3_open_L3 lf tk k _) (fun m M1 x => x = nI m ∧ m ≤ 9 ∧ M1.2 = M.2 ∧ (∀ q, q < k + 1 ∨ k + 4 ≤ q → ce_rd M1 q = ce_rd M q) ∧ (∀ r, 1 ≤ r → r ≤ 3 → ∀ j, j < 10 → ce_rd M1 (k + r) j = if m < j then ce_rd M (k + r) (j - 1) else ce_rd M (k + r) j)) _ (fun m rec M1 x hrec hI => ?_) 9 ce_FU M 9 (by rw [ms_FU]; omega) ⟨rfl, by omega, rfl, fun q _ => rfl, fun r _ _ j hj => by rw [if_neg (by omega)]⟩
  obtain ⟨rfl, h1, h2, h3, h4⟩ := hI
  unfold f_X3_open_L3
  by_cases c0 : m = 0
  · subst c0
    rw [if_pos (show nI 0 ≤ 0 by decide)]
    have g0 : ∀ K : Option ce_M, ce_gi 0 10 K = K := fun K => ms_gi (n := 0) (by omega) (by omega)
    have z0 : Int32.toNatClampNeg 0 = 0 := rfl
    simp only [g0, ms_nm, z0]
    have e3 : ce_rd (ce_wr (ce_wr (ce_wr M1 (k + 1) 0 lf) (k + 2) 0 tk) (k + 3) 0 (-1)) k 3 = nI c := by
      rw [ms_row (by omega), ms_row (by omega), ms_row (by omega), h3 k (by omega), hc]
    rw [e3]
    have r1 : ∀ j, j < 10 → ce_rd (ce_wr (ce_wr (ce_wr M1 (k + 1) 0 lf) (k + 2) 0 tk) (k + 3) 0 (-1)) (k + 1) j = if j = 0 then lf else ce_rd M (k + 1) (j - 1) := fun j hj => by
      rw [ms_row (by omega), ms_row (by omega)]
      by_cases cj : j = 0
      · rw [ms_rw1 rfl cj, if_pos cj]
      · rw [ms_rw3 cj, if_neg cj, h4 1 (by omega) (by omega) j hj, if_pos (by omega)]
    have r2 : ∀ j, j < 10 → ce_rd (ce_wr (ce_wr (ce_wr M1 (k + 1) 0 lf) (k + 2) 0 tk) (k + 3) 0 (-1)) (k + 2) j = if j = 0 then tk else ce_rd M (k + 2) (j - 1) := fun j hj => by
      rw [ms_row (by omega)]
      by_cases cj : j = 0
      · rw [ms_rw1 rfl cj, if_pos cj]
      · rw [ms_rw3 cj, if_neg cj, ms_row (by omega), h4 2 (by omega) (by omega) j hj, if_pos (by omega)]
    have r3 : ∀ j, j < 10 → ce_rd (ce_wr (ce_wr (ce_wr M1 (k + 1) 0 lf) (k + 2) 0 tk) (k + 3) 0 (-1)) (k + 3) j = if j = 0 then -1 else ce_rd M (k + 3) (j - 1) := fun j hj => by
      by_cases cj : j = 0
      · rw [ms_rw1 rfl cj, if_pos cj]
      · rw [ms_rw3 cj, if_neg cj, ms_row (by omega), ms_row (by omega), h4 3 (by omega) (by omega) j hj, if_pos (by omega)]
    have fr : ∀ q, q < k ∨ k + 4 ≤ q → ce_rd (ce_wr (ce_wr (ce_wr M1 (k + 1) 0 lf) (k + 2) 0 tk) (k + 3) 0 (-1)) q = ce_rd M q := fun q hq => by
      rw [ms_row (by omega), ms_row (by omega), ms_row (by omega), h3 q (by omega)]
    by_cases cc : c = 10
    · rw [if_pos (show (10 : Int32) ≤ nI c from nI_le (show 10 ≤ c by omega) (by omega))]
      refine ⟨_, rfl, h2, fr, ?_, r1, r2, r3⟩
      rw [e3, if_neg (by omega), cc]
    · rw [if_neg (show ¬ (10 : Int32) ≤ nI c from nI_ge (show c < 10 by omega) (show 10 < 2 ^ 31 by omega))]
      refine ⟨_, rfl, h2, fun q hq => ?_, ?_, fun j hj => ?_, fun j hj => ?_, fun j hj => ?_⟩
      · rw [ms_row (by omega)]; exact fr q hq
      · rw [ms_rw1 rfl rfl, if_pos (by omega)]; exact nI_1 c
      · rw [ms_row (by omega)]; exact r1 j hj
      · rw [ms_row (by omega)]; exact r2 j hj
      · rw [ms_row (by omega)]; exact r3 j hj
  · obtain ⟨d, rfl⟩ : ∃ d, m = d + 1 := ⟨m - 1, by omega⟩
    rw [if_neg (show ¬ nI (d + 1) ≤ 0 from nI_ge (show 0 < d + 1 by omega) (by omega)), show nI (d + 1) - 1 = nI d from nI_pred d]
    simp only [ms_gi (show d < 10 by omega) (show 10 < 2 ^ 31 by omega), ms_gi (show d + 1 < 10 by omega) (show 10 < 2 ^ 31 by omega), nI_clamp (show d < 2 ^ 31 by omega), nI_clamp (show d + 1 < 2 ^ 31 by omega), ms_nm, pk_m1]
    refine hrec d (by omega) _ _ ⟨rfl, by omega, h2, fun q hq => ?_, fun r hr1 hr2 j hj => ?_⟩
    · rw [ms_row (by omega), ms_row (by omega), ms_row (by omega), h3 q hq]
    · rcases (by omega : r = 1 ∨ r = 2 ∨ r = 3) with rfl | rfl | rfl
      · rw [ms_row (by omega), ms_row (by omega)]
        by_cases cj : j = d + 1
        · rw [ms_rw1 rfl cj, h4 1 (by omega) (by omega) d (by omega), if_neg (by omega), if_pos (by omega), cj]; rfl
        · rw [ms_rw3 cj, h4 1 (by omega) (by omega) j hj]
          by_cases c2 : d + 1 < j
          · rw [if_pos c2, if_pos (by omega)]
          · rw [if_neg c2, if_neg (by omega)]
      · rw [ms_row (by omega)]
        by_cases cj : j = d + 1
        · rw [ms_rw1 rfl cj, ms_row (by omega), h4 2 (by omega) (by omega) d (by omega), if_neg (by omega), if_pos (by omega), cj]; rfl
        · rw [ms_rw3 cj, ms_row (by omega), h4 2 (by omega) (by omega) j hj]
          by_cases c2 : d + 1 < j
          · rw [if_pos c2, if_pos (by omega)]
          · rw [if_neg c2, if_neg (by omega)]
      · by_cases cj : j = d + 1
        · rw [ms_rw1 rfl cj, ms_row (by omega), ms_row (by omega), h4 3 (by omega) (by omega) d (by omega), if_neg (by omega), if_pos (by omega), cj]; rfl
        · rw [ms_rw3 cj, ms_row (by omega), ms_row (by omega), h4 3 (by omega) (by omega) j hj]
          by_cases c2 : d + 1 < j
          · rw [if_pos c2, if_pos (by omega)]
          · rw [if_neg c2, if_neg (by omega)]
theorem cs_close (M : ce_M) (k : Nat) (tk : Int32) : f_X3_close k M tk = some (ce_wr M (k + 3) 0 tk) := by
  unfold f_X3_close
  rw [show ∀ K : Option ce_M, ce_gi 0 10 K = K from fun K => ms_gi (n := 0) (by omega) (by omega)]
  rfl
theorem cs_remove {M : ce_M} {k s d : Nat} (hs : ce_rd M k 1 = nI s) (hs2 : s ≤ 12) (hd : d ≤ s) : ∃ M', f_X2_removeOldest k M (nI d) = some M' ∧ (M'.2 = M.2 ∧ (∀ q, q < k ∨ k + 2 ≤ q → ce_rd M' q = ce_rd M q) ∧ ce_rd M' k 1 = nI (s - d) ∧ (∀ i, i < s - d → ce_rd M' (k + 1) i = ce_rd M (k + 1) (i + d))) := by
  unfold f_X2_removeOldest
  rw [ms_nm]
  refine ms_p2 (F := f_X2_removeOldest_L2 k (nI d) _) (fun m M1 x => ∃ i, i + m = s - d ∧ x = nI (d + i) ∧ M1.2 = M.2 ∧ (∀ q, q ≠ k + 1 → ce_rd M1 q = ce_rd M q) ∧ (∀ j, ce_rd M1 (k + 1) j = if j < i then ce_rd M (k + 1) (j + d) else ce_rd M (k + 1) j)) _ (fun m rec M1 x hrec hI => ?_) (s - d) ce_FU M (nI d) (by rw [ms_FU]; omega) ⟨0, by omega, rfl, rfl, fun q _ => rfl, fun j => by rw [if_neg (by omega)]⟩
  obtain ⟨i, h1, rfl, h2, h3, h4⟩ := hI
  unfold f_X2_removeOldest_L2
  rw [h3 k (by omega), hs]
  by_cases c0 : m = 0
  · rw [if_pos (nI_le (show s ≤ d + i by omega) (by omega))]
    refine ⟨_, rfl, h2, fun q hq => ?_, ?_, fun j hj => ?_⟩
    · rw [ms_row (by omega), h3 q (by omega)]
    · rw [ms_rw1 rfl rfl, h3 k (by omega), hs, ms_sub hd]
    · rw [ms_row (by omega), h4 j, if_pos (by omega)]
  · rw [if_neg (nI_ge (show d + i < s by omega) (by omega)), ms_sub (show d ≤ d + i by omega), Nat.add_sub_cancel_left, ms_gi (show d + i < 12 by omega) (by omega), nI_clamp (show d + i < 2 ^ 31 by omega), ms_nm, ms_gi (show i < 12 by omega) (show 12 < 2 ^ 31 by omega), nI_clamp (show i < 2 ^ 31 by omega), ms_nm, ms_nm]
    refine hrec (m - 1) (by omega) _ _ ⟨i + 1, by omega, nI_1 (d + i), h2, fun q hq => ?_, fun j => ?_⟩
    · rw [ms_row hq, h3 q hq]
    · by_cases cj : j = i
      · rw [ms_rw1 rfl cj, h4, if_neg (by omega), if_pos (by omega), cj, Nat.add_comm d i]
      · rw [ms_rw3 cj, h4 j]
        by_cases c2 : j < i
        · rw [if_pos c2, if_pos (by omega)]
        · rw [if_neg c2, if_neg (by omega)]
