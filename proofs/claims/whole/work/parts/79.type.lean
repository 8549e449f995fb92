/-! typing and clearing -/
theorem GI_mk {M M' : ce_M} {len : Nat} (h : GI M) (h1 : ∀ q, q < 411 → ce_rd M' q = ce_rd M q) (h4 : ce_rd M' 415 = ce_rd M 415) (h5 : ce_rd M' 416 = ce_rd M 416) (h7 : ce_rd M' 414 3 = ce_rd M 414 3) (hT : GI_T M' len) : GI M' := by
  obtain ⟨a, ⟨c, nx, b⟩, _⟩ := h
  exact ⟨GI_W_fr a (fun q q1 q2 => h1 q (by omega)) h4, ⟨c, nx, GI_U_fr b (fun q q1 q2 => h1 q (by omega)) h5 h7⟩, len, hT⟩
theorem LW_type (x : Int32) : LW (fun M => f_L_type M 0 x 421) (fun M => f_X8_type 414 M x) := by
  intro M hG
  have hG0 := hG
  obtain ⟨_, _, len, l1, l2, l3, l4⟩ := hG
  rcases ms_ix x 128 with hx | ⟨v, hv, rfl⟩
  · refine ⟨M, 1, ce_wr M 414 4 1, 0, ?_, ?_, ms_ww, fun q => absurd q (by decide), GI_m hG0 _ (by omega) (by omega)⟩
    · show f_L_type M 0 x 421 = _
      unfold f_L_type f_X7_type
      rw [show f_X7_isBelow M x 128 = some 0 from cs_below_n M hx]; rfl
    · show f_X8_type 414 M x = _
      unfold f_X8_type
      rw [show f_X8_in M x 0 127 = some 0 from ms_in_n _ hx]; rfl
  · by_cases h150 : len = 150
    · subst h150
      refine ⟨M, 2, ce_wr M 414 4 2, 0, ?_, ?_, ms_ww, fun q => absurd q (by decide), GI_m hG0 _ (by omega) (by omega)⟩
      · show f_L_type M 0 (nI v) 421 = _
        unfold f_L_type f_X7_type f_X0_isFull
        rw [show f_X7_isBelow M (nI v) 128 = some 1 from cs_below_y (n := 128) M hv (by omega), ms_b1, cs_na1, ms_b1, ms_if0, show ce_rd M (0 + 411) 1 = nI 150 from l2, if_neg (by decide)]
        rfl
      · show f_X8_type 414 M (nI v) = _
        unfold f_X8_type
        rw [show f_X8_in M (nI v) 0 127 = some 1 from ms_in_y (m := 127) _ hv (by omega), ms_b1, if_neg (by decide), l3, if_pos (by decide)]
        rfl
    · have hl : len < 150 := by omega
      have hL : f_L_type M 0 (nI v) 421 = some (ce_wl (ce_wr (ce_wr M 412 len (nI v)) 411 1 (nI (len + 1))) 1 (Int32.toInt64 (nI (len + 1))), 0) := by
        unfold f_L_type f_X7_type f_X0_isFull
        rw [show f_X7_isBelow M (nI v) 128 = some 1 from cs_below_y (n := 128) M hv (by omega), ms_b1, cs_na1, ms_b1, ms_if0, show ce_rd M (0 + 411) 1 = nI len from l2, if_pos (show nI len < (150 : Int32) from nI_lt (b := 150) hl (by omega)), ms_b1, ms_nm, if_pos rfl]
        dsimp only
        rw [show f_X7_needState M 1 = some 0 from rfl, ms_b1, ms_if0]
        unfold f_X0_append
        rw [show ce_rd M (0 + 411) 1 = nI len from l2, if_neg (show ¬ (150 : Int32) ≤ nI len from nI_ge (b := 150) hl (by omega)), ms_gi (show len < 150 by omega) (show 150 < 2 ^ 31 by omega), nI_clamp (show len < 2 ^ 31 by omega), ms_nm]
        rw [show ce_rd (ce_wr M (0 + 411 + 1) len (nI v)) (0 + 411) 1 = nI len from (congrFun (ms_row (by omega)) 1).trans l2, nI_1, ms_nm, ms_ww]
        rfl
      generalize hN : ce_wl (ce_wr (ce_wr M 412 len (nI v)) 411 1 (nI (len + 1))) 1 (Int32.toInt64 (nI (len + 1))) = N at hL
      have n1 : ∀ q, q ≠ 411 → q ≠ 412 → ce_rd N q = ce_rd M q := fun q h1 h2 => by
        rw [← hN]
        exact (ms_row (M := ce_wr M 412 len (nI v)) (k := 411) (j := 1) (v := nI (len + 1)) h1).trans (ms_row h2)
      have n8 : ce_rd N 414 8 = nI len := by rw [n1 414 (by omega) (by omega)]; exact l3
      have hR : f_X8_type 414 N (nI v) = some (ce_wr (ce_wr (ce_wr N 419 len (nI v)) 414 8 (nI (len + 1))) 414 4 0, nI (len + 1)) := by
        unfold f_X8_type
        rw [show f_X8_in N (nI v) 0 127 = some 1 from ms_in_y (m := 127) _ hv (by omega), ms_b1, if_neg (by decide), n8, if_neg (show ¬ nI len = 150 from fun q => h150 (ms_nI (b := 150) q (by omega) (by omega))), ms_gi (show len < 150 by omega) (show 150 < 2 ^ 31 by omega), nI_clamp (show len < 2 ^ 31 by omega), ms_nm]
        rw [show ce_rd (ce_wr N (414 + 5) len (nI v)) 414 8 = nI len from (congrFun (ms_row (by omega)) 8).trans n8, nI_1, ms_nm, ms_ww]
        rfl
      refine ⟨N, 0, _, _, hL, hR, ms_ww, fun _ => ?_, GI_m (GI_mk (len := len + 1) hG0 (fun q hq => ?_) ?_ ?_ ?_ ⟨by omega, ?_, ms_ww, fun i hi => ?_⟩) _ (by omega) (by omega)⟩
      · show N.2 1 = _
        rw [← hN]
        show (if 1 = 1 then Int32.toInt64 (nI (len + 1)) else M.2 1) = _
        rw [if_pos rfl]
      · rw [ms_row (by omega), ms_row (by omega), n1 q (by omega) (by omega)]
      · rw [ms_row (by omega), ms_row (by omega), n1 415 (by omega) (by omega)]
      · rw [ms_row (by omega), ms_row (by omega), n1 416 (by omega) (by omega)]
      · rw [ms_rw3 (by omega), ms_row (by omega), n1 414 (by omega) (by omega)]
      · rw [ms_row (by omega), ms_row (by omega), ← hN]
        exact ms_ww (M := ce_wr M 412 len (nI v)) (k := 411) (j := 1)
      · have a1 : ce_rd (ce_wr (ce_wr N 419 len (nI v)) 414 8 (nI (len + 1))) 412 i = if i = len then nI v else ce_rd M 412 i := by
          rw [ms_row (by omega), ms_row (by omega), ← hN]
          show (if 412 = 411 ∧ i = 1 then nI (len + 1) else if 412 = 412 ∧ i = len then nI v else M.1 412 i) = _
          rw [if_neg (fun z => absurd z.1 (by omega))]
          by_cases q : i = len
          · rw [if_pos ⟨rfl, q⟩, if_pos q]
          · rw [if_neg (fun z => q z.2), if_neg q]; rfl
        have a2 : ce_rd (ce_wr (ce_wr N 419 len (nI v)) 414 8 (nI (len + 1))) 419 i = if i = len then nI v else ce_rd M 419 i := by
          rw [ms_row (by omega)]
          by_cases q : i = len
          · rw [ms_rw1 rfl q, if_pos q]
          · rw [ms_rw3 q, if_neg q, n1 419 (by omega) (by omega)]
        rw [a1, a2]
        by_cases q : i = len
        · rw [if_pos q, if_pos q]
          exact ⟨v, hv, rfl, rfl⟩
        · rw [if_neg q, if_neg q]
          exact l4 i (by omega)
theorem LW_clear {M : ce_M} (hG : GI M) : ∃ M2 v M3, f_X7_clearCommands 0 M = some (M2, v) ∧ f_X8_clearCommands 414 M2 = some (M3, v) ∧ GI M3 := by
  have hG0 := hG
  obtain ⟨_, _, len, l1, l2, l3, l4⟩ := hG
  refine ⟨ce_wr M 411 1 0, nI len, ce_wr (ce_wr (ce_wr M 411 1 0) 414 8 0) 414 4 0, ?_, ?_, GI_m (GI_mk (len := 0) hG0 (fun q hq => ?_) ?_ ?_ ?_ ⟨by omega, ?_, ms_ww, fun i hi => absurd hi (by omega)⟩) _ (by omega) (by omega)⟩
  · unfold f_X7_clearCommands f_X0_clear
    rw [show ce_rd M (0 + 411) 1 = nI len from l2]
    rfl
  · unfold f_X8_clearCommands
    rw [show ce_rd (ce_wr M 411 1 0) 414 8 = nI len from (congrFun (ms_row (by omega)) 8).trans l3]
    rfl
  · rw [ms_row (by omega), ms_row (by omega)]
  · rw [ms_row (by omega), ms_row (by omega)]
  · rw [ms_row (by omega), ms_row (by omega)]
  · rw [ms_rw3 (by omega), ms_row (by omega)]
  · rw [ms_row (by omega), ms_ww]; rfl
