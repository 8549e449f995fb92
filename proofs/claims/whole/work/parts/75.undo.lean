/-! undo -/
def sp_un (M : ce_M) (c i : Nat) : ce_M := (fun a j => if a = 415 ∧ j < i then M.1 416 (816 * c + j) else M.1 a j, M.2)
theorem sp_un_row {M : ce_M} {c i q : Nat} (h : q ≠ 415) : ce_rd (sp_un M c i) q = ce_rd M q := funext fun _ => if_neg (fun z => h z.1)
theorem ms_und (M : ce_M) {c : Nat} (hc : ce_rd M 414 3 = nI c) (hc2 : c ≤ 3) (u : ce_M → Option (ce_M × Int32)) : ce_lp2 (f_X8_undo_L25 414 u) ce_FU M 0 = u (sp_un M c 816) := by
  have e0 : M = sp_un M c 0 := ms_ext (fun a i => (if_neg (fun q => absurd q.2 (by omega))).symm) rfl
  have h := ms_f2 (F := f_X8_undo_L25 414 u) (fun i => sp_un M c i) (fun i => nI i) (r := u (sp_un M c 816)) 816 (fun i hi rec => by
    unfold f_X8_undo_L25
    have h3 : ce_rd (sp_un M c i) 414 3 = nI c := hc
    have em : 816 * nI c + nI i = nI (816 * c + i) := by
      show nI 816 * nI c + nI i = _
      rw [pk_mul, nI_add]
    rw [if_neg (show ¬ (816 : Int32) ≤ nI i from nI_ge (b := 816) hi (by omega)), h3, em, ms_gi (show 816 * c + i < 3264 by omega) (by omega), ms_nm, ms_gi (show i < 816 by omega) (show 816 < 2 ^ 31 by omega), ms_nm, ms_nm, nI_clamp (show i < 2 ^ 31 by omega), nI_clamp (show 816 * c + i < 2 ^ 31 by omega), nI_1]
    have e : ce_wr (sp_un M c i) (414 + 1) i (ce_rd (sp_un M c i) (414 + 2) (816 * c + i)) = sp_un M c (i + 1) := by
      refine ms_ext (fun a j => ?_) rfl
      show (if a = 415 ∧ j = i then M.1 416 (816 * c + i) else if a = 415 ∧ j < i then M.1 416 (816 * c + j) else M.1 a j) = if a = 415 ∧ j < i + 1 then M.1 416 (816 * c + j) else M.1 a j
      by_cases c1 : a = 415
      · by_cases c2 : j = i
        · rw [if_pos ⟨c1, c2⟩, if_pos ⟨c1, by omega⟩, c2]
        · by_cases c3 : j < i
          · rw [if_neg (fun q => c2 q.2), if_pos ⟨c1, c3⟩, if_pos ⟨c1, by omega⟩]
          · rw [if_neg (fun q => c2 q.2), if_neg (fun q => c3 q.2), if_neg (fun q => absurd q.2 (by omega))]
      · rw [if_neg (fun q => c1 q.1), if_neg (fun q => c1 q.1), if_neg (fun q => c1 q.1)]
    rw [e]) (fun rec => by
    unfold f_X8_undo_L25
    rw [if_pos (show (816 : Int32) ≤ nI 816 from by decide)]) (fuel := ce_FU) (by rw [ms_FU]; omega)
  conv => lhs; rw [e0]
  exact h
theorem LW_undo : LW (fun M => f_L_undo M 0 421) (fun M => f_X8_undo 414 M) := by
  intro M hG
  have hG0 := hG
  obtain ⟨⟨hW, t, n, en, ht, hI⟩, ⟨c, nx, hU⟩, len, hGT⟩ := hG
  obtain ⟨a1, a2, a3, a4, a5, a6⟩ := hU
  by_cases c0 : c = 0
  · subst c0
    refine ⟨M, 1, ce_wr M 414 4 1, 0, ?_, ?_, ms_ww, fun q => absurd q (by decide), GI_m hG0 _ (by omega) (by omega)⟩
    · show f_L_undo M 0 421 = _
      unfold f_L_undo f_X7_undo
      rw [ms_nm, if_pos (show ce_rd M (0 + 137) 2 ≤ 0 from by rw [show ce_rd M (0 + 137) 2 = nI 0 from a4]; decide)]
      rfl
    · show f_X8_undo 414 M = _
      unfold f_X8_undo
      rw [if_pos (show ce_rd M 414 3 = 0 from a3)]
      rfl
  · obtain ⟨b1, b2⟩ := a6 0 (by omega)
    obtain ⟨t9, n9, en9, ht9, hI9⟩ := b1
    have hm : (nx + 3 - 0) % 4 = (nx + 3) % 4 := by omega
    have hm4 : (nx + 3) % 4 < 4 := Nat.mod_lt _ (by omega)
    rw [hm] at b2
    have w1 : ms_WR (ce_wr M 137 1 (nI ((nx + 3) % 4))) (139 + 68 * ((nx + 3) % 4)) (sp_seg M (c - 1 - 0)) := ms_WR_al b2 (fun q q1 q2 => ms_row (by omega))
    obtain ⟨M6, e6, w6, f6⟩ := cs_copy (k := 1) w1 hI9 (by omega)
    have r2 : ce_rd M6 137 2 = nI c := by
      rw [f6.2 137 (by omega), ms_rw3 (by omega)]; exact a4
    have r1 : ce_rd M6 137 1 = nI ((nx + 3) % 4) := by
      rw [f6.2 137 (by omega), ms_ww]
    have hrest : f_X5_restoreTo 137 M 1 = some (ce_wr M6 137 2 (nI (c - 1)), nI (c - 1)) := by
      unfold f_X5_restoreTo
      rw [a5, cs_pv nx a2, ms_nm, ms_ww, ms_gi hm4 (by omega), nI_clamp (show (nx + 3) % 4 < 2 ^ 31 by omega), ms_nm, show 137 + 1 + (1 + 68 * ((nx + 3) % 4)) = 139 + 68 * ((nx + 3) % 4) by omega, e6, ms_b1, r2, show nI c - 1 = nI (c - 1) from ms_sub (b := 1) (by omega), ms_nm, ms_ww]
    generalize hN : ce_wl (ce_wr M6 137 2 (nI (c - 1))) 1 (Int32.toInt64 (nI (c - 1))) = N
    have n1 : ∀ q, q ≠ 137 → ce_rd N q = ce_rd M6 q := fun q h => by rw [← hN]; exact ms_row h
    have n2 : ∀ q, q ≠ 137 → 69 ≤ q → ce_rd N q = ce_rd M q := fun q h h2 => (n1 q h).trans ((f6.2 q (by omega)).trans (ms_row h))
    have n3 : ce_rd N 414 3 = nI c := by rw [n2 414 (by omega) (by omega)]; exact a3
    have n4 : ce_rl N 1 = Int32.toInt64 (nI (c - 1)) := by
      rw [← hN]
      show (if 1 = 1 then Int32.toInt64 (nI (c - 1)) else M6.2 1) = _
      rw [if_pos rfl]
    have hmod : f_X8_undo 414 N = some (ce_wr (sp_un (ce_wr N 414 3 (nI (c - 1))) (c - 1) 816) 414 4 0, nI (c - 1)) := by
      unfold f_X8_undo
      rw [if_neg (show ¬ ce_rd N 414 3 = 0 from fun q => c0 (ms_nI (b := 0) (n3.symm.trans q) (by omega) (by omega))), n3, show nI c - 1 = nI (c - 1) from ms_sub (b := 1) (by omega), ms_nm, ms_nm, ms_und _ (c := c - 1) ms_ww (by omega)]
      show some (ce_wr (sp_un (ce_wr N 414 3 (nI (c - 1))) (c - 1) 816) 414 4 0, ce_rd (sp_un (ce_wr N 414 3 (nI (c - 1))) (c - 1) 816) 414 3) = _
      rw [sp_un_row (by omega), ms_ww]
    generalize hF : ce_wr (sp_un (ce_wr N 414 3 (nI (c - 1))) (c - 1) 816) 414 4 0 = F at hmod
    have g1 : ∀ q, q ≠ 414 → q ≠ 415 → ce_rd F q = ce_rd N q := fun q h1 h2 => by
      rw [← hF, ms_row h1, sp_un_row h2, ms_row h1]
    have g2 : ∀ j, j ≠ 3 → j ≠ 4 → ce_rd F 414 j = ce_rd N 414 j := fun j h1 h2 => by
      rw [← hF, ms_rw3 h2, sp_un_row (by omega), ms_rw3 h1]
    have g3 : ce_rd F 414 3 = nI (c - 1) := by
      rw [← hF, ms_rw3 (by omega), sp_un_row (by omega), ms_ww]
    have g415 : ∀ j, j < 816 → ce_rd F 415 j = sp_seg M (c - 1 - 0) j := fun j hj => by
      rw [← hF, ms_row (by omega)]
      show (if 415 = 415 ∧ j < 816 then ce_rd (ce_wr N 414 3 (nI (c - 1))) 416 (816 * (c - 1) + j) else _) = _
      rw [if_pos ⟨rfl, hj⟩, ms_row (by omega), n2 416 (by omega) (by omega)]
      rfl
    refine ⟨N, 0, F, nI (c - 1), ?_, hmod, by rw [← hF]; exact ms_ww, fun _ => ?_, ⟨ms_WR_cg g415 (ms_WR_al w6 (fun q q1 q2 => ?_)), ms_IT_cg g415 ⟨t9, n9, en9, ht9, hI9⟩⟩, ⟨c - 1, (nx + 3) % 4, by omega, hm4, g3, ?_, ?_, fun j hj => ?_⟩, len, ?_⟩
    · show f_L_undo M 0 421 = _
      unfold f_L_undo f_X7_undo
      rw [ms_nm, if_neg (show ¬ ce_rd M (0 + 137) 2 ≤ 0 from by rw [show ce_rd M (0 + 137) 2 = nI c from a4]; exact nI_nle (by omega) (by omega))]
      show ce_b3 (ce_b1 (some 0) _) _ = _
      rw [ms_b1, if_pos rfl, show f_X5_restoreTo (0 + 137) M (0 + 1) = _ from hrest, ms_b2, ms_b3, if_pos rfl, ms_nm, ← hN]
    · rw [← hF]
      exact n4
    · rw [g1 q (by omega) (by omega), n1 q (by omega)]
    · rw [g1 137 (by omega) (by omega), ← hN]
      exact ms_ww (M := M6) (k := 137) (j := 2)
    · rw [g1 137 (by omega) (by omega), ← hN]
      exact (ms_rw3 (M := M6) (k := 137) (a := 137) (j := 2) (i := 1) (v := nI (c - 1)) (by omega)).trans r1
    · obtain ⟨d1, d2⟩ := a6 (j + 1) (by omega)
      have e : sp_seg F (c - 1 - 1 - j) = sp_seg M (c - 1 - (j + 1)) := by
        unfold sp_seg
        rw [g1 416 (by omega) (by omega), n2 416 (by omega) (by omega), show c - 1 - 1 - j = c - 1 - (j + 1) by omega]
      have e2 : ((nx + 3) % 4 + 3 - j) % 4 = (nx + 3 - (j + 1)) % 4 := by omega
      have h4 : (nx + 3 - (j + 1)) % 4 < 4 := Nat.mod_lt _ (by omega)
      rw [e, e2]
      exact ⟨d1, ms_WR_al d2 (fun q q1 q2 => by rw [g1 q (by omega) (by omega), n2 q (by omega) (by omega)])⟩
    · refine GI_T_fr hGT ?_ ?_ ?_ ?_
      · rw [g1 411 (by omega) (by omega), n2 411 (by omega) (by omega)]
      · rw [g1 412 (by omega) (by omega), n2 412 (by omega) (by omega)]
      · rw [g1 419 (by omega) (by omega), n2 419 (by omega) (by omega)]
      · rw [g2 8 (by omega) (by omega), n2 414 (by omega) (by omega)]
