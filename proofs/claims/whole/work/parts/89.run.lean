/-! runCommands -/
theorem ms_yes1 {M N M5 : ce_M} {c nx t n en : Nat} {τ : Nat → Int32} {r : Int32} (hG : GI M) (hU : GI_U M c nx) (hI : ms_IN (ce_rd M 415) t n en) (ht : t ≤ 9999) (k2 : ms_WR N (139 + 68 * nx) (ce_rd M 415)) (k3 : ∀ q, 139 ≤ q → q < 411 → q < 139 + 68 * nx ∨ 139 + 68 * nx + 68 ≤ q → ce_rd N q = ce_rd M q) (k4 : ce_rd N 137 1 = nI ((nx + 1) % 4)) (k5 : ce_rd N 137 2 = nI (if c < 4 then c + 1 else 4)) (hT : ms_IT 9999 τ) (hW : ms_WR N 1 τ) (r411 : ce_rd N 411 1 = ce_rd M 411 1) (r412 : ce_rd N 412 = ce_rd M 412) (r415 : ce_rd N 415 = ce_rd M 415) (r416 : ce_rd N 416 = ce_rd M 416) (r419 : ce_rd N 419 = ce_rd M 419) (s3 : ce_rd N 414 3 = ce_rd M 414 3) (s8 : ce_rd N 414 8 = ce_rd M 414 8) (d1 : ∀ q, q < 412 → ce_rd M5 q = ce_rd N q) (d412 : ce_rd M5 412 = ce_rd N 412) (d416 : ce_rd M5 416 = ce_rd N 416) (d419 : ce_rd M5 419 = ce_rd N 419) (d417 : ∀ x, x < 816 → ce_rd M5 417 x = ce_rd N 415 x) (d3 : ce_rd M5 414 3 = ce_rd N 414 3) (d8 : ce_rd M5 414 8 = ce_rd N 414 8) : ∃ M4, f_X8_ends 414 (ms_S M5 τ) r 0 = some (M4, r) ∧ ce_rd M4 414 4 = 0 ∧ GI M4 := by
  have hU0 := hU
  obtain ⟨a1, a2, a3, a4, a5, a6⟩ := hU
  obtain ⟨hGW, _, len, hGT⟩ := hG
  have c3 : ce_rd (ms_S M5 τ) 414 3 = nI c := by rw [ms_rd' _ _ (by omega), d3, s3]; exact a3
  obtain ⟨M4, e4, b1, b2, b3, b4, b5, b6⟩ := ms_ends0 c3 a1 r
  have rows : ∀ q, q < 412 → ce_rd M4 q = ce_rd N q := fun q hq => by
    rw [b2 q (by omega) (by omega)]
    refine funext fun y => ?_
    rw [ms_rd' _ _ (by omega), d1 q hq]
  have x415 : ce_rd M4 415 = τ := by
    rw [b2 415 (by omega) (by omega)]
    exact funext fun y => ms_rd M5 τ y
  refine ⟨M4, e4, b4, ⟨?_, ?_⟩, ⟨(if c < 4 then c + 1 else 4), (nx + 1) % 4, ?_⟩, len, ?_⟩
  · rw [x415]
    exact ms_WR_al hW (fun q q1 q2 => rows q (by omega))
  · rw [x415]
    exact hT
  · refine GI_kept hU0 ⟨t, n, en, ht, hI⟩ rfl (ms_WR_al k2 (fun q q1 q2 => rows q (by omega))) (fun q q1 q2 q3 => ?_) ?_ ?_ b5 (fun i x hi hx => ?_)
    · rw [rows q (by omega)]
      exact k3 q q1 q2 q3
    · rw [rows 137 (by omega)]; exact k4
    · rw [rows 137 (by omega)]; exact k5
    · have x1 : ce_rd (ms_S M5 τ) 417 x = ce_rd M 415 x := by rw [ms_rd' _ _ (by omega), d417 x hx, r415]
      have x2 : ∀ y, ce_rd (ms_S M5 τ) 416 y = ce_rd M 416 y := fun y => by rw [ms_rd' _ _ (by omega), d416, r416]
      rw [b6 i x hi hx, x1, x2, x2]
  · refine GI_T_fr hGT ?_ ?_ ?_ ?_
    · rw [rows 411 (by omega)]; exact r411
    · rw [b2 412 (by omega) (by omega)]
      refine funext fun y => ?_
      rw [ms_rd' _ _ (by omega), d412, r412]
    · rw [b2 419 (by omega) (by omega)]
      refine funext fun y => ?_
      rw [ms_rd' _ _ (by omega), d419, r419]
    · rw [b3 8 (by omega) (by omega), ms_rd' _ _ (by omega), d8, s8]
theorem GI_FC {M M' : ce_M} (h : GI M) (hf : FC M M') : GI M' := GI_fr h (fun q q1 q2 => hf.2.1 q (by omega) (by omega)) hf.2.2 (hf.2.1 412 (by omega) (by omega)) (hf.2.1 415 (by omega) (by omega)) (hf.2.1 416 (by omega) (by omega)) (hf.2.1 419 (by omega) (by omega)) (congrFun (hf.2.1 414 (by omega) (by omega)) 3) (congrFun (hf.2.1 414 (by omega) (by omega)) 8)
theorem GI_FM {M M' : ce_M} (h : GI M) (hf : FM M M') : GI M' := GI_fr h (fun q q1 q2 => hf.2.1 q (by omega) (by omega)) (congrFun (hf.2.1 411 (by omega) (by omega)) 1) (hf.2.1 412 (by omega) (by omega)) (hf.2.1 415 (by omega) (by omega)) (hf.2.1 416 (by omega) (by omega)) (hf.2.1 419 (by omega) (by omega)) (hf.2.2 3 (by omega) (by omega)) (hf.2.2 8 (by omega) (by omega))
theorem LW_run {M : ce_M} (hG : GI M) : ∃ M2 v M3, f_X7_runCommands 0 M = some (M2, v) ∧ f_X8_runCommands 414 M2 = some (M3, v) ∧ GI M3 := by
  have hG0 := hG
  obtain ⟨⟨hW, t, n, en, htt, hI⟩, ⟨c, nx, hU⟩, len, hl, l2, l3, l4⟩ := hG
  have hU0 := hU
  obtain ⟨a1, a2, a3, a4, a5, a6⟩ := hU
  obtain ⟨tx, htx⟩ : ∃ tx : Nat → Nat, tx = fun i => (ce_rd M 412 i).toNatClampNeg := ⟨_, rfl⟩
  have hx : ∀ i, i < len → tx i < 128 ∧ ce_rd M 412 i = nI (tx i) ∧ ce_rd M 419 i = nI (tx i) := fun i hi => by
    obtain ⟨v, v1, v2, v3⟩ := l4 i hi
    have e : tx i = v := by
      rw [htx]
      show (ce_rd M 412 i).toNatClampNeg = v
      rw [v2, nI_clamp (show v < 2 ^ 31 by omega)]
    rw [e]
    exact ⟨v1, v2, v3⟩
  have ht : ∀ i, i < len → tx i < 128 := fun i hi => (hx i hi).1
  have hrw : f_X0_rewind 411 M = some (ce_wr (ce_wr M 411 2 0) 411 5 (-1)) := rfl
  have fc0 : FC M (ce_wr (ce_wr M 411 2 0) 411 5 (-1)) := FC_t (FC_w (by omega)) (FC_w (by omega))
  have hT0 : TC (ce_wr (ce_wr M 411 2 0) 411 5 (-1)) tx len 0 := ⟨fc0.2.2.trans l2, (ms_rw3 (by omega)).trans ms_ww, fun i hi => (congrFun (fc0.2.1 412 (by omega) (by omega)) i).trans (hx i hi).2.1⟩
  obtain ⟨M1, e1, f1⟩ := cs_fl hl ht 150 0 _ 0 (by omega) hT0 (by omega) (by omega) ms_ww ce_FU (by rw [ms_FU]; omega)
  have hff : f_X0_findFault 411 M = some (M1, sp_fv (sp_fl tx len 151 (sp_sk tx len 0))) := by
    unfold f_X0_findFault
    rw [hrw, ms_b1]
    exact e1
  have fc1 : FC M M1 := FC_t fc0 f1
  have hG1 := GI_FC hG0 fc1
  have hs := (sp_sk_v tx len 0).2 (by omega)
  have hTMn : ∀ N : ce_M, ce_rd N 414 8 = nI len → ce_rd N 419 = ce_rd M 419 → TM (ce_wr N 414 9 0) tx len 0 := fun N h8 h9 => ⟨(ms_rw3 (by omega)).trans h8, ms_ww, fun i hi => by
    rw [ms_row (by omega), h9]
    exact (hx i hi).2.2⟩
  have hsk : ∀ N : ce_M, ce_rd N 414 8 = nI len → ce_rd N 419 = ce_rd M 419 → f_X8_skips 414 (ce_wr N 414 9 0) = some (ce_wr N 414 9 (nI (sp_sk tx len 0))) := fun N h8 h9 => by
    rw [show f_X8_skips 414 (ce_wr N 414 9 0) = _ from ms_skip (hTMn N h8 h9) hl ht (by omega), ms_wr_wr]
    rfl
  have hTMs : ∀ N : ce_M, ce_rd N 414 8 = nI len → ce_rd N 419 = ce_rd M 419 → TM (ce_wr N 414 9 (nI (sp_sk tx len 0))) tx len (sp_sk tx len 0) := fun N h8 h9 => ⟨(ms_rw3 (by omega)).trans h8, ms_ww, fun i hi => by
    rw [ms_row (by omega), h9]
    exact (hx i hi).2.2⟩
  cases ho : sp_fl tx len 151 (sp_sk tx len 0) with
  | some f =>
    have hf150 := sp_fl_le 151 _ hs f ho
    rw [ho] at hff
    have hL : f_X7_runCommands 0 M = some (M1, (-10) - nI f) := by
      unfold f_X7_runCommands
      rw [show f_X0_findFault (0 + 411) M = some (M1, nI f) from hff, ms_b2, if_neg (show ¬ nI f = -1 from fun z => by rw [ms_nN (by omega)] at z; exact z)]
    have q8 : ce_rd M1 414 8 = nI len := by rw [fc1.2.1 414 (by omega) (by omega)]; exact l3
    have q9 : ce_rd M1 419 = ce_rd M 419 := fc1.2.1 419 (by omega) (by omega)
    have hR : ∃ M3, f_X8_runCommands 414 M1 = some (M3, (-10) - nI f) ∧ GI M3 := by
      unfold f_X8_runCommands
      rw [ms_nm, hsk M1 q8 q9, ms_b1, ms_nm, ms_nm]
      obtain ⟨Mx, x1, x2, x3⟩ := ms_fl hl ht (fun (M10 : ce_M) => ce_b1 (f_X8_laysAside 414 M10) (fun (M12 : ce_M) => ce_nm (ce_wr M12 414 9 0) (fun (M14 : ce_M) => ce_b1 (f_X8_skips 414 M14) (fun (M16 : ce_M) => ce_nm (fun (M23 : ce_M) (x24 : Int32) => ce_b2 (f_X8_ends 414 M23 x24 0) (fun (M26 : ce_M) (x27 : Int32) => some (M26, x27))) (fun (u25 : ce_M → Int32 → Option (ce_M × Int32)) => ce_lp3 (f_X8_runCommands_L56 414 u25) ce_FU M16 0 1))))) (fun (M8 : ce_M) => ce_b2 (f_X8_tells 414 M8 ((-10) - (ce_rd M8 414 9))) (fun (M53 : ce_M) (x54 : Int32) => some (M53, x54))) 150 _ _ (hTMs M1 q8 q9) hs (by omega) ce_FU (by rw [ms_FU]; omega)
      obtain ⟨y1, y2⟩ := x3 f ho
      refine ⟨ce_wr Mx 414 4 0, ?_, GI_m (GI_FM hG1 (FM_t (FM_w (Or.inl rfl)) x1)) _ (by omega) (by omega)⟩
      refine y1.trans ?_
      rw [y2]
      rfl
    obtain ⟨M3, z1, z2⟩ := hR
    exact ⟨M1, _, M3, hL, z1, z2⟩
  | none =>
    rw [ho] at hff
    have hW1 : ms_WR M1 1 (ce_rd M 415) := ms_WR_al hW (fun q q1 q2 => fc1.2.1 q (by omega) (by omega))
    obtain ⟨M5, k1, k0, k2, k3, k4, k5⟩ := cs_keep hW1 hI a1 a2 (by rw [fc1.2.1 137 (by omega) (by omega)]; exact a4) (by rw [fc1.2.1 137 (by omega) (by omega)]; exact a5)
    have hW5 : ms_WR M5 1 (ce_rd M 415) := ms_WR_al hW1 (fun q q1 q2 => k3 q (by omega) (by omega))
    have k3' : ∀ q, q ≠ 137 → q < 139 + 68 * nx ∨ 139 + 68 * nx + 68 ≤ q → q ≠ 411 → q ≠ 413 → ce_rd M5 q = ce_rd M q := fun q q1 q2 q3 q4 => (k3 q q1 q2).trans (fc1.2.1 q q3 q4)
    have hT5 : TC (ce_wr (ce_wr M5 411 2 0) 411 5 (-1)) tx len 0 := by
      refine ⟨?_, (ms_rw3 (by omega)).trans ms_ww, fun i hi => ?_⟩
      · rw [ms_rw3 (by omega), ms_rw3 (by omega), k3 411 (by omega) (by omega)]
        exact fc1.2.2.trans l2
      · rw [ms_row (by omega), ms_row (by omega), k3' 412 (by omega) (by omega) (by omega) (by omega)]
        exact (hx i hi).2.1
    have hW6 : ms_WR (ce_wr (ce_wr M5 411 2 0) 411 5 (-1)) 1 (ce_rd M 415) := ms_WR_al hW5 (fun q q1 q2 => (ms_row (by omega)).trans (ms_row (by omega)))
    obtain ⟨N, τ, cnt, r1, r2, r3, r4, r5⟩ := run_loop hl ht (fun (M23 : ce_M) (x24 : Int32) => ce_b2 (f_X8_ends 414 M23 x24 0) (fun (M26 : ce_M) (x27 : Int32) => some (M26, x27))) 150 0 _ 0 _ (by omega) hT5 (by omega) (by omega) hW6 ⟨t, n, en, htt, hI⟩ ce_FU (by rw [ms_FU]; omega)
    have hL : f_X7_runCommands 0 M = some (N, cnt) := by
      unfold f_X7_runCommands
      rw [show f_X0_findFault (0 + 411) M = some (M1, -1) from hff, ms_b2, if_pos rfl, show f_X5_keep (0 + 137) M1 (0 + 1) = some M5 from k1, ms_b1]
      unfold f_X7_carryOutCommands
      rw [show f_X0_rewind (0 + 411) M5 = some (ce_wr (ce_wr M5 411 2 0) 411 5 (-1)) from rfl, ms_b1]
      rw [show ce_lp2 (f_X7_carryOutCommands_L9 0) ce_FU (ce_wr (ce_wr M5 411 2 0) 411 5 (-1)) 0 = some (N, cnt) from r1, ms_b2]
    have nr : ∀ q, q = 0 ∨ 69 ≤ q → q ≠ 411 → q ≠ 413 → ce_rd N q = ce_rd M5 q := fun q q1 q2 q3 => (r4.2.1 q q1 q2 q3).trans ((ms_row q2).trans (ms_row q2))
    have nM : ∀ q, q = 0 ∨ 69 ≤ q → q ≠ 137 → q < 139 + 68 * nx ∨ 139 + 68 * nx + 68 ≤ q → q ≠ 411 → q ≠ 413 → ce_rd N q = ce_rd M q := fun q q1 q2 q3 q4 q5 => (nr q q1 q4 q5).trans (k3' q q2 q3 q4 q5)
    have q8 : ce_rd N 414 8 = nI len := by rw [nM 414 (by omega) (by omega) (by omega) (by omega) (by omega)]; exact l3
    have q9 : ce_rd N 419 = ce_rd M 419 := nM 419 (by omega) (by omega) (by omega) (by omega) (by omega)
    have q411 : ce_rd N 411 1 = ce_rd M 411 1 := by
      rw [r4.2.2, ms_rw3 (by omega), ms_rw3 (by omega), k3 411 (by omega) (by omega)]
      exact fc1.2.2
    have hR : ∃ M3, f_X8_runCommands 414 N = some (M3, cnt) ∧ GI M3 := by
      unfold f_X8_runCommands
      rw [ms_nm, hsk N q8 q9, ms_b1, ms_nm, ms_nm]
      obtain ⟨M10, x1, x2, x3⟩ := ms_fl hl ht (fun (M10 : ce_M) => ce_b1 (f_X8_laysAside 414 M10) (fun (M12 : ce_M) => ce_nm (ce_wr M12 414 9 0) (fun (M14 : ce_M) => ce_b1 (f_X8_skips 414 M14) (fun (M16 : ce_M) => ce_nm (fun (M23 : ce_M) (x24 : Int32) => ce_b2 (f_X8_ends 414 M23 x24 0) (fun (M26 : ce_M) (x27 : Int32) => some (M26, x27))) (fun (u25 : ce_M → Int32 → Option (ce_M × Int32)) => ce_lp3 (f_X8_runCommands_L56 414 u25) ce_FU M16 0 1))))) (fun (M8 : ce_M) => ce_b2 (f_X8_tells 414 M8 ((-10) - (ce_rd M8 414 9))) (fun (M53 : ce_M) (x54 : Int32) => some (M53, x54))) 150 _ _ (hTMs N q8 q9) hs (by omega) ce_FU (by rw [ms_FU]; omega)
      have f10 : FM N M10 := FM_t (FM_w (Or.inl rfl)) x1
      have c8 : ce_rd (ce_cp M10 415 417 816) 414 8 = nI len := by rw [cp_row (by omega), f10.2.2 8 (by omega) (by omega)]; exact q8
      have c9 : ce_rd (ce_cp M10 415 417 816) 419 = ce_rd M 419 := by rw [cp_row (by omega), f10.2.1 419 (by omega) (by omega)]; exact q9
      have c415 : ce_rd M10 415 = ce_rd M 415 := (f10.2.1 415 (by omega) (by omega)).trans (nM 415 (by omega) (by omega) (by omega) (by omega) (by omega))
      generalize hP : ce_wr (ce_cp M10 415 417 816) 414 9 (nI (sp_sk tx len 0)) = P16
      have hPs : P16 = ms_S P16 (ce_rd M 415) := by
        have q := (ms_S_self P16).symm
        rw [show ce_rd P16 415 = ce_rd M 415 from by rw [← hP, ms_row (by omega), cp_row (by omega)]; exact c415] at q
        exact q
      obtain ⟨M2, w1, w2⟩ := r5 P16 (by rw [← hP]; exact hTMs _ c8 c9) ce_FU (by rw [ms_FU]; omega)
      have prow : ∀ q, q ≠ 414 → q ≠ 415 → q ≠ 417 → q ≠ 418 → q ≠ 420 → ce_rd M2 q = ce_rd N q := fun q q1 q2 q3 q4 q5 => by
        rw [w2.2.1 q q1 q2 q4 q5, ← hP, ms_row q1, cp_row q3, f10.2.1 q q1 q5]
      obtain ⟨M4, z1, z2, z3⟩ := ms_yes1 (M5 := M2) (r := cnt) hG0 hU0 hI htt (ms_WR_al k2 (fun q q1 q2 => nr q (by omega) (by omega) (by omega))) (fun q q1 q2 q3 => nM q (by omega) (by omega) q3 (by omega) (by omega)) (by rw [nr 137 (by omega) (by omega) (by omega)]; exact k4) (by rw [nr 137 (by omega) (by omega) (by omega)]; exact k5) r3 r2 q411 (nM 412 (by omega) (by omega) (by omega) (by omega) (by omega)) (nM 415 (by omega) (by omega) (by omega) (by omega) (by omega)) (nM 416 (by omega) (by omega) (by omega) (by omega) (by omega)) q9 (by rw [nM 414 (by omega) (by omega) (by omega) (by omega) (by omega)]) (by rw [nM 414 (by omega) (by omega) (by omega) (by omega) (by omega)]) (fun q hq => prow q (by omega) (by omega) (by omega) (by omega) (by omega)) (prow 412 (by omega) (by omega) (by omega) (by omega) (by omega)) (prow 416 (by omega) (by omega) (by omega) (by omega) (by omega)) (prow 419 (by omega) (by omega) (by omega) (by omega) (by omega)) (fun x hxx => by rw [w2.2.1 417 (by omega) (by omega) (by omega) (by omega), ← hP, ms_row (by omega), cp_in hxx, f10.2.1 415 (by omega) (by omega)]) (by rw [w2.2.2.1, ← hP, ms_rw3 (by omega), cp_row (by omega), f10.2.2 3 (by omega) (by omega)]) (by rw [w2.2.2.2, ← hP, ms_rw3 (by omega), cp_row (by omega), f10.2.2 8 (by omega) (by omega)])
      refine ⟨M4, ?_, z3⟩
      refine (x2 ho).trans ?_
      rw [ms_lays, ms_b1, ms_nm, hsk _ c8 c9, ms_b1, ms_nm, hP]
      conv => lhs; rw [hPs]
      refine w1.trans ?_
      rw [z1, ms_b2]
    obtain ⟨M3, z1, z2⟩ := hR
    exact ⟨N, cnt, M3, hL, z1, z2⟩
