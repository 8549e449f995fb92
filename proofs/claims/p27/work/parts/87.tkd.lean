/-! ticked -/
def q_hd (M : ce_M) (σ : Nat → Int32) : Nat → ce_M
  | 0 => ce_zr M 450
  | i + 1 => ce_wr (q_hd M σ i) 450 i (σ (8 + i))
theorem q_hd_o (M : ce_M) (σ : Nat → Int32) (q : Nat) (hq : q ≠ 450) : ∀ i, ce_rd (q_hd M σ i) q = ce_rd M q
  | 0 => funext fun j => by
    show ce_rd (ce_zr M 450) q j = _
    rw [ce_rd_zr, if_neg hq]
  | i + 1 => by
    show ce_rd (ce_wr (q_hd M σ i) 450 i _) q = _
    rw [ms_row hq]
    exact q_hd_o M σ q hq i
theorem q_hd_v (M : ce_M) (σ : Nat → Int32) : ∀ i j, j < i → ce_rd (q_hd M σ i) 450 j = σ (8 + j)
  | 0, _, h => absurd h (by omega)
  | i + 1, j, h => by
    show ce_rd (ce_wr (q_hd M σ i) 450 i _) 450 j = _
    by_cases e : j = i
    · subst e; exact ms_ww
    · rw [ms_rw3 e]
      exact q_hd_v M σ i j (by omega)
theorem q_isDone {M : ce_M} {σ : Nat → Int32} {ps : List (Nat → Int32)} {t n en p T : Nat} (hS : q_S M σ ps) (hJ : q_J σ t n en) (ht : t ≤ 10000) (hp : p < 16) (hT : T ≤ 10000) (h : ∀ a, a < n → σ (24 + 54 * a + 5) = nI 1 → σ (24 + 54 * a + 4) = nI p → σ (24 + 54 * a + 10) ≤ nI T → σ (24 + 54 * a + 6) = nI 0) : f_L_isDone M 0 (nI p) (nI T) = some 1 := by
  have hI := hJ.1
  have hn := hI.2.2.1
  have w0 : f0_L_whole M 0 0 = some (nI n) := (q_whole (j := 0) hS hI (by omega)).trans (congrArg some hI.2.1)
  unfold f_L_isDone
  refine ms_f2 (fun _ => 1) (fun i => nI i) n (fun i hi rec => ?_) (fun rec => ?_) (by rw [ms_FU]; omega)
  · obtain ⟨so, le, po, ca, se, th, wz, c, i0, i0', i1, i1', i2, i2', i3, i3', i4, i4', i5, i5', i6, i6', i11, i11', iw, ip, ib, ix, is⟩ := hI.2.2.2.2.2.2.2.2.2.1 i (by omega)
    obtain ⟨lo, j3, j4⟩ := hJ.2.2.1
    obtain ⟨th', w, D, X, ch, hh, c', a1, a2, a3, a4, a5, a6, a7, a8, a9, a10, _⟩ := j3 i hi
    have o4 : f0_L_one M 0 (nI i) 4 = some (nI se) := (q_one (j := 4) hS hI hi (by omega)).trans (congrArg some i4)
    have o5 : f0_L_one M 0 (nI i) 5 = some (nI th) := (q_one (j := 5) hS hI hi (by omega)).trans (congrArg some i5)
    have o6 : f0_L_one M 0 (nI i) 6 = some (nI wz) := (q_one (j := 6) hS hI hi (by omega)).trans (congrArg some i6)
    have o11 : f0_L_one M 0 (nI i) 11 = some (nI hh) := (q_one (j := 11) hS hI hi (by omega)).trans (congrArg some a9)
    unfold f_L_isDone_L5
    rw [w0, ms_b1, if_neg (nI_ge hi (by omega)), if_neg (by decide), o5, o4, o6, o11, ms_b1, ms_b1, ms_b1, ms_b1]
    simp only [ms_nm, nI_1]
    rcases (show th = 0 ∨ th = 1 by omega) with rfl | rfl
    · rw [if_pos (show nI 0 = (0 : Int32) from rfl)]
    · rw [if_neg (by decide)]
      by_cases e : nI se = nI p
      · rw [if_pos e]
        by_cases e2 : nI T < nI hh
        · rw [if_pos e2]
        · rw [if_neg e2, if_pos ?_]
          have := h i hi i5 (i4.trans e) (by rw [a9]; exact Int32.not_lt.mp e2)
          rw [i6] at this
          exact this
      · rw [if_neg e]
  · unfold f_L_isDone_L5
    rw [w0, ms_b1, if_pos (nI_le (Nat.le_refl _) (by omega))]
    rfl
theorem q_ticked {M : ce_M} {σ : Nat → Int32} {ps : List (Nat → Int32)} {t n en : Nat} (hS : q_S M σ ps) (hJ : q_J σ t n en) (ht : t ≤ 9000) : ∃ M', f_L_ticked M 0 = some (M', 1) ∧ q_S M' (sp_tick σ n) ((σ :: ps).take 4) := by
  have hI := hJ.1
  have hn := hI.2.2.1
  have hJ' := q_J_tick hJ
  have hI' := hJ'.1
  obtain ⟨cp, hcp, c1, c2, tot, each⟩ := q_tk hI
  have hS7 : ∀ i, q_S (q_hd M σ i) σ ps := fun i => q_S_fr hS (fun q q1 q2 => q_hd_o M σ q (by omega) i)
  have L7 : ∀ u : ce_M → Option (ce_M × Int32), ce_lp2 (f_L_ticked_L7 0 u) ce_FU (ce_zr M 450) 0 = u (q_hd M σ 16) := fun u => by
    refine ms_f2 (fun i => q_hd M σ i) (fun i => nI i) 16 (fun i hi rec => ?_) (fun rec => ?_) (by rw [ms_FU]; omega)
    · unfold f_L_ticked_L7
      rw [if_neg (show ¬ (16 : Int32) ≤ nI i from nI_ge (b := 16) hi (by omega)), show f0_L_leaf (q_hd M σ i) 0 (nI i) 1 = some (σ (8 + i)) from q_leaf (j := 1) (hS7 i) hI hi (by omega), ms_b1, ms_gi (show i < 16 by omega) (by omega), nI_clamp (by omega), ms_nm, ms_nm, nI_1]
      rfl
    · unfold f_L_ticked_L7
      rw [if_pos (by decide)]
  obtain ⟨M', f1, f2⟩ := q_pass (k := 1) (hS7 16) hI (by omega) (by omega) (by omega)
  have f1 : f0_L_passes (q_hd M σ 16) 0 1 = some (M', nI 0 + (sp_tz σ n).2.2) := f1
  have f2 : q_S M' (sp_tick σ n) ((σ :: ps).take 4) := f2
  have hS16 : q_S (ce_cr (q_hd M σ 16) M') (sp_tick σ n) ((σ :: ps).take 4) := q_S_fr f2 (fun q q1 q2 => funext fun j => by rw [ce_rd_cr, if_neg (by omega)])
  have hrow : ∀ j, j < 16 → ce_rd (ce_cr (q_hd M σ 16) M') 450 j = σ (8 + j) := fun j hj => by
    rw [ce_rd_cr, if_pos rfl]
    exact q_hd_v M σ 16 j hj
  generalize hN : ce_cr (q_hd M σ 16) M' = N at hS16 hrow
  have w9 : f0_L_whole (q_hd M σ 16) 0 9 = some (sp_sm (sp_f σ 7) n) := q_whole (j := 9) (hS7 16) hI (by omega)
  have w3 : f0_L_whole (q_hd M σ 16) 0 3 = some (nI t) := (q_whole (j := 3) (hS7 16) hI (by omega)).trans (congrArg some hI.1)
  have x9 : f0_L_whole N 0 9 = some (sp_sm (sp_f σ 7) n + (sp_tz σ n).2.2) := (q_whole (j := 9) hS16 hI' (by omega)).trans (congrArg some tot)
  have x3 : f0_L_whole N 0 3 = some (nI (t + 1)) := (q_whole (j := 3) hS16 hI' (by omega)).trans (congrArg some hI'.1)
  have x5 : f0_L_whole N 0 5 = some (nI cp) := (q_whole (j := 5) hS16 hI' (by omega)).trans (congrArg some c2)
  have cA : ∀ A B : Int32, A + B - A = B := fun A B => by rw [Int32.add_comm]; exact Int32.add_sub_cancel _ _
  have L82 : ce_lp2 (f_L_ticked_L82 N 0 (nI t)) ce_FU 1 0 = some (N, 1) := by
    refine ms_f2 (fun _ => 1) (fun i => nI i) 16 (fun i hi rec => ?_) (fun rec => ?_) (by rw [ms_FU]; omega)
    · obtain ⟨q, q1, q2, q3⟩ := each i hi
      have v1 : f0_L_leaf N 0 (nI i) 1 = some (σ (8 + i) + nI q) := (q_leaf (j := 1) hS16 hI' hi (by omega)).trans (congrArg some q2)
      unfold f_L_ticked_L82
      rw [if_neg (show ¬ (16 : Int32) ≤ nI i from nI_ge (b := 16) hi (by omega)), if_neg (by decide), v1, ms_b1, ms_gi (show i < 16 by omega) (by omega), nI_clamp (by omega), hrow i hi, ms_nm, x5, ms_b1, cA, if_neg (nI_nlt q1 (by omega)), ms_b1, ms_gi (show i < 16 by omega) (by omega), ms_nm, ms_b1, cA]
      by_cases e : q = cp
      · rw [if_pos (by rw [e]), ms_nm, nI_1]
      · rw [if_neg (fun z => e (ms_nI z (by omega) (by omega))), q_isDone hS16 hJ' (by omega) hi (by omega) (q3.resolve_left e), ms_b1, if_neg (by decide), ms_nm, nI_1]
    · unfold f_L_ticked_L82
      rw [if_pos (by decide)]
      rfl
  refine ⟨N, ?_, hS16⟩
  unfold f_L_ticked
  rw [ms_nm, ms_nm, L7]
  rw [w9, ms_b1, w3, ms_b1, f1, ms_b2, ms_nm, hN, x9, ms_b1, ms_nm, ms_nm, if_pos (show nI 0 + (sp_tz σ n).2.2 = _ by rw [cA, Int32.add_comm]; exact ms_add0 _), x3, ms_b1, if_pos (nI_1 t).symm]
  exact L82
