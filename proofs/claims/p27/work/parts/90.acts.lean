/-! a step of the law -/
theorem q_lowM {M M' : ce_M} {x y : Int32} : f_L_low M x y = f_L_low M' x y := rfl
def q_R (M : ce_M) (n t : Nat) (o : Option (ce_M × Int32)) : Prop := ∃ M' σ' ps' t' n' en', o = some (M', 1) ∧ q_S M' σ' ps' ∧ q_J σ' t' n' en' ∧ t' ≤ t + 1 ∧ n ≤ n'
theorem q_a4 {M : ce_M} {σ : Nat → Int32} {ps : List (Nat → Int32)} {t n en a : Nat} (hS : q_S M σ ps) (hJ : q_J σ t n en) (ht : t ≤ 9000) (ha : a < n) (y : Int32) : q_R M n t (ce_b1 (f0_L_one M 0 (nI a) 2) (fun (x26 : Int32) => ce_b1 (f_L_low M y 16) (fun (x28 : Int32) => ce_b2 (f_L_goes M 0 (nI a) x28) (fun (M30 : ce_M) (x31 : Int32) => ce_b1 (f0_L_one M30 0 (nI a) 5) (fun (x33 : Int32) => ce_nm (α := Int32 → Option (ce_M × Int32)) (fun (x37 : Int32) => if x31 = x37 then if x31 < 0 then some (M30, 1) else ce_b1 (f0_L_one M30 0 (nI a) 2) (fun (x41 : Int32) => if x41 = x28 then ce_b1 (f0_L_one M30 0 (nI a) 3) (fun (x44 : Int32) => ce_b1 (f0_L_whole M30 0 3) (fun (x46 : Int32) => if x44 = x46 then some (M30, 1) else some (M30, 0))) else some (M30, 0)) else some (M30, 0)) (fun (u38 : Int32 → Option (ce_M × Int32)) => ce_nm (α := Unit → Option (ce_M × Int32)) (fun (z36 : Unit) => u38 (-900000002)) (fun (u35 : Unit → Option (ce_M × Int32)) => if x33 = 0 then u35 () else ce_b1 (f0_L_one M30 0 (nI a) 0) (fun (x52 : Int32) => if x52 = 2 then u35 () else if x26 = x28 then u35 () else u38 x26)))))))) := by
  have hI := hJ.1
  have hn := hI.2.2.1
  obtain ⟨so, le, po, ca, se, th, wz, c, i0, i0', i1, i1', i2, i2', i3, i3', i4, i4', i5, i5', i6, i6', i11, i11', iw, ip, ib, ix, is⟩ := hI.2.2.2.2.2.2.2.2.2.1 a (by omega)
  obtain ⟨l, hl, e1⟩ := q_low M y (m := 16) (by omega) (by omega)
  have e1 : f_L_low M y 16 = some (nI l) := e1
  have o0 : f0_L_one M 0 (nI a) 0 = some (nI so) := (q_one (j := 0) hS hI ha (by omega)).trans (congrArg some i0)
  have o2 : f0_L_one M 0 (nI a) 2 = some (nI po) := (q_one (j := 2) hS hI ha (by omega)).trans (congrArg some i2)
  have o5 : f0_L_one M 0 (nI a) 5 = some (nI th) := (q_one (j := 5) hS hI ha (by omega)).trans (congrArg some i5)
  have k9 : ((-900000002 : Int32) < 0) := by decide
  by_cases c : nI th = nI 0 ∨ nI so = nI 2 ∨ nI po = nI l
  · have hg := q_go_no hS hI (by omega) ha hl i5 i0 i2 c
    refine ⟨M, σ, ps, t, n, en, ?_, hS, hJ, by omega, Nat.le_refl _⟩
    rw [o2, ms_b1, e1, ms_b1, hg, ms_b2, o5, ms_b1, o0, ms_nm, ms_nm, ms_b1]
    by_cases c1 : nI th = 0
    · rw [if_pos c1]
      dsimp only
      rw [if_pos rfl, if_pos k9]
    · rw [if_neg c1]
      by_cases c2 : nI so = 2
      · rw [if_pos c2]
        dsimp only
        rw [if_pos rfl, if_pos k9]
      · rw [if_neg c2, if_pos (c.resolve_left c1 |>.resolve_left c2)]
        dsimp only
        rw [if_pos rfl, if_pos k9]
  · have c1 : nI th ≠ nI 0 := fun q => c (Or.inl q)
    have c2 : nI so ≠ nI 2 := fun q => c (Or.inr (Or.inl q))
    have c3 : nI po ≠ nI l := fun q => c (Or.inr (Or.inr q))
    obtain ⟨M', f1, f2, f3⟩ := q_go hS hI (by omega) ha hl i5 i0 i2 c1 c2 c3
    have p : ∀ j, j ≠ 24 + 54 * a + 2 → j ≠ 24 + 54 * a + 3 → sp_go σ a (nI l) j = σ j := fun j q1 q2 => by
      unfold sp_go
      rw [ms_u2 q2, ms_u2 q1]
    have hI' := q_IT_IN f3 ((p 0 (by omega) (by omega)).trans hI.1) ((p 1 (by omega) (by omega)).trans hI.2.1) ((p 2 (by omega) (by omega)).trans hI.2.2.2.1) (by omega) hn hI.2.2.2.2.1
    have v0 : f0_L_one M' 0 (nI a) 0 = some (nI so) := (q_one (j := 0) f2 hI' ha (by omega)).trans (congrArg some ((p _ (by omega) (by omega)).trans i0))
    have v2 : f0_L_one M' 0 (nI a) 2 = some (nI l) := (q_one (j := 2) f2 hI' ha (by omega)).trans (by show some (sp_go σ a (nI l) (24 + 54 * a + 2)) = _; unfold sp_go; rw [ms_u2 (by omega), ms_u1 rfl])
    have v3 : f0_L_one M' 0 (nI a) 3 = some (nI t) := (q_one (j := 3) f2 hI' ha (by omega)).trans (by show some (sp_go σ a (nI l) (24 + 54 * a + 3)) = _; unfold sp_go; rw [ms_u1 rfl, hI.1])
    have v5 : f0_L_one M' 0 (nI a) 5 = some (nI th) := (q_one (j := 5) f2 hI' ha (by omega)).trans (congrArg some ((p _ (by omega) (by omega)).trans i5))
    have w3 : f0_L_whole M' 0 3 = some (nI t) := (q_whole (j := 3) f2 hI' (by omega)).trans (congrArg some hI'.1)
    refine ⟨M', sp_go σ a (nI l), _, t, n, en, ?_, f2, q_J_go hJ hI' ha, by omega, Nat.le_refl _⟩
    rw [o2, ms_b1, e1, ms_b1, f1, ms_b2, v5, ms_b1, v0, ms_nm, ms_nm, ms_b1, if_neg (show ¬ nI th = 0 from c1), if_neg (show ¬ nI so = 2 from c2), if_neg c3]
    dsimp only
    rw [if_pos rfl, if_neg (nI_pos (by omega)), v2, ms_b1, if_pos rfl, v3, ms_b1, w3, ms_b1, if_pos rfl]
theorem q_a9 {M : ce_M} {σ : Nat → Int32} {ps : List (Nat → Int32)} {t n en a : Nat} (hS : q_S M σ ps) (hJ : q_J σ t n en) (ht : t ≤ 9000) (ha : a < n) (y : Int32) : q_R M n t (ce_b1 (f0_L_one M 0 (nI a) 1) (fun (x103 : Int32) => ce_b1 (f_L_low M y 3) (fun (x105 : Int32) => ce_b2 (f0_L_levels M 0 (nI a) x105) (fun (M107 : ce_M) (x108 : Int32) => if x108 = x103 then ce_b1 (f0_L_one M107 0 (nI a) 1) (fun (x111 : Int32) => ce_b1 (f_L_low M107 y 3) (fun (x113 : Int32) => if x111 = x113 then some (M107, 1) else some (M107, 0))) else some (M107, 0))))) := by
  have hI := hJ.1
  have hn := hI.2.2.1
  obtain ⟨so, le, po, ca, se, th, wz, c, i0, i0', i1, i1', i2, i2', i3, i3', i4, i4', i5, i5', i6, i6', i11, i11', iw, ip, ib, ix, is⟩ := hI.2.2.2.2.2.2.2.2.2.1 a (by omega)
  obtain ⟨l, hl, e1⟩ := q_low M y (m := 3) (by omega) (by omega)
  have e1 : f_L_low M y 3 = some (nI l) := e1
  have o1 : f0_L_one M 0 (nI a) 1 = some (σ (24 + 54 * a + 1)) := q_one (j := 1) hS hI ha (by omega)
  obtain ⟨M', f1, f2⟩ := q_rel hS hI ha hl
  have hJ' := q_J_rl hJ ha hl
  have v1 : f0_L_one M' 0 (nI a) 1 = some (nI l) := (q_one (j := 1) f2 hJ'.1 ha (by omega)).trans (by show some (sp_rl σ a l (24 + 54 * a + 1)) = _; unfold sp_rl; rw [ms_u1 rfl])
  refine ⟨M', sp_rl σ a l, _, t, n, en, ?_, f2, hJ', by omega, Nat.le_refl _⟩
  rw [o1, ms_b1, e1, ms_b1, f1, ms_b2, if_pos rfl, v1, ms_b1, q_lowM (M' := M), e1, ms_b1, if_pos rfl]
theorem q_a10 {M : ce_M} {σ : Nat → Int32} {ps : List (Nat → Int32)} {t n en : Nat} (hS : q_S M σ ps) (hJ : q_J σ t n en) (ht : t ≤ 9000) (y : Int32) : q_R M n t (ce_b1 (f_L_low M y 4) (fun (x117 : Int32) => ce_b1 (f0_L_whole M 0 (4 + x117)) (fun (x119 : Int32) => ce_nm (α := Int32 → Option (ce_M × Int32)) (fun (x121 : Int32) => ce_b2 (f0_L_sets M 0 x117 x121) (fun (M123 : ce_M) (x124 : Int32) => if x124 = x119 then ce_b1 (f0_L_whole M123 0 (4 + x117)) (fun (x127 : Int32) => if x127 = x121 then some (M123, 1) else some (M123, 0)) else some (M123, 0))) (fun (u122 : Int32 → Option (ce_M × Int32)) => if x117 = 1 then ce_b1 (f_L_low M (y >>> (2 &&& 31)) 3) (fun (x134 : Int32) => u122 (1 + x134)) else ce_b1 (f_L_low M (y >>> (2 &&& 31)) 6) (fun (x132 : Int32) => u122 x132))))) := by
  have hI := hJ.1
  have hn := hI.2.2.1
  obtain ⟨j, hj, e1⟩ := q_low M y (m := 4) (by omega) (by omega)
  have e1 : f_L_low M y 4 = some (nI j) := e1
  obtain ⟨v3, h3, e3⟩ := q_low M (y >>> (2 &&& 31)) (m := 3) (by omega) (by omega)
  have e3 : f_L_low M (y >>> (2 &&& 31)) 3 = some (nI v3) := e3
  obtain ⟨v6, h6, e6⟩ := q_low M (y >>> (2 &&& 31)) (m := 6) (by omega) (by omega)
  have e6 : f_L_low M (y >>> (2 &&& 31)) 6 = some (nI v6) := e6
  have e4 : (4 : Int32) + nI j = nI (4 + j) := nI_add 4 j
  have hw : ∀ τ : Nat → Int32, sp_wh τ n (4 + j) = τ (3 + j) := fun τ => by
    rcases (show j = 0 ∨ j = 1 ∨ j = 2 ∨ j = 3 by omega) with rfl | rfl | rfl | rfl <;> rfl
  have w : f0_L_whole M 0 (nI (4 + j)) = some (σ (3 + j)) := (q_whole hS hI (by omega)).trans (by rw [if_pos (by omega), hw])
  have step : ∀ v, sp_lo j ≤ v → v ≤ sp_hi j → q_R M n t (ce_b2 (f0_L_sets M 0 (nI j) (nI v)) (fun (M123 : ce_M) (x124 : Int32) => if x124 = σ (3 + j) then ce_b1 (f0_L_whole M123 0 (nI (4 + j))) (fun (x127 : Int32) => if x127 = nI v then some (M123, 1) else some (M123, 0)) else some (M123, 0))) := fun v h1 h2 => by
    obtain ⟨M', f1, f2, f3⟩ := q_set hS hI (by omega) hj h1 h2
    have hI' := q_IT_IN f3 ((ms_u2 (by omega)).trans hI.1) ((ms_u2 (by omega)).trans hI.2.1) ((ms_u2 (by omega)).trans hI.2.2.2.1) (by omega) hn hI.2.2.2.2.1
    have w' : f0_L_whole M' 0 (nI (4 + j)) = some (nI v) := (q_whole f2 hI' (by omega)).trans (by rw [if_pos (by omega), hw, ms_u1 rfl])
    refine ⟨M', _, _, t, n, en, ?_, f2, q_J_set hJ hj hI', by omega, Nat.le_refl _⟩
    rw [f1, ms_b2, if_pos rfl, w', ms_b1, if_pos rfl]
  rw [e1, ms_b1, e4, w, ms_b1, ms_nm]
  by_cases q : j = 1
  · rw [if_pos (show nI j = 1 by rw [q]; rfl), e3, ms_b1, show (1 : Int32) + nI v3 = nI (1 + v3) from nI_add 1 v3]
    exact step (1 + v3) (by subst q; show 1 ≤ _; omega) (by subst q; show _ ≤ 9; omega)
  · rw [if_neg (show ¬ nI j = 1 from fun z => q (ms_nI (b := 1) z (by omega) (by omega))), e6, ms_b1]
    exact step v6 (by unfold sp_lo; rw [if_neg q]; omega) (by unfold sp_hi; split <;> omega)
theorem q_a11 {M : ce_M} {σ : Nat → Int32} {ps : List (Nat → Int32)} {t n en : Nat} (hS : q_S M σ ps) (hJ : q_J σ t n en) (ht : t ≤ 9000) (y : Int32) : q_R M n t (ce_b1 (f0_L_whole M 0 0) (fun (x137 : Int32) => ce_b1 (f_L_low M y 3) (fun (x139 : Int32) => ce_b1 (f_L_low M (y >>> (2 &&& 31)) 3) (fun (x141 : Int32) => ce_b1 (f_L_low M (y >>> (4 &&& 31)) 16) (fun (x143 : Int32) => ce_b2 (f_L_joins M 0 x139 x141 x143) (fun (M145 : ce_M) (x146 : Int32) => ce_nm (α := Int32 → Option (ce_M × Int32)) (fun (x148 : Int32) => if x146 = x148 then if x137 = 8 then some (M145, 1) else ce_b1 (f0_L_one M145 0 x137 4) (fun (x152 : Int32) => ce_b1 (f_L_low M145 (y >>> (4 &&& 31)) 16) (fun (x154 : Int32) => if x152 = x154 then ce_b1 (f0_L_stay M145 0 x137 0 1) (fun (x157 : Int32) => ce_b1 (f0_L_whole M145 0 3) (fun (x159 : Int32) => if x157 = x159 then some (M145, 1) else some (M145, 0))) else some (M145, 0))) else some (M145, 0)) (fun (u149 : Int32 → Option (ce_M × Int32)) => if x137 = 8 then u149 (-900000002) else u149 x137))))))) := by
  have hI := hJ.1
  have hn := hI.2.2.1
  obtain ⟨so, hso, e1⟩ := q_low M y (m := 3) (by omega) (by omega)
  have e1 : f_L_low M y 3 = some (nI so) := e1
  obtain ⟨le, hle, e2⟩ := q_low M (y >>> (2 &&& 31)) (m := 3) (by omega) (by omega)
  have e2 : f_L_low M (y >>> (2 &&& 31)) 3 = some (nI le) := e2
  obtain ⟨po, hpo, e3⟩ := q_low M (y >>> (4 &&& 31)) (m := 16) (by omega) (by omega)
  have e3 : f_L_low M (y >>> (4 &&& 31)) 16 = some (nI po) := e3
  have w0 : f0_L_whole M 0 0 = some (nI n) := (q_whole (j := 0) hS hI (by omega)).trans (congrArg some hI.2.1)
  rw [w0, ms_b1, e1, ms_b1, e2, ms_b1, e3, ms_b1]
  by_cases c : n = 8
  · subst c
    refine ⟨M, σ, ps, t, 8, en, ?_, hS, hJ, by omega, Nat.le_refl _⟩
    rw [q_join_no hS hI hso hle hpo, ms_b2, ms_nm, if_pos (show nI 8 = (8 : Int32) from rfl)]
    dsimp only
    rw [if_pos rfl, if_pos (show nI 8 = (8 : Int32) from rfl)]
  · have c8 : ¬ nI n = 8 := fun q => c (ms_nI (b := 8) q (by omega) (by omega))
    obtain ⟨M', f1, f2, f3⟩ := q_join hS hI (by omega) (show n < 8 by omega) hso hle hpo
    have f9 : f_L_joins M 0 (nI so) (nI le) (nI po) = some (M', nI n) := by
      unfold f_L_joins f_X7_subscribe
      rw [f1]
      rfl
    have hx : ∀ j, j ≠ 1 → (j < 24 + 54 * n ∨ 24 + 54 * n + 54 ≤ j) → upd (sp_j1 σ n (nI so) (nI le) (nI po)) 1 (nI (n + 1)) j = σ j := fun j q1 q2 => by
      unfold sp_j1 sp_bs sp_bs0 sp_j0
      rw [if_pos (show 0 < 10 by omega)]
      simp (disch := omega) only [ms_u2]
    have hI' := q_IT_IN f3 ((hx 0 (by omega) (by omega)).trans hI.1) (ms_u1 rfl) ((hx 2 (by omega) (by omega)).trans hI.2.2.2.1) (by omega) (show n + 1 ≤ 8 by omega) hI.2.2.2.2.1
    have hJ' := q_J_join hJ (show n < 8 by omega) hI'
    have z4 : upd (sp_j1 σ n (nI so) (nI le) (nI po)) 1 (nI (n + 1)) (24 + 54 * n + 4) = nI po := by
      unfold sp_j1 sp_bs sp_bs0 sp_j0
      rw [if_pos (show 0 < 10 by omega)]
      simp (disch := omega) only [ms_u2, ms_u1]
    have z11 : upd (sp_j1 σ n (nI so) (nI le) (nI po)) 1 (nI (n + 1)) (24 + 54 * n + 11) = nI 1 := by
      unfold sp_j1 sp_bs sp_bs0 sp_j0
      rw [if_pos (show 0 < 10 by omega)]
      simp (disch := omega) only [ms_u2, ms_u1]
    have z25 : upd (sp_j1 σ n (nI so) (nI le) (nI po)) 1 (nI (n + 1)) (24 + 54 * n + (24 + 3 * 0 + 1)) = nI t := by
      unfold sp_j1 sp_bs sp_bs0 sp_j0
      rw [if_pos (show 0 < 10 by omega)]
      simp (disch := omega) only [ms_u2, ms_u1]
      exact hI.1
    generalize upd (sp_j1 σ n (nI so) (nI le) (nI po)) 1 (nI (n + 1)) = τ at f2 hI' hJ' z4 z11 z25
    have o4 : f0_L_one M' 0 (nI n) 4 = some (nI po) := (q_one (j := 4) f2 hI' (show n < n + 1 by omega) (by omega)).trans (congrArg some z4)
    have s1 : f0_L_stay M' 0 (nI n) 0 1 = some (nI t) := (q_stay (i := 0) (j := 1) f2 hI' (show n < n + 1 by omega) z11 (by omega) (by omega) (by omega)).trans (by unfold sp_st; rw [if_pos (by omega)]; exact congrArg some z25)
    have w3 : f0_L_whole M' 0 3 = some (nI t) := (q_whole (j := 3) f2 hI' (by omega)).trans (congrArg some hI'.1)
    refine ⟨M', τ, _, t, n + 1, en, ?_, f2, hJ', by omega, by omega⟩
    rw [f9, ms_b2, ms_nm, if_neg c8]
    dsimp only
    rw [if_pos rfl, if_neg c8, o4, ms_b1, q_lowM (M' := M), e3, ms_b1, if_pos rfl, s1, ms_b1, w3, ms_b1, if_pos rfl]
theorem q_a12 {M : ce_M} {σ : Nat → Int32} {ps : List (Nat → Int32)} {t n en a : Nat} (hS : q_S M σ ps) (hJ : q_J σ t n en) (ht : t ≤ 9000) (ha : a < n) (y : Int32) : q_R M n t (ce_b1 (f0_L_one M 0 (nI a) 5) (fun (x164 : Int32) => ce_b1 (f0_L_one M 0 (nI a) 6) (fun (x166 : Int32) => ce_b1 (f0_L_whole M 0 11) (fun (x168 : Int32) => ce_b1 (f_L_low M y 3) (fun (x170 : Int32) => ce_nm (α := ce_M → Int32 → Option (ce_M × Int32)) (fun (M172 : ce_M) (x173 : Int32) => ce_nm (α := Int32 → Option (ce_M × Int32)) (fun (x175 : Int32) => if x173 = x175 then ce_b1 (f0_L_whole M172 0 11) (fun (x178 : Int32) => if x178 = x168 then some (M172, 1) else ce_b1 (f0_L_whole M172 0 11) (fun (x181 : Int32) => if x181 = (x168 + x166) then some (M172, 1) else some (M172, 0))) else some (M172, 0)) (fun (u176 : Int32 → Option (ce_M × Int32)) => if x164 = 0 then u176 (-900000002) else u176 x166)) (fun (u174 : ce_M → Int32 → Option (ce_M × Int32)) => if x170 = 0 then ce_b2 (f_L_quits M 0 (nI a)) (fun (M189 : ce_M) (x190 : Int32) => u174 M189 x190) else if x164 = 0 then u174 M (-900000002) else u174 M x166)))))) := by
  have hI := hJ.1
  have hn := hI.2.2.1
  obtain ⟨so, le, po, ca, se, th, wz, c, i0, i0', i1, i1', i2, i2', i3, i3', i4, i4', i5, i5', i6, i6', i11, i11', iw, ip, ib, ix, is⟩ := hI.2.2.2.2.2.2.2.2.2.1 a (by omega)
  obtain ⟨l, hl, e1⟩ := q_low M y (m := 3) (by omega) (by omega)
  have e1 : f_L_low M y 3 = some (nI l) := e1
  have o5 : f0_L_one M 0 (nI a) 5 = some (nI th) := (q_one (j := 5) hS hI ha (by omega)).trans (congrArg some i5)
  have o6 : f0_L_one M 0 (nI a) 6 = some (nI wz) := (q_one (j := 6) hS hI ha (by omega)).trans (congrArg some i6)
  have w11 : f0_L_whole M 0 11 = some (σ 7) := q_whole (j := 11) hS hI (by omega)
  rw [o5, ms_b1, o6, ms_b1, w11, ms_b1, e1, ms_b1, ms_nm]
  rcases (show th = 0 ∨ th = 1 by omega) with rfl | rfl
  · refine ⟨M, σ, ps, t, n, en, ?_, hS, hJ, by omega, Nat.le_refl _⟩
    by_cases q : nI l = 0
    · rw [if_pos q, q_quit_no hS hI ha i5, ms_b2]
      dsimp only
      rw [ms_nm, if_pos (show nI 0 = (0 : Int32) from rfl)]
      dsimp only
      rw [if_pos rfl, w11, ms_b1, if_pos rfl]
    · rw [if_neg q, if_pos (show nI 0 = (0 : Int32) from rfl)]
      dsimp only
      rw [ms_nm, if_pos (show nI 0 = (0 : Int32) from rfl)]
      dsimp only
      rw [if_pos rfl, w11, ms_b1, if_pos rfl]
  · by_cases q : nI l = 0
    · obtain ⟨cc, c1, c2, c3⟩ := hI.2.2.2.2.2.2.2.2.2.2.1 a ha
      obtain ⟨M', f1, f2, f3⟩ := q_quit hS hI (by omega) ha i5 i6 c3 c1 c2
      have p : ∀ j, j < 7 → sp_qt σ a wz cc j = σ j := fun j hj => by
        unfold sp_qt
        rw [ms_u2 (by omega), ms_u2 (by omega), ms_u2 (by omega), ms_u2 (by omega)]
      have hI' := q_IT_IN f3 ((p 0 (by omega)).trans hI.1) ((p 1 (by omega)).trans hI.2.1) ((p 2 (by omega)).trans hI.2.2.2.1) (by omega) hn hI.2.2.2.2.1
      have v7 : sp_qt σ a wz cc 7 = σ 7 + nI wz := by
        unfold sp_qt
        rw [ms_u2 (by omega), ms_u2 (by omega), ms_u2 (by omega), ms_u1 rfl]
      have x11 : f0_L_whole M' 0 11 = some (σ 7 + nI wz) := (q_whole (j := 11) f2 hI' (by omega)).trans (congrArg some v7)
      refine ⟨M', _, _, t, n, en, ?_, f2, q_J_quit hJ hI' ha i5 i6 i6' c3 c1 c2, by omega, Nat.le_refl _⟩
      rw [if_pos q, f1, ms_b2]
      dsimp only
      rw [ms_nm, if_neg (show ¬ nI 1 = (0 : Int32) by decide)]
      dsimp only
      rw [if_pos rfl, x11, ms_b1, ms_b1]
      by_cases q2 : σ 7 + nI wz = σ 7
      · rw [if_pos q2]
      · rw [if_neg q2, if_pos rfl]
    · refine ⟨M, σ, ps, t, n, en, ?_, hS, hJ, by omega, Nat.le_refl _⟩
      rw [if_neg q, if_neg (show ¬ nI 1 = (0 : Int32) by decide)]
      dsimp only
      rw [ms_nm, if_neg (show ¬ nI 1 = (0 : Int32) by decide)]
      dsimp only
      rw [if_pos rfl, w11, ms_b1, if_pos rfl]
theorem q_acts {M : ce_M} {σ : Nat → Int32} {ps : List (Nat → Int32)} {t n en k : Nat} (hS : q_S M σ ps) (hJ : q_J σ t n en) (ht : t ≤ 9000) (hn0 : 1 ≤ n) (hk : k < 13) (x y : Int32) : q_R M n t (f_L_acts M 0 (nI k) x y) := by
  have hI := hJ.1
  have hn := hI.2.2.1
  obtain ⟨a, ha, e1⟩ := q_low M x (m := n) hn0 (by omega)
  have w0 : f0_L_whole M 0 0 = some (nI n) := (q_whole (j := 0) hS hI (by omega)).trans (congrArg some hI.2.1)
  have sent : q_R M n t (ce_b2 (f_L_sent M 0 x y) (fun (M6 : ce_M) (x7 : Int32) => ce_gz x7 (some (M6, x7)))) := by
    obtain ⟨M', σ', ps', en', h1, h2, h3⟩ := q_sent hS hJ (by omega) x y
    exact ⟨M', σ', ps', t, n, en', by rw [h1, ms_b2]; rfl, h2, h3, by omega, Nat.le_refl _⟩
  have tick : q_R M n t (ce_b2 (f_L_ticked M 0) (fun (M6 : ce_M) (x7 : Int32) => ce_gz x7 (some (M6, x7)))) := by
    obtain ⟨M', h1, h2⟩ := q_ticked hS hJ ht
    exact ⟨M', _, _, t + 1, n, en, by rw [h1, ms_b2]; rfl, h2, q_J_tick hJ, by omega, Nat.le_refl _⟩
  unfold f_L_acts
  rw [w0, ms_b1, e1, ms_b1]
  rcases (show k = 0 ∨ k = 1 ∨ k = 2 ∨ k = 3 ∨ k = 4 ∨ k = 5 ∨ k = 6 ∨ k = 7 ∨ k = 8 ∨ k = 9 ∨ k = 10 ∨ k = 11 ∨ k = 12 by omega) with rfl | rfl | rfl | rfl | rfl | rfl | rfl | rfl | rfl | rfl | rfl | rfl | rfl
  · rw [if_pos (show nI 0 = (0 : Int32) from rfl)]
    exact sent
  · rw [if_neg (show ¬ nI 1 = (0 : Int32) by decide), if_pos (show nI 1 = (1 : Int32) from rfl)]
    exact sent
  · rw [if_neg (show ¬ nI 2 = (0 : Int32) by decide), if_neg (show ¬ nI 2 = (1 : Int32) by decide), if_pos (show nI 2 = (2 : Int32) from rfl)]
    exact sent
  · rw [if_neg (show ¬ nI 3 = (0 : Int32) by decide), if_neg (show ¬ nI 3 = (1 : Int32) by decide), if_neg (show ¬ nI 3 = (2 : Int32) by decide), if_pos (show nI 3 = (3 : Int32) from rfl)]
    exact sent
  · rw [if_neg (show ¬ nI 4 = (0 : Int32) by decide), if_neg (show ¬ nI 4 = (1 : Int32) by decide), if_neg (show ¬ nI 4 = (2 : Int32) by decide), if_neg (show ¬ nI 4 = (3 : Int32) by decide), if_pos (show nI 4 = (4 : Int32) from rfl)]
    exact q_a4 hS hJ ht ha y
  · rw [if_neg (show ¬ nI 5 = (0 : Int32) by decide), if_neg (show ¬ nI 5 = (1 : Int32) by decide), if_neg (show ¬ nI 5 = (2 : Int32) by decide), if_neg (show ¬ nI 5 = (3 : Int32) by decide), if_neg (show ¬ nI 5 = (4 : Int32) by decide), if_pos (show nI 5 = (5 : Int32) from rfl)]
    exact q_a4 hS hJ ht ha y
  · rw [if_neg (show ¬ nI 6 = (0 : Int32) by decide), if_neg (show ¬ nI 6 = (1 : Int32) by decide), if_neg (show ¬ nI 6 = (2 : Int32) by decide), if_neg (show ¬ nI 6 = (3 : Int32) by decide), if_neg (show ¬ nI 6 = (4 : Int32) by decide), if_neg (show ¬ nI 6 = (5 : Int32) by decide), if_pos (show nI 6 = (6 : Int32) from rfl)]
    exact tick
  · rw [if_neg (show ¬ nI 7 = (0 : Int32) by decide), if_neg (show ¬ nI 7 = (1 : Int32) by decide), if_neg (show ¬ nI 7 = (2 : Int32) by decide), if_neg (show ¬ nI 7 = (3 : Int32) by decide), if_neg (show ¬ nI 7 = (4 : Int32) by decide), if_neg (show ¬ nI 7 = (5 : Int32) by decide), if_neg (show ¬ nI 7 = (6 : Int32) by decide), if_pos (show nI 7 = (7 : Int32) from rfl)]
    exact tick
  · rw [if_neg (show ¬ nI 8 = (0 : Int32) by decide), if_neg (show ¬ nI 8 = (1 : Int32) by decide), if_neg (show ¬ nI 8 = (2 : Int32) by decide), if_neg (show ¬ nI 8 = (3 : Int32) by decide), if_neg (show ¬ nI 8 = (4 : Int32) by decide), if_neg (show ¬ nI 8 = (5 : Int32) by decide), if_neg (show ¬ nI 8 = (6 : Int32) by decide), if_neg (show ¬ nI 8 = (7 : Int32) by decide), if_pos (show nI 8 = (8 : Int32) from rfl)]
    exact tick
  · rw [if_neg (show ¬ nI 9 = (0 : Int32) by decide), if_neg (show ¬ nI 9 = (1 : Int32) by decide), if_neg (show ¬ nI 9 = (2 : Int32) by decide), if_neg (show ¬ nI 9 = (3 : Int32) by decide), if_neg (show ¬ nI 9 = (4 : Int32) by decide), if_neg (show ¬ nI 9 = (5 : Int32) by decide), if_neg (show ¬ nI 9 = (6 : Int32) by decide), if_neg (show ¬ nI 9 = (7 : Int32) by decide), if_neg (show ¬ nI 9 = (8 : Int32) by decide), if_pos (show nI 9 = (9 : Int32) from rfl)]
    exact q_a9 hS hJ ht ha y
  · rw [if_neg (show ¬ nI 10 = (0 : Int32) by decide), if_neg (show ¬ nI 10 = (1 : Int32) by decide), if_neg (show ¬ nI 10 = (2 : Int32) by decide), if_neg (show ¬ nI 10 = (3 : Int32) by decide), if_neg (show ¬ nI 10 = (4 : Int32) by decide), if_neg (show ¬ nI 10 = (5 : Int32) by decide), if_neg (show ¬ nI 10 = (6 : Int32) by decide), if_neg (show ¬ nI 10 = (7 : Int32) by decide), if_neg (show ¬ nI 10 = (8 : Int32) by decide), if_neg (show ¬ nI 10 = (9 : Int32) by decide), if_pos (show nI 10 = (10 : Int32) from rfl)]
    exact q_a10 hS hJ ht y
  · rw [if_neg (show ¬ nI 11 = (0 : Int32) by decide), if_neg (show ¬ nI 11 = (1 : Int32) by decide), if_neg (show ¬ nI 11 = (2 : Int32) by decide), if_neg (show ¬ nI 11 = (3 : Int32) by decide), if_neg (show ¬ nI 11 = (4 : Int32) by decide), if_neg (show ¬ nI 11 = (5 : Int32) by decide), if_neg (show ¬ nI 11 = (6 : Int32) by decide), if_neg (show ¬ nI 11 = (7 : Int32) by decide), if_neg (show ¬ nI 11 = (8 : Int32) by decide), if_neg (show ¬ nI 11 = (9 : Int32) by decide), if_neg (show ¬ nI 11 = (10 : Int32) by decide), if_pos (show nI 11 = (11 : Int32) from rfl)]
    rw [← w0]
    exact q_a11 hS hJ ht y
  · rw [if_neg (show ¬ nI 12 = (0 : Int32) by decide), if_neg (show ¬ nI 12 = (1 : Int32) by decide), if_neg (show ¬ nI 12 = (2 : Int32) by decide), if_neg (show ¬ nI 12 = (3 : Int32) by decide), if_neg (show ¬ nI 12 = (4 : Int32) by decide), if_neg (show ¬ nI 12 = (5 : Int32) by decide), if_neg (show ¬ nI 12 = (6 : Int32) by decide), if_neg (show ¬ nI 12 = (7 : Int32) by decide), if_neg (show ¬ nI 12 = (8 : Int32) by decide), if_neg (show ¬ nI 12 = (9 : Int32) by decide), if_neg (show ¬ nI 12 = (10 : Int32) by decide), if_neg (show ¬ nI 12 = (11 : Int32) by decide)]
    exact q_a12 hS hJ ht ha y
