/-! what is told ahead comes true; all is brought back -/
theorem q_take {α : Type} {a : α} {ps : List α} : ((a :: ps).take 4) = a :: ps.take 3 := rfl
theorem q_passback {M : ce_M} {σ : Nat → Int32} {ps : List (Nat → Int32)} {t n en k : Nat} (hS : q_S M σ ps) (hJ : q_J σ t n en) (hk0 : 1 ≤ k) (hk : k ≤ 50) (ht : t ≤ 9000) : ∃ M1 M2, f0_L_passes M 0 (nI k) = some (M1, (sp_ps σ n k).2) ∧ q_S M1 (sp_ps σ n k).1 (σ :: ps.take 3) ∧ f0_L_back M1 0 = some (M2, nI (ps.take 3).length) ∧ q_S M2 σ (ps.take 3) := by
  obtain ⟨M1, f1, f2⟩ := q_pass (k := k) hS hJ.1 hk0 hk (by omega)
  rw [q_take] at f2
  obtain ⟨M2, g1, g2⟩ := q_back f2
  exact ⟨M1, M2, f1, f2, g1, g2⟩
theorem q_len3 (ps : List (Nat → Int32)) : ¬ nI (ps.take 3).length < 0 := nI_pos (by rw [List.length_take]; omega)
theorem q_ct1 {M5 : ce_M} {σ : Nat → Int32} {ps : List (Nat → Int32)} {t n en a : Nat} (hS : q_S M5 σ ps) (hJ : q_J σ t n en) (ht : t ≤ 9000) (ha : a < n) {P : Option (ce_M × Int32) → Prop} {K : ce_M → Int32 → Option (ce_M × Int32)} (hP : ∀ M' ps', q_S M' σ ps' → P (K M' 1)) : P (ce_nm K (fun u18 => if (1 : Int32) = 0 then u18 M5 1 else if sp_ch σ a ≤ 0 then u18 M5 1 else ce_nm (fun (M59 : ce_M) => ce_b2 (f0_L_passes M59 0 (sp_ch σ a)) (fun (M61 : ce_M) (x62 : Int32) => if x62 < 0 then u18 M61 0 else ce_b1 (f0_L_one M61 0 (nI a) 4) (fun (x65 : Int32) => ce_b1 (f0_L_one M61 0 (nI a) 2) (fun (x67 : Int32) => if x65 = x67 then ce_b2 (f0_L_back M61 0) (fun (M70 : ce_M) (x71 : Int32) => if x71 < 0 then u18 M70 0 else u18 M70 1) else u18 M61 0)))) (fun (u60 : ce_M → Option (ce_M × Int32)) => if sp_ch σ a = 1 then u60 M5 else ce_b2 (f0_L_passes M5 0 (sp_ch σ a - 1)) (fun (M76 : ce_M) (x77 : Int32) => if x77 < 0 then u18 M76 0 else ce_b1 (f0_L_one M76 0 (nI a) 4) (fun (x80 : Int32) => ce_b1 (f0_L_one M76 0 (nI a) 2) (fun (x82 : Int32) => if x80 = x82 then u18 M76 0 else ce_b2 (f0_L_back M76 0) (fun (M85 : ce_M) (x86 : Int32) => if x86 < 0 then u18 M85 0 else u60 M85))))))) := by
  have hI := hJ.1
  have hn := hI.2.2.1
  obtain ⟨so, le, po, ca, se, th, wz, c, i0, i0', i1, i1', i2, i2', i3, i3', i4, i4', i5, i5', i6, i6', i11, i11', iw, ip, ib, ix, is⟩ := hI.2.2.2.2.2.2.2.2.2.1 a (by omega)
  rw [ms_nm, if_neg (show ¬ (1 : Int32) = 0 by decide)]
  by_cases c0 : sp_ch σ a ≤ 0
  · rw [if_pos c0]
    exact hP M5 ps hS
  · rw [if_neg c0, ms_nm]
    have e5 : th = 1 := by
      rcases (show th = 0 ∨ th = 1 by omega) with rfl | rfl
      · refine absurd ?_ c0
        unfold sp_ch
        rw [i5, if_pos rfl]
        decide
      · rfl
    subst e5
    have hne : po ≠ se := fun q => by
      refine c0 ?_
      unfold sp_ch
      rw [i5, if_neg (by decide), i2, i4, q, if_pos rfl]
      decide
    obtain ⟨dw, d1, d2, d3⟩ := q_ch_v hI (by omega) i5 i2 i4 i3 i3' i2' i4' hne
    have SE := q_ps_se hI (by omega) ha i5 i2 i4 i3 i3' i2' i4' hne d2 d1
    rw [d3]
    generalize hr : ca + dw - t + 1 = r at SE
    have hr10 : 1 ≤ r ∧ r ≤ 10 := by omega
    have done : ∀ (M59 : ce_M) (ps9 : List (Nat → Int32)), q_S M59 σ ps9 → P (ce_b2 (f0_L_passes M59 0 (nI r)) (fun (M61 : ce_M) (x62 : Int32) => if x62 < 0 then K M61 0 else ce_b1 (f0_L_one M61 0 (nI a) 4) (fun (x65 : Int32) => ce_b1 (f0_L_one M61 0 (nI a) 2) (fun (x67 : Int32) => if x65 = x67 then ce_b2 (f0_L_back M61 0) (fun (M70 : ce_M) (x71 : Int32) => if x71 < 0 then K M70 0 else K M70 1) else K M61 0)))) := fun M59 ps9 h9 => by
      obtain ⟨M1, M2, f1, f2, f3, f4⟩ := q_passback (k := r) h9 hJ (by omega) (by omega) ht
      have hIr := ms_IN_ps hI r
      obtain ⟨s5, s2, s3, sd, s4⟩ := SE r (by omega)
      rw [if_neg (Nat.lt_irrefl r)] at s4
      obtain ⟨Mx, x1, x2, _⟩ := q_ps_w hI ha r
      rw [f1, ms_b2, x2, if_neg (nI_pos (by omega)), show f0_L_one M1 0 (nI a) 4 = some (nI po) from (q_one (j := 4) f2 hIr ha (by omega)).trans (congrArg some s4), ms_b1, show f0_L_one M1 0 (nI a) 2 = some (nI po) from (q_one (j := 2) f2 hIr ha (by omega)).trans (congrArg some s2), ms_b1, if_pos rfl, f3, ms_b2, if_neg (q_len3 ps9)]
      exact hP M2 _ f4
    by_cases c1 : r = 1
    · rw [if_pos (by rw [c1]; rfl)]
      exact done M5 ps hS
    · obtain ⟨M1, M2, f1, f2, f3, f4⟩ := q_passback (k := r - 1) hS hJ (by omega) (by omega) ht
      have hIr := ms_IN_ps hI (r - 1)
      obtain ⟨s5, s2, s3, sd, s4⟩ := SE (r - 1) (by omega)
      rw [if_pos (by omega)] at s4
      obtain ⟨Mx, x1, x2, _⟩ := q_ps_w hI ha (r - 1)
      rw [if_neg (show ¬ nI r = 1 from fun q => c1 (ms_nI (b := 1) q (by omega) (by omega))), show nI r - 1 = nI (r - 1) from ms_sub (b := 1) (by omega), f1, ms_b2, x2, if_neg (nI_pos (by omega)), show f0_L_one M1 0 (nI a) 4 = some (nI se) from (q_one (j := 4) f2 hIr ha (by omega)).trans (congrArg some s4), ms_b1, show f0_L_one M1 0 (nI a) 2 = some (nI po) from (q_one (j := 2) f2 hIr ha (by omega)).trans (congrArg some s2), ms_b1, if_neg (fun q => hne (ms_nI q (by omega) (by omega)).symm), f3, ms_b2, if_neg (q_len3 ps)]
      exact done M2 _ f4
theorem q_ct2 {M16 : ce_M} {σ : Nat → Int32} {ps : List (Nat → Int32)} {t n en a : Nat} (hS : q_S M16 σ ps) (hJ : q_J σ t n en) (ht : t ≤ 9000) (ha : a < n) {P : Option (ce_M × Int32) → Prop} {K : ce_M → Int32 → Option (ce_M × Int32)} (hP : ∀ M' ps', q_S M' σ ps' → P (K M' 1)) : P (ce_nm K (fun u21 => if (1 : Int32) = 0 then u21 M16 1 else if sp_em σ n a 200 0 ≤ 0 then u21 M16 1 else if 50 < sp_em σ n a 200 0 then u21 M16 1 else ce_nm (fun (M30 : ce_M) => ce_b2 (f0_L_passes M30 0 (sp_em σ n a 200 0)) (fun (M32 : ce_M) (x33 : Int32) => if x33 ≤ 0 then u21 M32 0 else ce_b1 (f0_L_one M32 0 (nI a) 6) (fun (x36 : Int32) => if x36 = 0 then ce_b2 (f0_L_back M32 0) (fun (M39 : ce_M) (x40 : Int32) => if x40 < 0 then u21 M39 0 else u21 M39 1) else u21 M32 0))) (fun (u31 : ce_M → Option (ce_M × Int32)) => if sp_em σ n a 200 0 = 1 then u31 M16 else ce_b2 (f0_L_passes M16 0 (sp_em σ n a 200 0 - 1)) (fun (M45 : ce_M) (x46 : Int32) => if x46 < 0 then u21 M45 0 else ce_b1 (f0_L_one M45 0 (nI a) 6) (fun (x49 : Int32) => if x49 ≤ 0 then u21 M45 0 else ce_b2 (f0_L_back M45 0) (fun (M52 : ce_M) (x53 : Int32) => if x53 < 0 then u21 M52 0 else u31 M52)))))) := by
  have hI := hJ.1
  have hn := hI.2.2.1
  rw [ms_nm, if_neg (show ¬ (1 : Int32) = 0 by decide)]
  by_cases c0 : sp_em σ n a 200 0 ≤ 0
  · rw [if_pos c0]
    exact hP M16 ps hS
  · rw [if_neg c0]
    by_cases c5 : 50 < sp_em σ n a 200 0
    · rw [if_pos c5]
      exact hP M16 ps hS
    · rw [if_neg c5, ms_nm]
      rcases q_em_v (σ := σ) (n := n) (a := a) 200 0 with ⟨r, h1, h2, h3, h4, h5⟩ | ⟨_, h5⟩
      · rw [h5] at c0 c5
        rw [h5]
        have r1 : 1 ≤ r := by
          rcases Nat.eq_zero_or_pos r with e | e
          · subst e; exact absurd (by decide) c0
          · exact e
        have r50 : r ≤ 50 := by
          rcases Nat.lt_or_ge 50 r with e | e
          · exact absurd (nI_lt e (by omega)) c5
          · exact e
        have w0 : 0 < (σ (24 + 54 * a + 6)).toNatClampNeg := by
          obtain ⟨so, le, po, ca, se, th, wz, c, i0, i0', i1, i1', i2, i2', i3, i3', i4, i4', i5, i5', i6, i6', i11, i11', iw, ip, ib, ix, is⟩ := hI.2.2.2.2.2.2.2.2.2.1 a (by omega)
          rw [i6, nI_clamp (by omega)]
          have := h4 0 (Nat.le_refl _) (by omega)
          rcases Nat.eq_zero_or_pos wz with e | e
          · exact absurd (show σ (24 + 54 * a + 6) = nI 0 by rw [i6, e]) this
          · exact e
        have done : ∀ (M30 : ce_M) (ps9 : List (Nat → Int32)), q_S M30 σ ps9 → P (ce_b2 (f0_L_passes M30 0 (nI r)) (fun (M32 : ce_M) (x33 : Int32) => if x33 ≤ 0 then K M32 0 else ce_b1 (f0_L_one M32 0 (nI a) 6) (fun (x36 : Int32) => if x36 = 0 then ce_b2 (f0_L_back M32 0) (fun (M39 : ce_M) (x40 : Int32) => if x40 < 0 then K M39 0 else K M39 1) else K M32 0))) := fun M30 ps9 h9 => by
          obtain ⟨M1, M2, f1, f2, f3, f4⟩ := q_passback (k := r) h9 hJ r1 r50 ht
          have hIr := ms_IN_ps hI r
          obtain ⟨Mx, x1, x2, x3⟩ := q_ps_w hI ha r
          have x4 : 0 < Mx := by
            rw [h3, nI_clamp (by omega)] at x3
            omega
          rw [f1, ms_b2, x2, if_neg (nI_nle x4 (by omega)), show f0_L_one M1 0 (nI a) 6 = some (nI 0) from (q_one (j := 6) f2 hIr ha (by omega)).trans (congrArg some h3), ms_b1, if_pos (show nI 0 = (0 : Int32) from rfl), f3, ms_b2, if_neg (q_len3 ps9)]
          exact hP M2 _ f4
        by_cases c1 : r = 1
        · rw [if_pos (by rw [c1]; rfl)]
          exact done M16 ps hS
        · obtain ⟨M1, M2, f1, f2, f3, f4⟩ := q_passback (k := r - 1) hS hJ (by omega) (by omega) ht
          have hIr := ms_IN_ps hI (r - 1)
          obtain ⟨Mx, x1, x2, _⟩ := q_ps_w hI ha (r - 1)
          obtain ⟨so, le, po, ca, se, th, wz, c, i0, i0', i1, i1', i2, i2', i3, i3', i4, i4', i5, i5', i6, i6', i11, i11', iw, ip, ib, ix, is⟩ := hIr.2.2.2.2.2.2.2.2.2.1 a (by omega)
          have hw0 : 0 < wz := by
            have := h4 (r - 1) (by omega) (by omega)
            rcases Nat.eq_zero_or_pos wz with e | e
            · exact absurd (show (sp_ps σ n (r - 1)).1 (24 + 54 * a + 6) = nI 0 by rw [i6, e]) this
            · exact e
          rw [if_neg (show ¬ nI r = 1 from fun q => c1 (ms_nI (b := 1) q (by omega) (by omega))), show nI r - 1 = nI (r - 1) from ms_sub (b := 1) (by omega), f1, ms_b2, x2, if_neg (nI_pos (by omega)), show f0_L_one M1 0 (nI a) 6 = some (nI wz) from (q_one (j := 6) f2 hIr ha (by omega)).trans (congrArg some i6), ms_b1, if_neg (nI_nle hw0 (by omega)), f3, ms_b2, if_neg (q_len3 ps)]
          exact done M2 _ f4
      · exact absurd (by rw [h5]; decide) c0
theorem q_comes {M : ce_M} {σ : Nat → Int32} {ps : List (Nat → Int32)} {t n en a : Nat} (hS : q_S M σ ps) (hJ : q_J σ t n en) (ht : t ≤ 9000) (ha : a < n) : ∃ M' ps', f_L_comesTrue M 0 (nI a) = some (M', 1) ∧ q_S M' σ ps' := by
  have hI := hJ.1
  have hn := hI.2.2.1
  obtain ⟨M5, f5, s5⟩ := q_empty hS hI ha
  obtain ⟨so, le, po, ca, se, th, wz, c, i0, i0', i1, i1', i2, i2', i3, i3', i4, i4', i5, i5', i6, i6', i11, i11', iw, ip, ib, ix, is⟩ := hI.2.2.2.2.2.2.2.2.2.1 a (by omega)
  have o6 : f0_L_one M5 0 (nI a) 6 = some (nI wz) := (q_one (j := 6) s5 hI ha (by omega)).trans (congrArg some i6)
  have hem : (sp_em σ n a 200 0 = 0) = (nI wz = 0) := by
    rcases q_em_v (σ := σ) (n := n) (a := a) 200 0 with ⟨r, h1, h2, h3, h4, h5⟩ | ⟨h4, h5⟩
    · rw [h5]
      by_cases e : r = 0
      · subst e
        have h3 : σ (24 + 54 * a + 6) = nI 0 := h3
        rw [show nI wz = nI 0 from i6.symm.trans h3]
      · have := h4 0 (Nat.le_refl _) (by omega)
        refine propext ⟨fun q => absurd (ms_nI (b := 0) q (by omega) (by omega)) e, fun q => absurd (show σ (24 + 54 * a + 6) = nI 0 from i6.trans q) this⟩
    · rw [h5]
      exact propext ⟨fun q => absurd q (by decide), fun q => absurd (show σ (24 + 54 * a + 6) = nI 0 from i6.trans q) h4⟩
  unfold f_L_comesTrue
  rw [q_sum_v hS hI, ms_b1, q_served hS hI ha, ms_b1, f5, ms_b2, ms_nm, o6]
  have fin : ∀ (M19 : ce_M) (ps9 : List (Nat → Int32)), q_S M19 σ ps9 → ∃ M' ps', (if (1 : Int32) = 0 then some (M19, (0 : Int32)) else ce_b1 (f_L_sum M19 0) (fun (q23 : Int64) => if (lg_cmp q23 (q_sum σ n en)) = 0 then some (M19, 1) else some (M19, 0))) = some (M', 1) ∧ q_S M' σ ps' := fun M19 ps9 h9 => ⟨M19, ps9, by rw [if_neg (by decide), q_sum_v h9 hI, ms_b1, if_pos (q_cmp _)], h9⟩
  by_cases cw : nI wz = 0
  · rw [if_pos (hem.symm ▸ cw)]
    dsimp only
    rw [ms_b1, ms_nm, if_pos cw]
    dsimp only
    rw [ms_nm, if_pos rfl]
    refine q_ct1 (P := fun o => ∃ M' ps', o = some (M', 1) ∧ q_S M' σ ps') s5 hJ ht ha (fun M16 ps16 h16 => ?_)
    refine q_ct2 (P := fun o => ∃ M' ps', o = some (M', 1) ∧ q_S M' σ ps') h16 hJ ht ha (fun M19 ps19 h19 => ?_)
    exact fin M19 ps19 h19
  · rw [if_neg (fun q => cw (hem ▸ q))]
    dsimp only
    rw [ms_b1, ms_nm, if_neg cw]
    dsimp only
    rw [ms_nm, if_pos rfl]
    refine q_ct1 (P := fun o => ∃ M' ps', o = some (M', 1) ∧ q_S M' σ ps') s5 hJ ht ha (fun M16 ps16 h16 => ?_)
    refine q_ct2 (P := fun o => ∃ M' ps', o = some (M', 1) ∧ q_S M' σ ps') h16 hJ ht ha (fun M19 ps19 h19 => ?_)
    exact fin M19 ps19 h19
