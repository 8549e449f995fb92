/-! all fits -/
theorem q_low (M : ce_M) (x : Int32) {m : Nat} (h0 : 0 < m) (hm : m < 2 ^ 31) : ∃ p, p < m ∧ f_L_low M x (nI m) = some (nI p) := by
  obtain ⟨j, j1, j2⟩ := pk_andE x (m := 2147483647) 31 (by decide)
  refine ⟨j % m, Nat.mod_lt _ h0, ?_⟩
  unfold f_L_low ce_gn
  rw [if_neg (show ¬ nI m = 0 from nI_ne0 h0 hm), j2, pk_rem j1 h0 hm]
theorem q_tl0 {σ : Nat → Int32} {t n en : Nat} (hI : ms_IN σ t n en) (ht : t < 2 ^ 31) : sp_tl σ (nI 0) = nI 0 := by
  obtain ⟨s, s1, s2⟩ := hI.2.2.2.2.2.2.2.2.1
  unfold sp_tl
  rw [show σ (3 + 3) = nI s from s2, if_neg (nI_nlt (by omega) (by omega)), hI.1, if_pos (nI_le (by omega) ht)]
/-- who is reached now -/
theorem q_rcn {σ : Nat → Int32} {t n en a l v th se le : Nat} (hJ : q_J σ t n en) (ht : t < 2 ^ 31) (ha : a < n) (i5 : σ (24 + 54 * a + 5) = nI th) (hth : th ≤ 1) (i4 : σ (24 + 54 * a + 4) = nI se) (hse : se < 16) (i1 : σ (24 + 54 * a + 1) = nI le) (hle : le < 3) : sp_rc σ a l v (σ 0 - nI 0) = (decide (th = 1) && sp_ov se le l v) := by
  have hI := hJ.1
  have hn := hI.2.2.1
  obtain ⟨j1, j2, ⟨lo, j3, j4⟩, j5⟩ := hJ
  obtain ⟨th', w, D, X, ch, hh, c, a1, a2, a3, a4, a5, a6, a7, a8, a9, a10, a11, a12, a13, a14, ⟨G, g1, g2, g3, g4, g5, g6⟩, hB, a17, a18, a19⟩ := j3 a ha
  have hc10 : c ≤ 10 := by rw [a12]; split <;> omega
  have hc1 : 1 ≤ c := by rw [a12]; split <;> omega
  have et : th' = th := ms_nI (a1.symm.trans i5) (by omega) (by omega)
  subst et
  have et0 : σ 0 - nI 0 = nI t := by rw [hI.1, ms_sub (Nat.zero_le _)]; rfl
  unfold sp_rc
  rw [a1, et0, a11, nI_clamp (by omega), i1, nI_clamp (by omega)]
  rcases (show th' = 0 ∨ th' = 1 by omega) with rfl | rfl
  · rfl
  · have e : sp_la σ a (nI t) c = nI se := by
      obtain ⟨m, rfl⟩ : ∃ m, c = m + 1 := ⟨c - 1, by omega⟩
      have k0 : σ (24 + 54 * a + (24 + 3 * m + 0)) = nI se := by
        have := g3.trans i4
        unfold sp_st at this
        rw [if_pos (by omega)] at this
        exact this
      have k1 : σ (24 + 54 * a + (24 + 3 * m + 1)) = nI (G 0) := by
        have := g1 0 (by omega)
        unfold sp_st at this
        rw [if_pos (by omega)] at this
        exact this
      have k2 : σ (24 + 54 * a + (24 + 3 * m + 2)) = -1 := by
        have := g5 rfl
        unfold sp_st at this
        rw [if_pos (by omega)] at this
        exact this
      show (if nI t < σ (24 + 54 * a + (24 + 3 * m + 1)) then sp_la σ a (nI t) m else if σ (24 + 54 * a + (24 + 3 * m + 2)) = -1 then σ (24 + 54 * a + (24 + 3 * m + 0)) else if σ (24 + 54 * a + (24 + 3 * m + 2)) ≤ nI t then sp_la σ a (nI t) m else σ (24 + 54 * a + (24 + 3 * m + 0))) = _
      rw [k1, k2, k0, if_neg (nI_nlt g4 ht), if_pos rfl]
    rw [e, nI_clamp (by omega), decide_eq_true (show nI 1 = nI 1 from rfl), decide_eq_false (show ¬ nI se = -1 from fun q => by rw [ms_nN (by omega)] at q; exact q)]
    simp
theorem q_ovm : ∀ s, s < 16 → ∀ v, v < 3 → ∀ p, p < 16 → (sp_ov s v p 2 = true → sp_ov s v p 1 = true) ∧ (sp_ov s v p 1 = true → sp_ov s v p 0 = true) ∧ ((((sp_ar s v >>> (nI p &&& 31)) &&& 1) = 1) ↔ sp_ov s v p 2 = true) := by decide +kernel
theorem q_fits {M : ce_M} {σ : Nat → Int32} {ps : List (Nat → Int32)} {t n en : Nat} (hS : q_S M σ ps) (hJ : q_J σ t n en) (ht : t ≤ 9999) (x : Int32) : f_L_fits M 0 x = some 1 := by
  have hI := hJ.1
  have hn := hI.2.2.1
  have hen := hI.2.2.2.2.1
  obtain ⟨p, hp, elow⟩ := q_low M x (m := 16) (by omega) (by omega)
  have elow : f_L_low M x 16 = some (nI p) := elow
  have W : ∀ j, j < 13 → f0_L_whole M 0 (nI j) = some (sp_wh σ n j) := fun j hj => by rw [q_whole hS hI (by omega), if_pos hj]
  have w0 : f0_L_whole M 0 0 = some (nI n) := (W 0 (by omega)).trans (congrArg some hI.2.1)
  have w1 : f0_L_whole M 0 1 = some (sp_sm (sp_f σ 5) n) := W 1 (by omega)
  have w2 : f0_L_whole M 0 2 = some (nI en) := (W 2 (by omega)).trans (congrArg some hI.2.2.2.1)
  have w3 : f0_L_whole M 0 3 = some (nI t) := (W 3 (by omega)).trans (congrArg some hI.1)
  have w8 : f0_L_whole M 0 8 = some (sp_sm (sp_f σ 6) n) := W 8 (by omega)
  have w9 : f0_L_whole M 0 9 = some (sp_sm (sp_f σ 7) n) := W 9 (by omega)
  have w10 : f0_L_whole M 0 10 = some (sp_sm (sp_f σ 8) n) := W 10 (by omega)
  have w11 : f0_L_whole M 0 11 = some (σ 7) := W 11 (by omega)
  have w12 : f0_L_whole M 0 12 = some (sp_sm (sp_f σ 9) n) := W 12 (by omega)
  -- each one's numbers
  have N : ∀ a, a < n → ∃ th w po se le : Nat, σ (24 + 54 * a + 5) = nI th ∧ th ≤ 1 ∧ σ (24 + 54 * a + 6) = nI w ∧ w ≤ 12 ∧ (th = 0 → w = 0) ∧ σ (24 + 54 * a + 2) = nI po ∧ po < 16 ∧ σ (24 + 54 * a + 4) = nI se ∧ se < 16 ∧ σ (24 + 54 * a + 1) = nI le ∧ le < 3 := fun a ha => by
    obtain ⟨so, le, po, ca, se, th, wz, c', i0, i0', i1, i1', i2, i2', i3, i3', i4, i4', i5, i5', i6, i6', i11, i11', iw, ip, ib, ix, is⟩ := hI.2.2.2.2.2.2.2.2.2.1 a (by omega)
    exact ⟨th, wz, po, se, le, i5, i5', i6, i6', iw, i2, i2', i4, i4', i1, i1'⟩
  have L22 : ∀ u : Int32 → Int32 → Int32 → Int32 → Int32 → Int32 → Int32 → Option Int32, ce_lp8 (f_L_fits_L22 M 0 u) ce_FU 0 0 0 0 0 0 1 0 = u (sp_sm (sp_f σ 5) n) (sp_sm (sp_f σ 6) n) (sp_sm (sp_f σ 7) n) (sp_sm (sp_f σ 8) n) (sp_sm (sp_f σ 9) n) (sp_sm (fun a => sp_rt σ a 60) n) 1 := fun u => by
    refine ms_f8 (fun i => sp_sm (sp_f σ 5) i) (fun i => sp_sm (sp_f σ 6) i) (fun i => sp_sm (sp_f σ 7) i) (fun i => sp_sm (sp_f σ 8) i) (fun i => sp_sm (sp_f σ 9) i) (fun i => sp_sm (fun a => sp_rt σ a 60) i) (fun _ => 1) (fun i => nI i) n (fun i hi rec => ?_) (fun rec => ?_) (by rw [ms_FU]; omega)
    · have O : ∀ j, j < 12 → f0_L_one M 0 (nI i) (nI j) = some (sp_told σ i j) := fun j hj => q_one hS hI hi hj
      have o5 : f0_L_one M 0 (nI i) 5 = some (sp_f σ 5 i) := O 5 (by omega)
      have o6 : f0_L_one M 0 (nI i) 6 = some (sp_f σ 6 i) := O 6 (by omega)
      have o7 : f0_L_one M 0 (nI i) 7 = some (sp_rt σ i 60) := O 7 (by omega)
      have o8 : f0_L_one M 0 (nI i) 8 = some (sp_f σ 7 i) := O 8 (by omega)
      have o9 : f0_L_one M 0 (nI i) 9 = some (sp_f σ 8 i) := O 9 (by omega)
      have o10 : f0_L_one M 0 (nI i) 10 = some (sp_f σ 9 i) := O 10 (by omega)
      unfold f_L_fits_L22
      rw [w0, ms_b1, if_neg (nI_ge hi (by omega)), if_neg (by decide), q_isOne hS hJ ht hi, o5, o6, o7, o8, o9, o10]
      simp only [ms_b1, ms_nm, nI_1]
      rfl
    · unfold f_L_fits_L22
      rw [w0, ms_b1, if_pos (nI_le (Nat.le_refl _) (by omega))]
  have hbz : ∀ l, l < 16 → ∃ v, v < 2 ^ 31 ∧ sp_sm (sp_lfw σ l) n = nI v := fun l hl => by
    obtain ⟨v, v1, v2⟩ := q_sm_b (f := sp_lfw σ l) (k := 12) n (fun a ha => by
      obtain ⟨th, w, po, se, le, b1, b2, b3, b4, _⟩ := N a ha
      unfold sp_lfw
      by_cases q : σ (24 + 54 * a + 5) = nI 1 ∧ σ (24 + 54 * a + 4) = nI l
      · rw [if_pos q]; exact ⟨w, b4, b3⟩
      · rw [if_neg q]; exact ⟨0, by omega, rfl⟩)
    exact ⟨v, by omega, v2⟩
  have L142 : ∀ u : Int32 → Int32 → Int32 → Int32 → Int32 → Option Int32, ce_lp6 (f_L_fits_L142 M 0 u) ce_FU 0 0 0 0 0 0 = u (sp_sm (fun p => sp_lv σ n p 0) 16) (sp_sm (fun p => sp_lv σ n p 1) 16) (sp_sm (fun p => sp_lv σ n p 2) 16) (sp_sm (fun p => sp_lv σ n p 3) 16) (sp_bz (fun l => sp_sm (sp_lfw σ l) n) 16).2 := fun u => by
    refine ms_f6 (fun i => sp_sm (fun p => sp_lv σ n p 0) i) (fun i => sp_sm (fun p => sp_lv σ n p 1) i) (fun i => sp_sm (fun p => sp_lv σ n p 2) i) (fun i => sp_sm (fun p => sp_lv σ n p 3) i) (fun i => (sp_bz (fun l => sp_sm (sp_lfw σ l) n) i).2) (fun i => nI i) 16 (fun i hi rec => ?_) (fun rec => ?_) (by rw [ms_FU]; omega)
    · have v0 : f0_L_leaf M 0 (nI i) 0 = some (sp_lv σ n i 0) := q_leaf (j := 0) hS hI hi (by omega)
      have v1 : f0_L_leaf M 0 (nI i) 1 = some (sp_lv σ n i 1) := q_leaf (j := 1) hS hI hi (by omega)
      have v2 : f0_L_leaf M 0 (nI i) 2 = some (sp_lv σ n i 2) := q_leaf (j := 2) hS hI hi (by omega)
      have v3 : f0_L_leaf M 0 (nI i) 3 = some (sp_lv σ n i 3) := q_leaf (j := 3) hS hI hi (by omega)
      unfold f_L_fits_L142
      rw [if_neg (show ¬ (16 : Int32) ≤ nI i from nI_ge (b := 16) hi (by omega)), v0, v1, v2, v3]
      simp only [ms_b1, ms_nm, nI_1]
      show _ = rec _ _ _ _ (if sp_lv σ n i 2 ≤ (sp_bz (fun l => sp_sm (sp_lfw σ l) n) i).2 then sp_bz (fun l => sp_sm (sp_lfw σ l) n) i else (nI i, sp_lv σ n i 2)).2 _
      by_cases q : sp_lv σ n i 2 ≤ (sp_bz (fun l => sp_sm (sp_lfw σ l) n) i).2
      · rw [if_pos q, if_pos q]; rfl
      · rw [if_neg q, if_neg q]; rfl
    · unfold f_L_fits_L142
      rw [if_pos (by decide)]
  have L232 : ∀ u : Int32 → Option Int32, ce_lp2 (f_L_fits_L232 M 0 u) ce_FU 1 0 = u 1 := fun u => by
    refine ms_f2 (fun _ => 1) (fun i => nI i) en (fun i hi rec => ?_) (fun rec => ?_) (by rw [ms_FU]; omega)
    · obtain ⟨m, d, m1, m2, m3, m4, m5, m6⟩ := hJ.2.1 i (by omega)
      obtain ⟨xx, y, y1, y2, y3, y4⟩ := m6 hi
      have v2 : f0_L_event M 0 (nI i) 2 = some (nI xx) := (q_event (j := 2) hS hI hi (by omega)).trans (congrArg some y1)
      have v3 : f0_L_event M 0 (nI i) 3 = some (nI y) := (q_event (j := 3) hS hI hi (by omega)).trans (congrArg some y2)
      have v4 : f0_L_event M 0 (nI i) 4 = some (nI m) := (q_event (j := 4) hS hI hi (by omega)).trans (congrArg some m1)
      have v5 : f0_L_event M 0 (nI i) 5 = some (nI d) := (q_event (j := 5) hS hI hi (by omega)).trans (congrArg some m3)
      unfold f_L_fits_L232
      rw [w2, w3, v2, v3, v4, v5]
      simp only [ms_b1]
      rw [if_neg (nI_ge hi (by omega)), if_neg (by decide), if_pos m5, if_neg (nI_nlt y3 (by omega)), if_neg (nI_nlt y4 (by omega)), ms_nm, nI_1]
    · unfold f_L_fits_L232
      rw [w2, ms_b1, if_pos (nI_le (Nat.le_refl _) (by omega))]
  have L476 : ∀ u : Int32 → Int32 → Option Int32, ce_lp3 (f_L_fits_L476 M 0 (nI p) u) ce_FU 1 0 0 = u 1 (sp_rb σ p 2 (σ 0 - nI 0) n) := fun u => by
    refine ms_f3 (fun _ => 1) (fun i => sp_rb σ p 2 (σ 0 - nI 0) i) (fun i => nI i) n (fun i hi rec => ?_) (fun rec => ?_) (by rw [ms_FU]; omega)
    · obtain ⟨th, w, po, se, le, b1, b2, b3, b4, b5, b6, b7, b8, b9, b10, b11⟩ := N i hi
      have hrc := q_rcn (l := p) (v := 2) hJ (by omega) hi b1 b2 b8 b9 b10 b11
      have hwhy : f0_L_why M 0 (nI i) (nI p) 2 = some (sp_why σ i p 2) := q_why (v := 2) hS hI hi hp (by omega)
      have o5 : f0_L_one M 0 (nI i) 5 = some (nI th) := (q_one (j := 5) hS hI hi (by omega)).trans (congrArg some b1)
      have o6 : f0_L_one M 0 (nI i) 6 = some (nI w) := (q_one (j := 6) hS hI hi (by omega)).trans (congrArg some b3)
      have hcv := q_covers hS hI hi
      obtain ⟨_, _, r3⟩ := q_ovm se b9 le b11 p hp
      show _ = rec 1 (if sp_rc σ i p 2 (σ 0 - nI 0) = true then sp_rb σ p 2 (σ 0 - nI 0) i ||| (nI 1 <<< (nI i &&& nI 31)) else sp_rb σ p 2 (σ 0 - nI 0) i) (nI (i + 1))
      generalize sp_rb σ p 2 (σ 0 - nI 0) i = S
      unfold f_L_fits_L476
      rw [w0, hwhy, hcv, o5, o6]
      unfold sp_why sp_cv
      rw [b1, b8, b10, nI_clamp (by omega), nI_clamp (by omega), b3]
      rw [hrc]
      rcases (show th = 0 ∨ th = 1 by omega) with rfl | rfl
      · have e0 : (nI 0 = nI 0) = True := eq_true rfl
        have k0 : ((nI 0 >>> (nI p &&& 31)) &&& 1 = 1) = False := by
          refine eq_false ?_
          have := q_bit0 p
          unfold sp_bit at this
          intro q
          have q2 : nI 0 = 1 := this.symm.trans q
          exact absurd q2 (by decide)
        simp only [ms_b1, ms_nm, nI_1, q_ift, q_iff, q_n01, q_n00, q_n11, q_n10, q_k10, q_k01, k0, Int32.or_zero, if_neg (nI_ge hi (show n < 2 ^ 31 by omega)), show (nI 1 = (4 : Int32)) = False from eq_false (by decide)]
        rfl
      · have e0 : (nI 1 = nI 0) = False := eq_false (by decide)
        by_cases hov : sp_ov se le p 2 = true
        · have k0 : ((sp_ar se le >>> (nI p &&& 31)) &&& 1 = 1) = True := eq_true (r3.mpr hov)
          by_cases h12 : w = 12
          · subst h12
            simp only [ms_b1, ms_nm, nI_1, q_ift, q_iff, e0, hov, q_n01, q_n00, q_n11, q_n10, q_k10, q_k01, k0, if_neg (nI_ge hi (show n < 2 ^ 31 by omega)), show (nI 4 = (0 : Int32)) = False from eq_false (by decide), show (nI 4 = (4 : Int32)) = True from eq_true (by decide), show (nI 4 = (1 : Int32)) = False from eq_false (by decide), show (nI 12 = (12 : Int32)) = True from eq_true (by decide)]
            rfl
          · have k12 : (nI w = nI 12) = False := eq_false (fun q => h12 (ms_nI q (by omega) (by omega)))
            simp only [ms_b1, ms_nm, nI_1, q_ift, q_iff, e0, k12, hov, q_n01, q_n00, q_n11, q_n10, q_k10, q_k01, k0, if_neg (nI_ge hi (show n < 2 ^ 31 by omega)), show (nI 0 = (4 : Int32)) = False from eq_false (by decide)]
            rfl
        · have k0 : ((sp_ar se le >>> (nI p &&& 31)) &&& 1 = 1) = False := eq_false (fun q => hov (r3.mp q))
          have hov' : sp_ov se le p 2 = false := by
            cases h9 : sp_ov se le p 2
            · rfl
            · exact absurd h9 hov
          by_cases hov2 : sp_ov (σ (24 + 54 * i + 2)).toNatClampNeg le p 2 = true
          · simp only [ms_b1, ms_nm, nI_1, q_ift, q_iff, e0, hov', hov2, q_n01, q_n00, q_n11, q_n10, q_k10, q_k01, k0, Int32.or_zero, if_neg (nI_ge hi (show n < 2 ^ 31 by omega)), show (nI 2 = (0 : Int32)) = False from eq_false (by decide), show (nI 2 = (4 : Int32)) = False from eq_false (by decide), show (nI 2 = (1 : Int32)) = False from eq_false (by decide)]
            rfl
          · have hov2' : sp_ov (σ (24 + 54 * i + 2)).toNatClampNeg le p 2 = false := by
              cases h9 : sp_ov (σ (24 + 54 * i + 2)).toNatClampNeg le p 2
              · rfl
              · exact absurd h9 hov2
            simp only [ms_b1, ms_nm, nI_1, q_ift, q_iff, e0, hov', hov2', q_n01, q_n00, q_n11, q_n10, q_k10, q_k01, k0, Int32.or_zero, if_neg (nI_ge hi (show n < 2 ^ 31 by omega)), show (nI 3 = (0 : Int32)) = False from eq_false (by decide), show (nI 3 = (4 : Int32)) = False from eq_false (by decide), show (nI 3 = (1 : Int32)) = False from eq_false (by decide)]
            rfl
    · unfold f_L_fits_L476
      rw [w0, ms_b1, if_pos (nI_le (Nat.le_refl _) (by omega))]
  have E0 : sp_sm (fun p => sp_lv σ n p 0) 16 = sp_sm (sp_f σ 5) n := by
    refine (q_sm_x (sp_lfs σ) n 16).trans (sp_sm_eq n (fun a ha => ?_))
    obtain ⟨th, w, po, se, le, b1, b2, b3, b4, b5, b6, b7, b8, b9, b10, b11⟩ := N a ha
    show sp_sm (fun p => if σ (24 + 54 * a + 5) = nI 1 ∧ σ (24 + 54 * a + 4) = nI p then nI 1 else nI 0) 16 = σ (24 + 54 * a + 5)
    rw [q_hot b9 b8, b1]
    rcases (show th = 0 ∨ th = 1 by omega) with rfl | rfl
    · rfl
    · rfl
  have E1 : sp_sm (fun p => sp_lv σ n p 1) 16 = sp_sm (sp_f σ 7) n := (sp_sm_eq 16 (fun a ha => rfl)).trans hJ.2.2.2
  have E2 : sp_sm (fun p => sp_lv σ n p 2) 16 = sp_sm (sp_f σ 6) n := by
    refine (q_sm_x (sp_lfw σ) n 16).trans (sp_sm_eq n (fun a ha => ?_))
    obtain ⟨th, w, po, se, le, b1, b2, b3, b4, b5, b6, b7, b8, b9, b10, b11⟩ := N a ha
    show sp_sm (fun p => if σ (24 + 54 * a + 5) = nI 1 ∧ σ (24 + 54 * a + 4) = nI p then σ (24 + 54 * a + 6) else nI 0) 16 = σ (24 + 54 * a + 6)
    rw [q_hot b9 b8, b1]
    rcases (show th = 0 ∨ th = 1 by omega) with rfl | rfl
    · rw [if_neg (by decide), b3, b5 rfl]
    · rw [if_pos rfl]
  have E3 : sp_sm (fun p => sp_lv σ n p 3) 16 = sp_sm (sp_f σ 5) n := by
    refine (q_sm_x (sp_lfp σ) n 16).trans (sp_sm_eq n (fun a ha => ?_))
    obtain ⟨th, w, po, se, le, b1, b2, b3, b4, b5, b6, b7, b8, b9, b10, b11⟩ := N a ha
    show sp_sm (fun p => if σ (24 + 54 * a + 5) = nI 1 ∧ σ (24 + 54 * a + 2) = nI p then nI 1 else nI 0) 16 = σ (24 + 54 * a + 5)
    rw [q_hot b7 b6, b1]
    rcases (show th = 0 ∨ th = 1 by omega) with rfl | rfl
    · rfl
    · rfl
  have E4 : sp_sm (fun a => sp_rt σ a 60) n = sp_sm (sp_f σ 7) n + sp_sm (sp_f σ 8) n + sp_sm (sp_f σ 6) n + σ 7 := by
    obtain ⟨lo, j3, j4⟩ := hJ.2.2.1
    rw [← j4, ← q_sm_addf, ← q_sm_addf, ← q_sm_addf]
    refine sp_sm_eq n (fun a ha => ?_)
    obtain ⟨th, w, D, X, ch, hh, c, a1, a2, a3, a4, a5, a6, a7, a8, a9, a10, a11, a12, a13, a14, _, _, a17, _, _⟩ := j3 a ha
    show sp_rt σ a 60 = σ (24 + 54 * a + 7) + σ (24 + 54 * a + 8) + σ (24 + 54 * a + 6) + nI (lo a)
    rw [a17, a5, a6, a3, nI_add, nI_add, nI_add]
  have tl : sp_tl σ (nI 0) = 0 := q_tl0 hI (by omega)
  have V : ∀ v, v < 3 → f0_L_would M 0 (nI p) (nI v) 0 = some (sp_rb σ p v (σ 0 - nI 0) n) := fun v hv => (q_would (d := 0) hS hI hp hv (by omega)).trans (by rw [if_pos tl])
  have V2 : f0_L_would M 0 (nI p) 2 0 = some (sp_rb σ p 2 (σ 0 - nI 0) n) := V 2 (by omega)
  have V1 : f0_L_would M 0 (nI p) 1 0 = some (sp_rb σ p 1 (σ 0 - nI 0) n) := V 1 (by omega)
  have V0 : f0_L_would M 0 (nI p) 0 0 = some (sp_rb σ p 0 (σ 0 - nI 0) n) := V 0 (by omega)
  have m21 : ∀ a, a < n → sp_rc σ a p 2 (σ 0 - nI 0) = true → sp_rc σ a p 1 (σ 0 - nI 0) = true := fun a ha h => by
    obtain ⟨th, w, po, se, le, b1, b2, b3, b4, b5, b6, b7, b8, b9, b10, b11⟩ := N a ha
    rw [q_rcn hJ (by omega) ha b1 b2 b8 b9 b10 b11] at h ⊢
    exact Bool.and_eq_true_iff.mpr ⟨(Bool.and_eq_true_iff.mp h).1, (q_ovm se b9 le b11 p hp).1 (Bool.and_eq_true_iff.mp h).2⟩
  have m10 : ∀ a, a < n → sp_rc σ a p 1 (σ 0 - nI 0) = true → sp_rc σ a p 0 (σ 0 - nI 0) = true := fun a ha h => by
    obtain ⟨th, w, po, se, le, b1, b2, b3, b4, b5, b6, b7, b8, b9, b10, b11⟩ := N a ha
    rw [q_rcn hJ (by omega) ha b1 b2 b8 b9 b10 b11] at h ⊢
    exact Bool.and_eq_true_iff.mpr ⟨(Bool.and_eq_true_iff.mp h).1, (q_ovm se b9 le b11 p hp).2.1 (Bool.and_eq_true_iff.mp h).2⟩
  have or21 := q_rb_or n m21
  have or10 := q_rb_or n m10
  have and21 : (sp_rb σ p 1 (σ 0 - nI 0) n &&& sp_rb σ p 2 (σ 0 - nI 0) n = sp_rb σ p 2 (σ 0 - nI 0) n) = True := by
    refine eq_true ?_
    conv => lhs; lhs; rw [← or21]
    exact q_abs _ _
  have hb : f_X7_busiest 0 M = some (sp_bz (fun l => sp_sm (sp_lfw σ l) n) 16).1 := q_busiest hS hI
  have hfin : ∀ (A B : Option Int32), (if (sp_bz (fun l => sp_sm (sp_lfw σ l) n) 16).2 = 0 then (if (sp_bz (fun l => sp_sm (sp_lfw σ l) n) 16).1 = -1 then A else B) else ce_b1 (f0_L_leaf M 0 (sp_bz (fun l => sp_sm (sp_lfw σ l) n) 16).1 2) (fun x154 => if x154 = (sp_bz (fun l => sp_sm (sp_lfw σ l) n) 16).2 then A else B)) = A := fun A B => by
    rcases q_bz hbz 16 (Nat.le_refl _) with ⟨z1, z2⟩ | ⟨l, l1, l2, l3, l4⟩
    · rw [if_pos (show _ = (0 : Int32) from z1), if_pos z2]
    · rw [if_neg (show ¬ (sp_bz (fun l => sp_sm (sp_lfw σ l) n) 16).2 = (0 : Int32) from fun q => l4 (l3.symm.trans q)), l2, show f0_L_leaf M 0 (nI l) 2 = some (sp_lv σ n l 2) from q_leaf (j := 2) hS hI l1 (by omega), ms_b1, l3, if_pos (show sp_lv σ n l 2 = sp_sm (sp_lfw σ l) n from rfl)]
  unfold f_L_fits
  simp only [ms_nm, L22, L142, L232, L476, w1, w8, w9, w10, w11, w12, elow, V0, V1, V2, hb, ms_b1, E0, E1, E2, E3, E4, or10, and21, hfin, q_ift, q_iff, q_k10]
