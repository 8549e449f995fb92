/-! a tick keeps what holds: the changes of leaf -/
theorem q_JK_up {σ : Nat → Int32} {t n en : Nat} {k k' : Nat → Nat} (hJ : q_JK σ t n en k) (h : ∀ a, a < n → k a ≤ k' a) : q_JK σ t n en k' := by
  obtain ⟨j1, j2, ⟨lo, j3, j4⟩, j5⟩ := hJ
  exact ⟨j1, j2, ⟨lo, fun a ha => q_A_cg (j3 a ha) (fun _ _ _ => rfl) (fun _ _ => rfl) (fun _ _ => rfl) (Nat.le_refl _) (Nat.le_refl _) j1.2.2.2.2.1 (h a ha), j4⟩, j5⟩
theorem q_JK_ho {ρ : Nat → Int32} {t n en a c w : Nat} {k : Nat → Nat} (hJ : q_JK ρ t n en k) (ha : a < n) (hk : k a = t) (i5 : ρ (24 + 54 * a + 5) = nI 1) (i6 : ρ (24 + 54 * a + 6) = nI w) (hw : w ≤ 12) (i11 : ρ (24 + 54 * a + 11) = nI c) (hc1 : 1 ≤ c) (hc2 : c ≤ 10) : q_JK (sp_ho ρ a c (ρ (24 + 54 * a + 2)) w) t n en (fun b => if b = a then t + 1 else k b) := by
  have hn := hJ.1.2.2.1
  have hen := hJ.1.2.2.2.2.1
  have h0 := hJ.1.1
  obtain ⟨s5, s51, s52⟩ := hJ.1.2.2.2.2.2.2.2.1
  have hI := ms_IN_ho (wz0 := w) hJ.1 ha i11 hc1 hc2
  generalize hpo : ρ (24 + 54 * a + 2) = po at hI ⊢
  have o : ∀ j, j ≠ 24 + 54 * a + 4 → j ≠ 24 + 54 * a + 9 → j ≠ 24 + 54 * a + 10 → j ≠ 24 + 54 * a + 11 → (j < 24 + 54 * a + 24 ∨ 24 + 54 * a + 54 ≤ j) → sp_ho ρ a c po w j = ρ j := fun j q1 q2 q3 q4 q5 => sp_ho_o hc1 hc2 q1 q2 q3 q4 q5
  have v4 : sp_ho ρ a c po w (24 + 54 * a + 4) = po := sp_ho_4
  have v11 : sp_ho ρ a c po w (24 + 54 * a + 11) = nI (if c < 10 then c + 1 else 10) := sp_ho_11
  have v9 : sp_ho ρ a c po w (24 + 54 * a + 9) = ρ (24 + 54 * a + 9) + nI 1 := by
    unfold sp_ho
    rw [ms_u2 (by omega), ms_u1 rfl]
  have v10 : sp_ho ρ a c po w (24 + 54 * a + 10) = if w = 0 then ρ (24 + 54 * a + 10) else ρ 0 + ρ (3 + 2) := by
    unfold sp_ho
    rw [ms_u1 rfl]
  have hh : ∀ j, sp_h1 ρ a c j = if j = 24 + 54 * a + (24 + 3 * c - 1) then ρ 0 else ρ j := fun j => by
    unfold sp_h1
    by_cases q : j = 24 + 54 * a + (24 + 3 * c - 1)
    · rw [if_pos q, ms_u1 q]
    · rw [if_neg q, ms_u2 q]
  have h10 : sp_h1 ρ a c 0 = nI t := by rw [hh, if_neg (by omega)]; exact h0
  obtain ⟨j1, j2, ⟨lo, j3, j4⟩, j5⟩ := hJ
  obtain ⟨th, w', D, X, ch, h', c', a1, a2, a3, a4, a5, a6, a7, a8, a9, a10, a11, a12, a13, a14, ⟨G, g1, g2, g3, g4, g5, g6⟩, ⟨Eb, b1, b2⟩, a17, a18, a19⟩ := j3 a ha
  have e5 : th = 1 := ms_nI (a1.symm.trans i5) (by omega) (by omega)
  have e6 : w' = w := ms_nI (a3.symm.trans i6) (by omega) (by omega)
  have hc'10 : c' ≤ 10 := by rw [a12]; split <;> omega
  have e11 : c' = c := ms_nI (a11.symm.trans i11) (by omega) (by omega)
  subst e5; subst e6; subst e11
  generalize hC : (if c' < 10 then c' + 1 else 10) = C at v11
  have hC1 : C ≤ 10 ∧ C ≤ c' + 1 ∧ 1 ≤ C := by
    rw [← hC]
    split <;> omega
  have st : ∀ i, i < C → sp_st (sp_ho ρ a c' po w') a C i 0 = (if i = 0 then po else sp_st ρ a c' (i - 1) 0) ∧ sp_st (sp_ho ρ a c' po w') a C i 1 = (if i = 0 then nI t else sp_st ρ a c' (i - 1) 1) ∧ sp_st (sp_ho ρ a c' po w') a C i 2 = (if i = 0 then -1 else if i = 1 then nI t else sp_st ρ a c' (i - 1) 2) := fun i hi => by
    have key := sp_bs_st (σ := sp_h1 ρ a c') (a := a) (lf := po) hc2 (j := i) (by rw [hC]; exact hi)
    rw [hC] at key
    obtain ⟨k1, k2, k3⟩ := key
    have out : ∀ j, j < 3 → sp_st (sp_ho ρ a c' po w') a C i j = sp_bs (sp_h1 ρ a c') a po c' (24 + 54 * a + (24 + 3 * (C - (i + 1)) + j)) := fun j hj => by
      unfold sp_st sp_ho
      rw [if_pos hi, ms_u2 (by omega), ms_u2 (by omega)]
    rw [out 0 (by omega), out 1 (by omega), out 2 (by omega), k1, k2, k3, h10]
    by_cases q : i = 0
    · rw [if_pos q, if_pos q, if_pos q, if_pos q, if_pos q, if_pos q]
      exact ⟨rfl, rfl, rfl⟩
    · rw [if_neg q, if_neg q, if_neg q, if_neg q, if_neg q, if_neg q]
      have hi2 : i - 1 < c' := by omega
      unfold sp_st
      rw [if_pos hi2, if_pos hi2, if_pos hi2, hh, hh, hh]
      refine ⟨by rw [if_neg (by omega)], by rw [if_neg (by omega)], ?_⟩
      by_cases q2 : i = 1
      · rw [if_pos (by omega), if_pos q2]; exact h0
      · rw [if_neg (by omega), if_neg q2]
  have he : ∀ e, e < 60 → ∀ k, k < 6 → sp_ho ρ a c' po w' (456 + 6 * e + k) = ρ (456 + 6 * e + k) := fun e h6 k hk => o _ (by omega) (by omega) (by omega) (by omega) (by omega)
  refine ⟨hI, q_E_cg j2 he (Nat.le_refl _) (Nat.le_refl _) (Nat.le_refl _), ⟨lo, fun b hb => ?_, ?_⟩, ?_⟩
  · by_cases q : b = a
    · subst q
      dsimp only
      rw [if_pos rfl]
      refine ⟨1, w', D, X, ch + 1, if w' = 0 then h' else t + s5, C, by rw [o _ (by omega) (by omega) (by omega) (by omega) (by omega)]; exact a1, by omega, by rw [o _ (by omega) (by omega) (by omega) (by omega) (by omega)]; exact a3, a4, by rw [o _ (by omega) (by omega) (by omega) (by omega) (by omega)]; exact a5, by rw [o _ (by omega) (by omega) (by omega) (by omega) (by omega)]; exact a6, by rw [v9, a7, nI_add], by omega, ?_, ?_, v11, ?_, a13, a14, ⟨fun k => if k = 0 then t else G (k - 1), fun k hk => ?_, fun k hk => ?_, ?_, Nat.le_refl _, fun _ => ?_, fun q => absurd q (by omega)⟩, ⟨Eb, fun i hi => ?_, b2⟩, by rw [q_rt_eq 60 (fun e h6 => by rw [he e h6 4 (by omega)])]; exact a17, a18, by rw [q_dt_eq 60 (fun e h6 => by rw [he e h6 5 (by omega)])]; exact a19⟩
      · rw [v10]
        by_cases q : w' = 0
        · rw [if_pos q, if_pos q]; exact a9
        · rw [if_neg q, if_neg q, h0, show ρ (3 + 2) = nI s5 from s52, nI_add]
      · split <;> omega
      · rw [← hC]
        by_cases q : ch < 9
        · rw [if_pos q] at a12
          by_cases q2 : ch + 1 < 9
          · rw [if_pos q2, if_pos (by omega), a12]
          · rw [if_neg q2]
            split <;> omega
        · rw [if_neg q] at a12
          rw [if_neg (by omega), if_neg (by omega)]
      · rw [(st k hk).2.1]
        dsimp only
        by_cases q : k = 0
        · rw [if_pos q, if_pos q]
        · rw [if_neg q, if_neg q]
          exact g1 (k - 1) (by omega)
      · rw [(st (k + 1) hk).2.2, if_neg (by omega)]
        dsimp only
        rw [if_neg (show ¬ k + 1 = 0 by omega)]
        by_cases q : k = 0
        · subst q
          rw [if_pos rfl, if_pos rfl]
          exact ⟨g4, rfl⟩
        · rw [if_neg q, if_neg (by omega)]
          obtain ⟨m, rfl⟩ : ∃ m, k = m + 1 := ⟨k - 1, by omega⟩
          exact g2 m (by omega)
      · rw [(st 0 (by omega)).1, if_pos rfl, v4]
      · rw [(st 0 (by omega)).2.2, if_pos rfl]
      · obtain ⟨c1, c2, c3, c4⟩ := b1 i hi
        exact ⟨by rw [o _ (by omega) (by omega) (by omega) (by omega) (by omega)]; exact c1, c2, by rw [he _ (by omega) 4 (by omega)]; exact c3, by rw [he _ (by omega) 5 (by omega)]; exact c4⟩
    · dsimp only
      rw [if_neg q]
      exact q_A_cg (j3 b hb) (fun j q1 q2 => o _ (by omega) (by omega) (by omega) (by omega) (by omega)) (fun e h6 => by rw [he e h6 4 (by omega)]) (fun e h6 => by rw [he e h6 5 (by omega)]) (Nat.le_refl _) (Nat.le_refl _) hen (Nat.le_refl _)
  · rw [o 7 (by omega) (by omega) (by omega) (by omega) (by omega)]; exact j4
  · rw [sp_sm_eq 16 (fun l hl => o (8 + l) (by omega) (by omega) (by omega) (by omega) (by omega)), j5]
    exact sp_sm_eq n (fun b hb => (o (24 + 54 * b + 7) (by omega) (by omega) (by omega) (by omega) (by omega)).symm)
theorem q_JK_hs {ρ : Nat → Int32} {t n en a : Nat} {k : Nat → Nat} (hJ : q_JK ρ t n en k) (ha : a < n) (hk : k a = t) : q_JK (sp_hs ρ a) t n en (fun b => if b = a then t + 1 else k b) := by
  have hn := hJ.1.2.2.1
  unfold sp_hs
  by_cases hdu : sp_du ρ a = true
  · rw [if_pos hdu]
    obtain ⟨so, le, po, ca, se, th, wz, c, i0, i0', i1, i1', i2, i2', i3, i3', i4, i4', i5, i5', i6, i6', i11, i11', iw, ip, ib, ix, is⟩ := hJ.1.2.2.2.2.2.2.2.2.2.1 a (by omega)
    obtain ⟨cc, c1, c2, c3⟩ := hJ.1.2.2.2.2.2.2.2.2.2.2.1 a ha
    have h5 : ρ (24 + 54 * a + 5) = nI 1 := by
      unfold sp_du at hdu
      exact of_decide_eq_true (Bool.and_eq_true_iff.mp hdu).1
    rw [c3, nI_clamp (by omega), i6, nI_clamp (by omega)]
    exact q_JK_ho hJ ha hk h5 i6 i6' c3 c1 c2
  · rw [if_neg hdu]
    refine q_JK_up hJ (fun b hb => ?_)
    split
    · rename_i q; rw [q, hk]; omega
    · exact Nat.le_refl _
theorem q_JK_hall {σ : Nat → Int32} {t n en : Nat} (hJ : q_J σ t n en) : ∀ i, i ≤ n → q_JK (sp_hall σ i) t n en (fun b => if b < i then t + 1 else t)
  | 0, _ => q_JK_up hJ (fun b hb => by split <;> omega)
  | i + 1, h => by
    have ih := q_JK_hall hJ i (by omega)
    refine q_JK_up (q_JK_hs ih (show i < n by omega) (by rw [if_neg (Nat.lt_irrefl i)])) (fun b hb => ?_)
    by_cases q : b = i
    · rw [if_pos q, if_pos (by omega)]; exact Nat.le_refl _
    · rw [if_neg q]
      by_cases q2 : b < i
      · rw [if_pos q2, if_pos (by omega)]; exact Nat.le_refl _
      · rw [if_neg q2, if_neg (by omega)]; exact Nat.le_refl _
