/-! the loop that hands over -/
theorem sp_ho_o {σ : Nat → Int32} {a c wz j : Nat} {po : Int32} (hc : 1 ≤ c) (hc2 : c ≤ 10) (h4 : j ≠ 24 + 54 * a + 4) (h9 : j ≠ 24 + 54 * a + 9) (h10 : j ≠ 24 + 54 * a + 10) (h11 : j ≠ 24 + 54 * a + 11) (h : j < 24 + 54 * a + 24 ∨ 24 + 54 * a + 54 ≤ j) : sp_ho σ a c po wz j = σ j := by
  unfold sp_ho
  rw [ms_u2 h10, ms_u2 h9, sp_bs_o hc2 h4 h11 h, sp_h1_o hc h hc2]
theorem sp_ho_4 {σ : Nat → Int32} {a c wz : Nat} {po : Int32} : sp_ho σ a c po wz (24 + 54 * a + 4) = po := by
  unfold sp_ho
  rw [ms_u2 (by omega), ms_u2 (by omega)]; exact sp_bs_4
theorem sp_ho_11 {σ : Nat → Int32} {a c wz : Nat} {po : Int32} : sp_ho σ a c po wz (24 + 54 * a + 11) = nI (if c < 10 then c + 1 else 10) := by
  unfold sp_ho
  rw [ms_u2 (by omega), ms_u2 (by omega)]; exact sp_bs_11
theorem ms_IN_ho {σ : Nat → Int32} {t n en a c wz0 : Nat} (hI : ms_IN σ t n en) (ha : a < n) (hc : σ (24 + 54 * a + 11) = nI c) (hc1 : 1 ≤ c) (hc2 : c ≤ 10) : ms_IN (sp_ho σ a c (σ (24 + 54 * a + 2)) wz0) t n en := by
  have hI0 := hI
  obtain ⟨I0, I1, I1', I2, I2', I3, I4, I5, I6, I7, I8, I9, I10⟩ := hI
  obtain ⟨so, le, po, ca, se, th, wz, c9, i0, i0', i1, i1', i2, i2', i3, i3', i4, i4', i5, i5', i6, i6', i11, i11', iw, ip, ib, ix, is⟩ := I7 a (by omega)
  have e : c9 = c := ms_nI (i11.symm.trans hc) (by omega) (by omega)
  subst e
  have p : ∀ j, j < 24 → j ≠ 4 → j ≠ 9 → j ≠ 10 → j ≠ 11 → sp_ho σ a c9 (σ (24 + 54 * a + 2)) wz0 (24 + 54 * a + j) = σ (24 + 54 * a + j) := fun j h1 h2 h3 h4 h5 => sp_ho_o hc1 hc2 (by omega) (by omega) (by omega) (by omega) (by omega)
  have hc' : 1 ≤ (if c9 < 10 then c9 + 1 else 10) ∧ (if c9 < 10 then c9 + 1 else 10) ≤ 10 := by
    by_cases q : c9 < 10
    · rw [if_pos q]; omega
    · rw [if_neg q]; omega
  refine ms_IN_one hI0 ha ⟨so, le, po, ca, po, th, wz, (if c9 < 10 then c9 + 1 else 10), by rw [p 0 (by omega) (by omega) (by omega) (by omega) (by omega)]; exact i0, i0', by rw [p 1 (by omega) (by omega) (by omega) (by omega) (by omega)]; exact i1, i1', by rw [p 2 (by omega) (by omega) (by omega) (by omega) (by omega)]; exact i2, i2', by rw [p 3 (by omega) (by omega) (by omega) (by omega) (by omega)]; exact i3, i3', by rw [sp_ho_4]; exact i2, i2', by rw [p 5 (by omega) (by omega) (by omega) (by omega) (by omega)]; exact i5, i5', by rw [p 6 (by omega) (by omega) (by omega) (by omega) (by omega)]; exact i6, i6', sp_ho_11, hc'.2, iw, fun _ => rfl, fun i hi => by rw [p (12 + i) (by omega) (by omega) (by omega) (by omega) (by omega)]; exact ib i hi, fun i j h1 h2 => by rw [p (12 + i) (by omega) (by omega) (by omega) (by omega) (by omega), p (12 + j) (by omega) (by omega) (by omega) (by omega) (by omega)]; exact ix i j h1 h2, fun j hj => ?_⟩ ⟨_, hc'.1, hc'.2, sp_ho_11⟩ (fun j hj => sp_ho_o hc1 hc2 (by omega) (by omega) (by omega) (by omega) (by omega)) (fun b hb hne j hj => sp_ho_o hc1 hc2 (by omega) (by omega) (by omega) (by omega) (by omega)) (fun e he k hk => Or.inr (sp_ho_o hc1 hc2 (by omega) (by omega) (by omega) (by omega) (by omega)))
  generalize hd : (if c9 < 10 then c9 + 1 else 10) - (j + 1) = d
  have hd2 : d < (if c9 < 10 then c9 + 1 else 10) := by omega
  have hd3 : (if c9 < 10 then c9 + 1 else 10) - (d + 1) = j := by omega
  have h3 := (sp_bs_st (σ := sp_h1 σ a c9) (a := a) (c := c9) (lf := σ (24 + 54 * a + 2)) hc2 hd2).1
  rw [hd3] at h3
  unfold sp_ho
  rw [ms_u2 (by omega), ms_u2 (by omega), h3]
  by_cases q : d = 0
  · rw [if_pos q]; exact ⟨po, i2', i2⟩
  · rw [if_neg q]
    have hd4 : c9 - (d - 1 + 1) < c9 := by omega
    unfold sp_h1
    rw [ms_u2 (by omega)]
    exact is _ hd4
theorem cs_WR_ho {M : ce_M} {w a t n en c wz : Nat} {σ : Nat → Int32} (hR : ms_WR M w σ) (hI : ms_IN σ t n en) (ha : a < n) (i6 : σ (24 + 54 * a + 6) = nI wz) (i6' : wz ≤ 12) (hc : σ (24 + 54 * a + 11) = nI c) (hc1 : 1 ≤ c) (hc2 : c ≤ 10) : ∃ M', f_X4_handOver (w + 2 + (10 + 7 * a)) M (σ 0) (σ (3 + 2)) = some M' ∧ (ms_WR M' w (sp_ho σ a c (σ (24 + 54 * a + 2)) wz) ∧ ms_fr (w + 12) (w + 68) M M') := by
  have hR0 := hR
  have hn8 : n ≤ 8 := hI.2.2.1
  obtain ⟨R0, R1, R2, R3, R4, R5, R6, R7, R8⟩ := hR
  have ha8 : a < 8 := by omega
  obtain ⟨M', e1, s1, f1, l1⟩ := cs_handOver (t := t) (en := en) ha8 (R5 a ha8) i6 i6' hc hc1 hc2
  refine ⟨M', e1, cs_WR_one hR0 ha8 f1 s1 (fun j hj => sp_ho_o hc1 hc2 (by omega) (by omega) (by omega) (by omega) (by omega)) (fun l hl => sp_ho_o hc1 hc2 (by omega) (by omega) (by omega) (by omega) (by omega)) (fun b hb hne j hj => sp_ho_o hc1 hc2 (by omega) (by omega) (by omega) (by omega) (by omega)) (fun e he k hk => sp_ho_o hc1 hc2 (by omega) (by omega) (by omega) (by omega) (by omega)) ?_ (fun m q1 q2 => Or.inr l1), ms_fr_up f1 (by omega) (by omega)⟩
  rw [sp_ho_o hc1 hc2 (by omega) (by omega) (by omega) (by omega) (by omega), ← R7]
  refine sp_lost_eq 8 (fun b hb => ?_)
  by_cases q : b = a
  · rw [q]; exact l1
  · exact congrFun (f1.2 _ (by omega)) 11
