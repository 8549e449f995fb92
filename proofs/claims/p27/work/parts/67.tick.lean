/-! the deliveries of a tick: the class; the tick -/
theorem cs_deliver_no {M : ce_M} {w a t n en : Nat} {σ : Nat → Int32} (hR : ms_WR M w σ) (hI : ms_IN σ t n en) (ha : a < n) (hc : ¬ (σ (24 + 54 * a + 5) = nI 1 ∧ σ (24 + 54 * a + 10) ≤ σ 0)) : f_X6_deliverTo w M (nI a) = some (M, 0) := by
  obtain ⟨R0, R1, R2, R3, R4, R5, R6, R7, R8⟩ := hR
  obtain ⟨I0, I1, I1', I2, I2', I3, I4, I5, I6, I7, I8, I9, I10⟩ := hI
  have ha8 : a < 8 := by omega
  have hS := R5 a ha8
  obtain ⟨r0, r1, r2, r3, r4, r5, r6, r7, r8, r9, r10, r11, r12, r13, r14⟩ := hS
  obtain ⟨so, le, po, ca, se, th, wz, c, i0, i0', i1, i1', i2, i2', i3, i3', i4, i4', i5, i5', i6, i6', i11, i11', iw, ip, ib, ix, is⟩ := I7 a ha8
  unfold f_X6_deliverTo
  rw [ms_gi ha8 (by omega), nI_clamp (show a < 2 ^ 31 by omega), ms_nm, r5]
  by_cases c1 : th = 0
  · rw [i5, c1, if_pos (show nI 0 = 0 from rfl)]
  · have e1 : th = 1 := by omega
    have c2 : ¬ σ (24 + 54 * a + 10) ≤ σ 0 := fun q => hc ⟨by rw [i5, e1], q⟩
    rw [i5, e1, if_neg (show ¬ nI 1 = 0 by decide), r10, R0, if_neg c2]
theorem cs_dall {M : ce_M} {w t n en cp : Nat} {z : (Nat → Int32) × (Nat → Int32) × Int32} (h : ms_DZ z t n en cp 0) (hcp : cp ≤ 9) (hR : ms_WR M w z.1) (hκ : ∀ l, l < 16 → ce_rd M (w + 11) l = z.2.1 l) (h0 : z.2.2 = nI 0) (u : ce_M → Int32 → Option (ce_M × Int32)) (P : ce_M × Int32 → Prop) (hu : ∀ M1, ms_WR M1 w (sp_dall z n).1 → ms_fr w (w + 68) M M1 → ∃ r, u M1 (sp_dall z n).2.2 = some r ∧ P r) : ∃ r, ce_lp3 (f_X6_passTick_L79 w u) ce_FU M 0 0 = some r ∧ P r := by
  have hn8 : n ≤ 8 := h.1.2.2.1
  refine ms_p3 (F := f_X6_passTick_L79 w u) (fun m M1 y x => ∃ i, x = nI i ∧ i + m = n ∧ y = (sp_dall z i).2.2 ∧ ms_WR M1 w (sp_dall z i).1 ∧ ms_fr w (w + 68) M M1 ∧ (∀ l, l < 16 → ce_rd M1 (w + 11) l = (sp_dall z i).2.1 l)) P (fun m rec M1 y x hrec hJ => ?_) n ce_FU M 0 0 (by rw [ms_FU]; omega) ⟨0, rfl, by omega, h0.symm, hR, ms_fr_r, hκ⟩
  obtain ⟨i, rfl, him, rfl, j1, j2, j3⟩ := hJ
  have hD := ms_DZ_all h hcp i (by omega)
  have j1' := j1
  obtain ⟨R0, R1, R2, R3, R4, R5, R6, R7, R8⟩ := j1'
  obtain ⟨hI, h1, h2, m9, h3, h4⟩ := hD
  have hI0 := hI
  obtain ⟨I0, I1, I1', I2, I2', I3, I4, I5, I6, I7, I8, I9, I10⟩ := hI
  unfold f_X6_passTick_L79
  rw [R1, I1]
  by_cases c0 : m = 0
  · have e : i = n := by omega
    subst e
    rw [if_pos (nI_le (show i ≤ i by omega) (show i < 2 ^ 31 by omega))]
    exact hu M1 j1 j2
  · have hi : i < n := by omega
    have hi8 : i < 8 := by omega
    rw [if_neg (nI_ge (show i < n by omega) (show n < 2 ^ 31 by omega))]
    by_cases cc : (sp_dall z i).1 (24 + 54 * i + 5) = nI 1 ∧ (sp_dall z i).1 (24 + 54 * i + 10) ≤ (sp_dall z i).1 0
    · obtain ⟨so, le, po, ca, se, th, wz, c, i0, i0', i1, i1', i2, i2', i3, i3', i4, i4', i5, i5', i6, i6', i11, i11', iw, ip, ib, ix, is⟩ := I7 i hi8
      obtain ⟨q, q1, q2⟩ := h2 se i4'
      obtain ⟨M2, e2, w2, f2, k2⟩ := cs_deliver j1 hI0 hi i6 i6' i4 i4' cc.1 cc.2 h1 hcp ((j3 se i4').trans q2) q1
      have hs : sp_dall z (i + 1) = sp_dx (sp_dall z i) i wz se cp q := sp_ds_y cc.1 cc.2 i6 i6' i4 i4' h1 hcp q2 (by omega)
      rw [e2, ms_b2, ms_nm, ms_nm]
      refine hrec (m - 1) (by omega) _ _ _ ⟨i + 1, nI_1 i, by omega, ?_, ?_, ms_fr_t j2 f2, fun l hl => ?_⟩
      · rw [hs]; rfl
      · rw [hs]; exact w2
      · rw [hs, k2 l]
        show (if l = se then nI (q + sp_d wz cp q) else ce_rd M1 (w + 11) l) = upd (sp_dall z i).2.1 se (nI (q + sp_d wz cp q)) l
        by_cases d : l = se
        · rw [if_pos d, ms_u1 d]
        · rw [if_neg d, ms_u2 d]; exact j3 l hl
    · have hs : sp_dall z (i + 1) = sp_dall z i := if_neg cc
      rw [cs_deliver_no j1 hI0 hi cc, ms_b2, ms_nm, ms_nm]
      refine hrec (m - 1) (by omega) _ _ _ ⟨i + 1, nI_1 i, by omega, ?_, ?_, j2, fun l hl => ?_⟩
      · rw [hs]; exact ms_add0 _
      · rw [hs]; exact j1
      · rw [hs]; exact j3 l hl
def sp_z (M : ce_M) (k : Nat) : Nat → ce_M
  | 0 => M
  | i + 1 => ce_wr (sp_z M k i) k i 0
theorem sp_z_v (M : ce_M) (k : Nat) : ∀ i, (sp_z M k i).2 = M.2 ∧ (∀ q, q ≠ k → ce_rd (sp_z M k i) q = ce_rd M q) ∧ (∀ l, l < i → ce_rd (sp_z M k i) k l = nI 0) := by
  intro i
  induction i with
  | zero => exact ⟨rfl, fun _ _ => rfl, fun l hl => absurd hl (by omega)⟩
  | succ i ih =>
    refine ⟨ih.1, fun q hq => (ms_row hq).trans (ih.2.1 q hq), fun l hl => ?_⟩
    by_cases d : l = i
    · exact ms_rw1 rfl d
    · exact (ms_rw3 d).trans (ih.2.2 l (by omega))
theorem cs_zero (M : ce_M) (w : Nat) (u : ce_M → Option (ce_M × Int32)) : ce_lp2 (f_X6_passTick_L56 w u) ce_FU M 0 = u (sp_z M (w + 11) 16) := by
  refine ms_f2 (F := f_X6_passTick_L56 w u) (fun i => sp_z M (w + 11) i) (fun i => nI i) 16 (fun i hi rec => ?_) (fun rec => ?_) (by rw [ms_FU]; omega)
  · unfold f_X6_passTick_L56
    rw [if_neg (show ¬ (16 : Int32) ≤ nI i from nI_ge (b := 16) hi (by omega)), ms_gi (show i < 16 by omega) (show 16 < 2 ^ 31 by omega), nI_clamp (show i < 2 ^ 31 by omega), ms_nm, ms_nm, nI_1]
    rfl
  · unfold f_X6_passTick_L56
    rw [if_pos (show (16 : Int32) ≤ nI 16 from by decide)]
theorem ms_zeroT (M : ce_M) (σ : Nat → Int32) (u : ce_M → Option (ce_M × Int32)) : ce_lp2 (f_X8_ticks_L4 414 u) ce_FU (ms_S M σ) 0 = u (ms_S (sp_z M 418 16) σ) := by
  refine ms_f2 (F := f_X8_ticks_L4 414 u) (fun i => ms_S (sp_z M 418 i) σ) (fun i => nI i) 16 (fun i hi rec => ?_) (fun rec => ?_) (by rw [ms_FU]; omega)
  · unfold f_X8_ticks_L4
    rw [if_neg (show ¬ (16 : Int32) ≤ nI i from nI_ge (b := 16) hi (by omega)), ms_gi (show i < 16 by omega) (show 16 < 2 ^ 31 by omega), nI_clamp (show i < 2 ^ 31 by omega), ms_nm, ms_nm, nI_1, ms_wr' _ _ (show 414 + 4 ≠ 415 by omega)]
    rfl
  · unfold f_X8_ticks_L4
    rw [if_pos (show (16 : Int32) ≤ nI 16 from by decide)]
def sp_tz (σ : Nat → Int32) (n : Nat) : (Nat → Int32) × (Nat → Int32) × Int32 := sp_dall (sp_hall σ n, (fun _ => nI 0), nI 0) n
def sp_tick (σ : Nat → Int32) (n : Nat) : Nat → Int32 := upd (sp_tz σ n).1 0 (σ 0 + nI 1)
theorem ms_DZ_h {σ : Nat → Int32} {t n en : Nat} (hI : ms_IN σ t n en) : ∃ cp, cp ≤ 9 ∧ ms_DZ (sp_hall σ n, (fun _ => nI 0), nI 0) t n en cp 0 := by
  have h := ms_IN_hall hI n (Nat.le_refl n)
  obtain ⟨cp, h1, h2, h3⟩ := h.2.2.2.2.2.2.1
  exact ⟨cp, h2, h, h3, fun l _ => ⟨0, by omega, rfl⟩, 0, by omega, rfl⟩
theorem sp_tz_v {σ : Nat → Int32} {t n en : Nat} (hI : ms_IN σ t n en) : ms_IN (sp_tick σ n) (t + 1) n en ∧ (∃ m, m ≤ 96 ∧ (sp_tz σ n).2.2 = nI m) ∧ (sp_tz σ n).1 0 = σ 0 := by
  obtain ⟨cp, h1, h2⟩ := ms_DZ_h hI
  have h := ms_DZ_all h2 h1 n (Nat.le_refl n)
  have hn8 : n ≤ 8 := hI.2.2.1
  obtain ⟨a1, a2, a3, m, a4, a5⟩ := h
  refine ⟨?_, ⟨m, by omega, a5⟩, a1.1.trans hI.1.symm⟩
  unfold sp_tick
  rw [hI.1, nI_add]
  exact ms_IN_t a1
theorem ms_tick (M : ce_M) {σ : Nat → Int32} {t n en : Nat} (hI : ms_IN σ t n en) : ∃ M1, f_X8_ticks 414 (ms_S M σ) = some (ms_S M1 (sp_tick σ n), (sp_tz σ n).2.2) ∧ M1.2 = M.2 ∧ (∀ q, q ≠ 418 → ce_rd M1 q = ce_rd M q) := by
  obtain ⟨cp, h1, h2⟩ := ms_DZ_h hI
  obtain ⟨z1, z2, z3⟩ := sp_z_v M 418 16
  obtain ⟨M1, e1, f1, f2⟩ := ms_dall (sp_z M 418 16) h2 h1 (fun l hl => z3 l hl) rfl (fun (M18 : ce_M) (x19 : Int32) => ce_gi 0 816 (ce_nm (ce_rd M18 (414 + 1) (Int32.toNatClampNeg 0)) (fun (x21 : Int32) => ce_gi 0 816 (ce_nm (ce_wr M18 (414 + 1) (Int32.toNatClampNeg 0) (x21 + 1)) (fun (M24 : ce_M) => some (M24, x19))))))
  refine ⟨M1, ?_, f1.trans z1, fun q hq => (f2 q hq).trans (z2 q hq)⟩
  unfold f_X8_ticks
  rw [ms_nm, ms_zeroT, ms_nm, ms_hloop _ hI, ms_nm]
  refine e1.trans ?_
  have g0 : ∀ K : Option (ce_M × Int32), ce_gi 0 816 K = K := fun K => ms_gi (n := 0) (by omega) (by omega)
  show ce_gi 0 816 _ = _
  rw [g0, ms_nm, g0, ms_nm, show Int32.toNatClampNeg 0 = 0 from rfl, ms_wr1, ms_rd1]
  show some (ms_S M1 (upd (sp_tz σ n).1 0 ((sp_tz σ n).1 0 + nI 1)), (sp_tz σ n).2.2) = _
  rw [(sp_tz_v hI).2.2]
  rfl
theorem cs_tick {M : ce_M} {w t n en : Nat} {σ : Nat → Int32} (hR : ms_WR M w σ) (hI : ms_IN σ t n en) : ∃ M', f_X6_passTick w M = some (M', (sp_tz σ n).2.2) ∧ ms_WR M' w (sp_tick σ n) ∧ ms_fr w (w + 68) M M' := by
  obtain ⟨cp, h1, h2⟩ := ms_DZ_h hI
  have hT := sp_tz_v hI
  have hP : ∃ r, f_X6_passTick w M = some r ∧ (r.2 = (sp_tz σ n).2.2 ∧ ms_WR r.1 w (sp_tick σ n) ∧ ms_fr w (w + 68) M r.1) := by
    unfold f_X6_passTick
    rw [ms_nm]
    refine cs_hloop hR hI _ _ (fun M1 j1 j2 => ?_)
    rw [ms_nm, cs_zero, ms_nm]
    obtain ⟨z1, z2, z3⟩ := sp_z_v M1 (w + 11) 16
    refine cs_dall h2 h1 (ms_WR_k j1 (fun q _ _ hq => z2 q hq)) (fun l hl => z3 l hl) rfl _ _ (fun M2 k1 k2 => ?_)
    have k1' := k1
    obtain ⟨R0, R1, R2, R3, R4, R5, R6, R7, R8⟩ := k1'
    refine ⟨(ce_wr M2 w 6 (σ 0 + nI 1), (sp_tz σ n).2.2), ?_, rfl, cs_W6 k1 _, ms_fr_t (ms_fr_up j2 (by omega) (by omega)) (ms_fr_t ⟨z1, fun q hq => z2 q (by omega)⟩ (ms_fr_t k2 (ms_fr_w (by omega) (by omega))))⟩
    rw [R0, show (sp_dall (sp_hall σ n, (fun _ => nI 0), nI 0) n).1 0 = σ 0 from hT.2.2, ms_nm]
    rfl
  obtain ⟨r, e1, e3, e4⟩ := hP
  exact ⟨r.1, by rw [e1, ← e3], e4⟩
