/-! a World copied -/
theorem cp_row {M : ce_M} {ks kd n q : Nat} (h : q ≠ kd) : ce_rd (ce_cp M ks kd n) q = ce_rd M q := funext fun i => if_neg (fun h2 => h h2.1)
theorem cp_in {M : ce_M} {ks kd n i : Nat} (h : i < n) : ce_rd (ce_cp M ks kd n) kd i = ce_rd M ks i := if_pos ⟨rfl, h⟩
theorem ms_ww {M : ce_M} {k j : Nat} {v : Int32} : ce_rd (ce_wr M k j v) k j = v := ms_rw1 rfl rfl
theorem cs_cpSub {M : ce_M} {k a1 a th : Nat} {σ : Nat → Int32} (hne : a1 + 7 ≤ k ∨ k + 7 ≤ a1) (hS : ms_SR M a1 σ a) (h5 : σ (24 + 54 * a + 5) = nI th) (h5' : th ≤ 1) : ∃ M', f_X4_copyFrom k M a1 = some M' ∧ ms_fr k (k + 7) M M' ∧ ms_SR M' k σ a ∧ ce_rd M' k 11 = ce_rd M a1 11 := by
  obtain ⟨r0, r1, r2, r3, r4, r5, r6, r7, r8, r9, r10, r11, r12, r13, r14⟩ := hS
  have g : ∀ K : Option ce_M, ce_gz (nI th) K = K := fun K => by
    by_cases c : th = 0
    · rw [c]; exact ms_gz0
    · rw [show th = 1 by omega]; exact ms_gz1
  unfold f_X4_copyFrom f_X3_copyFrom f_X2_copyFrom
  simp (disch := omega) only [ms_nm, ms_b1, ms_row, cp_row, ms_rw3, ms_ww, r0, r1, r2, r3, r4, r5, r6, r7, r8, r9, r10, r11, r12, h5, g]
  refine ⟨_, rfl, ?_, ?_, ?_⟩
  · exact ⟨rfl, fun q hq => by simp (disch := omega) only [ms_row, cp_row]⟩
  · refine ⟨?_, ?_, ?_, ?_, ?_, ?_, ?_, ?_, ?_, ?_, ?_, ?_, ?_, fun w h1 h2 i hi => ?_, fun c h1 h2 j hj => ?_⟩ <;> simp (disch := omega) only [ms_row, cp_row, ms_rw3, ms_ww, cp_in, h5]
    · exact r13 w h1 h2 i hi
    · exact r14 c h1 h2 j hj
  · simp (disch := omega) only [ms_row, cp_row, ms_rw3, ms_ww, cp_in]
theorem cs_cploop {M : ce_M} {k a1 t n en : Nat} {σ : Nat → Int32} (hR : ms_WR M a1 σ) (hI : ms_IN σ t n en) (hne : a1 + 68 ≤ k ∨ k + 68 ≤ a1) (u : ce_M → Option ce_M) (P : ce_M → Prop) {M0 : ce_M} (hM : ∀ q, q ≠ k + 1 → ce_rd M0 q = ce_rd M q) (hu : ∀ M1, ms_fr (k + 12) (k + 68) M0 M1 → (∀ b, b < 8 → ms_SR M1 (k + 2 + (10 + 7 * b)) σ b ∧ ce_rd M1 (k + 2 + (10 + 7 * b)) 11 = ce_rd M (a1 + 2 + (10 + 7 * b)) 11) → ∃ r, u M1 = some r ∧ P r) : ∃ r, ce_lp2 (f_X6_copyFrom_L16 k a1 u) ce_FU M0 0 = some r ∧ P r := by
  refine ms_p2 (F := f_X6_copyFrom_L16 k a1 u) (fun m M1 x => ∃ i, x = nI i ∧ i + m = 8 ∧ ms_fr (k + 12) (k + 68) M0 M1 ∧ (∀ b, b < i → ms_SR M1 (k + 2 + (10 + 7 * b)) σ b ∧ ce_rd M1 (k + 2 + (10 + 7 * b)) 11 = ce_rd M (a1 + 2 + (10 + 7 * b)) 11)) P (fun m rec M1 x hrec hJ => ?_) 8 ce_FU M0 0 (by rw [ms_FU]; omega) ⟨0, rfl, by omega, ms_fr_r, fun b hb => absurd hb (by omega)⟩
  obtain ⟨i, rfl, him, j1, j2⟩ := hJ
  unfold f_X6_copyFrom_L16
  by_cases c0 : m = 0
  · have e : i = 8 := by omega
    subst e
    rw [if_pos (show (8 : Int32) ≤ nI 8 from by decide)]
    exact hu M1 j1 j2
  · have hi : i < 8 := by omega
    obtain ⟨R0, R1, R2, R3, R4, R5, R6, R7, R8⟩ := hR
    obtain ⟨I0, I1, I1', I2, I2', I3, I4, I5, I6, I7, I8, I9, I10⟩ := hI
    obtain ⟨so, le, po, ca, se, th, wz, c, i0, i0', i1, i1', i2, i2', i3, i3', i4, i4', i5, i5', i6, i6', i11, i11', iw, ip, ib, ix, is⟩ := I7 i hi
    have hs : ∀ q, a1 + 12 ≤ q → q < a1 + 68 → ce_rd M1 q = ce_rd M q := fun q h1 h2 => (j1.2 q (by omega)).trans (hM q (by omega))
    have hS1 : ms_SR M1 (a1 + 2 + (10 + 7 * i)) σ i := ms_SR_fr (R5 i hi) (fun q h1 h2 => hs q (by omega) (by omega)) (fun _ _ => rfl) rfl
    obtain ⟨M2, e2, f2, s2, l2⟩ := cs_cpSub (k := k + 2 + (10 + 7 * i)) (a1 := a1 + 2 + (10 + 7 * i)) (by omega) hS1 i5 i5'
    rw [if_neg (show ¬ (8 : Int32) ≤ nI i from nI_ge (b := 8) hi (by omega)), ms_gi (show i < 8 by omega) (show 8 < 2 ^ 31 by omega), nI_clamp (show i < 2 ^ 31 by omega), ms_nm, ms_gi (show i < 8 by omega) (show 8 < 2 ^ 31 by omega), ms_nm, e2, ms_b1, ms_nm]
    refine hrec (m - 1) (by omega) _ _ ⟨i + 1, nI_1 i, by omega, ms_fr_t j1 (ms_fr_up f2 (by omega) (by omega)), fun b hb => ?_⟩
    by_cases d : b = i
    · subst d
      exact ⟨s2, l2.trans (congrFun (hs _ (by omega) (by omega)) 11)⟩
    · obtain ⟨x1, x2⟩ := j2 b (by omega)
      exact ⟨ms_SR_fr x1 (fun q h1 h2 => f2.2 q (by omega)) (fun _ _ => rfl) rfl, (congrFun (f2.2 _ (by omega)) 11).trans x2⟩
theorem cs_copy {M : ce_M} {k a1 t n en : Nat} {σ : Nat → Int32} (hR : ms_WR M a1 σ) (hI : ms_IN σ t n en) (hne : a1 + 68 ≤ k ∨ k + 68 ≤ a1) : ∃ M', f_X6_copyFrom k M a1 = some M' ∧ ms_WR M' k σ ∧ ms_fr k (k + 68) M M' := by
  unfold f_X6_copyFrom
  rw [ms_nm, ms_nm]
  refine cs_cploop hR hI hne _ (fun M' => ms_WR M' k σ ∧ ms_fr k (k + 68) M M') (fun q hq => cp_row hq) (fun M1 j1 j2 => ?_)
  obtain ⟨R0, R1, R2, R3, R4, R5, R6, R7, R8⟩ := hR
  have hs : ∀ q, q < k ∨ k + 68 ≤ q → ce_rd M1 q = ce_rd M q := fun q h1 => (j1.2 q (by omega)).trans (cp_row (by omega))
  have h1 : ∀ j, j < 4 → ce_rd M1 (k + 1) j = ce_rd M (a1 + 1) j := fun j hj => (congrFun (j1.2 (k + 1) (by omega)) j).trans (cp_in hj)
  unfold f_X1_copyFrom
  simp only [ms_nm, ms_b1]
  refine ⟨_, rfl, ?_, ?_⟩
  · have hS := fun b hb => (j2 b hb).1
    refine ⟨?_, ?_, ?_, fun i hi => ?_, fun l hl => ?_, fun a ha => ?_, fun e he => ?_, ?_, fun m q1 q2 a q3 q4 => ?_⟩
    · simp (disch := omega) only [ms_row, cp_row, ms_rw3, ms_ww, hs]; exact R0
    · simp (disch := omega) only [ms_row, cp_row, ms_rw3, ms_ww, hs]; exact R1
    · simp (disch := omega) only [ms_row, cp_row, ms_rw3, ms_ww, hs]; exact R2
    · simp (disch := omega) only [ms_row, cp_row, h1]; exact R3 i hi
    · simp (disch := omega) only [ms_row, cp_row, cp_in, hs]; exact R4 l hl
    · exact ms_SR_fr (hS a ha) (fun q h1 h2 => by simp (disch := omega) only [ms_row, cp_row]) (fun _ _ => rfl) rfl
    · simp (disch := omega) only [ms_row, cp_row, cp_in, hs]; exact R6 e he
    · rw [← R7]
      have e : ∀ N : ce_M, (∀ b, b < 8 → ce_rd N (k + 2 + (10 + 7 * b)) 11 = ce_rd M (a1 + 2 + (10 + 7 * b)) 11) → ∀ m, m ≤ 8 → sp_lost N k m = sp_lost M a1 m := fun N hN m => by
        induction m with
        | zero => intro _; rfl
        | succ m ih =>
          intro hm
          show sp_lost N k m + _ = sp_lost M a1 m + _
          rw [ih (by omega), hN m (by omega)]
      refine e _ (fun b hb => ?_) 8 (by omega)
      simp (disch := omega) only [ms_row, cp_row]
      exact (j2 b hb).2
    · simp (disch := omega) only [ms_row, cp_row]
      rw [(j2 a q4).2]
      exact R8 m q1 q2 a q3 q4
  · refine ⟨?_, fun q hq => ?_⟩
    · exact j1.1
    · simp (disch := omega) only [ms_row, cp_row, hs]
