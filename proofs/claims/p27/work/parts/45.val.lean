/-! the values that are told -/
def sp_tl (σ : Nat → Int32) (x : Int32) : Int32 := if σ (3 + 3) < x then nI 1 else if x ≤ σ 0 then nI 0 else nI 1
theorem cs_tooLate {M : ce_M} {w : Nat} {σ : Nat → Int32} (hR : ms_WR M w σ) (x : Int32) : f_X6_isTooLate w M x = some (sp_tl σ x) := by
  obtain ⟨R0, R1, R2, R3, R4, R5, R6, R7, R8⟩ := hR
  unfold f_X6_isTooLate sp_tl
  simp only [ms_lit, ms_gi (show 3 < 4 by omega) (show 4 < 2 ^ 31 by omega), nI_clamp (show 3 < 2 ^ 31 by omega), ms_nm, R3 3 (show 3 < 4 by omega), R0]
  by_cases c1 : σ (3 + 3) < x <;> by_cases c2 : x ≤ σ 0 <;> simp only [c1, c2, if_true, if_false]
theorem ms_tooLate (M : ce_M) {σ : Nat → Int32} (x : Int32) : f_X8_isTooLate 414 (ms_S M σ) x = some (sp_tl σ x) := by
  unfold f_X8_isTooLate sp_tl
  simp only [ms_lit, ms_set M σ (show 3 < 4 by omega), ms_b1, ms_gi (show 0 < 816 by omega) (show 816 < 2 ^ 31 by omega), nI_clamp (show 0 < 2 ^ 31 by omega), ms_rd1, ms_nm]
  by_cases c1 : σ (3 + 3) < x <;> by_cases c2 : x ≤ σ 0 <;> simp only [c1, c2, if_true, if_false]
def sp_dw (σ : Nat → Int32) (a : Nat) : Int32 := if σ (24 + 54 * a + 0) = nI 0 then σ (3 + 0) else σ (3 + 0) / nI 2
theorem sp_dw_v {σ : Nat → Int32} {t n en : Nat} (a : Nat) (hI : ms_IN σ t n en) : ∃ d, d ≤ 9 ∧ sp_dw σ a = nI d := by
  obtain ⟨I0, I1, I1', I2, I2', I3, I4, I5, I6, I7, I8, I9, I10⟩ := hI
  obtain ⟨s, hs, h3⟩ := I3
  unfold sp_dw
  rw [show σ (3 + 0) = nI s from h3]
  by_cases c : σ (24 + 54 * a + 0) = nI 0
  · rw [if_pos c]; exact ⟨s, hs, rfl⟩
  · rw [if_neg c, pk_div (by omega) (by omega) (by omega)]; exact ⟨s / 2, by omega, rfl⟩
theorem cs_dwell {M : ce_M} {k a : Nat} {σ : Nat → Int32} (hR : ms_SR M k σ a) : f_X4_dwellTime k M (σ (3 + 0)) = some (sp_dw σ a) := by
  obtain ⟨r0, r1, r2, r3, r4, r5, r6, r7, r8, r9, r10, r11, r12, r13, r14⟩ := hR
  unfold f_X4_dwellTime sp_dw
  simp only [ms_lit, r0]
  by_cases c : σ (24 + 54 * a + 0) = nI 0 <;> simp only [c, if_true, if_false]
theorem ms_dwell (M : ce_M) {a t en : Nat} {σ : Nat → Int32} (ha : a < 8) (hI : ms_SI σ a t en) (hne : σ (24 + 54 * a + 2) ≠ σ (24 + 54 * a + 4)) : f_X8_dwellOf 414 (ms_S M σ) (nI a) = some (sp_dw σ a) := by
  obtain ⟨so, le, po, ca, se, th, wz, c, i0, i0', i1, i1', i2, i2', i3, i3', i4, i4', i5, i5', i6, i6', i11, i11', iw, ip, ib, ix, is⟩ := hI
  unfold f_X8_dwellOf sp_dw
  simp only [ms_lit, ms_of M σ ha (show 0 < 54 by omega), ms_b1, i0, ms_set M σ (show 0 < 4 by omega)]
  have hso : so ≠ 2 := fun q => hne (by rw [i2, i4, ip q])
  rcases (by omega : so = 0 ∨ so = 1) with rfl | rfl
  · simp only [ms_01, if_true, if_false]
  · simp only [ms_10, if_true, if_false]
def sp_ch (σ : Nat → Int32) (a : Nat) : Int32 := if σ (24 + 54 * a + 5) = nI 0 then -1 else if σ (24 + 54 * a + 2) = σ (24 + 54 * a + 4) then nI 0 else (ce_max (σ (24 + 54 * a + 3) + sp_dw σ a) (σ 0) - σ 0) + nI 1
theorem cs_until {M : ce_M} {w a t n en : Nat} {σ : Nat → Int32} (hR : ms_WR M w σ) (ha : a < 8) : f_X6_ticksUntilServed w M (nI a) = some (sp_ch σ a) := by
  obtain ⟨R0, R1, R2, R3, R4, R5, R6, R7, R8⟩ := hR
  have hd := cs_dwell (R5 a ha)
  obtain ⟨r0, r1, r2, r3, r4, r5, r6, r7, r8, r9, r10, r11, r12, r13, r14⟩ := R5 a ha
  unfold f_X6_ticksUntilServed sp_ch
  simp only [ms_lit, ms_gi (show a < 8 by omega) (show 8 < 2 ^ 31 by omega), nI_clamp (show a < 2 ^ 31 by omega), ms_nm, r5, r2, r4, r3, ms_gi (show 0 < 4 by omega) (show 4 < 2 ^ 31 by omega), nI_clamp (show 0 < 2 ^ 31 by omega), R3 0 (show 0 < 4 by omega), hd, ms_b1, R0, ms_neg1]
  by_cases c1 : σ (24 + 54 * a + 5) = nI 0 <;> by_cases c2 : σ (24 + 54 * a + 2) = σ (24 + 54 * a + 4) <;> simp only [c1, c2, if_true, if_false]
theorem ms_until (M : ce_M) {a t n en : Nat} {σ : Nat → Int32} (ha : a < 8) (hI : ms_IN σ t n en) (ht : t ≤ 20000) : f_X8_changesIn 414 (ms_S M σ) (nI a) = some (sp_ch σ a) := by
  obtain ⟨d, hd, ed⟩ := sp_dw_v a hI
  obtain ⟨I0, I1, I1', I2, I2', I3, I4, I5, I6, I7, I8, I9, I10⟩ := hI
  have hS := I7 a ha
  unfold f_X8_changesIn sp_ch
  simp only [ms_lit, ms_of M σ ha (show 5 < 54 by omega), ms_of M σ ha (show 2 < 54 by omega), ms_of M σ ha (show 4 < 54 by omega), ms_of M σ ha (show 3 < 54 by omega), ms_b1, ms_gi (show 0 < 816 by omega) (show 816 < 2 ^ 31 by omega), nI_clamp (show 0 < 2 ^ 31 by omega), ms_rd1, ms_nm, ms_neg1]
  by_cases c1 : σ (24 + 54 * a + 5) = nI 0
  · simp only [c1, if_true]
  · by_cases c2 : σ (24 + 54 * a + 2) = σ (24 + 54 * a + 4)
    · simp only [c1, c2, if_true, if_false]
    · rw [if_neg c1, if_neg c2, if_neg c1, if_neg c2, ms_dwell M ha hS c2, ed]
      obtain ⟨so, le, po, ca, se, th, wz, c, i0, i0', i1, i1', i2, i2', i3, i3', i4, i4', i5, i5', i6, i6', i11, i11', iw, ip, ib, ix, is⟩ := hS
      rw [i3, I0, ms_b1, nI_add]
      unfold ce_max
      by_cases c3 : ca + d < t
      · rw [if_neg (show ¬ nI 0 ≤ nI (ca + d) - nI t from fun q => absurd (pk_sneg (by omega) c3) (Int32.not_lt.mpr q)), if_pos (nI_lt c3 (by omega)), ms_sub (Nat.le_refl t), Nat.sub_self]
        rfl
      · rw [ms_sub (show t ≤ ca + d by omega), if_pos (nI_le (show 0 ≤ ca + d - t by omega) (by omega)), if_neg (nI_nlt (show t ≤ ca + d by omega) (by omega)), ms_sub (show t ≤ ca + d by omega)]
def sp_why (σ : Nat → Int32) (a l v : Nat) : Int32 := if σ (24 + 54 * a + 5) = nI 0 then nI 1 else if sp_ov (σ (24 + 54 * a + 4)).toNatClampNeg (σ (24 + 54 * a + 1)).toNatClampNeg l v = true then (if σ (24 + 54 * a + 6) = nI 12 then nI 4 else nI 0) else if sp_ov (σ (24 + 54 * a + 2)).toNatClampNeg (σ (24 + 54 * a + 1)).toNatClampNeg l v = true then nI 2 else nI 3
theorem cs_why {M : ce_M} {k a l v t en : Nat} {σ : Nat → Int32} (hR : ms_SR M k σ a) (hI : ms_SI σ a t en) (hl : l < 16) (hv : v < 3) : f_X4_reasonAgainst k M (sp_ar l v) = some (sp_why σ a l v) := by
  obtain ⟨so, le, po, ca, se, th, wz, c, i0, i0', i1, i1', i2, i2', i3, i3', i4, i4', i5, i5', i6, i6', i11, i11', iw, ip, ib, ix, is⟩ := hI
  obtain ⟨r0, r1, r2, r3, r4, r5, r6, r7, r8, r9, r10, r11, r12, r13, r14⟩ := hR
  unfold f_X4_reasonAgainst sp_why f_X2_isFull
  simp only [ms_lit, r5, r4, r1, r2, r6, i5, i4, i1, i2, i6, cs_area M i4' i1', cs_area M i2' i1', ms_b1, cs_ov i4' i1' hl hv, cs_ov i2' i1' hl hv, nI_clamp (show se < 2 ^ 31 by omega), nI_clamp (show po < 2 ^ 31 by omega), nI_clamp (show le < 2 ^ 31 by omega)]
  rcases (by omega : th = 0 ∨ th = 1) with rfl | rfl
  · simp only [if_true]
  · simp only [ms_10, if_false]
    by_cases c3 : wz = 12
    · subst c3
      cases sp_ov se le l v <;> cases sp_ov po le l v <;> simp [ms_10, ms_b1, show ¬ nI 12 < nI 12 by decide]
    · have q1 : nI wz < nI 12 := nI_lt (by omega) (by omega)
      have q2 : ¬ nI wz = nI 12 := fun q => c3 (ms_nI q (by omega) (by omega))
      cases sp_ov se le l v <;> cases sp_ov po le l v <;> simp [q1, q2, ms_b1]
theorem ms_why (M : ce_M) {a l v t en : Nat} {σ : Nat → Int32} (ha : a < 8) (hI : ms_SI σ a t en) (hl : l < 16) (hv : v < 3) : f_X8_why 414 (ms_S M σ) (nI a) (nI l) (nI v) = some (sp_why σ a l v) := by
  obtain ⟨so, le, po, ca, se, th, wz, c, i0, i0', i1, i1', i2, i2', i3, i3', i4, i4', i5, i5', i6, i6', i11, i11', iw, ip, ib, ix, is⟩ := hI
  unfold f_X8_why sp_why
  simp only [ms_lit, ms_of M σ ha (show 5 < 54 by omega), ms_of M σ ha (show 2 < 54 by omega), ms_of M σ ha (show 4 < 54 by omega), ms_of M σ ha (show 1 < 54 by omega), ms_of M σ ha (show 6 < 54 by omega), ms_b1, i5, i4, i1, i2, i6, nI_clamp (show se < 2 ^ 31 by omega), nI_clamp (show po < 2 ^ 31 by omega), nI_clamp (show le < 2 ^ 31 by omega), ms_ov _ i4' i1' hl hv, ms_ov _ i2' i1' hl hv]
  rcases (by omega : th = 0 ∨ th = 1) with rfl | rfl
  · simp only [if_true]
  · simp only [ms_10, if_false]
    by_cases c3 : nI wz = nI 12 <;> cases sp_ov se le l v <;> cases sp_ov po le l v <;> simp [ms_10, c3]
def sp_cv (σ : Nat → Int32) (a : Nat) : Int32 := if σ (24 + 54 * a + 5) = nI 0 then nI 0 else sp_ar (σ (24 + 54 * a + 4)).toNatClampNeg (σ (24 + 54 * a + 1)).toNatClampNeg
theorem cs_cover {M : ce_M} {k a t en : Nat} {σ : Nat → Int32} (hR : ms_SR M k σ a) (hI : ms_SI σ a t en) : f_X4_coverage k M = some (sp_cv σ a) := by
  obtain ⟨so, le, po, ca, se, th, wz, c, i0, i0', i1, i1', i2, i2', i3, i3', i4, i4', i5, i5', i6, i6', i11, i11', iw, ip, ib, ix, is⟩ := hI
  obtain ⟨r0, r1, r2, r3, r4, r5, r6, r7, r8, r9, r10, r11, r12, r13, r14⟩ := hR
  unfold f_X4_coverage sp_cv
  simp only [ms_lit, r5, r4, r1, i5, i4, i1, cs_area M i4' i1', ms_b1, nI_clamp (show se < 2 ^ 31 by omega), nI_clamp (show le < 2 ^ 31 by omega)]
  by_cases c : nI th = nI 0 <;> simp only [c, if_true, if_false]
def sp_cb (l v : Nat) : Nat → Int32
  | 0 => nI 0
  | i + 1 => if sp_ov l v i 2 = true then sp_cb l v i ||| (nI 1 <<< (nI i &&& nI 31)) else sp_cb l v i
theorem sp_cb_ar {l v : Nat} (hl : l < 16) (hv : v < 3) : sp_cb l v 16 = sp_ar l v := by
  have h : ∀ l, l < 16 → ∀ v, v < 3 → sp_cb l v 16 = sp_ar l v := by decide +kernel
  exact h l hl v hv
theorem ms_cover (M : ce_M) {a t en : Nat} {σ : Nat → Int32} (ha : a < 8) (hI : ms_SI σ a t en) : f_X8_coveredBy 414 (ms_S M σ) (nI a) = some (sp_cv σ a) := by
  obtain ⟨so, le, po, ca, se, th, wz, c, i0, i0', i1, i1', i2, i2', i3, i3', i4, i4', i5, i5', i6, i6', i11, i11', iw, ip, ib, ix, is⟩ := hI
  rcases (by omega : th = 0 ∨ th = 1) with rfl | rfl
  · refine ms_f2 (F := f_X8_coveredBy_L4 414 (ms_S M σ) (nI a)) (fun i => nI 0) (fun i => nI i) 16 (fun i hi rec => ?_) (fun rec => ?_) (by rw [ms_FU]; omega)
    · unfold f_X8_coveredBy_L4
      simp only [ms_lit, if_neg (nI_ge (show i < 16 by omega) (show 16 < 2 ^ 31 by omega)), ms_of M σ ha (show 5 < 54 by omega), ms_b1, ms_nm, i5, nI_add, ms_or0, ms_01, if_false]
    · unfold f_X8_coveredBy_L4 sp_cv
      rw [if_pos (show (16 : Int32) ≤ nI 16 from nI_le (Nat.le_refl 16) (by omega)), i5, if_pos rfl]
  · refine ms_f2 (F := f_X8_coveredBy_L4 414 (ms_S M σ) (nI a)) (fun i => sp_cb se le i) (fun i => nI i) 16 (fun i hi rec => ?_) (fun rec => ?_) (by rw [ms_FU]; omega)
    · unfold f_X8_coveredBy_L4
      simp only [ms_lit, if_neg (nI_ge (show i < 16 by omega) (show 16 < 2 ^ 31 by omega)), ms_of M σ ha (show 5 < 54 by omega), ms_of M σ ha (show 4 < 54 by omega), ms_of M σ ha (show 1 < 54 by omega), ms_b1, ms_nm, i5, i4, i1, ms_ov _ i4' i1' hi (show 2 < 3 by omega), nI_add, ms_or0, sp_cb, if_true]
      cases sp_ov se le i 2 <;> simp [ms_10]
    · unfold f_X8_coveredBy_L4 sp_cv
      rw [if_pos (show (16 : Int32) ≤ nI 16 from nI_le (Nat.le_refl 16) (by omega)), i5, i4, i1, nI_clamp (show se < 2 ^ 31 by omega), nI_clamp (show le < 2 ^ 31 by omega), sp_cb_ar i4' i1', if_neg (by decide)]
theorem cs_e0 (k : Nat) (M : ce_M) (x : Int32) : f_X1_valueOf k M x (nI 0) = ce_gi x 60 (some (ce_rd M (k + 1) x.toNatClampNeg)) := rfl
theorem cs_e1 (k : Nat) (M : ce_M) (x : Int32) : f_X1_valueOf k M x (nI 1) = ce_gi x 60 (some (ce_rd M (k + 2) x.toNatClampNeg)) := rfl
theorem cs_e2 (k : Nat) (M : ce_M) (x : Int32) : f_X1_valueOf k M x (nI 2) = ce_gi x 60 (some (ce_rd M (k + 3) x.toNatClampNeg)) := rfl
theorem cs_e3 (k : Nat) (M : ce_M) (x : Int32) : f_X1_valueOf k M x (nI 3) = ce_gi x 60 (some (ce_rd M (k + 4) x.toNatClampNeg)) := rfl
theorem cs_e4 (k : Nat) (M : ce_M) (x : Int32) : f_X1_valueOf k M x (nI 4) = ce_gi x 60 (some (ce_rd M (k + 5) x.toNatClampNeg)) := rfl
theorem cs_e5 (k : Nat) (M : ce_M) (x : Int32) : f_X1_valueOf k M x (nI 5) = ce_gi x 60 (some (ce_rd M (k + 6) x.toNatClampNeg)) := rfl
def sp_ev (σ : Nat → Int32) (n e j : Nat) : Int32 := if j = 6 then sp_sm (sp_ib σ (nI e)) n else σ (456 + 6 * e + j)
theorem cs_ev {M : ce_M} {w t n en e j : Nat} {σ : Nat → Int32} (hR : ms_WR M w σ) (hI : ms_IN σ t n en) (he : e < 60) (hj : j < 7) : f_X6_valueOfEvent w M (nI e) (nI j) = some (sp_ev σ n e j) := by
  have hb := cs_inboxes (x := nI e) hR hI
  obtain ⟨R0, R1, R2, R3, R4, R5, R6, R7, R8⟩ := hR
  obtain ⟨q0, q1, q2, q3, q4, q5⟩ := R6 e he
  unfold f_X6_valueOfEvent sp_ev
  rcases (by omega : j = 0 ∨ j = 1 ∨ j = 2 ∨ j = 3 ∨ j = 4 ∨ j = 5 ∨ j = 6) with rfl | rfl | rfl | rfl | rfl | rfl | rfl
  · rw [if_neg (by decide), cs_e0, ms_gi (show e < 60 by omega) (show 60 < 2 ^ 31 by omega), nI_clamp (show e < 2 ^ 31 by omega), q0]; rfl
  · rw [if_neg (by decide), cs_e1, ms_gi (show e < 60 by omega) (show 60 < 2 ^ 31 by omega), nI_clamp (show e < 2 ^ 31 by omega), q1]; rfl
  · rw [if_neg (by decide), cs_e2, ms_gi (show e < 60 by omega) (show 60 < 2 ^ 31 by omega), nI_clamp (show e < 2 ^ 31 by omega), q2]; rfl
  · rw [if_neg (by decide), cs_e3, ms_gi (show e < 60 by omega) (show 60 < 2 ^ 31 by omega), nI_clamp (show e < 2 ^ 31 by omega), q3]; rfl
  · rw [if_neg (by decide), cs_e4, ms_gi (show e < 60 by omega) (show 60 < 2 ^ 31 by omega), nI_clamp (show e < 2 ^ 31 by omega), q4]; rfl
  · rw [if_neg (by decide), cs_e5, ms_gi (show e < 60 by omega) (show 60 < 2 ^ 31 by omega), nI_clamp (show e < 2 ^ 31 by omega), q5]; rfl
  · rw [if_pos (by decide), hb]; rfl
theorem ms_ev (M : ce_M) {t n en e j : Nat} {σ : Nat → Int32} (hI : ms_IN σ t n en) (he : e < 60) (hj : j < 7) : f_X8_eventTold 414 (ms_S M σ) (nI e) (nI j) = some (sp_ev σ n e j) := by
  unfold f_X8_eventTold sp_ev
  by_cases c : j = 6
  · rw [if_pos c, c, if_pos (show nI 6 = 6 from rfl), ms_inBoxes M hI]; rfl
  · rw [if_neg c, if_neg (show ¬ nI j = 6 from fun q => c (ms_nI q (by omega) (by omega))), ms_ofE M σ he (by omega)]; rfl
def sp_lv (σ : Nat → Int32) (n l j : Nat) : Int32 := if j = 0 then sp_sm (sp_lfs σ l) n else if j = 1 then σ (8 + l) else if j = 2 then sp_sm (sp_lfw σ l) n else sp_sm (sp_lfp σ l) n
theorem cs_lv {M : ce_M} {w t n en l j : Nat} {σ : Nat → Int32} (hR : ms_WR M w σ) (hI : ms_IN σ t n en) (hl : l < 16) (hj : j < 4) : f_X6_valueOfLeaf w M (nI l) (nI j) = some (sp_lv σ n l j) := by
  unfold f_X6_valueOfLeaf sp_lv
  rcases (by omega : j = 0 ∨ j = 1 ∨ j = 2 ∨ j = 3) with rfl | rfl | rfl | rfl
  · rw [if_pos (by decide), cs_lfs hR hI]; rfl
  · rw [if_neg (by decide), if_pos (by decide), ms_gi (show l < 16 by omega) (show 16 < 2 ^ 31 by omega), nI_clamp (show l < 2 ^ 31 by omega), hR.2.2.2.2.1 l hl]; rfl
  · rw [if_neg (by decide), if_neg (by decide), if_pos (by decide), cs_lfw hR hI]; rfl
  · rw [if_neg (by decide), if_neg (by decide), if_neg (by decide), cs_lfp hR hI]; rfl
theorem ms_lv (M : ce_M) {t n en l j : Nat} {σ : Nat → Int32} (hI : ms_IN σ t n en) (hl : l < 16) (hj : j < 4) : f_X8_leafTold 414 (ms_S M σ) (nI l) (nI j) = some (sp_lv σ n l j) := by
  rcases (by omega : j = 0 ∨ j = 1 ∨ j = 2 ∨ j = 3) with rfl | rfl | rfl | rfl
  · exact ms_lfs M hI
  · unfold f_X8_leafTold
    rw [if_pos (by decide), show (8 : Int32) + nI l = nI (8 + l) from nI_add 8 l, ms_gi (show 8 + l < 816 by omega) (by omega), nI_clamp (show 8 + l < 2 ^ 31 by omega)]
    rfl
  · exact ms_lfw M hI
  · exact ms_lfp M hI
