/-! counts by leaf and by event -/
theorem ms_d02 : (nI 0 = nI 2) = False := by decide
theorem ms_d03 : (nI 0 = nI 3) = False := by decide
theorem ms_d22 : (nI 2 = nI 2) = True := by decide
theorem ms_d23 : (nI 2 = nI 3) = False := by decide
theorem ms_d32 : (nI 3 = nI 2) = False := by decide
theorem ms_d33 : (nI 3 = nI 3) = True := by decide
def sp_lfw (σ : Nat → Int32) (l a : Nat) : Int32 := if σ (24 + 54 * a + 5) = nI 1 ∧ σ (24 + 54 * a + 4) = nI l then σ (24 + 54 * a + 6) else nI 0
def sp_lfs (σ : Nat → Int32) (l a : Nat) : Int32 := if σ (24 + 54 * a + 5) = nI 1 ∧ σ (24 + 54 * a + 4) = nI l then nI 1 else nI 0
def sp_lfp (σ : Nat → Int32) (l a : Nat) : Int32 := if σ (24 + 54 * a + 5) = nI 1 ∧ σ (24 + 54 * a + 2) = nI l then nI 1 else nI 0
theorem ms_lfw (M : ce_M) {l t n en : Nat} {σ : Nat → Int32} (hI : ms_IN σ t n en) : f_X8_leafTold 414 (ms_S M σ) (nI l) (nI 2) = some (sp_sm (sp_lfw σ l) n) := by
  obtain ⟨I0, I1, I1', I2, I2', I3, I4, I5, I6, I7, I8, I9, I10⟩ := hI
  unfold f_X8_leafTold
  rw [if_neg (show ¬ nI 2 = 1 by decide)]
  refine ms_f2 (F := f_X8_leafTold_L20 (ms_S M σ) 414 (nI 2) (nI l)) (fun i => sp_sm (sp_lfw σ l) i) (fun i => nI i) n (fun i hi rec => ?_) (fun rec => ?_) (by rw [ms_FU]; omega)
  · unfold f_X8_leafTold_L20
    have ha : i < 8 := by omega
    simp only [ms_lit, ms_gi (show 1 < 816 by omega) (show 816 < 2 ^ 31 by omega), nI_clamp (show 1 < 2 ^ 31 by omega), ms_rd1, ms_nm, I1, if_neg (nI_ge (show i < n by omega) (show n < 2 ^ 31 by omega)), ms_of M σ ha (show 5 < 54 by omega), ms_of M σ ha (show 2 < 54 by omega), ms_of M σ ha (show 4 < 54 by omega), ms_of M σ ha (show 6 < 54 by omega), ms_b1, nI_add, sp_sm, sp_lfw, ms_d22, ms_d23, if_true, if_false]
    by_cases c1 : σ (24 + 54 * i + 5) = nI 1 <;> by_cases c2 : σ (24 + 54 * i + 4) = nI l <;> simp [c1, c2, ms_10, ms_add0, ms_d22, ms_d23]
  · unfold f_X8_leafTold_L20
    simp only [ms_lit, ms_gi (show 1 < 816 by omega) (show 816 < 2 ^ 31 by omega), nI_clamp (show 1 < 2 ^ 31 by omega), ms_rd1, ms_nm, I1, if_pos (nI_le (show n ≤ n by omega) (show n < 2 ^ 31 by omega))]
theorem ms_lfs (M : ce_M) {l t n en : Nat} {σ : Nat → Int32} (hI : ms_IN σ t n en) : f_X8_leafTold 414 (ms_S M σ) (nI l) (nI 0) = some (sp_sm (sp_lfs σ l) n) := by
  obtain ⟨I0, I1, I1', I2, I2', I3, I4, I5, I6, I7, I8, I9, I10⟩ := hI
  unfold f_X8_leafTold
  rw [if_neg (show ¬ nI 0 = 1 by decide)]
  refine ms_f2 (F := f_X8_leafTold_L20 (ms_S M σ) 414 (nI 0) (nI l)) (fun i => sp_sm (sp_lfs σ l) i) (fun i => nI i) n (fun i hi rec => ?_) (fun rec => ?_) (by rw [ms_FU]; omega)
  · unfold f_X8_leafTold_L20
    have ha : i < 8 := by omega
    simp only [ms_lit, ms_gi (show 1 < 816 by omega) (show 816 < 2 ^ 31 by omega), nI_clamp (show 1 < 2 ^ 31 by omega), ms_rd1, ms_nm, I1, if_neg (nI_ge (show i < n by omega) (show n < 2 ^ 31 by omega)), ms_of M σ ha (show 5 < 54 by omega), ms_of M σ ha (show 2 < 54 by omega), ms_of M σ ha (show 4 < 54 by omega), ms_of M σ ha (show 6 < 54 by omega), ms_b1, nI_add, sp_sm, sp_lfs, ms_d02, ms_d03, if_true, if_false]
    by_cases c1 : σ (24 + 54 * i + 5) = nI 1 <;> by_cases c2 : σ (24 + 54 * i + 4) = nI l <;> simp [c1, c2, ms_10, ms_add0, ms_d02, ms_d03]
  · unfold f_X8_leafTold_L20
    simp only [ms_lit, ms_gi (show 1 < 816 by omega) (show 816 < 2 ^ 31 by omega), nI_clamp (show 1 < 2 ^ 31 by omega), ms_rd1, ms_nm, I1, if_pos (nI_le (show n ≤ n by omega) (show n < 2 ^ 31 by omega))]
theorem ms_lfp (M : ce_M) {l t n en : Nat} {σ : Nat → Int32} (hI : ms_IN σ t n en) : f_X8_leafTold 414 (ms_S M σ) (nI l) (nI 3) = some (sp_sm (sp_lfp σ l) n) := by
  obtain ⟨I0, I1, I1', I2, I2', I3, I4, I5, I6, I7, I8, I9, I10⟩ := hI
  unfold f_X8_leafTold
  rw [if_neg (show ¬ nI 3 = 1 by decide)]
  refine ms_f2 (F := f_X8_leafTold_L20 (ms_S M σ) 414 (nI 3) (nI l)) (fun i => sp_sm (sp_lfp σ l) i) (fun i => nI i) n (fun i hi rec => ?_) (fun rec => ?_) (by rw [ms_FU]; omega)
  · unfold f_X8_leafTold_L20
    have ha : i < 8 := by omega
    simp only [ms_lit, ms_gi (show 1 < 816 by omega) (show 816 < 2 ^ 31 by omega), nI_clamp (show 1 < 2 ^ 31 by omega), ms_rd1, ms_nm, I1, if_neg (nI_ge (show i < n by omega) (show n < 2 ^ 31 by omega)), ms_of M σ ha (show 5 < 54 by omega), ms_of M σ ha (show 2 < 54 by omega), ms_of M σ ha (show 4 < 54 by omega), ms_of M σ ha (show 6 < 54 by omega), ms_b1, nI_add, sp_sm, sp_lfp, ms_d32, ms_d33, if_true, if_false]
    by_cases c1 : σ (24 + 54 * i + 5) = nI 1 <;> by_cases c2 : σ (24 + 54 * i + 2) = nI l <;> simp [c1, c2, ms_10, ms_add0, ms_d32, ms_d33]
  · unfold f_X8_leafTold_L20
    simp only [ms_lit, ms_gi (show 1 < 816 by omega) (show 816 < 2 ^ 31 by omega), nI_clamp (show 1 < 2 ^ 31 by omega), ms_rd1, ms_nm, I1, if_pos (nI_le (show n ≤ n by omega) (show n < 2 ^ 31 by omega))]
theorem cs_lfw {M : ce_M} {w l t n en : Nat} {σ : Nat → Int32} (hR : ms_WR M w σ) (hI : ms_IN σ t n en) : f_X6_waitingIn w M (nI l) = some (sp_sm (sp_lfw σ l) n) := by
  obtain ⟨R0, R1, R2, R3, R4, R5, R6, R7, R8⟩ := hR
  obtain ⟨I0, I1, I1', I2, I2', I3, I4, I5, I6, I7, I8, I9, I10⟩ := hI
  refine ms_f2 (F := f_X6_waitingIn_L4 M w (nI l)) (fun i => sp_sm (sp_lfw σ l) i) (fun i => nI i) n (fun i hi rec => ?_) (fun rec => ?_) (by rw [ms_FU]; omega)
  · obtain ⟨r0, r1, r2, r3, r4, r5, r6, r7, r8, r9, r10, r11, r12, r13, r14⟩ := R5 i (by omega)
    obtain ⟨so, le, po, ca, se, th, wz, c, i0, i0', i1, i1', i2, i2', i3, i3', i4, i4', i5, i5', i6, i6', i11, i11', iw, ip, ib, ix, is⟩ := I7 i (by omega)
    unfold f_X6_waitingIn_L4
    rw [R1, I1]
    simp only [if_neg (nI_ge (show i < n by omega) (show n < 2 ^ 31 by omega)), ms_gi (show i < 8 by omega) (show 8 < 2 ^ 31 by omega), nI_clamp (show i < 2 ^ 31 by omega), ms_nm, ms_lit, nI_add, sp_sm, sp_lfw, r2, r4, r5, r6]
    rcases (by omega : th = 0 ∨ th = 1) with rfl | rfl
    · simp only [i6, iw rfl, i5]
      by_cases c2 : σ (24 + 54 * i + 4) = nI l <;> simp [c2, ms_01, ms_add0]
    · rw [i5]
      by_cases c2 : σ (24 + 54 * i + 4) = nI l <;> simp [c2, ms_10, ms_add0]
  · unfold f_X6_waitingIn_L4
    rw [R1, I1, if_pos (nI_le (show n ≤ n by omega) (show n < 2 ^ 31 by omega))]
theorem cs_lfs {M : ce_M} {w l t n en : Nat} {σ : Nat → Int32} (hR : ms_WR M w σ) (hI : ms_IN σ t n en) : f_X6_servedBy w M (nI l) = some (sp_sm (sp_lfs σ l) n) := by
  obtain ⟨R0, R1, R2, R3, R4, R5, R6, R7, R8⟩ := hR
  obtain ⟨I0, I1, I1', I2, I2', I3, I4, I5, I6, I7, I8, I9, I10⟩ := hI
  refine ms_f2 (F := f_X6_servedBy_L4 M w (nI l)) (fun i => sp_sm (sp_lfs σ l) i) (fun i => nI i) n (fun i hi rec => ?_) (fun rec => ?_) (by rw [ms_FU]; omega)
  · obtain ⟨r0, r1, r2, r3, r4, r5, r6, r7, r8, r9, r10, r11, r12, r13, r14⟩ := R5 i (by omega)
    obtain ⟨so, le, po, ca, se, th, wz, c, i0, i0', i1, i1', i2, i2', i3, i3', i4, i4', i5, i5', i6, i6', i11, i11', iw, ip, ib, ix, is⟩ := I7 i (by omega)
    unfold f_X6_servedBy_L4
    rw [R1, I1]
    simp only [if_neg (nI_ge (show i < n by omega) (show n < 2 ^ 31 by omega)), ms_gi (show i < 8 by omega) (show 8 < 2 ^ 31 by omega), nI_clamp (show i < 2 ^ 31 by omega), ms_nm, ms_lit, nI_add, sp_sm, sp_lfs, r2, r4, r5, r6]
    rcases (by omega : th = 0 ∨ th = 1) with rfl | rfl
    · simp only [i6, iw rfl, i5]
      by_cases c2 : σ (24 + 54 * i + 4) = nI l <;> simp [c2, ms_01, ms_add0]
    · rw [i5]
      by_cases c2 : σ (24 + 54 * i + 4) = nI l <;> simp [c2, ms_10, ms_add0]
  · unfold f_X6_servedBy_L4
    rw [R1, I1, if_pos (nI_le (show n ≤ n by omega) (show n < 2 ^ 31 by omega))]
theorem cs_lfp {M : ce_M} {w l t n en : Nat} {σ : Nat → Int32} (hR : ms_WR M w σ) (hI : ms_IN σ t n en) : f_X6_standingIn w M (nI l) = some (sp_sm (sp_lfp σ l) n) := by
  obtain ⟨R0, R1, R2, R3, R4, R5, R6, R7, R8⟩ := hR
  obtain ⟨I0, I1, I1', I2, I2', I3, I4, I5, I6, I7, I8, I9, I10⟩ := hI
  refine ms_f2 (F := f_X6_standingIn_L4 M w (nI l)) (fun i => sp_sm (sp_lfp σ l) i) (fun i => nI i) n (fun i hi rec => ?_) (fun rec => ?_) (by rw [ms_FU]; omega)
  · obtain ⟨r0, r1, r2, r3, r4, r5, r6, r7, r8, r9, r10, r11, r12, r13, r14⟩ := R5 i (by omega)
    obtain ⟨so, le, po, ca, se, th, wz, c, i0, i0', i1, i1', i2, i2', i3, i3', i4, i4', i5, i5', i6, i6', i11, i11', iw, ip, ib, ix, is⟩ := I7 i (by omega)
    unfold f_X6_standingIn_L4
    rw [R1, I1]
    simp only [if_neg (nI_ge (show i < n by omega) (show n < 2 ^ 31 by omega)), ms_gi (show i < 8 by omega) (show 8 < 2 ^ 31 by omega), nI_clamp (show i < 2 ^ 31 by omega), ms_nm, ms_lit, nI_add, sp_sm, sp_lfp, r2, r4, r5, r6]
    rcases (by omega : th = 0 ∨ th = 1) with rfl | rfl
    · simp only [i6, iw rfl, i5]
      by_cases c2 : σ (24 + 54 * i + 2) = nI l <;> simp [c2, ms_01, ms_add0]
    · rw [i5]
      by_cases c2 : σ (24 + 54 * i + 2) = nI l <;> simp [c2, ms_10, ms_add0]
  · unfold f_X6_standingIn_L4
    rw [R1, I1, if_pos (nI_le (show n ≤ n by omega) (show n < 2 ^ 31 by omega))]
def sp_bz (f : Nat → Int32) : Nat → Int32 × Int32
  | 0 => (-1, nI 0)
  | l + 1 => if f l ≤ (sp_bz f l).2 then sp_bz f l else (nI l, f l)
theorem cs_busiest {M : ce_M} {w t n en : Nat} {σ : Nat → Int32} (hR : ms_WR M w σ) (hI : ms_IN σ t n en) : f_X6_busiestLeaf w M = some (sp_bz (fun l => sp_sm (sp_lfw σ l) n) 16).1 := by
  refine ms_f3 (F := f_X6_busiestLeaf_L6 w M) (fun i => (sp_bz (fun l => sp_sm (sp_lfw σ l) n) i).1) (fun i => (sp_bz (fun l => sp_sm (sp_lfw σ l) n) i).2) (fun i => nI i) 16 (fun i hi rec => ?_) (fun rec => ?_) (by rw [ms_FU]; omega)
  · unfold f_X6_busiestLeaf_L6
    simp only [ms_lit, if_neg (nI_ge (show i < 16 by omega) (show 16 < 2 ^ 31 by omega)), cs_lfw hR hI, ms_b1, ms_nm, nI_add, sp_bz]
    by_cases c1 : sp_sm (sp_lfw σ i) n ≤ (sp_bz (fun l => sp_sm (sp_lfw σ l) n) i).2 <;> simp only [c1, if_true, if_false]
  · unfold f_X6_busiestLeaf_L6
    rw [if_pos (show (16 : Int32) ≤ nI 16 from nI_le (Nat.le_refl 16) (by omega))]
theorem ms_busiest (M : ce_M) {t n en : Nat} {σ : Nat → Int32} (hI : ms_IN σ t n en) : f_X8_busiestLeaf 414 (ms_S M σ) = some (sp_bz (fun l => sp_sm (sp_lfw σ l) n) 16).1 := by
  refine ms_f3 (F := f_X8_busiestLeaf_L6 414 (ms_S M σ)) (fun i => (sp_bz (fun l => sp_sm (sp_lfw σ l) n) i).1) (fun i => (sp_bz (fun l => sp_sm (sp_lfw σ l) n) i).2) (fun i => nI i) 16 (fun i hi rec => ?_) (fun rec => ?_) (by rw [ms_FU]; omega)
  · unfold f_X8_busiestLeaf_L6
    simp only [ms_lit, if_neg (nI_ge (show i < 16 by omega) (show 16 < 2 ^ 31 by omega)), ms_lfw M hI, ms_b1, ms_nm, nI_add, sp_bz]
    by_cases c1 : sp_sm (sp_lfw σ i) n ≤ (sp_bz (fun l => sp_sm (sp_lfw σ l) n) i).2 <;> simp only [c1, if_true, if_false]
  · unfold f_X8_busiestLeaf_L6
    rw [if_pos (show (16 : Int32) ≤ nI 16 from nI_le (Nat.le_refl 16) (by omega))]
/-! who holds an event -/
def sp_hd (σ : Nat → Int32) (a : Nat) (x : Int32) : Nat → Bool
  | 0 => false
  | i + 1 => sp_hd σ a x i || decide (σ (24 + 54 * a + (12 + i)) = x)
theorem sp_hd_le {σ : Nat → Int32} {a : Nat} {x : Int32} {i : Nat} (h : sp_hd σ a x i = true) : ∀ m, sp_hd σ a x (i + m) = true := by
  intro m
  induction m with
  | zero => exact h
  | succ m ih => show (sp_hd σ a x (i + m) || _) = true; rw [ih]; rfl
theorem cs_holds {M : ce_M} {k a wz : Nat} {σ : Nat → Int32} {x : Int32} (hR : ms_SR M k σ a) (hw : σ (24 + 54 * a + 6) = nI wz) (hw2 : wz ≤ 12) : f_X2_holds (k + 5) M x = some (nI (if sp_hd σ a x wz = true then 1 else 0)) := by
  obtain ⟨r0, r1, r2, r3, r4, r5, r6, r7, r8, r9, r10, r11, r12, r13, r14⟩ := hR
  have h := ms_p1 (F := f_X2_holds_L2 M (k + 5) x) (fun m y => ∃ i, y = nI i ∧ i + m = wz ∧ sp_hd σ a x i = false) (fun r => r = nI (if sp_hd σ a x wz = true then 1 else 0)) (fun m rec y hrec hI => by
    obtain ⟨i, rfl, h1, h2⟩ := hI
    unfold f_X2_holds_L2
    rw [r6, hw]
    by_cases c1 : m = 0
    · have c2 : i = wz := by omega
      rw [c2] at h2
      rw [if_pos (nI_le (show wz ≤ i by omega) (show i < 2 ^ 31 by omega)), h2]
      exact ⟨_, rfl, rfl⟩
    · rw [if_neg (nI_ge (show i < wz by omega) (show wz < 2 ^ 31 by omega)), ms_gi (show i < 12 by omega) (show 12 < 2 ^ 31 by omega), nI_clamp (show i < 2 ^ 31 by omega), r13 wz hw hw2 i (by omega), ms_nm]
      by_cases c2 : σ (24 + 54 * a + (12 + i)) = x
      · rw [if_pos c2]
        have h3 : sp_hd σ a x (i + 1) = true := by
          show (sp_hd σ a x i || decide (σ (24 + 54 * a + (12 + i)) = x)) = true
          rw [decide_eq_true c2, Bool.or_true]
        have h4 := sp_hd_le h3 (m - 1)
        rw [show i + 1 + (m - 1) = wz by omega] at h4
        rw [h4]
        exact ⟨_, rfl, rfl⟩
      · rw [if_neg c2, ms_nm]
        refine hrec (m - 1) (by omega) _ ⟨i + 1, nI_1 i, by omega, ?_⟩
        show (sp_hd σ a x i || decide (σ (24 + 54 * a + (12 + i)) = x)) = false
        rw [decide_eq_false c2, h2]
        rfl) wz ce_FU 0 (by rw [ms_FU]; omega) ⟨0, rfl, by omega, rfl⟩
  obtain ⟨r, e1, e2⟩ := h
  rw [← e2]
  exact e1
theorem sp_hd_no {σ : Nat → Int32} {a : Nat} {x : Int32} : ∀ i, (∀ j, j < i → σ (24 + 54 * a + (12 + j)) ≠ x) → sp_hd σ a x i = false := by
  intro i
  induction i with
  | zero => intro _; rfl
  | succ i ih =>
    intro h
    show (sp_hd σ a x i || decide (σ (24 + 54 * a + (12 + i)) = x)) = false
    rw [ih (fun j hj => h j (by omega)), decide_eq_false (h i (by omega))]
    rfl
def sp_ib (σ : Nat → Int32) (x : Int32) (a : Nat) : Int32 := nI (if sp_hd σ a x (σ (24 + 54 * a + 6)).toNatClampNeg = true then 1 else 0)
theorem cs_inboxes {M : ce_M} {w t n en : Nat} {σ : Nat → Int32} {x : Int32} (hR : ms_WR M w σ) (hI : ms_IN σ t n en) : f_X6_inboxesWith w M x = some (sp_sm (sp_ib σ x) n) := by
  obtain ⟨R0, R1, R2, R3, R4, R5, R6, R7, R8⟩ := hR
  obtain ⟨I0, I1, I1', I2, I2', I3, I4, I5, I6, I7, I8, I9, I10⟩ := hI
  refine ms_f2 (F := f_X6_inboxesWith_L4 M w x) (fun i => sp_sm (sp_ib σ x) i) (fun i => nI i) n (fun i hi rec => ?_) (fun rec => ?_) (by rw [ms_FU]; omega)
  · have hS := R5 i (by omega)
    obtain ⟨so, le, po, ca, se, th, wz, c, i0, i0', i1, i1', i2, i2', i3, i3', i4, i4', i5, i5', i6, i6', i11, i11', iw, ip, ib, ix, is⟩ := I7 i (by omega)
    unfold f_X6_inboxesWith_L4
    rw [R1, I1]
    simp only [if_neg (nI_ge (show i < n by omega) (show n < 2 ^ 31 by omega)), ms_gi (show i < 8 by omega) (show 8 < 2 ^ 31 by omega), nI_clamp (show i < 2 ^ 31 by omega), ms_nm, ms_lit, nI_add, sp_sm, sp_ib, cs_holds hS i6 i6', ms_b1, i6, nI_clamp (show wz < 2 ^ 31 by omega)]
    cases sp_hd σ i x wz <;> simp [ms_10, ms_add0]
  · unfold f_X6_inboxesWith_L4
    rw [R1, I1, if_pos (nI_le (show n ≤ n by omega) (show n < 2 ^ 31 by omega))]
def sp_ct (σ : Nat → Int32) (a : Nat) (x y : Int32) : Nat → Int32
  | 0 => y
  | i + 1 => if σ (24 + 54 * a + (12 + i)) = x then sp_ct σ a x y i + nI 1 else sp_ct σ a x y i
theorem sp_ct_hd {σ : Nat → Int32} {a : Nat} {x y : Int32} : ∀ i, (∀ p q, p < q → q < i → σ (24 + 54 * a + (12 + p)) ≠ σ (24 + 54 * a + (12 + q))) → sp_ct σ a x y i = y + nI (if sp_hd σ a x i = true then 1 else 0) := by
  intro i
  induction i with
  | zero => intro _; exact (ms_add0 y).symm
  | succ i ih =>
    intro h
    have ih2 := ih (fun p q hp hq => h p q hp (by omega))
    show (if σ (24 + 54 * a + (12 + i)) = x then sp_ct σ a x y i + nI 1 else sp_ct σ a x y i) = y + nI (if (sp_hd σ a x i || decide (σ (24 + 54 * a + (12 + i)) = x)) = true then 1 else 0)
    by_cases c : σ (24 + 54 * a + (12 + i)) = x
    · have c2 : sp_hd σ a x i = false := sp_hd_no i (fun j hj => by rw [← c]; exact h j i hj (by omega))
      rw [if_pos c, ih2, c2, decide_eq_true c]
      show y + nI 0 + nI 1 = y + nI 1
      rw [ms_add0]
    · rw [if_neg c, decide_eq_false c, Bool.or_false, ih2]
theorem ms_inB17 (M : ce_M) {a wz : Nat} {σ : Nat → Int32} {x : Int32} (ha : a < 8) (i6 : σ (24 + 54 * a + 6) = nI wz) (h2 : wz ≤ 12) (u : Int32 → Option Int32) (y : Int32) : ce_lp2 (f_X8_inBoxes_L17 414 (ms_S M σ) (nI a) x u) ce_FU y (nI 0) = u (sp_ct σ a x y wz) := by
  refine (ms_f2 (F := f_X8_inBoxes_L17 414 (ms_S M σ) (nI a) x u) (fun j => sp_ct σ a x y j) (fun j => nI j) wz (fun j hj rec2 => ?_) (fun rec2 => ?_) (by rw [ms_FU]; omega))
  · unfold f_X8_inBoxes_L17
    have hj2 : 12 + j < 54 := by omega
    simp only [ms_lit, ms_of M σ ha (show 6 < 54 by omega), ms_of M σ ha hj2, ms_b1, i6, if_neg (nI_ge (show j < wz by omega) (show wz < 2 ^ 31 by omega)), nI_add, ms_nm, sp_ct, ms_add0]
    by_cases c1 : σ (24 + 54 * a + (12 + j)) = x <;> simp only [c1, if_true, if_false]
  · unfold f_X8_inBoxes_L17
    simp only [ms_lit, ms_of M σ ha (show 6 < 54 by omega), ms_b1, i6, if_pos (nI_le (show wz ≤ wz by omega) (show wz < 2 ^ 31 by omega))]
theorem ms_inBoxes (M : ce_M) {t n en : Nat} {σ : Nat → Int32} {x : Int32} (hI : ms_IN σ t n en) : f_X8_inBoxes 414 (ms_S M σ) x = some (sp_sm (sp_ib σ x) n) := by
  obtain ⟨I0, I1, I1', I2, I2', I3, I4, I5, I6, I7, I8, I9, I10⟩ := hI
  refine ms_f2 (F := f_X8_inBoxes_L4 (ms_S M σ) 414 x) (fun i => sp_sm (sp_ib σ x) i) (fun i => nI i) n (fun i hi rec => ?_) (fun rec => ?_) (by rw [ms_FU]; omega)
  · obtain ⟨so, le, po, ca, se, th, wz, c, i0, i0', i1, i1', i2, i2', i3, i3', i4, i4', i5, i5', i6, i6', i11, i11', iw, ip, ib, ix, is⟩ := I7 i (by omega)
    unfold f_X8_inBoxes_L4
    have ha : i < 8 := by omega
    simp only [ms_lit, ms_gi (show 1 < 816 by omega) (show 816 < 2 ^ 31 by omega), nI_clamp (show 1 < 2 ^ 31 by omega), ms_rd1, ms_nm, I1, if_neg (nI_ge (show i < n by omega) (show n < 2 ^ 31 by omega)), nI_add]
    rw [ms_inB17 M ha i6 i6' _ _, sp_ct_hd wz ix]
    show rec (sp_sm (sp_ib σ x) i + _) _ = rec (sp_sm (sp_ib σ x) i + sp_ib σ x i) _
    unfold sp_ib
    rw [i6, nI_clamp (show wz < 2 ^ 31 by omega)]
  · unfold f_X8_inBoxes_L4
    simp only [ms_lit, ms_gi (show 1 < 816 by omega) (show 816 < 2 ^ 31 by omega), nI_clamp (show 1 < 2 ^ 31 by omega), ms_rd1, ms_nm, I1, if_pos (nI_le (show n ≤ n by omega) (show n < 2 ^ 31 by omega))]
