/-! what is asked of one -/
theorem ms_01 : (nI 0 = nI 1) = False := by decide
theorem ms_10 : (nI 1 = nI 0) = False := by decide
theorem ms_rd1 (M : ce_M) (σ : Nat → Int32) (j : Nat) : ce_rd (ms_S M σ) (414 + 1) j = σ j := Eq.trans (Eq.refl _) (Eq.refl _)
theorem ms_wr1 (M : ce_M) (σ : Nat → Int32) (j : Nat) (v : Int32) : ce_wr (ms_S M σ) (414 + 1) j v = ms_S M (upd σ j v) := ms_wr M σ j v
theorem ms_or0 (x : Int32) : x ||| nI 0 = x := Int32.or_zero
theorem ms_00 : (nI 0 = nI 0) = True := eq_self _
theorem sp_la_v {σ : Nat → Int32} {a : Nat} {time : Int32} : ∀ c, (∀ j, j < c → ∃ l, l < 16 ∧ σ (24 + 54 * a + (24 + 3 * j + 0)) = nI l) → sp_la σ a time c = -1 ∨ ∃ l, l < 16 ∧ sp_la σ a time c = nI l := by
  intro c
  induction c with
  | zero => intro _; exact Or.inl rfl
  | succ c ih =>
    intro h
    have ih2 := ih (fun j hj => h j (by omega))
    have hl := h c (by omega)
    unfold sp_la
    by_cases c1 : time < σ (24 + 54 * a + (24 + 3 * c + 1))
    · rw [if_pos c1]; exact ih2
    · rw [if_neg c1]
      by_cases c2 : σ (24 + 54 * a + (24 + 3 * c + 2)) = -1
      · rw [if_pos c2]; exact Or.inr hl
      · rw [if_neg c2]
        by_cases c3 : σ (24 + 54 * a + (24 + 3 * c + 2)) ≤ time
        · rw [if_pos c3]; exact ih2
        · rw [if_neg c3]; exact Or.inr hl
theorem ms_nN {n : Nat} (h : n < 2 ^ 31) : (nI n = -1) = False := by
  refine propext ⟨fun q => ?_, False.elim⟩
  have h2 : ¬ nI n < 0 := nI_pos h
  rw [q] at h2
  exact h2 (by decide)
def sp_rc (σ : Nat → Int32) (a l v : Nat) (time : Int32) : Bool := decide (σ (24 + 54 * a + 5) = nI 1) && (!decide (sp_la σ a time (σ (24 + 54 * a + 11)).toNatClampNeg = -1) && sp_ov (sp_la σ a time (σ (24 + 54 * a + 11)).toNatClampNeg).toNatClampNeg (σ (24 + 54 * a + 1)).toNatClampNeg l v)
theorem cs_getsFrom {M : ce_M} {k a l v t en : Nat} {σ : Nat → Int32} {time : Int32} (hR : ms_SR M k σ a) (hI : ms_SI σ a t en) (hl : l < 16) (hv : v < 3) : f_X4_getsFrom k M (sp_ar l v) time = some (nI (if sp_rc σ a l v time = true then 1 else 0)) := by
  obtain ⟨so, le, po, ca, se, th, w, c, i0, i0', i1, i1', i2, i2', i3, i3', i4, i4', i5, i5', i6, i6', i11, i11', iw, ip, ib, ix, is⟩ := hI
  unfold f_X4_getsFrom
  rw [cs_leafAt hR i11 i11', ms_b1]
  obtain ⟨r0, r1, r2, r3, r4, r5, r6, r7, r8, r9, r10, r11, r12, r13, r14⟩ := hR
  unfold sp_rc
  rw [i11, nI_clamp (by omega), r5, r1, i1, i5]
  rcases (by omega : th = 0 ∨ th = 1) with rfl | rfl
  · simp [ms_lit, ms_01]
  · rcases sp_la_v (time := time) c is with hla | ⟨l1, hl1, hla⟩
    · rw [hla]; simp [ms_lit, ms_10]
    · rw [hla, cs_area M hl1 i1', ms_b1]
      simp only [ms_lit, ms_10, if_false, ms_neg1, ms_nN (show l1 < 2 ^ 31 by omega), cs_ov hl1 i1' hl hv, nI_clamp (show l1 < 2 ^ 31 by omega), nI_clamp (show le < 2 ^ 31 by omega)]
      cases sp_ov l1 le l v <;> simp
theorem ms_reaches (M : ce_M) {a l v t en : Nat} {σ : Nat → Int32} {time : Int32} (ha : a < 8) (hI : ms_SI σ a t en) (hl : l < 16) (hv : v < 3) : f_X8_reaches 414 (ms_S M σ) (nI a) (nI l) (nI v) time = some (nI (if sp_rc σ a l v time = true then 1 else 0)) := by
  obtain ⟨so, le, po, ca, se, th, w, c, i0, i0', i1, i1', i2, i2', i3, i3', i4, i4', i5, i5', i6, i6', i11, i11', iw, ip, ib, ix, is⟩ := hI
  unfold f_X8_reaches sp_rc
  simp only [ms_lit, ms_of M σ ha (show 5 < 54 by omega), ms_of M σ ha (show 1 < 54 by omega), ms_b1, ms_nm, i5, i11, i1, ms_leafAt M ha i11 i11', nI_clamp (show c < 2 ^ 31 by omega), nI_clamp (show le < 2 ^ 31 by omega), ms_neg1]
  rcases (by omega : th = 0 ∨ th = 1) with rfl | rfl
  · simp [ms_01]
  · rcases sp_la_v (time := time) c is with hla | ⟨l1, hl1, hla⟩
    · rw [hla]; simp
    · rw [hla]
      simp only [ms_nN (show l1 < 2 ^ 31 by omega), ms_ov _ hl1 i1' hl hv, nI_clamp (show l1 < 2 ^ 31 by omega), if_false, if_true, ms_b1]
      cases sp_ov l1 le l v <;> simp [ms_10, ms_01]
def sp_rb (σ : Nat → Int32) (l v : Nat) (time : Int32) : Nat → Int32
  | 0 => nI 0
  | a + 1 => if sp_rc σ a l v time = true then sp_rb σ l v time a ||| (nI 1 <<< (nI a &&& nI 31)) else sp_rb σ l v time a
theorem cs_reachedBy {M : ce_M} {w l v t n en : Nat} {σ : Nat → Int32} {time : Int32} (hR : ms_WR M w σ) (hI : ms_IN σ t n en) (hl : l < 16) (hv : v < 3) : f_X6_reachedBy w M (nI l) (nI v) time = some (sp_rb σ l v time n) := by
  obtain ⟨R0, R1, R2, R3, R4, R5, R6, R7, R8⟩ := hR
  obtain ⟨I0, I1, I1', I2, I2', I3, I4, I5, I6, I7, I8, I9, I10⟩ := hI
  unfold f_X6_reachedBy
  rw [cs_area M hl hv, ms_b1]
  refine ms_f2 (F := f_X6_reachedBy_L13 M w (sp_ar l v) time) (fun i => sp_rb σ l v time i) (fun i => nI i) n (fun i hi rec => ?_) (fun rec => ?_) (by rw [ms_FU]; omega)
  · unfold f_X6_reachedBy_L13
    rw [if_neg (by rw [R1, I1]; exact nI_ge hi (by omega)), ms_gi (by omega) (by omega), ms_nm, nI_clamp (by omega), cs_getsFrom (R5 i (by omega)) (I7 i (by omega)) hl hv, ms_b1]
    simp only [sp_rb, ms_nm, ms_lit, nI_add]
    cases sp_rc σ i l v time <;> simp [ms_10, ms_00]
  · unfold f_X6_reachedBy_L13
    rw [if_pos (by rw [R1, I1]; exact nI_le (Nat.le_refl n) (by omega))]
theorem ms_reachedBy (M : ce_M) {l v t n en : Nat} {σ : Nat → Int32} {time : Int32} (hn : σ 1 = nI n) (hn8 : n ≤ 8) (hI : ∀ a, a < 8 → ms_SI σ a t en) (hl : l < 16) (hv : v < 3) : f_X8_reachedBy 414 (ms_S M σ) (nI l) (nI v) time = some (sp_rb σ l v time n) := by
  refine ms_f2 (F := f_X8_reachedBy_L6 (ms_S M σ) 414 (nI l) (nI v) time) (fun i => sp_rb σ l v time i) (fun i => nI i) n (fun i hi rec => ?_) (fun rec => ?_) (by rw [ms_FU]; omega)
  · unfold f_X8_reachedBy_L6
    simp only [ms_lit, ms_gi (show 1 < 816 by omega) (show 816 < 2 ^ 31 by omega), nI_clamp (show 1 < 2 ^ 31 by omega), ms_rd1, ms_nm, hn, if_neg (nI_ge hi (show n < 2 ^ 31 by omega)), ms_reaches M (show i < 8 by omega) (hI i (by omega)) hl hv, ms_b1, nI_add, sp_rb]
    cases sp_rc σ i l v time <;> simp [ms_10, ms_or0]
  · unfold f_X8_reachedBy_L6
    simp only [ms_lit, ms_gi (show 1 < 816 by omega) (show 816 < 2 ^ 31 by omega), nI_clamp (show 1 < 2 ^ 31 by omega), ms_rd1, ms_nm, hn, if_pos (nI_le (Nat.le_refl n) (show n < 2 ^ 31 by omega))]
