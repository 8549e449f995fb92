/-! the sum of all that is told -/
def sp_mx (f : Nat → Int32) : Nat → Int64 → Int64
  | 0, q => q
  | k + 1, q => 31 * sp_mx f k q + Int32.toInt64 (f k)
theorem cs_mloop {F : (Int64 → Int32 → Option Int64) → Int64 → Int32 → Option Int64} {u : Int64 → Option Int64} {N : Nat} (f : Nat → Int32) (h1 : ∀ rec q, F rec q (nI N) = u q) (h2 : ∀ i, i < N → ∀ rec q, F rec q (nI i) = rec (31 * q + Int32.toInt64 (f i)) (nI (i + 1))) (hN : N < 100000) (q : Int64) : ce_lp2 F ce_FU q 0 = u (sp_mx f N q) :=
  ms_f2 (F := F) (fun i => sp_mx f i q) (fun i => nI i) N (fun i hi rec => h2 i hi rec _) (fun rec => h1 rec _) (by rw [ms_FU]; exact hN)
def sp_s3 (σ : Nat → Int32) (a c x : Nat) : Int32 := sp_st σ a c (x / 3) (x % 3)
theorem q_dv4 : ∀ i, i < 64 → nI i / 4 = nI (i / 4) ∧ nI i - nI i / 4 * 4 = nI (i % 4) := by decide +kernel
theorem q_dv3 : ∀ i, i < 30 → nI i / 3 = nI (i / 3) ∧ nI i - nI i / 3 * 3 = nI (i % 3) := by decide +kernel
theorem q_dv7 : ∀ i, i < 420 → nI i / 7 = nI (i / 7) ∧ nI i - nI i / 7 * 7 = nI (i % 7) := by decide +kernel
theorem q_m7 : ∀ e, e ≤ 60 → 7 * nI e = nI (7 * e) := by decide +kernel
def q_s1 (σ : Nat → Int32) (a : Nat) (q : Int64) : Int64 := sp_mx (sp_bx σ a (σ (24 + 54 * a + 6)).toNatClampNeg) (σ (24 + 54 * a + 6)).toNatClampNeg (sp_mx (sp_s3 σ a (σ (24 + 54 * a + 11)).toNatClampNeg) 30 (sp_mx (sp_told σ a) 12 q))
def q_sA (σ : Nat → Int32) : Nat → Int64 → Int64
  | 0, q => q
  | a + 1, q => q_s1 σ a (q_sA σ a q)
def q_sum (σ : Nat → Int32) (n en : Nat) : Int64 := sp_mx (fun k => sp_lv σ n (k / 4) (k % 4)) 64 (sp_mx (fun k => sp_ev σ n (k / 7) (k % 7)) (7 * en) (q_sA σ n (sp_mx (fun k => if k < 13 then sp_wh σ n k else nI 0) 14 17)))
theorem q_sum_v {M : ce_M} {σ : Nat → Int32} {ps : List (Nat → Int32)} {t n en : Nat} (hS : q_S M σ ps) (hI : ms_IN σ t n en) : f_L_sum M 0 = some (q_sum σ n en) := by
  have hI0 := hI
  obtain ⟨I0, I1, I1', I2, I2', I3, I4, I5, I6, I7, I8, I9, I10⟩ := hI
  have w0 : f0_L_whole M 0 0 = some (nI n) := (q_whole (j := 0) hS hI0 (by omega)).trans (congrArg some I1)
  have w2 : f0_L_whole M 0 2 = some (nI en) := (q_whole (j := 2) hS hI0 (by omega)).trans (congrArg some I2)
  unfold f_L_sum
  simp only [ms_nm]
  have h6 : ∀ (u : Int64 → Option Int64) (q : Int64), ce_lp2 (f_L_sum_L6 M 0 u) ce_FU q 0 = u (sp_mx (fun k => if k < 13 then sp_wh σ n k else nI 0) 14 q) := fun u q => by
    refine cs_mloop (u := u) (N := 14) (fun k => if k < 13 then sp_wh σ n k else nI 0) (fun rec q => ?_) (fun i hi rec q => ?_) (by omega) q
    · unfold f_L_sum_L6
      rw [if_pos (by decide)]
    · unfold f_L_sum_L6
      rw [if_neg (show ¬ (14 : Int32) ≤ nI i from nI_ge (b := 14) hi (by omega)), q_whole hS hI0 hi, ms_b1, ms_nm, ms_nm, nI_1]
  have hA : ∀ (u : Int64 → Option Int64) (q : Int64), ce_lp2 (f_L_sum_L33 M 0 u) ce_FU q 0 = u (q_sA σ n q) := fun u q => by
    refine ms_f2 (fun i => q_sA σ i q) (fun i => nI i) n (fun i hi rec => ?_) (fun rec => ?_) (by rw [ms_FU]; omega)
    · unfold f_L_sum_L33
      rw [w0, ms_b1, if_neg (nI_ge hi (by omega))]
      simp only [ms_nm]
      have hi8 : i < 8 := by omega
      obtain ⟨so, le, po, ca, se, th, wz, c, i0, i0', i1, i1', i2, i2', i3, i3', i4, i4', i5, i5', i6, i6', i11, i11', iw, ip, ib, ix, is⟩ := I7 i hi8
      have e6 : (σ (24 + 54 * i + 6)).toNatClampNeg = wz := by rw [i6, nI_clamp (by omega)]
      have e11 : (σ (24 + 54 * i + 11)).toNatClampNeg = c := by rw [i11, nI_clamp (by omega)]
      have o6 : f0_L_one M 0 (nI i) 6 = some (nI wz) := (q_one (j := 6) hS hI0 hi (by omega)).trans (congrArg some i6)
      have h45 : ∀ (u : Int64 → Option Int64) (q : Int64), ce_lp2 (f_L_sum_L45 M 0 (nI i) u) ce_FU q 0 = u (sp_mx (sp_told σ i) 12 q) := fun u q => by
        refine cs_mloop (u := u) (N := 12) (sp_told σ i) (fun rec q => ?_) (fun j hj rec q => ?_) (by omega) q
        · unfold f_L_sum_L45
          rw [if_pos (by decide)]
        · unfold f_L_sum_L45
          rw [if_neg (show ¬ (12 : Int32) ≤ nI j from nI_ge (b := 12) hj (by omega)), q_one hS hI0 hi hj, ms_b1, ms_nm, ms_nm, nI_1]
      have h76 : ∀ (u : Int64 → Option Int64) (q : Int64), ce_lp2 (f_L_sum_L76 M 0 (nI i) u) ce_FU q 0 = u (sp_mx (sp_s3 σ i c) 30 q) := fun u q => by
        refine cs_mloop (u := u) (N := 30) (sp_s3 σ i c) (fun rec q => ?_) (fun j hj rec q => ?_) (by omega) q
        · unfold f_L_sum_L76
          rw [if_pos (by decide)]
        · unfold f_L_sum_L76
          rw [if_neg (show ¬ (30 : Int32) ≤ nI j from nI_ge (b := 30) hj (by omega)), (q_dv3 j hj).2, (q_dv3 j hj).1, q_stay hS hI0 hi i11 i11' (by omega) (by omega), ms_b1, ms_nm, ms_nm, nI_1]
          rfl
      have h113 : ∀ (u : Int64 → Option Int64) (q : Int64), ce_lp2 (f_L_sum_L113 M 0 (nI i) u) ce_FU q 0 = u (sp_mx (sp_bx σ i wz) wz q) := fun u q => by
        refine cs_mloop (u := u) (N := wz) (sp_bx σ i wz) (fun rec q => ?_) (fun j hj rec q => ?_) (by omega) q
        · unfold f_L_sum_L113
          rw [o6, ms_b1, if_pos (nI_le (Nat.le_refl _) (by omega))]
        · unfold f_L_sum_L113
          rw [o6, ms_b1, if_neg (nI_ge hj (by omega)), q_box hS hI0 hi i6 i6' (by omega), ms_b1, ms_nm, ms_nm, nI_1]
      rw [h45, h76, h113]
      rw [nI_1]
      show rec _ _ = rec (q_s1 σ i _) _
      unfold q_s1
      rw [e6, e11]
    · unfold f_L_sum_L33
      rw [w0, ms_b1, if_pos (nI_le (Nat.le_refl _) (by omega))]
  have h154 : ∀ (u : Int64 → Option Int64) (q : Int64), ce_lp2 (f_L_sum_L154 M 0 u) ce_FU q 0 = u (sp_mx (fun k => sp_ev σ n (k / 7) (k % 7)) (7 * en) q) := fun u q => by
    refine cs_mloop (u := u) (N := 7 * en) (fun k => sp_ev σ n (k / 7) (k % 7)) (fun rec q => ?_) (fun i hi rec q => ?_) (by omega) q
    · unfold f_L_sum_L154
      rw [w2, ms_b1, q_m7 en I2', if_pos (nI_le (Nat.le_refl _) (by omega))]
    · unfold f_L_sum_L154
      rw [w2, ms_b1, q_m7 en I2', if_neg (nI_ge hi (by omega)), (q_dv7 i (by omega)).2, (q_dv7 i (by omega)).1, q_event hS hI0 (by omega) (by omega), ms_b1, ms_nm, ms_nm, nI_1]
  have h194 : ∀ (q : Int64), ce_lp2 (f_L_sum_L194 M 0) ce_FU q 0 = some (sp_mx (fun k => sp_lv σ n (k / 4) (k % 4)) 64 q) := fun q => by
    refine cs_mloop (u := fun q => some q) (N := 64) (fun k => sp_lv σ n (k / 4) (k % 4)) (fun rec q => ?_) (fun i hi rec q => ?_) (by omega) q
    · unfold f_L_sum_L194
      rw [if_pos (by decide)]
    · unfold f_L_sum_L194
      rw [if_neg (show ¬ (64 : Int32) ≤ nI i from nI_ge (b := 64) hi (by omega)), (q_dv4 i hi).2, (q_dv4 i hi).1, q_leaf hS hI0 (by omega) (by omega), ms_b1, ms_nm, ms_nm, nI_1]
  rw [h6, hA, h154, h194]
  rfl
theorem q_cmp (q : Int64) : lg_cmp q q = 0 := by
  unfold lg_cmp
  simp
