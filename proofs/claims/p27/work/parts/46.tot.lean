/-! the values of the whole, of stays and of what waits -/
theorem cs_wh0 (w : Nat) (M : ce_M) : f_X6_valueOfWhole w M (nI 0) = some (ce_rd M w 5) := rfl
theorem ms_wh0 (M : ce_M) (σ : Nat → Int32) : f_X8_wholeTold 414 (ms_S M σ) (nI 0) = some (σ 1) := rfl
theorem cs_wh1 (w : Nat) (M : ce_M) : f_X6_valueOfWhole w M (nI 1) = ce_b1 (f_X6_sumOf w M (nI 5)) (fun x => some x) := rfl
theorem ms_wh1 (M : ce_M) (σ : Nat → Int32) : f_X8_wholeTold 414 (ms_S M σ) (nI 1) = ce_b1 (f_X8_sumOf 414 (ms_S M σ) (nI 5)) (fun x => some x) := rfl
theorem cs_wh2 (w : Nat) (M : ce_M) : f_X6_valueOfWhole w M (nI 2) = some (ce_rd M (w + 3) 6) := rfl
theorem ms_wh2 (M : ce_M) (σ : Nat → Int32) : f_X8_wholeTold 414 (ms_S M σ) (nI 2) = some (σ 2) := rfl
theorem cs_wh3 (w : Nat) (M : ce_M) : f_X6_valueOfWhole w M (nI 3) = some (ce_rd M w 6) := rfl
theorem ms_wh3 (M : ce_M) (σ : Nat → Int32) : f_X8_wholeTold 414 (ms_S M σ) (nI 3) = some (σ 0) := rfl
theorem cs_wh4 (w : Nat) (M : ce_M) : f_X6_valueOfWhole w M (nI 4) = some (ce_rd M (w + 1) 0) := rfl
theorem ms_wh4 (M : ce_M) (σ : Nat → Int32) : f_X8_wholeTold 414 (ms_S M σ) (nI 4) = some (σ 3) := rfl
theorem cs_wh5 (w : Nat) (M : ce_M) : f_X6_valueOfWhole w M (nI 5) = some (ce_rd M (w + 1) 1) := rfl
theorem ms_wh5 (M : ce_M) (σ : Nat → Int32) : f_X8_wholeTold 414 (ms_S M σ) (nI 5) = some (σ 4) := rfl
theorem cs_wh6 (w : Nat) (M : ce_M) : f_X6_valueOfWhole w M (nI 6) = some (ce_rd M (w + 1) 2) := rfl
theorem ms_wh6 (M : ce_M) (σ : Nat → Int32) : f_X8_wholeTold 414 (ms_S M σ) (nI 6) = some (σ 5) := rfl
theorem cs_wh7 (w : Nat) (M : ce_M) : f_X6_valueOfWhole w M (nI 7) = some (ce_rd M (w + 1) 3) := rfl
theorem ms_wh7 (M : ce_M) (σ : Nat → Int32) : f_X8_wholeTold 414 (ms_S M σ) (nI 7) = some (σ 6) := rfl
theorem cs_wh8 (w : Nat) (M : ce_M) : f_X6_valueOfWhole w M (nI 8) = ce_b1 (f_X6_sumOf w M (nI 6)) (fun x => some x) := rfl
theorem ms_wh8 (M : ce_M) (σ : Nat → Int32) : f_X8_wholeTold 414 (ms_S M σ) (nI 8) = ce_b1 (f_X8_sumOf 414 (ms_S M σ) (nI 6)) (fun x => some x) := rfl
theorem cs_wh9 (w : Nat) (M : ce_M) : f_X6_valueOfWhole w M (nI 9) = ce_b1 (f_X6_sumOf w M (nI 8)) (fun x => some x) := rfl
theorem ms_wh9 (M : ce_M) (σ : Nat → Int32) : f_X8_wholeTold 414 (ms_S M σ) (nI 9) = ce_b1 (f_X8_sumOf 414 (ms_S M σ) (nI 7)) (fun x => some x) := rfl
theorem cs_wh10 (w : Nat) (M : ce_M) : f_X6_valueOfWhole w M (nI 10) = ce_b1 (f_X6_sumOf w M (nI 9)) (fun x => some x) := rfl
theorem ms_wh10 (M : ce_M) (σ : Nat → Int32) : f_X8_wholeTold 414 (ms_S M σ) (nI 10) = ce_b1 (f_X8_sumOf 414 (ms_S M σ) (nI 8)) (fun x => some x) := rfl
theorem cs_wh11 (w : Nat) (M : ce_M) : f_X6_valueOfWhole w M (nI 11) = ce_b1 (f_X6_sumOf w M (nI 12)) (fun x => some x) := rfl
theorem ms_wh11 (M : ce_M) (σ : Nat → Int32) : f_X8_wholeTold 414 (ms_S M σ) (nI 11) = some (σ 7) := rfl
theorem cs_wh12 (w : Nat) (M : ce_M) : f_X6_valueOfWhole w M (nI 12) = ce_b1 (f_X6_sumOf w M (nI 10)) (fun x => some x) := rfl
theorem ms_wh12 (M : ce_M) (σ : Nat → Int32) : f_X8_wholeTold 414 (ms_S M σ) (nI 12) = ce_b1 (f_X8_sumOf 414 (ms_S M σ) (nI 9)) (fun x => some x) := rfl
def sp_f (σ : Nat → Int32) (k a : Nat) : Int32 := σ (24 + 54 * a + k)
def sp_wh (σ : Nat → Int32) (n : Nat) : Nat → Int32
  | 0 => σ 1
  | 1 => sp_sm (sp_f σ 5) n
  | 2 => σ 2
  | 3 => σ 0
  | 4 => σ 3
  | 5 => σ 4
  | 6 => σ 5
  | 7 => σ 6
  | 8 => sp_sm (sp_f σ 6) n
  | 9 => sp_sm (sp_f σ 7) n
  | 10 => sp_sm (sp_f σ 8) n
  | 11 => σ 7
  | _ => sp_sm (sp_f σ 9) n
theorem ms_sumOf2 (M : ce_M) {n k : Nat} {σ : Nat → Int32} (hn : σ 1 = nI n) (hn8 : n ≤ 8) (hk : k < 54) : f_X8_sumOf 414 (ms_S M σ) (nI k) = some (sp_sm (sp_f σ k) n) := ms_sumOf M hn hn8 hk
theorem cs_wh {M : ce_M} {w t n en j : Nat} {σ : Nat → Int32} (hR : ms_WR M w σ) (hI : ms_IN σ t n en) (hj : j < 13) : f_X6_valueOfWhole w M (nI j) = some (sp_wh σ n j) := by
  obtain ⟨R0, R1, R2, R3, R4, R5, R6, R7, R8⟩ := hR
  obtain ⟨I0, I1, I1', I2, I2', I3, I4, I5, I6, I7, I8, I9, I10⟩ := hI
  have hn : ce_rd M w 5 = nI n := R1.trans I1
  rcases (by omega : j = 0 ∨ j = 1 ∨ j = 2 ∨ j = 3 ∨ j = 4 ∨ j = 5 ∨ j = 6 ∨ j = 7 ∨ j = 8 ∨ j = 9 ∨ j = 10 ∨ j = 11 ∨ j = 12) with rfl | rfl | rfl | rfl | rfl | rfl | rfl | rfl | rfl | rfl | rfl | rfl | rfl
  · rw [cs_wh0, R1]; rfl
  · rw [cs_wh1, cs_sumOf (f := sp_f σ 5) hn I1' (fun a ha => by
      obtain ⟨r0, r1, r2, r3, r4, r5, r6, r7, r8, r9, r10, r11, r12, r13, r14⟩ := R5 a (by omega)
      obtain ⟨so, le, po, ca, se, th, wz, c, i0, i0', i1, i1', i2, i2', i3, i3', i4, i4', i5, i5', i6, i6', i11, i11', iw, ip, ib, ix, is⟩ := I7 a (by omega)
      rw [cs_v5 (r5.trans i5) i5', ← i5]
      rfl)]
    rfl
  · rw [cs_wh2, R2]; rfl
  · rw [cs_wh3, R0]; rfl
  · rw [cs_wh4, R3 0 (by omega)]; rfl
  · rw [cs_wh5, R3 1 (by omega)]; rfl
  · rw [cs_wh6, R3 2 (by omega)]; rfl
  · rw [cs_wh7, R3 3 (by omega)]; rfl
  · rw [cs_wh8, cs_sumOf (f := sp_f σ 6) hn I1' (fun a ha => by
      obtain ⟨r0, r1, r2, r3, r4, r5, r6, r7, r8, r9, r10, r11, r12, r13, r14⟩ := R5 a (by omega)
      rw [cs_v6, r6]
      rfl)]
    rfl
  · rw [cs_wh9, cs_sumOf (f := sp_f σ 7) hn I1' (fun a ha => by
      obtain ⟨r0, r1, r2, r3, r4, r5, r6, r7, r8, r9, r10, r11, r12, r13, r14⟩ := R5 a (by omega)
      rw [cs_v8, r7]
      rfl)]
    rfl
  · rw [cs_wh10, cs_sumOf (f := sp_f σ 8) hn I1' (fun a ha => by
      obtain ⟨r0, r1, r2, r3, r4, r5, r6, r7, r8, r9, r10, r11, r12, r13, r14⟩ := R5 a (by omega)
      rw [cs_v9, r8]
      rfl)]
    rfl
  · rw [cs_wh11, cs_sumOf (f := fun a => ce_rd M (w + 2 + (10 + 7 * a)) 11) hn I1' (fun a ha => cs_v12 _ _), ms_b1, sp_lost_sm]
    have q := sp_lost_tail (R8 n I1 I1') (8 - n) (by omega)
    rw [show n + (8 - n) = 8 by omega, R7] at q
    rw [← q]
    rfl
  · rw [cs_wh12, cs_sumOf (f := sp_f σ 9) hn I1' (fun a ha => by
      obtain ⟨r0, r1, r2, r3, r4, r5, r6, r7, r8, r9, r10, r11, r12, r13, r14⟩ := R5 a (by omega)
      rw [cs_v10, r9]
      rfl)]
    rfl
theorem ms_wh (M : ce_M) {t n en j : Nat} {σ : Nat → Int32} (hI : ms_IN σ t n en) (hj : j < 13) : f_X8_wholeTold 414 (ms_S M σ) (nI j) = some (sp_wh σ n j) := by
  obtain ⟨I0, I1, I1', I2, I2', I3, I4, I5, I6, I7, I8, I9, I10⟩ := hI
  rcases (by omega : j = 0 ∨ j = 1 ∨ j = 2 ∨ j = 3 ∨ j = 4 ∨ j = 5 ∨ j = 6 ∨ j = 7 ∨ j = 8 ∨ j = 9 ∨ j = 10 ∨ j = 11 ∨ j = 12) with rfl | rfl | rfl | rfl | rfl | rfl | rfl | rfl | rfl | rfl | rfl | rfl | rfl
  · rw [ms_wh0]; rfl
  · rw [ms_wh1, ms_sumOf2 M I1 I1' (by omega)]; rfl
  · rw [ms_wh2]; rfl
  · rw [ms_wh3]; rfl
  · rw [ms_wh4]; rfl
  · rw [ms_wh5]; rfl
  · rw [ms_wh6]; rfl
  · rw [ms_wh7]; rfl
  · rw [ms_wh8, ms_sumOf2 M I1 I1' (by omega)]; rfl
  · rw [ms_wh9, ms_sumOf2 M I1 I1' (by omega)]; rfl
  · rw [ms_wh10, ms_sumOf2 M I1 I1' (by omega)]; rfl
  · rw [ms_wh11]; rfl
  · rw [ms_wh12, ms_sumOf2 M I1 I1' (by omega)]; rfl
theorem ms_wh13 (M : ce_M) (σ : Nat → Int32) : f_X8_wholeTold 414 (ms_S M σ) (nI 13) = some (ce_rd M 414 8) := rfl
def sp_st (σ : Nat → Int32) (a c i j : Nat) : Int32 := if i < c then σ (24 + 54 * a + (24 + 3 * (c - (i + 1)) + j)) else -1
theorem cs_st {M : ce_M} {k a c i j : Nat} {σ : Nat → Int32} (hR : ms_SR M k σ a) (hc : σ (24 + 54 * a + 11) = nI c) (hc2 : c ≤ 10) (hi : i < 2 ^ 31) (hj : j < 3) : f_X3_valueOf (k + 1) M (nI i) (nI j) = some (sp_st σ a c i j) := by
  obtain ⟨r0, r1, r2, r3, r4, r5, r6, r7, r8, r9, r10, r11, r12, r13, r14⟩ := hR
  unfold f_X3_valueOf sp_st
  rw [r11, hc]
  by_cases c1 : i < c
  · obtain ⟨q1, q2, q3⟩ := r14 c hc hc2 i c1
    rw [if_pos (nI_lt c1 (by omega)), if_pos c1]
    rcases (by omega : j = 0 ∨ j = 1 ∨ j = 2) with rfl | rfl | rfl
    · rw [if_pos (by decide), ms_gi (show i < 10 by omega) (show 10 < 2 ^ 31 by omega), nI_clamp (show i < 2 ^ 31 by omega), ms_nm, q1]
    · rw [if_neg (by decide), if_pos (by decide), ms_gi (show i < 10 by omega) (show 10 < 2 ^ 31 by omega), nI_clamp (show i < 2 ^ 31 by omega), ms_nm, q2]
    · rw [if_neg (by decide), if_neg (by decide), ms_gi (show i < 10 by omega) (show 10 < 2 ^ 31 by omega), nI_clamp (show i < 2 ^ 31 by omega), ms_nm, q3]
  · rw [if_neg (nI_nlt (show c ≤ i by omega) hi), if_neg c1]
def sp_bx (σ : Nat → Int32) (a wz i : Nat) : Int32 := if i < wz then σ (24 + 54 * a + (12 + i)) else -1
theorem cs_bx {M : ce_M} {k a wz i : Nat} {σ : Nat → Int32} (hR : ms_SR M k σ a) (hw : σ (24 + 54 * a + 6) = nI wz) (hw2 : wz ≤ 12) (hi : i < 2 ^ 31) : f_X2_eventAt (k + 5) M (nI i) = some (sp_bx σ a wz i) := by
  obtain ⟨r0, r1, r2, r3, r4, r5, r6, r7, r8, r9, r10, r11, r12, r13, r14⟩ := hR
  unfold f_X2_eventAt sp_bx
  rw [r6, hw]
  by_cases c1 : i < wz
  · rw [if_neg (nI_ge c1 (by omega)), if_pos c1, ms_gi (show i < 12 by omega) (show 12 < 2 ^ 31 by omega), nI_clamp (show i < 2 ^ 31 by omega), ms_nm, r13 wz hw hw2 i c1]
  · rw [if_pos (nI_le (show wz ≤ i by omega) hi), if_neg c1]
