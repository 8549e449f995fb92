/-! what the model's small changes leave -/
def sp_shf (σ : Nat → Int32) (a i : Nat) : Nat → Int32 := fun j => if 24 + 54 * a + 24 ≤ j ∧ j < 24 + 54 * a + 24 + i then σ (j + 3) else σ j
def sp_bs0 (σ : Nat → Int32) (a : Nat) (lf tk : Int32) (c : Nat) : Nat → Int32 := upd (upd (upd (upd (upd σ (24 + 54 * a + (24 + 3 * c)) lf) (24 + 54 * a + (24 + 3 * c + 1)) tk) (24 + 54 * a + (24 + 3 * c + 2)) (-1)) (24 + 54 * a + 4) lf) (24 + 54 * a + 11) (nI (c + 1))
def sp_bs (σ : Nat → Int32) (a : Nat) (lf : Int32) (c : Nat) : Nat → Int32 := if c < 10 then sp_bs0 σ a lf (σ 0) c else sp_bs0 (upd (sp_shf σ a 27) (24 + 54 * a + 11) (nI 9)) a lf (σ 0) 9
def ms_bsU (lf a : Int32) (M3 : ce_M) : Option ce_M :=
  ce_b1 (f_X8_of 414 M3 a 11) (fun (x5 : Int32) =>
  ce_nm (24 + (3 * x5)) (fun (x7 : Int32) =>
  ce_b1 (f_X8_put 414 M3 a x7 lf) (fun (M9 : ce_M) =>
  ce_gi 0 816 (ce_nm (ce_rd M9 (414 + 1) (Int32.toNatClampNeg 0)) (fun (x11 : Int32) =>
  ce_b1 (f_X8_put 414 M9 a (x7 + 1) x11) (fun (M14 : ce_M) =>
  ce_b1 (f_X8_put 414 M14 a (x7 + 2) (-1)) (fun (M16 : ce_M) =>
  ce_b1 (f_X8_put 414 M16 a 4 lf) (fun (M18 : ce_M) =>
  ce_b1 (f_X8_adds 414 M18 a 11 1) (fun (M20 : ce_M) =>
  some M20)))))))))
theorem ms_bsE (M : ce_M) (a lf : Int32) : f_X8_beginsStay 414 M a lf = ce_b1 (f_X8_of 414 M a 11) (fun (x1 : Int32) => if x1 = 10 then ce_lp2 (f_X8_beginsStay_L15 414 a (fun (M28 : ce_M) => ce_b1 (f_X8_adds 414 M28 a 11 (-1)) (fun (M30 : ce_M) => ms_bsU lf a M30))) ce_FU M 24 else ms_bsU lf a M) := by
  unfold f_X8_beginsStay ms_bsU
  simp only [ms_nm]
theorem ms_bsU_v (M : ce_M) {σ : Nat → Int32} {a c : Nat} {lf : Int32} (ha : a < 8) (hc : σ (24 + 54 * a + 11) = nI c) (hc2 : c ≤ 9) : ms_bsU lf (nI a) (ms_S M σ) = some (ms_S M (sp_bs0 σ a lf (σ 0) c)) := by
  unfold ms_bsU
  have h1 : 24 + 3 * c < 54 := by omega
  have h2 : 24 + 3 * c + 1 < 54 := by omega
  have h3 : 24 + 3 * c + 2 < 54 := by omega
  simp only [ms_lit, ms_of M σ ha (show 11 < 54 by omega), ms_b1, hc, ms_nm, pk_mul, nI_add, ms_put M _ ha h1, ms_put M _ ha h2, ms_put M _ ha h3, ms_gi (show 0 < 816 by omega) (show 816 < 2 ^ 31 by omega), nI_clamp (show 0 < 2 ^ 31 by omega), ms_rd1, ms_put M _ ha (show 4 < 54 by omega), ms_adds M _ ha (show 11 < 54 by omega)]
  rw [ms_u2 (show 0 ≠ 24 + 54 * a + (24 + 3 * c) by omega), ms_u2 (show 24 + 54 * a + 11 ≠ 24 + 54 * a + 4 by omega), ms_u2 (show 24 + 54 * a + 11 ≠ 24 + 54 * a + (24 + 3 * c + 2) by omega), ms_u2 (show 24 + 54 * a + 11 ≠ 24 + 54 * a + (24 + 3 * c + 1) by omega), ms_u2 (show 24 + 54 * a + 11 ≠ 24 + 54 * a + (24 + 3 * c) by omega), hc, nI_add]
  rfl
theorem ms_shf (M : ce_M) {σ : Nat → Int32} {a : Nat} (ha : a < 8) (u : ce_M → Option ce_M) : ce_lp2 (f_X8_beginsStay_L15 414 (nI a) u) ce_FU (ms_S M σ) 24 = u (ms_S M (sp_shf σ a 27)) := by
  have e0 : sp_shf σ a 0 = σ := funext fun j => if_neg (by omega)
  have h := ms_f2 (F := f_X8_beginsStay_L15 414 (nI a) u) (fun i => ms_S M (sp_shf σ a i)) (fun i => nI (24 + i)) (r := u (ms_S M (sp_shf σ a 27))) 27 (fun i hi rec => by
    unfold f_X8_beginsStay_L15
    have h1 : 24 + i + 3 < 54 := by omega
    have h2 : 24 + i < 54 := by omega
    simp only [ms_lit, if_neg (nI_ge (show (24+i) < 51 by omega) (show 51 < 2 ^ 31 by omega)), nI_add, ms_of M _ ha h1, ms_b1, ms_put M _ ha h2, ms_nm]
    have e : upd (sp_shf σ a i) (24 + 54 * a + (24 + i)) (sp_shf σ a i (24 + 54 * a + (24 + i + 3))) = sp_shf σ a (i + 1) := funext fun j => by
      by_cases cj : j = 24 + 54 * a + (24 + i)
      · rw [ms_u1 cj]
        unfold sp_shf
        rw [if_neg (by omega), if_pos (by omega), cj]
        rfl
      · rw [ms_u2 cj]
        unfold sp_shf
        by_cases c2 : 24 + 54 * a + 24 ≤ j ∧ j < 24 + 54 * a + 24 + i
        · rw [if_pos c2, if_pos (by omega)]
        · rw [if_neg c2, if_neg (by omega)]
    rw [e]
    rfl) (fun rec => by
    unfold f_X8_beginsStay_L15
    rw [if_pos (show (51 : Int32) ≤ nI (24 + 27) by decide)]) (fuel := ce_FU) (by rw [ms_FU]; omega)
  rw [e0] at h
  exact h
theorem ms_begin (M : ce_M) {σ : Nat → Int32} {a c : Nat} {lf : Int32} (ha : a < 8) (hc : σ (24 + 54 * a + 11) = nI c) (hc2 : c ≤ 10) : f_X8_beginsStay 414 (ms_S M σ) (nI a) lf = some (ms_S M (sp_bs σ a lf c)) := by
  rw [ms_bsE, show f_X8_of 414 (ms_S M σ) (nI a) 11 = some (nI c) from by rw [← hc]; exact ms_of M σ ha (show 11 < 54 by omega), ms_b1]
  unfold sp_bs
  by_cases h : c < 10
  · rw [if_pos h, if_neg (show ¬ nI c = 10 from fun q => absurd (ms_nI (b := 10) q (by omega) (by omega)) (by omega)), ms_bsU_v M ha hc (by omega)]
  · have h2 : c = 10 := by omega
    subst h2
    rw [if_neg h, if_pos (show nI 10 = 10 from rfl), ms_shf M ha]
    have e11 : sp_shf σ a 27 (24 + 54 * a + 11) = nI 10 := by
      unfold sp_shf
      rw [if_neg (by omega), hc]
    show ce_b1 (f_X8_adds 414 (ms_S M (sp_shf σ a 27)) (nI a) (nI 11) (-1)) _ = _
    rw [ms_adds M _ ha (by omega), e11, show nI 10 + (-1) = nI 9 from rfl, ms_b1, ms_bsU_v M (c := 9) ha (ms_u1 rfl) (by omega), ms_u2 (show 0 ≠ 24 + 54 * a + 11 by omega)]
    have e0 : sp_shf σ a 27 0 = σ 0 := if_neg (by omega)
    rw [e0]
theorem ms_endS (M : ce_M) {σ : Nat → Int32} {a c : Nat} (ha : a < 8) (hc : σ (24 + 54 * a + 11) = nI c) (hc2 : c ≤ 10) : f_X8_endsStay 414 (ms_S M σ) (nI a) = some (ms_S M (upd σ (24 + 54 * a + (24 + 3 * c - 1)) (σ 0))) := by
  unfold f_X8_endsStay
  have h1 : 24 + 3 * c - 1 < 54 := by omega
  have h2 : 1 ≤ 24 + 3 * c := by omega
  simp only [ms_lit, ms_of M σ ha (show 11 < 54 by omega), ms_b1, hc, ms_nm, pk_mul, nI_add, ms_sub h2, ms_put M _ ha h1, ms_gi (show 0 < 816 by omega) (show 816 < 2 ^ 31 by omega), nI_clamp (show 0 < 2 ^ 31 by omega), ms_rd1]
def sp_ar1 (σ : Nat → Int32) (a wz : Nat) (e : Int32) : Nat → Int32 := if wz = 12 then upd σ (24 + 54 * a + 8) (σ (24 + 54 * a + 8) + nI 1) else upd (upd σ (24 + 54 * a + (12 + wz)) e) (24 + 54 * a + 6) (nI (wz + 1))
theorem ms_arrives (M : ce_M) {σ : Nat → Int32} {a wz : Nat} {e : Int32} (ha : a < 8) (hw : σ (24 + 54 * a + 6) = nI wz) (hw2 : wz ≤ 12) : f_X8_arrives 414 (ms_S M σ) (nI a) e = some (ms_S M (sp_ar1 σ a wz e)) := by
  unfold f_X8_arrives sp_ar1
  have h1 : 12 + wz < 54 := by omega
  simp only [ms_lit, ms_of M σ ha (show 6 < 54 by omega), ms_b1, hw, nI_add, ms_put M _ ha h1, ms_adds M _ ha (show 6 < 54 by omega), ms_adds M _ ha (show 8 < 54 by omega)]
  by_cases c : wz = 12
  · rw [if_pos c, c, if_pos rfl]
  · rw [if_neg c, if_neg (fun q => c (ms_nI q (by omega) (by omega))), ms_u2 (show 24 + 54 * a + 6 ≠ 24 + 54 * a + (12 + wz) by omega), hw, nI_add]
def sp_sh1 (σ : Nat → Int32) (a i : Nat) : Nat → Int32 := fun j => if 24 + 54 * a + 12 ≤ j ∧ j < 24 + 54 * a + 12 + i then σ (j + 1) else σ j
theorem ms_sh1 (M : ce_M) {σ : Nat → Int32} {a p : Nat} (ha : a < 8) (hw : σ (24 + 54 * a + 6) = nI (p + 1)) (hp : p < 12) (u : ce_M → Option ce_M) : ce_lp2 (f_X8_delivers_L11 414 (nI a) u) ce_FU (ms_S M σ) 12 = u (ms_S M (sp_sh1 σ a p)) := by
  have e0 : sp_sh1 σ a 0 = σ := funext fun j => if_neg (by omega)
  have h := ms_f2 (F := f_X8_delivers_L11 414 (nI a) u) (fun i => ms_S M (sp_sh1 σ a i)) (fun i => nI (12 + i)) (r := u (ms_S M (sp_sh1 σ a p))) p (fun i hi rec => by
    unfold f_X8_delivers_L11
    have h1 : 12 + i + 1 < 54 := by omega
    have h2 : 12 + i < 54 := by omega
    have e6 : sp_sh1 σ a i (24 + 54 * a + 6) = nI (p + 1) := by
      unfold sp_sh1
      rw [if_neg (by omega), hw]
    have h3 : 1 ≤ 12 + (p + 1) := by omega
    have h4 : ¬ nI (12 + (p + 1) - 1) ≤ nI (12 + i) := nI_ge (by omega) (by omega)
    simp only [ms_lit, ms_of M _ ha (show 6 < 54 by omega), e6, ms_b1, nI_add, ms_sub h3, if_neg h4, ms_of M _ ha h1, ms_put M _ ha h2, ms_nm]
    have e : upd (sp_sh1 σ a i) (24 + 54 * a + (12 + i)) (sp_sh1 σ a i (24 + 54 * a + (12 + i + 1))) = sp_sh1 σ a (i + 1) := funext fun j => by
      by_cases cj : j = 24 + 54 * a + (12 + i)
      · rw [ms_u1 cj]
        unfold sp_sh1
        rw [if_neg (by omega), if_pos (by omega), cj]
        rfl
      · rw [ms_u2 cj]
        unfold sp_sh1
        by_cases c2 : 24 + 54 * a + 12 ≤ j ∧ j < 24 + 54 * a + 12 + i
        · rw [if_pos c2, if_pos (by omega)]
        · rw [if_neg c2, if_neg (by omega)]
    rw [e]
    rfl) (fun rec => by
    unfold f_X8_delivers_L11
    have e6 : sp_sh1 σ a p (24 + 54 * a + 6) = nI (p + 1) := by
      unfold sp_sh1
      rw [if_neg (by omega), hw]
    have h3 : 1 ≤ 12 + (p + 1) := by omega
    have h4 : nI (12 + (p + 1) - 1) ≤ nI (12 + p) := nI_le (by omega) (by omega)
    simp only [ms_lit, ms_of M _ ha (show 6 < 54 by omega), e6, ms_b1, nI_add, ms_sub h3, if_pos h4]) (fuel := ce_FU) (by rw [ms_FU]; omega)
  rw [e0] at h
  exact h
def sp_dl (σ : Nat → Int32) (a p se e : Nat) : Nat → Int32 := upd (upd (upd (upd (sp_sh1 σ a p) (24 + 54 * a + 6) (nI p)) (24 + 54 * a + 7) (σ (24 + 54 * a + 7) + nI 1)) (8 + se) (σ (8 + se) + nI 1)) (456 + 6 * e + 5) (σ (456 + 6 * e + 5) ||| (nI 1 <<< (nI a &&& nI 31)))
theorem ms_delivers (M : ce_M) {σ : Nat → Int32} {a p se e : Nat} (ha : a < 8) (hw : σ (24 + 54 * a + 6) = nI (p + 1)) (hp : p < 12) (hs : σ (24 + 54 * a + 4) = nI se) (hs2 : se < 16) (he : σ (24 + 54 * a + 12) = nI e) (he2 : e < 60) : f_X8_delivers 414 (ms_S M σ) (nI a) = some (ms_S M (sp_dl σ a p se e)) := by
  unfold f_X8_delivers
  rw [show f_X8_of 414 (ms_S M σ) (nI a) 12 = some (nI e) from by rw [← he]; exact ms_of M σ ha (show 12 < 54 by omega), ms_b1, ms_nm, ms_sh1 M ha hw hp]
  have s6 : sp_sh1 σ a p (24 + 54 * a + 6) = nI (p + 1) := by
    unfold sp_sh1
    rw [if_neg (by omega), hw]
  have s7 : sp_sh1 σ a p (24 + 54 * a + 7) = σ (24 + 54 * a + 7) := by
    unfold sp_sh1
    rw [if_neg (by omega)]
  have s4 : sp_sh1 σ a p (24 + 54 * a + 4) = nI se := by
    unfold sp_sh1
    rw [if_neg (by omega), hs]
  have s8 : sp_sh1 σ a p (8 + se) = σ (8 + se) := by
    unfold sp_sh1
    rw [if_neg (by omega)]
  have s5 : sp_sh1 σ a p (456 + 6 * e + 5) = σ (456 + 6 * e + 5) := by
    unfold sp_sh1
    rw [if_neg (by omega)]
  have h8 : 8 + se < 816 := by omega
  have h5 : 456 + 6 * e + 5 < 816 := by omega
  have m1 : nI (p + 1) + (-nI 1) = nI p := pk_m1 p
  simp only [ms_lit, ms_adds M _ ha (show 6 < 54 by omega), ms_adds M _ ha (show 7 < 54 by omega), ms_of M _ ha (show 4 < 54 by omega), ms_b1, ms_nm, s6, m1, nI_add, pk_mul]
  rw [ms_u2 (show 24 + 54 * a + 7 ≠ 24 + 54 * a + 6 by omega), s7, ms_u2 (show 24 + 54 * a + 4 ≠ 24 + 54 * a + 7 by omega), ms_u2 (show 24 + 54 * a + 4 ≠ 24 + 54 * a + 6 by omega), s4]
  simp only [nI_add, ms_gi h8 (show 816 < 2 ^ 31 by omega), nI_clamp (show 8 + se < 2 ^ 31 by omega), ms_rd1, ms_wr1, ms_gi h5 (show 816 < 2 ^ 31 by omega), nI_clamp (show 456 + 6 * e + 5 < 2 ^ 31 by omega), ms_nm]
  rw [ms_u2 (show 8 + se ≠ 24 + 54 * a + 7 by omega), ms_u2 (show 8 + se ≠ 24 + 54 * a + 6 by omega), s8, ms_u2 (show 456 + 6 * e + 5 ≠ 8 + se by omega), ms_u2 (show 456 + 6 * e + 5 ≠ 24 + 54 * a + 7 by omega), ms_u2 (show 456 + 6 * e + 5 ≠ 24 + 54 * a + 6 by omega), s5]
  rfl
