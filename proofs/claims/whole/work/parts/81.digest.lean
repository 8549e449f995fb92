/-! the digest -/
def sp_w14 (σ : Nat → Int32) (n len i : Nat) : Int32 := if i = 13 then nI len else sp_wh σ n i
def sp_sb (σ : Nat → Int32) : Nat → Int64 → Int64
  | 0, q => q
  | a + 1, q => sp_m1 σ a (sp_sb σ a q)
def sp_e7 (σ : Nat → Int32) (n x : Nat) : Int32 := sp_ev σ n (x / 7) (x % 7)
def sp_l4 (σ : Nat → Int32) (n x : Nat) : Int32 := sp_lv σ n (x / 4) (x % 4)
def sp_bb (σ : Nat → Int32) (n : Nat) : Int32 := (sp_bz (fun l => sp_sm (sp_lfw σ l) n) 16).1
def sp_dg (σ : Nat → Int32) (n en c len : Nat) : Int64 := 31 * sp_mx (sp_l4 σ n) 64 (sp_mx (sp_e7 σ n) (7 * en) (sp_sb σ n (sp_mx (sp_w14 σ n len) 14 (31 * 18526 + Int32.toInt64 (nI c))))) + Int32.toInt64 (sp_bb σ n)
theorem ms_rlwl (M : ce_M) (q : Int64) : ce_rl (ce_wl M 0 q) 0 = q := by
  show (if 0 = 0 then q else M.2 0) = q
  exact if_pos rfl
theorem ms_d7 : ∀ i, i < 420 → nI i / 7 = nI (i / 7) ∧ nI i - nI i / 7 * 7 = nI (i % 7) := by decide +kernel
theorem ms_d4 : ∀ i, i < 64 → nI i / 4 = nI (i / 4) ∧ nI i - nI i / 4 * 4 = nI (i % 4) := by decide +kernel
theorem cs_digest {M : ce_M} {t n en c len : Nat} {σ : Nat → Int32} (hR : ms_WR M 1 σ) (hI : ms_IN σ t n en) (hc : ce_rd M 137 2 = nI c) (hl : ce_rd M 411 1 = nI len) : f_X7_digest 0 M = some (sp_dg σ n en c len) := by
  have hR0 := hR
  have hI0 := hI
  obtain ⟨R0, R1, R2, R3, R4, R5, R6, R7, R8⟩ := hR
  obtain ⟨I0, I1, I1', I2, I2', I3, I4, I5, I6, I7, I8, I9, I10⟩ := hI
  have n5 : ce_rd M (0 + 1) 5 = nI n := R1.trans I1
  have n6 : ce_rd M (0 + 1 + 3) 6 = nI en := R2.trans I2
  have w14 : ∀ i, i < 14 → f_X7_valueOfWhole 0 M (nI i) = some (sp_w14 σ n len i) := fun i hi => by
    unfold sp_w14
    by_cases q : i = 13
    · rw [if_pos q, q]
      unfold f_X7_valueOfWhole
      rw [if_pos (show nI 13 = 13 from rfl)]
      exact congrArg some hl
    · rw [if_neg q, cs_whA (show i < 13 by omega)]
      exact cs_wh hR0 hI0 (show i < 13 by omega)
  unfold f_X7_digest
  rw [cs_mix, ms_b1, show ce_rd M (0 + 137) 2 = nI c from hc, ms_nm]
  rw [cs_mloop (N := 14) (sp_w14 σ n len) (fun rec q => by
    unfold f_X7_digest_L16
    rw [if_pos (show (14 : Int32) ≤ nI 14 from by decide)]) (fun i hi rec q => by
    unfold f_X7_digest_L16
    rw [if_neg (show ¬ (14 : Int32) ≤ nI i from nI_ge (b := 14) hi (by omega)), w14 i hi, ms_b1, cs_mix, ms_b1, ms_nm, nI_1]) (by omega) _, ms_nm]
  have e2 : ∀ (u : Int64 → Option Int64) (q : Int64), ce_lp2 (f_X7_digest_L40 M 0 u) ce_FU q 0 = u (sp_sb σ n q) := fun u q =>
    ms_f2 (F := f_X7_digest_L40 M 0 u) (fun a => sp_sb σ a q) (fun i => nI i) n (fun a ha rec => by
      unfold f_X7_digest_L40
      rw [n5, if_neg (nI_ge (show a < n by omega) (show n < 2 ^ 31 by omega)), cs_m1 hR0 hI0 ha, ms_b1, ms_nm, nI_1]
      rfl) (fun rec => by
      unfold f_X7_digest_L40
      rw [n5, if_pos (nI_le (show n ≤ n by omega) (show n < 2 ^ 31 by omega))]) (by rw [ms_FU]; omega)
  rw [e2, ms_nm]
  have e3 : ∀ (u : Int64 → Option Int64) (q : Int64), ce_lp2 (f_X7_digest_L66 M 0 u) ce_FU q 0 = u (sp_mx (sp_e7 σ n) (7 * en) q) := fun u q =>
    ms_f2 (F := f_X7_digest_L66 M 0 u) (fun i => sp_mx (sp_e7 σ n) (7 * i) q) (fun i => nI i) en (fun i hi rec => by
      unfold f_X7_digest_L66
      rw [n6, if_neg (nI_ge (show i < en by omega) (show en < 2 ^ 31 by omega)), ms_nm, cs_mloop (N := 7) (fun j => sp_e7 σ n (7 * i + j)) (fun rec q => by
        unfold f_X7_digest_L83
        rw [if_pos (show (7 : Int32) ≤ nI 7 from by decide)]) (fun j hj rec q => by
        unfold f_X7_digest_L83
        rw [if_neg (show ¬ (7 : Int32) ≤ nI j from nI_ge (b := 7) hj (by omega)), show f_X6_valueOfEvent (0 + 1) M (nI i) (nI j) = _ from cs_ev hR0 hI0 (show i < 60 by omega) hj, ms_b1, cs_mix, ms_b1, ms_nm, nI_1]
        unfold sp_e7
        rw [show (7 * i + j) / 7 = i by omega, show (7 * i + j) % 7 = j by omega]) (by omega) _, ms_nm, nI_1, ← sp_mx_add]
      rfl) (fun rec => by
      unfold f_X7_digest_L66
      rw [n6, if_pos (nI_le (show en ≤ en by omega) (show en < 2 ^ 31 by omega))]) (by rw [ms_FU]; omega)
  rw [e3, ms_nm]
  have e4 : ∀ (u : Int64 → Option Int64) (q : Int64), ce_lp2 (f_X7_digest_L119 0 M u) ce_FU q 0 = u (sp_mx (sp_l4 σ n) 64 q) := fun u q =>
    ms_f2 (F := f_X7_digest_L119 0 M u) (fun i => sp_mx (sp_l4 σ n) (4 * i) q) (fun i => nI i) 16 (fun i hi rec => by
      unfold f_X7_digest_L119
      rw [if_neg (show ¬ (16 : Int32) ≤ nI i from nI_ge (b := 16) hi (by omega)), ms_nm, cs_mloop (N := 4) (fun j => sp_l4 σ n (4 * i + j)) (fun rec q => by
        unfold f_X7_digest_L128
        rw [if_pos (show (4 : Int32) ≤ nI 4 from by decide)]) (fun j hj rec q => by
        unfold f_X7_digest_L128
        rw [if_neg (show ¬ (4 : Int32) ≤ nI j from nI_ge (b := 4) hj (by omega)), show f_X6_valueOfLeaf (0 + 1) M (nI i) (nI j) = _ from cs_lv hR0 hI0 hi hj, ms_b1, cs_mix, ms_b1, ms_nm, nI_1]
        unfold sp_l4
        rw [show (4 * i + j) / 4 = i by omega, show (4 * i + j) % 4 = j by omega]) (by omega) _, ms_nm, nI_1, ← sp_mx_add]
      rfl) (fun rec => by
      unfold f_X7_digest_L119
      rw [if_pos (show (16 : Int32) ≤ nI 16 from by decide)]) (by rw [ms_FU]; omega)
  rw [e4, show f_X6_busiestLeaf (0 + 1) M = some (sp_bb σ n) from cs_busiest hR0 hI0, ms_b1, cs_mix, ms_b1]
  rfl
theorem ms_digest {M : ce_M} {t n en c len : Nat} (hI : ms_IN (ce_rd M 415) t n en) (ht : t ≤ 20000) (hc : ce_rd M 414 3 = nI c) (hl : ce_rd M 414 8 = nI len) : f_X8_digest 414 M = some (ce_wl (ce_wr M 414 4 0) 0 (sp_dg (ce_rd M 415) n en c len), sp_dg (ce_rd M 415) n en c len) := by
  generalize hσ : ce_rd M 415 = σ at hI ⊢
  have hI0 := hI
  obtain ⟨I0, I1, I1', I2, I2', I3, I4, I5, I6, I7, I8, I9, I10⟩ := hI
  generalize hN : ce_wr M 414 4 0 = N
  have n415 : ce_rd N 415 = σ := by rw [← hN, ms_row (by omega)]; exact hσ
  have n8 : ∀ q, ce_rd (ce_wl N 0 q) 414 8 = nI len := fun q => by
    show ce_rd N 414 8 = _
    rw [← hN, ms_rw3 (by omega)]; exact hl
  have hs : ∀ q, ce_wl N 0 q = ms_S (ce_wl N 0 q) σ := fun q => by
    have z := (ms_S_self (ce_wl N 0 q)).symm
    rw [show ce_rd (ce_wl N 0 q) 415 = σ from n415] at z
    exact z
  have w14 : ∀ i q, i < 14 → f_X8_wholeTold 414 (ms_S (ce_wl N 0 q) σ) (nI i) = some (sp_w14 σ n len i) := fun i q hi => by
    unfold sp_w14
    by_cases d : i = 13
    · rw [if_pos d, d, ms_wh13, n8]
    · rw [if_neg d, ms_wh _ hI0 (show i < 13 by omega)]
  unfold f_X8_digest
  rw [ms_nm, hN, ms_nm, show ce_rd (ce_wl N 0 18526) 414 3 = nI c from by
    show ce_rd N 414 3 = _
    rw [← hN, ms_rw3 (by omega)]; exact hc]
  rw [hs 18526, ms_mix, ms_b1, ms_nm]
  have e1 : ∀ (u : ce_M → Option (ce_M × Int64)) (q : Int64), ce_lp2 (f_X8_digest_L22 414 u) ce_FU (ms_S (ce_wl N 0 q) σ) 0 = u (ms_S (ce_wl N 0 (sp_mx (sp_w14 σ n len) 14 q)) σ) := fun u q => ms_mloop (N := 14) (F := f_X8_digest_L22 414 u) (u := u) (M := N) (σ := σ) (sp_w14 σ n len) (fun rec q => by
    unfold f_X8_digest_L22
    rw [if_pos (show (14 : Int32) ≤ nI 14 from by decide)]) (fun i hi rec q => by
    unfold f_X8_digest_L22
    rw [if_neg (show ¬ (14 : Int32) ≤ nI i from nI_ge (b := 14) hi (by omega)), w14 i q hi, ms_b1, ms_mix, ms_b1, ms_nm, nI_1]) (by omega) q
  rw [e1, ms_nm]
  have g1 : ∀ K : Option (ce_M × Int64), ce_gi 1 816 K = K := fun K => ms_gi (n := 1) (by omega) (by omega)
  have g2 : ∀ K : Option (ce_M × Int64), ce_gi 2 816 K = K := fun K => ms_gi (n := 2) (by omega) (by omega)
  have v1 : ∀ Mm : ce_M, ce_rd (ms_S Mm σ) (414 + 1) (Int32.toNatClampNeg 1) = nI n := fun Mm => I1
  have v2 : ∀ Mm : ce_M, ce_rd (ms_S Mm σ) (414 + 1) (Int32.toNatClampNeg 2) = nI en := fun Mm => I2
  have e2 : ∀ (u : ce_M → Option (ce_M × Int64)) (q : Int64), ce_lp2 (f_X8_digest_L45 414 u) ce_FU (ms_S (ce_wl N 0 q) σ) 0 = u (ms_S (ce_wl N 0 (sp_sb σ n q)) σ) := fun u q =>
    ms_f2 (F := f_X8_digest_L45 414 u) (fun a => ms_S (ce_wl N 0 (sp_sb σ a q)) σ) (fun i => nI i) n (fun a ha rec => by
      unfold f_X8_digest_L45
      rw [g1, v1, ms_nm, if_neg (nI_ge (show a < n by omega) (show n < 2 ^ 31 by omega)), ms_m1 N hI0 ht ha, ms_b1, ms_nm, nI_1]
      rfl) (fun rec => by
      unfold f_X8_digest_L45
      rw [g1, v1, ms_nm, if_pos (nI_le (show n ≤ n by omega) (show n < 2 ^ 31 by omega))]) (by rw [ms_FU]; omega)
  rw [e2, ms_nm]
  have e3 : ∀ (u : ce_M → Option (ce_M × Int64)) (q : Int64), ce_lp2 (f_X8_digest_L68 414 u) ce_FU (ms_S (ce_wl N 0 q) σ) 0 = u (ms_S (ce_wl N 0 (sp_mx (sp_e7 σ n) (7 * en) q)) σ) := fun u q => ms_mloop (N := 7 * en) (F := f_X8_digest_L68 414 u) (u := u) (M := N) (σ := σ) (sp_e7 σ n) (fun rec q => by
    unfold f_X8_digest_L68
    rw [g2, v2, ms_nm, show 7 * nI en = nI (7 * en) from pk_mul 7 en, if_pos (nI_le (show (7*en) ≤ (7*en) by omega) (show (7*en) < 2 ^ 31 by omega))]) (fun i hi rec q => by
    unfold f_X8_digest_L68
    rw [g2, v2, ms_nm, show 7 * nI en = nI (7 * en) from pk_mul 7 en, if_neg (nI_ge (show i < (7*en) by omega) (show (7*en) < 2 ^ 31 by omega)), (ms_d7 i (by omega)).2, (ms_d7 i (by omega)).1, ms_ev _ hI0 (show i / 7 < 60 by omega) (show i % 7 < 7 by omega), ms_b1, show sp_ev σ n (i / 7) (i % 7) = sp_e7 σ n i from rfl, ms_mix, ms_b1, ms_nm, nI_1]) (by omega) q
  rw [e3, ms_nm]
  have e4 : ∀ (u : ce_M → Option (ce_M × Int64)) (q : Int64), ce_lp2 (f_X8_digest_L105 414 u) ce_FU (ms_S (ce_wl N 0 q) σ) 0 = u (ms_S (ce_wl N 0 (sp_mx (sp_l4 σ n) 64 q)) σ) := fun u q => ms_mloop (N := 64) (F := f_X8_digest_L105 414 u) (u := u) (M := N) (σ := σ) (sp_l4 σ n) (fun rec q => by
    unfold f_X8_digest_L105
    rw [if_pos (show (64 : Int32) ≤ nI 64 from by decide)]) (fun i hi rec q => by
    unfold f_X8_digest_L105
    rw [if_neg (show ¬ (64 : Int32) ≤ nI i from nI_ge (b := 64) hi (by omega)), (ms_d4 i hi).2, (ms_d4 i hi).1, ms_lv _ hI0 (show i / 4 < 16 by omega) (show i % 4 < 4 by omega), ms_b1, show sp_lv σ n (i / 4) (i % 4) = sp_l4 σ n i from rfl, ms_mix, ms_b1, ms_nm, nI_1]) (by omega) q
  rw [e4, show f_X8_busiestLeaf 414 (ms_S (ce_wl N 0 (sp_mx (sp_l4 σ n) 64 (sp_mx (sp_e7 σ n) (7 * en) (sp_sb σ n (sp_mx (sp_w14 σ n len) 14 (31 * 18526 + Int32.toInt64 (nI c))))))) σ) = some (sp_bb σ n) from ms_busiest _ hI0, ms_b1, ms_mix, ms_b1]
  have hq : ∀ q, ms_S (ce_wl N 0 q) σ = ce_wl N 0 q := fun q => (hs q).symm
  rw [hq, ms_rlwl]
  unfold sp_dg
  rfl
theorem LW_digest {M : ce_M} (hG : GI M) : ∃ q M3, f_X7_digest 0 M = some q ∧ f_X8_digest 414 M = some (M3, q) ∧ GI M3 := by
  have hG0 := hG
  obtain ⟨⟨hW, t, n, en, ht, hI⟩, ⟨c, nx, a1, a2, a3, a4, _⟩, len, l1, l2, l3, _⟩ := hG
  exact ⟨_, _, cs_digest hW hI a4 l2, ms_digest hI (by omega) a3 l3, GI_wl (GI_m hG0 _ (by omega) (by omega)) _ _⟩
