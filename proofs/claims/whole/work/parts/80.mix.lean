/-! mixing -/
def sp_mx (f : Nat → Int32) : Nat → Int64 → Int64
  | 0, q => q
  | k + 1, q => 31 * sp_mx f k q + Int32.toInt64 (f k)
theorem sp_mx_add (f : Nat → Int32) (a : Nat) (q : Int64) : ∀ b, sp_mx f (a + b) q = sp_mx (fun j => f (a + j)) b (sp_mx f a q) := by
  intro b
  induction b with
  | zero => rfl
  | succ b ih =>
    show 31 * sp_mx f (a + b) q + _ = 31 * _ + _
    rw [ih]
    rfl
theorem sp_mx_eq {f g : Nat → Int32} {q : Int64} : ∀ n, (∀ i, i < n → f i = g i) → sp_mx f n q = sp_mx g n q := by
  intro n
  induction n with
  | zero => intro _; rfl
  | succ n ih =>
    intro h
    show 31 * _ + _ = 31 * _ + _
    rw [ih (fun i hi => h i (by omega)), h n (by omega)]
theorem cs_mix (M : ce_M) (q : Int64) (x : Int32) : f_X7_mix M q x = some (31 * q + Int32.toInt64 x) := rfl
theorem ms_wlwl (M : ce_M) (q p : Int64) : ce_wl (ce_wl M 0 q) 0 p = ce_wl M 0 p := by
  refine Prod.ext rfl (funext fun a => ?_)
  show (if a = 0 then p else if a = 0 then q else M.2 a) = if a = 0 then p else M.2 a
  by_cases c : a = 0
  · rw [if_pos c, if_pos c]
  · rw [if_neg c, if_neg c, if_neg c]
theorem ms_mix (M : ce_M) (σ : Nat → Int32) (q : Int64) (x : Int32) : f_X8_mix 414 (ms_S (ce_wl M 0 q) σ) x = some (ms_S (ce_wl M 0 (31 * q + Int32.toInt64 x)) σ) := by
  have e : ce_wl (ms_S (ce_wl M 0 q) σ) 0 (31 * q + Int32.toInt64 x) = ms_S (ce_wl M 0 (31 * q + Int32.toInt64 x)) σ := congrArg (fun z => ms_S z σ) (ms_wlwl M q _)
  have e2 : ce_rl (ms_S (ce_wl M 0 q) σ) 0 = q := by
    show (if 0 = 0 then q else M.2 0) = q
    exact if_pos rfl
  unfold f_X8_mix
  rw [e2, ms_nm, e]
theorem cs_mloop {F : (Int64 → Int32 → Option Int64) → Int64 → Int32 → Option Int64} {u : Int64 → Option Int64} {N : Nat} (f : Nat → Int32) (h1 : ∀ rec q, F rec q (nI N) = u q) (h2 : ∀ i, i < N → ∀ rec q, F rec q (nI i) = rec (31 * q + Int32.toInt64 (f i)) (nI (i + 1))) (hN : N < 100000) (q : Int64) : ce_lp2 F ce_FU q 0 = u (sp_mx f N q) :=
  ms_f2 (F := F) (fun i => sp_mx f i q) (fun i => nI i) N (fun i hi rec => h2 i hi rec _) (fun rec => h1 rec _) (by rw [ms_FU]; exact hN)
theorem ms_mloop {α : Type} {F : (ce_M → Int32 → Option α) → ce_M → Int32 → Option α} {u : ce_M → Option α} {N : Nat} {M : ce_M} {σ : Nat → Int32} (f : Nat → Int32) (h1 : ∀ rec q, F rec (ms_S (ce_wl M 0 q) σ) (nI N) = u (ms_S (ce_wl M 0 q) σ)) (h2 : ∀ i, i < N → ∀ rec q, F rec (ms_S (ce_wl M 0 q) σ) (nI i) = rec (ms_S (ce_wl M 0 (31 * q + Int32.toInt64 (f i))) σ) (nI (i + 1))) (hN : N < 100000) (q : Int64) : ce_lp2 F ce_FU (ms_S (ce_wl M 0 q) σ) 0 = u (ms_S (ce_wl M 0 (sp_mx f N q)) σ) :=
  ms_f2 (F := F) (fun i => ms_S (ce_wl M 0 (sp_mx f i q)) σ) (fun i => nI i) N (fun i hi rec => h2 i hi rec _) (fun rec => h1 rec _) (by rw [ms_FU]; exact hN)
def sp_s3 (σ : Nat → Int32) (a c x : Nat) : Int32 := sp_st σ a c (x / 3) (x % 3)
def sp_m1 (σ : Nat → Int32) (a : Nat) (q : Int64) : Int64 := 31 * (31 * sp_mx (sp_bx σ a (σ (24 + 54 * a + 6)).toNatClampNeg) (σ (24 + 54 * a + 6)).toNatClampNeg (sp_mx (sp_s3 σ a (σ (24 + 54 * a + 11)).toNatClampNeg) (3 * (σ (24 + 54 * a + 11)).toNatClampNeg) (sp_mx (sp_told σ a) 12 q)) + Int32.toInt64 (sp_ch σ a)) + Int32.toInt64 (sp_cv σ a)
theorem cs_m1 {M : ce_M} {t n en a : Nat} {σ : Nat → Int32} (hR : ms_WR M 1 σ) (hI : ms_IN σ t n en) (ha : a < n) (q : Int64) : f_X7_mixSubscriber 0 M q (nI a) = some (sp_m1 σ a q) := by
  have hR0 := hR
  have hI0 := hI
  obtain ⟨R0, R1, R2, R3, R4, R5, R6, R7, R8⟩ := hR
  obtain ⟨I0, I1, I1', I2, I2', I3, I4, I5, I6, I7, I8, I9, I10⟩ := hI
  have ha8 : a < 8 := by omega
  have hS := R5 a ha8
  obtain ⟨r0, r1, r2, r3, r4, r5, r6, r7, r8, r9, r10, r11, r12, r13, r14⟩ := hS
  obtain ⟨so, le, po, ca, se, th, wz, c, i0, i0', i1, i1', i2, i2', i3, i3', i4, i4', i5, i5', i6, i6', i11, i11', iw, ip, ib, ix, is⟩ := I7 a ha8
  unfold f_X7_mixSubscriber
  rw [ms_gi (show a < 8 by omega) (show 8 < 2 ^ 31 by omega), nI_clamp (show a < 2 ^ 31 by omega), ms_nm, ms_nm]
  generalize hk : 0 + 1 + 2 + (10 + 7 * a) = k1
  have hk2 : k1 = 1 + 2 + (10 + 7 * a) := by omega
  subst hk2
  rw [cs_mloop (N := 12) (sp_told σ a) (fun rec q => by
    unfold f_X7_mixSubscriber_L17
    rw [if_pos (show (12 : Int32) ≤ nI 12 from by decide)]) (fun i hi rec q => by
    unfold f_X7_mixSubscriber_L17
    rw [if_neg (show ¬ (12 : Int32) ≤ nI i from nI_ge (b := 12) hi (by omega)), cs_val (R5 a ha8) (I7 a ha8) hi, ms_b1, cs_mix, ms_b1, ms_nm, nI_1]) (by omega) q, ms_nm]
  have e2 : ∀ (u : Int64 → Option Int64) (q : Int64), ce_lp2 (f_X7_mixSubscriber_L47 M (1 + 2 + (10 + 7 * a)) u) ce_FU q 0 = u (sp_mx (sp_s3 σ a c) (3 * c) q) := fun u q =>
    ms_f2 (F := f_X7_mixSubscriber_L47 M (1 + 2 + (10 + 7 * a)) u) (fun i => sp_mx (sp_s3 σ a c) (3 * i) q) (fun i => nI i) c (fun i hi rec => by
      unfold f_X7_mixSubscriber_L47
      rw [r11, i11, if_neg (nI_ge (show i < c by omega) (show c < 2 ^ 31 by omega)), ms_nm, cs_mloop (N := 3) (fun j => sp_s3 σ a c (3 * i + j)) (fun rec q => by
        unfold f_X7_mixSubscriber_L63
        rw [if_pos (show (3 : Int32) ≤ nI 3 from by decide)]) (fun j hj rec q => by
        unfold f_X7_mixSubscriber_L63
        rw [if_neg (show ¬ (3 : Int32) ≤ nI j from nI_ge (b := 3) hj (by omega)), cs_st (R5 a ha8) i11 i11' (show i < 2 ^ 31 by omega) hj, ms_b1, cs_mix, ms_b1, ms_nm, nI_1]
        unfold sp_s3
        rw [show (3 * i + j) / 3 = i by omega, show (3 * i + j) % 3 = j by omega]) (by omega) _, ms_nm, nI_1, ← sp_mx_add]
      rfl) (fun rec => by
      unfold f_X7_mixSubscriber_L47
      rw [r11, i11, if_pos (nI_le (show c ≤ c by omega) (show c < 2 ^ 31 by omega))]) (by rw [ms_FU]; omega)
  rw [e2, ms_nm]
  rw [cs_mloop (N := wz) (sp_bx σ a wz) (fun rec q => by
    unfold f_X7_mixSubscriber_L103
    rw [r6, i6, if_pos (nI_le (show wz ≤ wz by omega) (show wz < 2 ^ 31 by omega))]) (fun i hi rec q => by
    unfold f_X7_mixSubscriber_L103
    rw [r6, i6, if_neg (nI_ge (show i < wz by omega) (show wz < 2 ^ 31 by omega)), cs_bx (R5 a ha8) i6 i6' (show i < 2 ^ 31 by omega), ms_b1, cs_mix, ms_b1, ms_nm, nI_1]) (by omega) _]
  rw [show f_X6_ticksUntilServed (0 + 1) M (nI a) = some (sp_ch σ a) from cs_until (t := t) (n := n) (en := en) hR0 ha8, ms_b1, cs_mix, ms_b1, cs_cover (R5 a ha8) (I7 a ha8), ms_b1, cs_mix, ms_b1]
  unfold sp_m1
  rw [i6, i11, nI_clamp (show wz < 2 ^ 31 by omega), nI_clamp (show c < 2 ^ 31 by omega)]
theorem ms_m1 (M : ce_M) {t n en a : Nat} {σ : Nat → Int32} (hI : ms_IN σ t n en) (ht : t ≤ 20000) (ha : a < n) (q : Int64) : f_X8_mixOne 414 (ms_S (ce_wl M 0 q) σ) (nI a) = some (ms_S (ce_wl M 0 (sp_m1 σ a q)) σ) := by
  have hI0 := hI
  obtain ⟨I0, I1, I1', I2, I2', I3, I4, I5, I6, I7, I8, I9, I10⟩ := hI
  have ha8 : a < 8 := by omega
  obtain ⟨so, le, po, ca, se, th, wz, c, i0, i0', i1, i1', i2, i2', i3, i3', i4, i4', i5, i5', i6, i6', i11, i11', iw, ip, ib, ix, is⟩ := I7 a ha8
  obtain ⟨c9, c1, c2, c3⟩ := I8 a ha
  have ec : c9 = c := ms_nI (c3.symm.trans i11) (by omega) (by omega)
  subst ec
  unfold f_X8_mixOne
  rw [ms_nm]
  have e1 : ∀ (u7 : ce_M → Int32 → Option ce_M) (q : Int64), ce_lp2 (f_X8_mixOne_L2 (nI a) 414 u7) ce_FU (ms_S (ce_wl M 0 q) σ) 0 = u7 (ms_S (ce_wl M 0 (sp_mx (sp_told σ a) 12 q)) σ) (nI a) := fun u7 q => ms_mloop (N := 12) (F := f_X8_mixOne_L2 (nI a) 414 u7) (u := fun M9 => u7 M9 (nI a)) (M := M) (σ := σ) (sp_told σ a) (fun rec q => by
    unfold f_X8_mixOne_L2
    rw [if_pos (show (12 : Int32) ≤ nI 12 from by decide)]) (fun i hi rec q => by
    unfold f_X8_mixOne_L2
    rw [if_neg (show ¬ (12 : Int32) ≤ nI i from nI_ge (b := 12) hi (by omega)), ms_told _ ha8 I2 I2' I10 hi, ms_b1, ms_mix, ms_b1, ms_nm, nI_1]) (by omega) q
  rw [e1]
  have o11 : ∀ Mm : ce_M, f_X8_of 414 (ms_S Mm σ) (nI a) 11 = some (nI c9) := fun Mm => (ms_of (k := 11) Mm σ ha8 (by omega)).trans (congrArg some i11)
  have o6 : ∀ Mm : ce_M, f_X8_of 414 (ms_S Mm σ) (nI a) 6 = some (nI wz) := fun Mm => (ms_of (k := 6) Mm σ ha8 (by omega)).trans (congrArg some i6)
  rw [o11, ms_b1, show nI c9 - 1 = nI (c9 - 1) from ms_sub (b := 1) (by omega), ms_nm, ms_nm]
  have e2 : ∀ (u : ce_M → Option ce_M) (q : Int64), ce_lp2 (f_X8_mixOne_L34 414 (nI a) u) ce_FU (ms_S (ce_wl M 0 q) σ) (nI (c9 - 1)) = u (ms_S (ce_wl M 0 (sp_mx (sp_s3 σ a c9) (3 * c9) q)) σ) := fun u q => by
    have h := ms_f2 (F := f_X8_mixOne_L34 414 (nI a) u) (fun i => ms_S (ce_wl M 0 (sp_mx (sp_s3 σ a c9) (3 * i) q)) σ) (fun i => if i < c9 then nI (c9 - 1 - i) else -1) (r := u (ms_S (ce_wl M 0 (sp_mx (sp_s3 σ a c9) (3 * c9) q)) σ)) c9 (fun i hi rec => by
      unfold f_X8_mixOne_L34
      have st : ∀ (Mm : ce_M) (j : Nat), j < 3 → f_X8_stayAt 414 (ms_S Mm σ) (nI a) (nI (c9 - 1 - i)) (nI j) = some (sp_s3 σ a c9 (3 * i + j)) := fun Mm j hj => by
        rw [ms_stA Mm σ ha8 (show c9 - 1 - i < 10 by omega) hj]
        unfold sp_s3 sp_st
        rw [show (3 * i + j) / 3 = i by omega, show (3 * i + j) % 3 = j by omega, if_pos hi, show c9 - 1 - i = c9 - (i + 1) by omega]
      rw [if_pos hi, if_neg (nI_pos (by omega)), show f_X8_stayAt 414 _ (nI a) (nI (c9 - 1 - i)) 0 = _ from st _ 0 (by omega), ms_b1, ms_mix, ms_b1, show f_X8_stayAt 414 _ (nI a) (nI (c9 - 1 - i)) 1 = _ from st _ 1 (by omega), ms_b1, ms_mix, ms_b1, show f_X8_stayAt 414 _ (nI a) (nI (c9 - 1 - i)) 2 = _ from st _ 2 (by omega), ms_b1, ms_mix, ms_b1, ms_nm]
      have ex : nI (c9 - 1 - i) + -1 = if i + 1 < c9 then nI (c9 - 1 - (i + 1)) else -1 := by
        by_cases d : i + 1 < c9
        · rw [if_pos d]
          obtain ⟨m, hm⟩ : ∃ m, c9 - 1 - i = m + 1 := ⟨c9 - 1 - i - 1, by omega⟩
          rw [hm, show c9 - 1 - (i + 1) = m by omega]
          exact (Int32.sub_eq_add_neg (nI (m + 1)) 1).symm.trans (nI_pred m)
        · rw [if_neg d, show c9 - 1 - i = 0 by omega]
          rfl
      rw [ex]
      rfl) (fun rec => by
      unfold f_X8_mixOne_L34
      rw [if_neg (Nat.lt_irrefl c9), if_pos (by decide)]) (fuel := ce_FU) (by rw [ms_FU]; omega)
    rw [if_pos (show 0 < c9 by omega)] at h
    exact h
  rw [e2, ms_nm]
  have e3 : ∀ (u : ce_M → Option ce_M) (q : Int64), ce_lp2 (f_X8_mixOne_L79 414 (nI a) u) ce_FU (ms_S (ce_wl M 0 q) σ) 0 = u (ms_S (ce_wl M 0 (sp_mx (sp_bx σ a wz) wz q)) σ) := fun u q => ms_mloop (N := wz) (F := f_X8_mixOne_L79 414 (nI a) u) (u := u) (M := M) (σ := σ) (sp_bx σ a wz) (fun rec q => by
    unfold f_X8_mixOne_L79
    rw [o6, ms_b1, if_pos (nI_le (show wz ≤ wz by omega) (show wz < 2 ^ 31 by omega))]) (fun i hi rec q => by
    unfold f_X8_mixOne_L79
    rw [o6, ms_b1, if_neg (nI_ge (show i < wz by omega) (show wz < 2 ^ 31 by omega)), show 12 + nI i = nI (12 + i) from nI_add 12 i, ms_of _ σ ha8 (show 12 + i < 54 by omega), ms_b1, ms_mix, ms_b1, ms_nm, nI_1]
    unfold sp_bx
    rw [if_pos hi]) (by omega) q
  rw [e3]
  rw [ms_until _ ha8 hI0 ht, ms_b1, ms_mix, ms_b1, ms_cover _ ha8 (I7 a ha8), ms_b1, ms_mix, ms_b1]
  unfold sp_m1
  rw [i6, i11, nI_clamp (show wz < 2 ^ 31 by omega), nI_clamp (show c9 < 2 ^ 31 by omega)]
