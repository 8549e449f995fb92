/-! the deliveries of a tick, the tick -/
theorem ms_WR_k {M M' : ce_M} {w : Nat} {σ : Nat → Int32} (hR : ms_WR M w σ) (h : ∀ q, w ≤ q → q < w + 68 → q ≠ w + 11 → ce_rd M' q = ce_rd M q) : ms_WR M' w σ := by
  obtain ⟨R0, R1, R2, R3, R4, R5, R6, R7, R8⟩ := hR
  refine ⟨by rw [h w (by omega) (by omega) (by omega)]; exact R0, by rw [h w (by omega) (by omega) (by omega)]; exact R1, by rw [h _ (by omega) (by omega) (by omega)]; exact R2, fun i hi => by rw [h _ (by omega) (by omega) (by omega)]; exact R3 i hi, fun l hl => by rw [h _ (by omega) (by omega) (by omega)]; exact R4 l hl, fun a ha => ms_SR_fr (R5 a ha) (fun q h1 h2 => h q (by omega) (by omega) (by omega)) (fun _ _ => rfl) rfl, fun e he => ?_, ?_, fun m q1 q2 a q3 q4 => ?_⟩
  · rw [h _ (by omega) (by omega) (by omega), h _ (by omega) (by omega) (by omega), h _ (by omega) (by omega) (by omega), h _ (by omega) (by omega) (by omega), h _ (by omega) (by omega) (by omega), h _ (by omega) (by omega) (by omega)]
    exact R6 e he
  · rw [← R7]
    exact sp_lost_eq 8 (fun b hb => congrFun (h _ (by omega) (by omega) (by omega)) 11)
  · rw [h _ (by omega) (by omega) (by omega)]
    exact R8 m q1 q2 a q3 q4
theorem cs_W6 {M : ce_M} {w : Nat} {σ : Nat → Int32} (hR : ms_WR M w σ) (v : Int32) : ms_WR (ce_wr M w 6 v) w (upd σ 0 v) := by
  obtain ⟨R0, R1, R2, R3, R4, R5, R6, R7, R8⟩ := hR
  refine ⟨by rw [ms_rw1 rfl rfl, ms_u1 rfl], by rw [ms_rw3 (by omega), ms_u2 (by omega)]; exact R1, by rw [ms_row (by omega), ms_u2 (by omega)]; exact R2, fun i hi => by rw [ms_row (by omega), ms_u2 (by omega)]; exact R3 i hi, fun l hl => by rw [ms_row (by omega), ms_u2 (by omega)]; exact R4 l hl, fun a ha => ms_SR_fr (R5 a ha) (fun q h1 h2 => ms_row (by omega)) (fun k hk => ms_u2 (by omega)) (sp_rt_eq 60 (fun e he => ms_u2 (by omega))), fun e he => ?_, ?_, fun m q1 q2 a q3 q4 => ?_⟩
  · rw [ms_row (by omega), ms_row (by omega), ms_row (by omega), ms_row (by omega), ms_row (by omega), ms_row (by omega), ms_u2 (by omega), ms_u2 (by omega), ms_u2 (by omega), ms_u2 (by omega), ms_u2 (by omega), ms_u2 (by omega)]
    exact R6 e he
  · rw [ms_u2 (by omega), ← R7]
    exact sp_lost_eq 8 (fun b hb => congrFun (ms_row (by omega)) 11)
  · rw [ms_u2 (by omega)] at q1
    rw [ms_row (by omega)]
    exact R8 m q1 q2 a q3 q4
theorem ms_IN_t {σ : Nat → Int32} {t n en : Nat} (hI : ms_IN σ t n en) : ms_IN (upd σ 0 (nI (t + 1))) (t + 1) n en := by
  obtain ⟨I0, I1, I1', I2, I2', I3, I4, I5, I6, I7, I8, I9, I10⟩ := hI
  refine ⟨ms_u1 rfl, by rw [ms_u2 (by omega)]; exact I1, I1', by rw [ms_u2 (by omega)]; exact I2, I2', by rw [ms_u2 (by omega)]; exact I3, by rw [ms_u2 (by omega)]; exact I4, by rw [ms_u2 (by omega)]; exact I5, by rw [ms_u2 (by omega)]; exact I6, fun a ha => ms_SI_cg (ms_SI_up (I7 a ha) (by omega) (Nat.le_refl en)) (fun j hj => ms_u2 (by omega)), fun a ha => by rw [ms_u2 (by omega)]; exact I8 a ha, fun a h1 h2 k hk => by rw [ms_u2 (by omega)]; exact I9 a h1 h2 k hk, fun e h1 h2 k hk => by rw [ms_u2 (by omega)]; exact I10 e h1 h2 k hk⟩
theorem sp_d_le1 (wz cp q : Nat) : sp_d wz cp q ≤ wz := by unfold sp_d; by_cases c : wz < cp - q <;> simp only [c, if_true, if_false] <;> omega
theorem sp_d_le2 (wz cp q : Nat) : sp_d wz cp q ≤ cp - q := by unfold sp_d; by_cases c : wz < cp - q <;> simp only [c, if_true, if_false] <;> omega
def sp_dx (z : (Nat → Int32) × (Nat → Int32) × Int32) (a wz se cp q : Nat) : (Nat → Int32) × (Nat → Int32) × Int32 := (sp_dn z.1 a wz se (sp_d wz cp q), upd z.2.1 se (nI (q + sp_d wz cp q)), z.2.2 + nI (sp_d wz cp q))
def sp_ds (z : (Nat → Int32) × (Nat → Int32) × Int32) (a : Nat) : (Nat → Int32) × (Nat → Int32) × Int32 := if z.1 (24 + 54 * a + 5) = nI 1 ∧ z.1 (24 + 54 * a + 10) ≤ z.1 0 then sp_dx z a (z.1 (24 + 54 * a + 6)).toNatClampNeg (z.1 (24 + 54 * a + 4)).toNatClampNeg (z.1 (3 + 1)).toNatClampNeg (z.2.1 (z.1 (24 + 54 * a + 4)).toNatClampNeg).toNatClampNeg else z
theorem sp_ds_y {z : (Nat → Int32) × (Nat → Int32) × Int32} {a wz se cp q : Nat} (h5 : z.1 (24 + 54 * a + 5) = nI 1) (h10 : z.1 (24 + 54 * a + 10) ≤ z.1 0) (h6 : z.1 (24 + 54 * a + 6) = nI wz) (hw : wz ≤ 12) (h4 : z.1 (24 + 54 * a + 4) = nI se) (hs : se < 16) (hcp : z.1 (3 + 1) = nI cp) (hcp2 : cp ≤ 9) (hq : z.2.1 se = nI q) (hq2 : q ≤ 9) : sp_ds z a = sp_dx z a wz se cp q := by
  unfold sp_ds
  rw [if_pos ⟨h5, h10⟩, h6, h4, hcp, nI_clamp (show se < 2 ^ 31 by omega), hq, nI_clamp (show wz < 2 ^ 31 by omega), nI_clamp (show cp < 2 ^ 31 by omega), nI_clamp (show q < 2 ^ 31 by omega)]
def ms_DZ (z : (Nat → Int32) × (Nat → Int32) × Int32) (t n en cp k : Nat) : Prop := ms_IN z.1 t n en ∧ z.1 (3 + 1) = nI cp ∧ (∀ l, l < 16 → ∃ q, q ≤ cp ∧ z.2.1 l = nI q) ∧ ∃ m, m ≤ k ∧ z.2.2 = nI m
theorem ms_DZ_s {z : (Nat → Int32) × (Nat → Int32) × Int32} {t n en cp k a : Nat} (h : ms_DZ z t n en cp k) (hcp : cp ≤ 9) (ha : a < n) : ms_DZ (sp_ds z a) t n en cp (k + 12) := by
  obtain ⟨hI, h1, h2, m, h3, h4⟩ := h
  have ha8 : a < 8 := by have := hI.2.2.1; omega
  by_cases c : z.1 (24 + 54 * a + 5) = nI 1 ∧ z.1 (24 + 54 * a + 10) ≤ z.1 0
  · have hI0 := hI
    obtain ⟨I0, I1, I1', I2, I2', I3, I4, I5, I6, I7, I8, I9, I10⟩ := hI
    obtain ⟨so, le, po, ca, se, th, wz, c9, i0, i0', i1, i1', i2, i2', i3, i3', i4, i4', i5, i5', i6, i6', i11, i11', iw, ip, ib, ix, is⟩ := I7 a ha8
    obtain ⟨q, q1, q2⟩ := h2 se i4'
    rw [sp_ds_y c.1 c.2 i6 i6' i4 i4' h1 hcp q2 (by omega)]
    have e1 := sp_d_le1 wz cp q
    have e2 := sp_d_le2 wz cp q
    refine ⟨ms_IN_dn hI0 ha i6 i6' i4 i4' e1, ?_, fun l hl => ?_, m + sp_d wz cp q, by omega, ?_⟩
    · have hb60 : ∀ i, i < wz → ∃ e, e < 60 ∧ z.1 (24 + 54 * a + (12 + i)) = nI e := fun i hi => by
        obtain ⟨e, e1, e2⟩ := ib i hi
        exact ⟨e, by omega, e2⟩
      obtain ⟨x6, x7, x8, xb, xo⟩ := sp_dn_v i4' ha8 i6 i6' hb60 (sp_d wz cp q) e1
      exact (xo (3 + 1) (by omega) (by omega) (by omega) (fun f hf => by omega) (by omega)).trans h1
    · by_cases d : l = se
      · exact ⟨q + sp_d wz cp q, by omega, ms_u1 d⟩
      · obtain ⟨p, p1, p2⟩ := h2 l hl
        exact ⟨p, p1, (ms_u2 d).trans p2⟩
    · show z.2.2 + nI (sp_d wz cp q) = _
      rw [h4, nI_add]
  · have e : sp_ds z a = z := if_neg c
    rw [e]
    exact ⟨hI, h1, h2, m, by omega, h4⟩
def sp_dall (z : (Nat → Int32) × (Nat → Int32) × Int32) : Nat → (Nat → Int32) × (Nat → Int32) × Int32
  | 0 => z
  | i + 1 => sp_ds (sp_dall z i) i
theorem ms_DZ_all {z : (Nat → Int32) × (Nat → Int32) × Int32} {t n en cp : Nat} (h : ms_DZ z t n en cp 0) (hcp : cp ≤ 9) : ∀ i, i ≤ n → ms_DZ (sp_dall z i) t n en cp (12 * i) := by
  intro i
  induction i with
  | zero => intro _; exact h
  | succ i ih => intro hi; exact ms_DZ_s (ih (by omega)) hcp (by omega)
theorem ms_d0 (M : ce_M) (k : Nat) (a y : Int32) (u : ce_M → Int32 → Option (ce_M × Int32)) : ce_lp2 (f_X8_ticks_L156 0 k a u) ce_FU M y = u M y := by
  refine ms_f2 (F := f_X8_ticks_L156 0 k a u) (fun _ => M) (fun _ => y) 0 (fun i hi => absurd hi (by omega)) (fun rec => ?_) (by rw [ms_FU]; omega)
  unfold f_X8_ticks_L156
  rw [if_pos rfl]
theorem ms_dstep (M : ce_M) {z : (Nat → Int32) × (Nat → Int32) × Int32} {t n en cp k a : Nat} (h : ms_DZ z t n en cp k) (hcp : cp ≤ 9) (ha : a < n) (hκ : ∀ l, l < 16 → ce_rd M 418 l = z.2.1 l) (u : ce_M → Int32 → Option (ce_M × Int32)) : ∃ M1, (∀ rec, f_X8_ticks_L114 414 u rec (ms_S M z.1) z.2.2 (nI a) = rec (ms_S M1 (sp_ds z a).1) (sp_ds z a).2.2 (nI (a + 1))) ∧ M1.2 = M.2 ∧ (∀ q, q ≠ 418 → ce_rd M1 q = ce_rd M q) ∧ (∀ l, l < 16 → ce_rd M1 418 l = (sp_ds z a).2.1 l) := by
  obtain ⟨hI, h1, h2, m, h3, h4⟩ := h
  obtain ⟨I0, I1, I1', I2, I2', I3, I4, I5, I6, I7, I8, I9, I10⟩ := hI
  have ha8 : a < 8 := by omega
  obtain ⟨so, le, po, ca, se, th, wz, c9, i0, i0', i1, i1', i2, i2', i3, i3', i4, i4', i5, i5', i6, i6', i11, i11', iw, ip, ib, ix, is⟩ := I7 a ha8
  have o5 : f_X8_of 414 (ms_S M z.1) (nI a) 5 = some (z.1 (24 + 54 * a + 5)) := ms_of (k := 5) M z.1 ha8 (by omega)
  have o10 : f_X8_of 414 (ms_S M z.1) (nI a) 10 = some (z.1 (24 + 54 * a + 10)) := ms_of (k := 10) M z.1 ha8 (by omega)
  have g1 : ∀ K : Option (ce_M × Int32), ce_gi 1 816 K = K := fun K => ms_gi (n := 1) (by omega) (by omega)
  have g0 : ∀ K : Option (ce_M × Int32), ce_gi 0 816 K = K := fun K => ms_gi (n := 0) (by omega) (by omega)
  have v1 : ce_rd (ms_S M z.1) (414 + 1) (Int32.toNatClampNeg 1) = nI n := I1
  have v0 : ce_rd (ms_S M z.1) (414 + 1) (Int32.toNatClampNeg 0) = z.1 0 := rfl
  by_cases c : z.1 (24 + 54 * a + 5) = nI 1 ∧ z.1 (24 + 54 * a + 10) ≤ z.1 0
  · obtain ⟨q, q1, q2⟩ := h2 se i4'
    have hb60 : ∀ i, i < wz → ∃ e, e < 60 ∧ z.1 (24 + 54 * a + (12 + i)) = nI e := fun i hi => by
      obtain ⟨e, e1, e2⟩ := ib i hi
      exact ⟨e, by omega, e2⟩
    rw [sp_ds_y c.1 c.2 i6 i6' i4 i4' h1 hcp q2 (by omega)]
    refine ⟨ce_wr M 418 se (nI (q + sp_d wz cp q)), fun rec => ?_, rfl, fun q h => ms_row h, fun l hl => ?_⟩
    · unfold f_X8_ticks_L114
      rw [g1, v1, ms_nm, if_neg (nI_ge (show a < n by omega) (show n < 2 ^ 31 by omega)), o5, ms_b1, ms_nm, ms_nm, ms_nm, if_pos (show z.1 (24 + 54 * a + 5) = 1 from c.1), g0, v0, o10, ms_b1, if_neg (Int32.not_lt.mpr c.2)]
      show ce_nm _ _ = _
      rw [ms_nm]
      refine (ms_dloop M i4' ha8 i6 i6' hb60 i4 ((hκ se i4').trans q2) (by omega) h1 hcp z.2.2 _).trans ?_
      show ce_nm _ _ = _
      rw [ms_nm, nI_1]
      rfl
    · by_cases d : l = se
      · rw [ms_rw1 rfl d]; exact (ms_u1 d).symm
      · rw [ms_rw3 d]; exact (hκ l hl).trans (ms_u2 d).symm
  · have e : sp_ds z a = z := if_neg c
    rw [e]
    refine ⟨M, fun rec => ?_, rfl, fun _ _ => rfl, hκ⟩
    unfold f_X8_ticks_L114
    rw [g1, v1, ms_nm, if_neg (nI_ge (show a < n by omega) (show n < 2 ^ 31 by omega)), o5, ms_b1, ms_nm, ms_nm, ms_nm]
    by_cases c1 : z.1 (24 + 54 * a + 5) = nI 1
    · have c2 : z.1 0 < z.1 (24 + 54 * a + 10) := Int32.not_le.mp (fun q => c ⟨c1, q⟩)
      rw [if_pos (show z.1 (24 + 54 * a + 5) = 1 from c1), g0, v0, o10, ms_b1, if_pos c2]
      show ce_nm _ _ = _
      rw [ms_nm, ms_d0, ms_nm, nI_1]
    · rw [if_neg (show ¬ z.1 (24 + 54 * a + 5) = 1 from c1)]
      show ce_nm _ _ = _
      rw [ms_nm, ms_d0, ms_nm, nI_1]
theorem ms_dall (M : ce_M) {z : (Nat → Int32) × (Nat → Int32) × Int32} {t n en cp : Nat} (h : ms_DZ z t n en cp 0) (hcp : cp ≤ 9) (hκ : ∀ l, l < 16 → ce_rd M 418 l = z.2.1 l) (h0 : z.2.2 = nI 0) (u : ce_M → Int32 → Option (ce_M × Int32)) : ∃ M1, ce_lp3 (f_X8_ticks_L114 414 u) ce_FU (ms_S M z.1) 0 0 = u (ms_S M1 (sp_dall z n).1) (sp_dall z n).2.2 ∧ M1.2 = M.2 ∧ (∀ q, q ≠ 418 → ce_rd M1 q = ce_rd M q) := by
  have hn8 : n ≤ 8 := h.1.2.2.1
  have key : ∀ m i M1, i + m = n → M1.2 = M.2 → (∀ q, q ≠ 418 → ce_rd M1 q = ce_rd M q) → (∀ l, l < 16 → ce_rd M1 418 l = (sp_dall z i).2.1 l) → ∀ fuel, m < fuel → ∃ M3, ce_lp3 (f_X8_ticks_L114 414 u) fuel (ms_S M1 (sp_dall z i).1) (sp_dall z i).2.2 (nI i) = u (ms_S M3 (sp_dall z n).1) (sp_dall z n).2.2 ∧ M3.2 = M.2 ∧ (∀ q, q ≠ 418 → ce_rd M3 q = ce_rd M q) := by
    intro m
    induction m with
    | zero =>
      intro i M1 h1 h2 h3 h4 fuel hf
      obtain ⟨f, rfl⟩ : ∃ f, fuel = f + 1 := ⟨fuel - 1, by omega⟩
      have e : i = n := by omega
      subst e
      refine ⟨M1, ?_, h2, h3⟩
      show f_X8_ticks_L114 414 u _ _ _ _ = _
      unfold f_X8_ticks_L114
      rw [show ∀ K : Option (ce_M × Int32), ce_gi 1 816 K = K from fun K => ms_gi (n := 1) (by omega) (by omega), show ce_rd (ms_S M1 (sp_dall z i).1) (414 + 1) (Int32.toNatClampNeg 1) = nI i from (ms_DZ_all h hcp i (by omega)).1.2.1, ms_nm, if_pos (nI_le (show i ≤ i by omega) (show i < 2 ^ 31 by omega))]
    | succ m ih =>
      intro i M1 h1 h2 h3 h4 fuel hf
      obtain ⟨f, rfl⟩ : ∃ f, fuel = f + 1 := ⟨fuel - 1, by omega⟩
      obtain ⟨M2, e1, e2, e3, e4⟩ := ms_dstep M1 (ms_DZ_all h hcp i (by omega)) hcp (show i < n by omega) h4 u
      show ∃ M3, f_X8_ticks_L114 414 u _ _ _ _ = _ ∧ _
      rw [e1]
      exact ih (i + 1) M2 (by omega) (e2.trans h2) (fun q hq => (e3 q hq).trans (h3 q hq)) e4 f (by omega)
  have hk := key n 0 M (by omega) rfl (fun _ _ => rfl) hκ ce_FU (by rw [ms_FU]; omega)
  rw [show (sp_dall z 0).2.2 = nI 0 from h0] at hk
  exact hk
