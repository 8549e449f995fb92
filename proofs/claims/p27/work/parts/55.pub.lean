/-! publish: the row -/
theorem sp_la_eq {σ τ : Nat → Int32} {a : Nat} {time : Int32} (h : ∀ j, j < 54 → τ (24 + 54 * a + j) = σ (24 + 54 * a + j)) : ∀ c, c ≤ 10 → sp_la τ a time c = sp_la σ a time c := by
  intro c
  induction c with
  | zero => intro _; rfl
  | succ c ih =>
    intro hc
    unfold sp_la
    rw [ih (by omega), h _ (by omega), h _ (by omega), h _ (by omega)]
theorem sp_rc_eq {σ τ : Nat → Int32} {a l v c : Nat} {time : Int32} (h : ∀ j, j < 54 → τ (24 + 54 * a + j) = σ (24 + 54 * a + j)) (hc : σ (24 + 54 * a + 11) = nI c) (hc2 : c ≤ 10) : sp_rc τ a l v time = sp_rc σ a l v time := by
  unfold sp_rc
  rw [h 5 (by omega), h 11 (by omega), h 1 (by omega), hc, nI_clamp (show c < 2 ^ 31 by omega), sp_la_eq h c hc2]
theorem sp_rb_eq {σ τ : Nat → Int32} {l v t en : Nat} {time : Int32} (hI : ∀ a, a < 8 → ms_SI σ a t en) (h : ∀ a, a < 8 → ∀ j, j < 54 → τ (24 + 54 * a + j) = σ (24 + 54 * a + j)) : ∀ n, n ≤ 8 → sp_rb τ l v time n = sp_rb σ l v time n := by
  intro n
  induction n with
  | zero => intro _; rfl
  | succ n ih =>
    intro hn
    obtain ⟨so, le, po, ca, se, th, wz, c, i0, i0', i1, i1', i2, i2', i3, i3', i4, i4', i5, i5', i6, i6', i11, i11', iw, ip, ib, ix, is⟩ := hI n (by omega)
    unfold sp_rb
    rw [ih (by omega), sp_rc_eq (h n (by omega)) i11 i11']
theorem sp_or_d : ∀ a, a < 8 → ∀ m, m < 2 ^ a → nI m ||| (nI 1 <<< (nI a &&& nI 31)) = nI (m + 2 ^ a) := by decide +kernel
theorem sp_rb_v {σ : Nat → Int32} {l v : Nat} {time : Int32} : ∀ n, n ≤ 8 → ∃ m, m < 2 ^ n ∧ sp_rb σ l v time n = nI m := by
  intro n
  induction n with
  | zero => intro _; exact ⟨0, by omega, rfl⟩
  | succ n ih =>
    intro hn
    obtain ⟨m, h1, h2⟩ := ih (by omega)
    have e : 2 ^ (n + 1) = 2 ^ n + 2 ^ n := by omega
    unfold sp_rb
    rw [h2]
    by_cases c : sp_rc σ n l v time = true
    · rw [if_pos c, sp_or_d n (by omega) m h1]; exact ⟨m + 2 ^ n, by omega, rfl⟩
    · rw [if_neg c]; exact ⟨m, by omega, rfl⟩
theorem sp_bit_hi : ∀ n, n < 9 → ∀ m, m < 2 ^ n → ∀ b, b < 8 → n ≤ b → sp_bit (nI m) b = nI 0 := by decide +kernel
theorem sp_bit_01 : ∀ m, m < 256 → ∀ b, b < 8 → sp_bit (nI m) b = nI 0 ∨ sp_bit (nI m) b = nI 1 := by decide +kernel
def sp_pb (σ : Nat → Int32) (en : Nat) (l v late rb : Int32) : Nat → Int32 := upd (upd (upd (upd (upd (upd (upd σ 2 (nI (en + 1))) (456 + 6 * en + 0) l) (456 + 6 * en + 1) v) (456 + 6 * en + 2) (σ 0 - late)) (456 + 6 * en + 3) (σ 0)) (456 + 6 * en + 4) rb) (456 + 6 * en + 5) (nI 0)
def sp_arr (τ : Nat → Int32) (rb e : Int32) : Nat → Nat → Int32
  | 0 => τ
  | a + 1 => if sp_bit rb a = nI 1 then sp_ar1 (sp_arr τ rb e a) a (τ (24 + 54 * a + 6)).toNatClampNeg e else sp_arr τ rb e a
theorem sp_ar1_o {σ : Nat → Int32} {a wz j : Nat} {e : Int32} (hw : wz ≤ 12) (h : j < 24 + 54 * a ∨ 24 + 54 * a + 54 ≤ j) : sp_ar1 σ a wz e j = σ j := by
  unfold sp_ar1
  by_cases c : wz = 12
  · rw [if_pos c, ms_u2 (by omega)]
  · rw [if_neg c, ms_u2 (by omega), ms_u2 (by omega)]
theorem sp_arr_o {τ : Nat → Int32} {rb e : Int32} (hw : ∀ a, a < 8 → ∃ w, w ≤ 12 ∧ τ (24 + 54 * a + 6) = nI w) : ∀ i, i ≤ 8 → ∀ j, (j < 24 ∨ 24 + 54 * i ≤ j) → sp_arr τ rb e i j = τ j := by
  intro i
  induction i with
  | zero => intro _ _ _; rfl
  | succ i ih =>
    intro hi j hj
    obtain ⟨w, w1, w2⟩ := hw i (by omega)
    unfold sp_arr
    by_cases c : sp_bit rb i = nI 1
    · rw [if_pos c, w2, nI_clamp (show w < 2 ^ 31 by omega), sp_ar1_o w1 (by omega)]; exact ih (by omega) j (by omega)
    · rw [if_neg c]; exact ih (by omega) j (by omega)
theorem ms_publoop (M : ce_M) {τ : Nat → Int32} {n en : Nat} {rb : Int32} (h1 : τ 1 = nI n) (hn : n ≤ 8) (hen : en < 60) (hrb : τ (456 + 6 * en + 4) = rb) (hw : ∀ a, a < 8 → ∃ w, w ≤ 12 ∧ τ (24 + 54 * a + 6) = nI w) (u : ce_M → Option (ce_M × Int32)) : ce_lp2 (f_X8_publishes_L160 414 (nI (456 + 6 * en)) (nI en) u) ce_FU (ms_S M τ) (nI 0) = u (ms_S M (sp_arr τ rb (nI en) n)) := by
  refine ms_f2 (F := f_X8_publishes_L160 414 (nI (456 + 6 * en)) (nI en) u) (fun i => ms_S M (sp_arr τ rb (nI en) i)) (fun i => nI i) n (fun i hi rec => ?_) (fun rec => ?_) (by rw [ms_FU]; omega)
  · have q1 : sp_arr τ rb (nI en) i 1 = nI n := by rw [sp_arr_o hw i (by omega) 1 (by omega)]; exact h1
    have q4 : sp_arr τ rb (nI en) i (456 + 6 * en + 4) = rb := by rw [sp_arr_o hw i (by omega) _ (by omega)]; exact hrb
    obtain ⟨w, w1, w2⟩ := hw i (by omega)
    have q6 : sp_arr τ rb (nI en) i (24 + 54 * i + 6) = nI w := by rw [sp_arr_o hw i (by omega) _ (by omega)]; exact w2
    have g4 : 456 + 6 * en + 4 < 816 := by omega
    unfold f_X8_publishes_L160
    simp only [ms_lit, ms_gi (show 1 < 816 by omega) (show 816 < 2 ^ 31 by omega), nI_clamp (show 1 < 2 ^ 31 by omega), ms_rd1, ms_nm, q1, if_neg (nI_ge (show i < n by omega) (show n < 2 ^ 31 by omega)), nI_add, ms_gi g4 (show 816 < 2 ^ 31 by omega), nI_clamp (show 456 + 6 * en + 4 < 2 ^ 31 by omega), q4, ms_arrives M (show i < 8 by omega) q6 w1, ms_b1, sp_arr, w2, nI_clamp (show w < 2 ^ 31 by omega)]
    unfold sp_bit
    by_cases c : (rb >>> (nI i &&& nI 31)) &&& nI 1 = nI 1
    · rw [if_pos c, if_pos c]
    · rw [if_neg c, if_neg c]
  · have q1 : sp_arr τ rb (nI en) n 1 = nI n := by rw [sp_arr_o hw n hn 1 (by omega)]; exact h1
    unfold f_X8_publishes_L160
    simp only [ms_lit, ms_gi (show 1 < 816 by omega) (show 816 < 2 ^ 31 by omega), nI_clamp (show 1 < 2 ^ 31 by omega), ms_rd1, ms_nm, q1, if_pos (nI_le (show n ≤ n by omega) (show n < 2 ^ 31 by omega))]
theorem ms_pubs_v (Mm : ce_M) {σ : Nat → Int32} {t n en l v : Nat} {late : Int32} (hI : ms_IN σ t n en) (hl : l < 16) (hv : v < 3) (h0 : 0 ≤ late) (hen : en < 60) (htl : sp_tl σ late = nI 0) : f_X8_publishes 414 (ms_S Mm σ) (nI l) (nI v) late = some (ms_S (ce_wr Mm 414 5 (nI en)) (sp_arr (sp_pb σ en (nI l) (nI v) late (sp_rb σ l v (σ 0 - late) n)) (sp_rb σ l v (σ 0 - late) n) (nI en) n), 0) := by
  obtain ⟨I0, I1, I1', I2, I2', I3, I4, I5, I6, I7, I8, I9, I10⟩ := hI
  unfold f_X8_publishes
  rw [ms_leaf_y _ hl, ms_b1, if_neg (by decide), ms_level_y _ hv, ms_b1, if_neg (by decide), if_pos h0, ms_tooLate, htl]
  have hne : (nI en = nI 60) = False := by
    refine propext ⟨fun q => ?_, False.elim⟩
    have := ms_nI q (by omega) (by omega)
    omega
  have g0 : 456 + 6 * en + 0 < 816 := by omega
  have g1 : 456 + 6 * en + 1 < 816 := by omega
  have g2 : 456 + 6 * en + 2 < 816 := by omega
  have g3 : 456 + 6 * en + 3 < 816 := by omega
  have g4 : 456 + 6 * en + 4 < 816 := by omega
  have g5 : 456 + 6 * en + 5 < 816 := by omega
  have n0 : ∀ {f : Nat → Int32} {k : Nat} {x : Int32}, upd f (456 + 6 * en + k) x 0 = f 0 := fun {f k x} => ms_u2 (by omega)
  have n2 : ∀ {f : Nat → Int32} {x : Int32}, upd f 2 x 0 = f 0 := fun {f x} => ms_u2 (by omega)
  have b31 : (816 : Nat) < 2 ^ 31 := by omega
  simp only [ms_lit, ms_gi (show 2 < 816 by omega) (show 816 < 2 ^ 31 by omega), nI_clamp (show 2 < 2 ^ 31 by omega), ms_rd1, ms_nm, I2, hne, if_false, if_true, ms_b1, pk_mul, nI_add, ms_wr1, ms_gi g0 b31, ms_gi g1 b31, ms_gi g2 b31, ms_gi g3 b31, ms_gi g4 b31, ms_gi g5 b31, nI_clamp (show 456 + 6 * en + 0 < 2 ^ 31 by omega), nI_clamp (show 456 + 6 * en + 1 < 2 ^ 31 by omega), nI_clamp (show 456 + 6 * en + 2 < 2 ^ 31 by omega), nI_clamp (show 456 + 6 * en + 3 < 2 ^ 31 by omega), nI_clamp (show 456 + 6 * en + 4 < 2 ^ 31 by omega), nI_clamp (show 456 + 6 * en + 5 < 2 ^ 31 by omega), ms_gi (show 0 < 816 by omega) (show 816 < 2 ^ 31 by omega), nI_clamp (show 0 < 2 ^ 31 by omega), n0, n2]
  have hb : ∀ a, a < 8 → ∀ j, j < 54 → upd (upd (upd (upd (upd σ 2 (nI (en + 1))) (456 + 6 * en + 0) (nI l)) (456 + 6 * en + 1) (nI v)) (456 + 6 * en + 2) (σ 0 - late)) (456 + 6 * en + 3) (σ 0) (24 + 54 * a + j) = σ (24 + 54 * a + j) := fun a ha j hj => by
    rw [ms_u2 (by omega), ms_u2 (by omega), ms_u2 (by omega), ms_u2 (by omega), ms_u2 (by omega)]
  rw [ms_reachedBy (t := t) (en := en) Mm (n := n) (by rw [ms_u2 (by omega), ms_u2 (by omega), ms_u2 (by omega), ms_u2 (by omega), ms_u2 (by omega)]; exact I1) I1' (fun a ha => ms_SI_cg (I7 a ha) (hb a ha)) hl hv, sp_rb_eq I7 hb n I1', ms_b1]
  rw [ms_publoop (rb := sp_rb σ l v (σ 0 - late) n) Mm (n := n) (by rw [ms_u2 (by omega), ms_u2 (by omega), ms_u2 (by omega), ms_u2 (by omega), ms_u2 (by omega), ms_u2 (by omega), ms_u2 (by omega)]; exact I1) I1' hen (by rw [ms_u2 (by omega), ms_u1 rfl]) (fun a ha => by
    obtain ⟨so, le, po, ca, se, th, wz, c, i0, i0', i1, i1', i2, i2', i3, i3', i4, i4', i5, i5', i6, i6', i11, i11', iw, ip, ib, ix, is⟩ := I7 a ha
    refine ⟨wz, i6', ?_⟩
    rw [ms_u2 (by omega), ms_u2 (by omega), hb a ha 6 (by omega)]
    exact i6), ms_wr' _ _ (show (414 : Nat) ≠ 415 by omega)]
  rfl
