/-! publish: both -/
theorem sp_rt_add {σ τ : Nat → Int32} {b en : Nat} {rb : Int32} (hb : b < 8) (h1 : ∀ e, e < 60 → e ≠ en → τ (456 + 6 * e + 4) = σ (456 + 6 * e + 4)) (h2 : τ (456 + 6 * en + 4) = rb) (h3 : σ (456 + 6 * en + 4) = nI 0) : ∀ n, n ≤ 60 → en < n → sp_rt τ b n = sp_rt σ b n + sp_bit rb b := by
  intro n
  induction n with
  | zero => intro _ h; omega
  | succ n ih =>
    intro hn he
    show sp_rt τ b n + sp_bit _ b = sp_rt σ b n + sp_bit _ b + sp_bit rb b
    by_cases c : n = en
    · subst c
      rw [h2, h3, sp_bit0 0 b hb, ms_add0, sp_rt_eq n (fun e q => h1 e (by omega) (by omega))]
    · rw [ih (by omega) (by omega), h1 n (by omega) c, Int32.add_assoc, Int32.add_assoc, Int32.add_comm (sp_bit rb b)]
theorem sp_arr_b {τ : Nat → Int32} {rb e : Int32} (hw : ∀ a, a < 8 → ∃ w, w ≤ 12 ∧ τ (24 + 54 * a + 6) = nI w) : ∀ n, n ≤ 8 → ∀ b, b < n → ∀ j, j < 54 → sp_arr τ rb e n (24 + 54 * b + j) = if sp_bit rb b = nI 1 then sp_ar1 τ b (τ (24 + 54 * b + 6)).toNatClampNeg e (24 + 54 * b + j) else τ (24 + 54 * b + j) := by
  intro n
  induction n with
  | zero => intro _ b h; omega
  | succ n ih =>
    intro hn b hb j hj
    obtain ⟨w, w1, w2⟩ := hw n (by omega)
    by_cases c : b = n
    · subst c
      have q : ∀ j, j < 54 → sp_arr τ rb e b (24 + 54 * b + j) = τ (24 + 54 * b + j) := fun j hj => sp_arr_o hw b (by omega) _ (by omega)
      unfold sp_arr
      by_cases c1 : sp_bit rb b = nI 1
      · rw [if_pos c1, if_pos c1, w2, nI_clamp (show w < 2 ^ 31 by omega)]
        unfold sp_ar1
        by_cases c2 : w = 12
        · rw [if_pos c2, if_pos c2, q 8 (by omega)]
          by_cases c3 : j = 8
          · subst c3; rw [ms_u1 rfl, ms_u1 rfl]
          · rw [ms_u2 (by omega), ms_u2 (by omega), q j hj]
        · rw [if_neg c2, if_neg c2]
          by_cases c3 : j = 6
          · subst c3; rw [ms_u1 rfl, ms_u1 rfl]
          · rw [ms_u2 (by omega), ms_u2 (k := 24 + 54 * b + 6) (by omega)]
            by_cases c4 : j = 12 + w
            · subst c4; rw [ms_u1 rfl, ms_u1 rfl]
            · rw [ms_u2 (by omega), ms_u2 (by omega), q j hj]
      · rw [if_neg c1, if_neg c1, q j hj]
    · rw [← ih (by omega) b (by omega) j hj]
      show (if sp_bit rb n = nI 1 then sp_ar1 (sp_arr τ rb e n) n (τ (24 + 54 * n + 6)).toNatClampNeg e else sp_arr τ rb e n) (24 + 54 * b + j) = _
      by_cases c1 : sp_bit rb n = nI 1
      · rw [if_pos c1, w2, nI_clamp (show w < 2 ^ 31 by omega), sp_ar1_o w1 (by omega)]
      · rw [if_neg c1]
theorem cs_publoop {M : ce_M} {w n : Nat} {σ ρ : Nat → Int32} {rb e : Int32} {t en : Nat} (h5 : ce_rd M w 5 = nI n) (hn : n ≤ 8) (hI : ∀ a, a < 8 → ms_SI σ a t en) (hS : ∀ a, a < 8 → ms_SR M (w + 2 + (10 + 7 * a)) σ a) (h01 : ∀ b, b < 8 → sp_bit rb b = nI 0 ∨ sp_bit rb b = nI 1) (hhi : ∀ b, b < 8 → n ≤ b → sp_bit rb b = nI 0) (hρ : ∀ b, b < 8 → ∀ wz, σ (24 + 54 * b + 6) = nI wz → wz ≤ 12 → ∀ j, j < 54 → ρ (24 + 54 * b + j) = if sp_bit rb b = nI 1 then sp_ar1 σ b wz e (24 + 54 * b + j) else σ (24 + 54 * b + j)) (hr : ∀ b, b < 8 → sp_rt ρ b 60 = sp_rt σ b 60 + sp_bit rb b) : ∃ r, ce_lp2 (f_X6_publishEvent_L40 w e rb) ce_FU M 0 = some r ∧ (r.2 = e ∧ ms_fr (w + 12) (w + 68) M r.1 ∧ (∀ b, b < 8 → ms_SR r.1 (w + 2 + (10 + 7 * b)) ρ b) ∧ (∀ b, b < 8 → ce_rd r.1 (w + 2 + (10 + 7 * b)) 11 = ce_rd M (w + 2 + (10 + 7 * b)) 11)) := by
  refine ms_p2 (F := f_X6_publishEvent_L40 w e rb) (fun m M1 x => ∃ i, x = nI i ∧ i + m = n ∧ ms_fr (w + 12) (w + 68) M M1 ∧ (∀ b, b < 8 → b < i → ms_SR M1 (w + 2 + (10 + 7 * b)) ρ b) ∧ (∀ b, b < 8 → i ≤ b → ms_SR M1 (w + 2 + (10 + 7 * b)) σ b) ∧ (∀ b, b < 8 → ce_rd M1 (w + 2 + (10 + 7 * b)) 11 = ce_rd M (w + 2 + (10 + 7 * b)) 11)) _ (fun m rec M1 x hrec hJ => ?_) n ce_FU M 0 (by rw [ms_FU]; omega) ⟨0, rfl, by omega, ms_fr_r, fun b _ h => by omega, fun b h _ => hS b h, fun b _ => rfl⟩
  obtain ⟨i, rfl, him, f1, j1, j2, j3⟩ := hJ
  have no : ∀ b, b < 8 → sp_bit rb b = nI 0 → ms_SR M1 (w + 2 + (10 + 7 * b)) σ b → ms_SR M1 (w + 2 + (10 + 7 * b)) ρ b := fun b hb h0 hs => by
    obtain ⟨so, le, po, ca, se, th, wz, c, i0, i0', i1, i1', i2, i2', i3, i3', i4, i4', i5, i5', i6, i6', i11, i11', iw, ip, ib, ix, is⟩ := hI b hb
    refine ms_SR_cg hs (fun j hj => ?_) (by rw [hr b hb, h0, ms_add0])
    rw [hρ b hb wz i6 i6' j hj, h0, if_neg (by decide)]
  unfold f_X6_publishEvent_L40
  rw [f1.2 w (by omega), h5]
  by_cases c : m = 0
  · rw [if_pos (nI_le (show n ≤ i by omega) (show i < 2 ^ 31 by omega))]
    refine ⟨_, rfl, rfl, f1, fun b hb => ?_, j3⟩
    by_cases c2 : b < i
    · exact j1 b hb c2
    · exact no b hb (hhi b hb (by omega)) (j2 b hb (by omega))
  · have hi8 : i < 8 := by omega
    rw [if_neg (nI_ge (show i < n by omega) (show n < 2 ^ 31 by omega))]
    obtain ⟨so, le, po, ca, se, th, wz, c, i0, i0', i1, i1', i2, i2', i3, i3', i4, i4', i5, i5', i6, i6', i11, i11', iw, ip, ib, ix, is⟩ := hI i hi8
    by_cases c1 : sp_bit rb i = nI 1
    · rw [if_pos (show (rb >>> (nI i &&& 31)) &&& 1 = 1 from c1), ms_gi hi8 (by omega), nI_clamp (show i < 2 ^ 31 by omega), ms_nm]
      obtain ⟨M2, e2, s2, f2, l2⟩ := cs_receive (ρ := ρ) (e := e) hi8 (j2 i hi8 (Nat.le_refl i)) i6 i6' (fun j hj => by rw [hρ i hi8 wz i6 i6' j hj, if_pos c1]) (by rw [hr i hi8, c1])
      rw [e2, ms_b1, ms_nm]
      refine hrec (m - 1) (by omega) _ _ ⟨i + 1, nI_1 i, by omega, ms_fr_t f1 (ms_fr_up f2 (by omega) (by omega)), fun b hb hbi => ?_, fun b hb hbi => ?_, fun b hb => ?_⟩
      · by_cases q : b = i
        · rw [q]; exact s2
        · exact ms_SR_fr (j1 b hb (by omega)) (fun x x1 x2 => f2.2 x (by omega)) (fun _ _ => rfl) rfl
      · exact ms_SR_fr (j2 b hb (by omega)) (fun x x1 x2 => f2.2 x (by omega)) (fun _ _ => rfl) rfl
      · by_cases q : b = i
        · rw [q, l2]; exact j3 i hi8
        · rw [f2.2 (w + 2 + (10 + 7 * b)) (by omega)]; exact j3 b hb
    · rw [if_neg (show ¬ (rb >>> (nI i &&& 31)) &&& 1 = 1 from c1), ms_nm]
      have h0 : sp_bit rb i = nI 0 := (h01 i hi8).resolve_right c1
      refine hrec (m - 1) (by omega) _ _ ⟨i + 1, nI_1 i, by omega, f1, fun b hb hbi => ?_, fun b hb hbi => j2 b hb (by omega), j3⟩
      by_cases q : b = i
      · rw [q]; exact no i hi8 h0 (j2 i hi8 (Nat.le_refl i))
      · exact j1 b hb (by omega)
theorem ms_SI_ar1 {σ ρ : Nat → Int32} {a t en wz0 : Nat} (h : ms_SI σ a t en) (hw : σ (24 + 54 * a + 6) = nI wz0) (hw2 : wz0 ≤ 12) (hth : σ (24 + 54 * a + 5) = nI 1) (hb : ∀ j, j < 54 → ρ (24 + 54 * a + j) = sp_ar1 σ a wz0 (nI en) (24 + 54 * a + j)) (hen : en < 60) : ms_SI ρ a t (en + 1) := by
  obtain ⟨so, le, po, ca, se, th, wz, c, i0, i0', i1, i1', i2, i2', i3, i3', i4, i4', i5, i5', i6, i6', i11, i11', iw, ip, ib, ix, is⟩ := h
  have e : wz = wz0 := ms_nI (i6.symm.trans hw) (by omega) (by omega)
  subst e
  have hth1 : th = 1 := ms_nI (i5.symm.trans hth) (by omega) (by omega)
  by_cases q0 : wz = 12
  · have p : ∀ j, j < 54 → j ≠ 8 → ρ (24 + 54 * a + j) = σ (24 + 54 * a + j) := fun j hj q => by
      rw [hb j hj]; unfold sp_ar1; rw [if_pos q0, ms_u2 (by omega)]
    exact ⟨so, le, po, ca, se, th, wz, c, by rw [p 0 (by omega) (by omega)]; exact i0, i0', by rw [p 1 (by omega) (by omega)]; exact i1, i1', by rw [p 2 (by omega) (by omega)]; exact i2, i2', by rw [p 3 (by omega) (by omega)]; exact i3, i3', by rw [p 4 (by omega) (by omega)]; exact i4, i4', by rw [p 5 (by omega) (by omega)]; exact i5, i5', by rw [p 6 (by omega) (by omega)]; exact i6, i6', by rw [p 11 (by omega) (by omega)]; exact i11, i11', iw, ip, fun i hi => by
      rw [p (12 + i) (by omega) (by omega)]
      obtain ⟨e, h1, h2⟩ := ib i hi
      exact ⟨e, by omega, h2⟩, fun i j h1 h2 => by rw [p (12 + i) (by omega) (by omega), p (12 + j) (by omega) (by omega)]; exact ix i j h1 h2, fun j hj => by rw [p _ (by omega) (by omega)]; exact is j hj⟩
  · have p : ∀ j, j < 54 → j ≠ 6 → j ≠ 12 + wz → ρ (24 + 54 * a + j) = σ (24 + 54 * a + j) := fun j hj q q2 => by
      rw [hb j hj]; unfold sp_ar1; rw [if_neg q0, ms_u2 (by omega), ms_u2 (by omega)]
    have p6 : ρ (24 + 54 * a + 6) = nI (wz + 1) := by
      rw [hb 6 (by omega)]; unfold sp_ar1; rw [if_neg q0, ms_u1 rfl]
    have pn : ρ (24 + 54 * a + (12 + wz)) = nI en := by
      rw [hb (12 + wz) (by omega)]; unfold sp_ar1; rw [if_neg q0, ms_u2 (by omega), ms_u1 rfl]
    exact ⟨so, le, po, ca, se, th, wz + 1, c, by rw [p 0 (by omega) (by omega) (by omega)]; exact i0, i0', by rw [p 1 (by omega) (by omega) (by omega)]; exact i1, i1', by rw [p 2 (by omega) (by omega) (by omega)]; exact i2, i2', by rw [p 3 (by omega) (by omega) (by omega)]; exact i3, i3', by rw [p 4 (by omega) (by omega) (by omega)]; exact i4, i4', by rw [p 5 (by omega) (by omega) (by omega)]; exact i5, i5', p6, by omega, by rw [p 11 (by omega) (by omega) (by omega)]; exact i11, i11', fun q => by omega, ip, fun i hi => by
      by_cases q : i = wz
      · subst q; exact ⟨en, by omega, pn⟩
      · rw [p (12 + i) (by omega) (by omega) (by omega)]
        obtain ⟨e, h1, h2⟩ := ib i (by omega)
        exact ⟨e, by omega, h2⟩, fun i j h1 h2 => by
      by_cases q : j = wz
      · subst q
        rw [pn, p (12 + i) (by omega) (by omega) (by omega)]
        obtain ⟨e, h3, h4⟩ := ib i h1
        rw [h4]
        intro h5
        have := ms_nI h5 (by omega) (by omega)
        omega
      · rw [p (12 + i) (by omega) (by omega) (by omega), p (12 + j) (by omega) (by omega) (by omega)]; exact ix i j h1 (by omega), fun j hj => by rw [p _ (by omega) (by omega) (by omega)]; exact is j hj⟩
