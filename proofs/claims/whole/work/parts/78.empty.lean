/-! emptyIn -/
def sp_em (σ : Nat → Int32) (n a : Nat) : Nat → Nat → Int32
  | 0, i => if (sp_ps σ n i).1 (24 + 54 * a + 6) = nI 0 then nI i else -1
  | m + 1, i => if (sp_ps σ n i).1 (24 + 54 * a + 6) = nI 0 then nI i else sp_em σ n a m (i + 1)
theorem cs_em {σ : Nat → Int32} {t n en a : Nat} (hI : ms_IN σ t n en) (ha : a < n) : ∀ m i (M1 : ce_M), i + m = 200 → ms_WR M1 69 (sp_ps σ n i).1 → ∀ fuel, m < fuel → ∃ M', ce_lp2 (f_X6_passUntilEmpty_L12 (69 + 2 + (10 + 7 * a)) 69 (fun (M8 : ce_M) => if (ce_rd M8 (69 + 2 + (10 + 7 * a) + 5) 1) = 0 then some (M8, 200) else some (M8, (-1)))) fuel M1 (nI i) = some (M', sp_em σ n a m i) ∧ ms_fr 69 137 M1 M' := by
  have hn8 : n ≤ 8 := hI.2.2.1
  intro m
  induction m with
  | zero =>
    intro i M1 h1 hR fuel hf
    obtain ⟨f, rfl⟩ : ∃ f, fuel = f + 1 := ⟨fuel - 1, by omega⟩
    have e : i = 200 := by omega
    subst e
    have h6 : ce_rd M1 (69 + 2 + (10 + 7 * a) + 5) 1 = (sp_ps σ n 200).1 (24 + 54 * a + 6) := (hR.2.2.2.2.2.1 a (by omega)).2.2.2.2.2.2.1
    refine ⟨M1, ?_, ms_fr_r⟩
    show f_X6_passUntilEmpty_L12 (69 + 2 + (10 + 7 * a)) 69 _ _ _ _ = _
    unfold f_X6_passUntilEmpty_L12
    rw [if_pos (show (200 : Int32) ≤ nI 200 from by decide)]
    dsimp only
    rw [h6]
    unfold sp_em
    by_cases q : (sp_ps σ n 200).1 (24 + 54 * a + 6) = nI 0
    · rw [if_pos q, if_pos (show (sp_ps σ n 200).1 (24 + 54 * a + 6) = 0 from q)]; rfl
    · rw [if_neg q, if_neg (show ¬ (sp_ps σ n 200).1 (24 + 54 * a + 6) = 0 from q)]
  | succ m ih =>
    intro i M1 h1 hR fuel hf
    obtain ⟨f, rfl⟩ : ∃ f, fuel = f + 1 := ⟨fuel - 1, by omega⟩
    have h6 : ce_rd M1 (69 + 2 + (10 + 7 * a) + 5) 1 = (sp_ps σ n i).1 (24 + 54 * a + 6) := (hR.2.2.2.2.2.1 a (by omega)).2.2.2.2.2.2.1
    by_cases q : (sp_ps σ n i).1 (24 + 54 * a + 6) = nI 0
    · refine ⟨M1, ?_, ms_fr_r⟩
      show f_X6_passUntilEmpty_L12 (69 + 2 + (10 + 7 * a)) 69 _ _ _ _ = _
      unfold f_X6_passUntilEmpty_L12
      rw [if_neg (show ¬ (200 : Int32) ≤ nI i from nI_ge (b := 200) (by omega) (by omega)), h6, if_pos (show (sp_ps σ n i).1 (24 + 54 * a + 6) = 0 from q)]
      unfold sp_em
      rw [if_pos q]
    · obtain ⟨M2, e2, w2, f2⟩ := cs_tick hR (ms_IN_ps hI i)
      obtain ⟨M3, e3, f3⟩ := ih (i + 1) M2 (by omega) w2 f (by omega)
      refine ⟨M3, ?_, ms_fr_t f2 f3⟩
      show f_X6_passUntilEmpty_L12 (69 + 2 + (10 + 7 * a)) 69 _ _ _ _ = _
      unfold f_X6_passUntilEmpty_L12
      rw [if_neg (show ¬ (200 : Int32) ≤ nI i from nI_ge (b := 200) (by omega) (by omega)), h6, if_neg (show ¬ (sp_ps σ n i).1 (24 + 54 * a + 6) = 0 from q), e2, ms_b2, ms_nm, nI_1]
      refine e3.trans ?_
      show _ = some (M3, if (sp_ps σ n i).1 (24 + 54 * a + 6) = nI 0 then nI i else sp_em σ n a m (i + 1))
      rw [if_neg q]
theorem ms_em {σ : Nat → Int32} {t n en a : Nat} (hI : ms_IN σ t n en) (ha : a < n) (u : ce_M → Int32 → Option (ce_M × Int32)) : ∀ m i (M1 : ce_M), i + m = 200 → ∀ fuel, m + 1 < fuel → ∃ M2 τ y, ce_lp2 (f_X8_emptyIn_L20 414 (nI a) u) fuel (ms_S M1 (sp_ps σ n i).1) (nI i) = u (ms_S M2 τ) y ∧ M2.2 = M1.2 ∧ (∀ q, q ≠ 418 → ce_rd M2 q = ce_rd M1 q) ∧ (if y ≤ 200 then y else -1) = sp_em σ n a m i := by
  have hn8 : n ≤ 8 := hI.2.2.1
  have ha8 : a < 8 := by omega
  intro m
  induction m with
  | zero =>
    intro i M1 h1 fuel hf
    obtain ⟨f, rfl⟩ : ∃ f, fuel = f + 1 + 1 := ⟨fuel - 2, by omega⟩
    have e : i = 200 := by omega
    subst e
    have hIi := ms_IN_ps hI 200
    obtain ⟨so, le, po, ca, se, th, wz, c, i0, i0', i1, i1', i2, i2', i3, i3', i4, i4', i5, i5', i6, i6', i11, i11', iw, ip, ib, ix, is⟩ := hIi.2.2.2.2.2.2.2.2.2.1 a ha8
    have o6 : f_X8_of 414 (ms_S M1 (sp_ps σ n 200).1) (nI a) 6 = some ((sp_ps σ n 200).1 (24 + 54 * a + 6)) := ms_of (k := 6) _ _ ha8 (by omega)
    by_cases q : wz = 0
    · have q2 : (sp_ps σ n 200).1 (24 + 54 * a + 6) = nI 0 := by rw [i6, q]
      refine ⟨M1, (sp_ps σ n 200).1, nI 200, ?_, rfl, fun _ _ => rfl, ?_⟩
      · show f_X8_emptyIn_L20 414 (nI a) u _ _ _ = _
        unfold f_X8_emptyIn_L20
        rw [if_neg (by decide), o6, ms_b1, q2, if_pos (by decide)]
      · unfold sp_em
        rw [if_pos (by decide), if_pos q2]
    · have q2 : ¬ (sp_ps σ n 200).1 (24 + 54 * a + 6) = nI 0 := fun z => q (ms_nI (i6.symm.trans z) (by omega) (by omega))
      obtain ⟨M2, e2, f1, f2⟩ := ms_tick M1 hIi
      obtain ⟨m9, m1, m2⟩ := (sp_tz_v hIi).2.1
      refine ⟨M2, sp_tick (sp_ps σ n 200).1 n, nI 201, ?_, f1, f2, ?_⟩
      · show f_X8_emptyIn_L20 414 (nI a) u _ _ _ = _
        unfold f_X8_emptyIn_L20
        rw [if_neg (by decide), o6, ms_b1, i6, if_neg (nI_nle (by omega) (by omega)), e2, ms_b2, m2, if_pos (nI_pos' (by omega)), ms_nm, nI_1]
        show f_X8_emptyIn_L20 414 (nI a) u _ _ _ = _
        unfold f_X8_emptyIn_L20
        rw [if_pos (by decide)]
      · unfold sp_em
        rw [if_neg (by decide), if_neg q2]
  | succ m ih =>
    intro i M1 h1 fuel hf
    obtain ⟨f, rfl⟩ : ∃ f, fuel = f + 1 := ⟨fuel - 1, by omega⟩
    have hIi := ms_IN_ps hI i
    obtain ⟨so, le, po, ca, se, th, wz, c, i0, i0', i1, i1', i2, i2', i3, i3', i4, i4', i5, i5', i6, i6', i11, i11', iw, ip, ib, ix, is⟩ := hIi.2.2.2.2.2.2.2.2.2.1 a ha8
    have o6 : f_X8_of 414 (ms_S M1 (sp_ps σ n i).1) (nI a) 6 = some ((sp_ps σ n i).1 (24 + 54 * a + 6)) := ms_of (k := 6) _ _ ha8 (by omega)
    have n2 : ¬ (200 : Int32) < nI i := nI_nlt (a := 200) (by omega) (by omega)
    by_cases q : wz = 0
    · have q2 : (sp_ps σ n i).1 (24 + 54 * a + 6) = nI 0 := by rw [i6, q]
      refine ⟨M1, (sp_ps σ n i).1, nI i, ?_, rfl, fun _ _ => rfl, ?_⟩
      · show f_X8_emptyIn_L20 414 (nI a) u _ _ _ = _
        unfold f_X8_emptyIn_L20
        rw [if_neg n2, o6, ms_b1, q2, if_pos (by decide)]
      · unfold sp_em
        rw [if_pos (show nI i ≤ (200 : Int32) from nI_le (b := 200) (by omega) (by omega)), if_pos q2]
    · have q2 : ¬ (sp_ps σ n i).1 (24 + 54 * a + 6) = nI 0 := fun z => q (ms_nI (i6.symm.trans z) (by omega) (by omega))
      obtain ⟨M2, e2, f1, f2⟩ := ms_tick M1 hIi
      obtain ⟨m9, m1, m2⟩ := (sp_tz_v hIi).2.1
      obtain ⟨M3, τ, y, e3, g1, g2, g3⟩ := ih (i + 1) M2 (by omega) f (by omega)
      refine ⟨M3, τ, y, ?_, g1.trans f1, fun q hq => (g2 q hq).trans (f2 q hq), ?_⟩
      · show f_X8_emptyIn_L20 414 (nI a) u _ _ _ = _
        unfold f_X8_emptyIn_L20
        rw [if_neg n2, o6, ms_b1, i6, if_neg (nI_nle (by omega) (by omega)), e2, ms_b2, m2, if_pos (nI_pos' (by omega)), ms_nm, nI_1]
        exact e3
      · rw [g3]
        show _ = if (sp_ps σ n i).1 (24 + 54 * a + 6) = nI 0 then nI i else sp_em σ n a m (i + 1)
        rw [if_neg q2]
theorem GI_fr2 {M M' : ce_M} (h : GI M) (h1 : ∀ q, q < 411 → q < 69 ∨ 137 ≤ q → ce_rd M' q = ce_rd M q) (h2 : ce_rd M' 411 1 = ce_rd M 411 1) (h3 : ce_rd M' 412 = ce_rd M 412) (h4 : ∀ j, j < 816 → ce_rd M' 415 j = ce_rd M 415 j) (h5 : ce_rd M' 416 = ce_rd M 416) (h6 : ce_rd M' 419 = ce_rd M 419) (h7 : ce_rd M' 414 3 = ce_rd M 414 3) (h8 : ce_rd M' 414 8 = ce_rd M 414 8) : GI M' := by
  obtain ⟨⟨a1, a2⟩, ⟨c, nx, b⟩, len, d⟩ := h
  exact ⟨⟨ms_WR_cg h4 (ms_WR_al a1 (fun q q1 q2 => h1 q (by omega) (by omega))), ms_IT_cg h4 a2⟩, ⟨c, nx, GI_U_fr b (fun q q1 q2 => h1 q (by omega) (by omega)) h5 h7⟩, len, GI_T_fr d h2 h3 h6 h8⟩
theorem LW_emptyIn (x : Int32) : LW (fun M => f_L_emptyIn M 0 x 421) (fun M => f_X8_emptyIn 414 M x) := by
  intro M hG
  have hG0 := hG
  obtain ⟨⟨hW, t, n, en, ht, hI⟩, _⟩ := hG
  have hn : ce_rd M (0 + 1) 5 = nI n := hW.2.1.trans hI.2.1
  have hn8 : n ≤ 8 := hI.2.2.1
  rcases ms_ix x n with hx | ⟨a, ha, rfl⟩
  · refine ⟨M, 1, ce_wr M 414 4 1, 0, ?_, ?_, ms_ww, fun q => absurd q (by decide), GI_m hG0 _ (by omega) (by omega)⟩
    · show f_L_emptyIn M 0 x 421 = _
      unfold f_L_emptyIn f_X7_emptyIn
      rw [cs_sub_n hn hx]; rfl
    · show f_X8_emptyIn 414 M x = _
      unfold f_X8_emptyIn
      have q := ms_one_n M hI.2.1 hn8 hx
      rw [ms_S_self] at q
      rw [q]; rfl
  · obtain ⟨M5, e5, w5, f5⟩ := cs_copy (k := 69) hW hI (by omega)
    obtain ⟨M1, e1, f1⟩ := cs_em hI ha 200 0 M5 (by omega) w5 ce_FU (by rw [ms_FU]; omega)
    have hf : ∀ q, q < 69 ∨ 137 ≤ q → ce_rd M1 q = ce_rd M q := fun q hq => (f1.2 q (by omega)).trans (f5.2 q (by omega))
    have hL : f_L_emptyIn M 0 (nI a) 421 = some (ce_wl M1 1 (Int32.toInt64 (sp_em (ce_rd M 415) n a 200 0)), 0) := by
      unfold f_L_emptyIn f_X7_emptyIn
      rw [cs_sub_y hn hn8 ha, ms_b1, cs_ni1, ms_b1, ms_if0, show f_X6_copyFrom (0 + 69) M (0 + 1) = some M5 from e5, ms_b1]
      unfold f_X6_passUntilEmpty
      rw [ms_gi (show a < 8 by omega) (show 8 < 2 ^ 31 by omega), nI_clamp (show a < 2 ^ 31 by omega), ms_nm, ms_nm]
      rw [show ce_lp2 (f_X6_passUntilEmpty_L12 (0 + 69 + 2 + (10 + 7 * a)) (0 + 69) (fun (M8 : ce_M) => if (ce_rd M8 (0 + 69 + 2 + (10 + 7 * a) + 5) 1) = 0 then some (M8, 200) else some (M8, (-1)))) ce_FU M5 0 = _ from e1, ms_b2, ms_b3, if_pos rfl, ms_nm]
    generalize hN : ce_wl M1 1 (Int32.toInt64 (sp_em (ce_rd M 415) n a 200 0)) = N at hL
    have n1 : ∀ q, q < 69 ∨ 137 ≤ q → ce_rd N q = ce_rd M q := fun q hq => by rw [← hN]; exact hf q hq
    have n415 : ce_rd N 415 = ce_rd M 415 := n1 415 (by omega)
    have nl : ce_rl N 1 = Int32.toInt64 (sp_em (ce_rd M 415) n a 200 0) := by
      rw [← hN]
      show (if 1 = 1 then Int32.toInt64 (sp_em (ce_rd M 415) n a 200 0) else M1.2 1) = _
      rw [if_pos rfl]
    have hs : ∀ Q : ce_M, ce_rd Q 415 = ce_rd M 415 → Q = ms_S Q (ce_rd M 415) := fun Q h => by
      have q := (ms_S_self Q).symm
      rw [h] at q
      exact q
    have c1 : f_X8_isOne 414 N (nI a) = some 1 := by rw [hs N n415]; exact ms_one_y _ hI.2.1 hn8 ha
    have c3 : ce_cp N 415 417 816 = ms_S (ce_cp N 415 417 816) (ce_rd M 415) := hs _ ((cp_row (by omega)).trans n415)
    obtain ⟨M2, τ, y, e2, g1, g2, g3⟩ := ms_em hI ha (fun (M10 : ce_M) (x11 : Int32) => ce_b1 (f_X8_bringsBack 414 M10) (fun (M13 : ce_M) => ce_nm (fun (x15 : Int32) => ce_b2 (f_X8_tells 414 M13 x15) (fun (M17 : ce_M) (x18 : Int32) => some (M17, x18))) (fun (u16 : Int32 → Option (ce_M × Int32)) => if x11 ≤ 200 then u16 x11 else u16 (-1)))) 200 0 (ce_cp N 415 417 816) (by omega) ce_FU (by rw [ms_FU]; omega)
    have hR : f_X8_emptyIn 414 N (nI a) = some (ce_wr (ce_cp (ms_S M2 τ) 417 415 816) 414 4 0, sp_em (ce_rd M 415) n a 200 0) := by
      unfold f_X8_emptyIn
      rw [c1, ms_b1, if_neg (by decide), ms_lays, ms_b1, ms_nm]
      conv => lhs; rw [c3]
      refine e2.trans ?_
      rw [ms_bring, ms_b1, ms_nm, ← g3]
      by_cases q : y ≤ 200
      · rw [if_pos q, if_pos q]; rfl
      · rw [if_neg q, if_neg q]; rfl
    have r : ∀ q, q ≠ 414 → q ≠ 415 → q ≠ 417 → q ≠ 418 → ce_rd (ce_wr (ce_cp (ms_S M2 τ) 417 415 816) 414 4 0) q = ce_rd N q := fun q q1 q2 q3 q4 => by
      rw [ms_row q1, cp_row q2]
      refine funext fun j => ?_
      rw [ms_rd' _ _ q2, g2 q q4, cp_row q3]
    have r2 : ∀ j, j ≠ 4 → ce_rd (ce_wr (ce_cp (ms_S M2 τ) 417 415 816) 414 4 0) 414 j = ce_rd N 414 j := fun j hj => by
      rw [ms_rw3 hj, cp_row (by omega), ms_rd' _ _ (by omega), g2 414 (by omega), cp_row (by omega)]
    refine ⟨N, 0, _, _, hL, hR, ms_ww, fun _ => ?_, GI_fr2 hG0 (fun q q1 q2 => ?_) ?_ ?_ (fun j hj => ?_) ?_ ?_ ?_ ?_⟩
    · show M2.2 1 = _
      rw [g1]
      exact nl
    · rw [r q (by omega) (by omega) (by omega) (by omega), n1 q (by omega)]
    · rw [r 411 (by omega) (by omega) (by omega) (by omega), n1 411 (by omega)]
    · rw [r 412 (by omega) (by omega) (by omega) (by omega), n1 412 (by omega)]
    · rw [ms_row (by omega), cp_in hj, ms_rd' _ _ (by omega), g2 417 (by omega), cp_in hj, n415]
    · rw [r 416 (by omega) (by omega) (by omega) (by omega), n1 416 (by omega)]
    · rw [r 419 (by omega) (by omega) (by omega) (by omega), n1 419 (by omega)]
    · rw [r2 3 (by omega), n1 414 (by omega)]
    · rw [r2 8 (by omega), n1 414 (by omega)]
