/-! the questions of the law -/
theorem LW_q {Lf Rf : ce_M → Option (ce_M × Int32)} (h : ∀ M t n en, GI M → ms_WR M 1 (ce_rd M 415) → ms_IN (ce_rd M 415) t n en → t ≤ 9999 → (∃ v, Lf M = some (ce_wl M 1 (Int32.toInt64 v), 0) ∧ ∀ Mm : ce_M, ce_rd Mm 414 8 = ce_rd M 414 8 → Rf (ms_S Mm (ce_rd M 415)) = some (ce_wr (ms_S Mm (ce_rd M 415)) 414 4 0, v)) ∨ ∃ c, 1 ≤ c ∧ c ≤ 3 ∧ Lf M = some (M, nI c) ∧ ∀ Mm : ce_M, ce_rd Mm 414 8 = ce_rd M 414 8 → Rf (ms_S Mm (ce_rd M 415)) = some (ce_wr (ms_S Mm (ce_rd M 415)) 414 4 (nI c), 0)) : LW Lf Rf := by
  intro M hG
  have hG0 := hG
  obtain ⟨⟨hW, t, n, en, ht, hI⟩, _⟩ := hG
  rcases h M t n en hG0 hW hI ht with ⟨v, h1, h2⟩ | ⟨c, c1, c2, h1, h2⟩
  · have q := h2 (ce_wl M 1 (Int32.toInt64 v)) rfl
    rw [show ms_S (ce_wl M 1 (Int32.toInt64 v)) (ce_rd M 415) = ce_wl M 1 (Int32.toInt64 v) from ms_S_self (ce_wl M 1 (Int32.toInt64 v))] at q
    refine ⟨_, 0, _, v, h1, q, ms_ww, fun _ => ?_, GI_m (GI_wl hG0 _ _) _ (by omega) (by omega)⟩
    show (if 1 = 1 then Int32.toInt64 v else M.2 1) = _
    rw [if_pos rfl]
  · have q := h2 M rfl
    rw [ms_S_self] at q
    exact ⟨_, nI c, _, 0, h1, q, ms_ww, fun z => absurd (ms_nI (b := 0) z (by omega) (by omega)) (by omega), GI_m hG0 _ (by omega) (by omega)⟩
theorem cs_ni1 (M : ce_M) : f_X7_needIndex M 1 = some 0 := rfl
theorem cs_na1 (M : ce_M) : f_X7_needArgument M 1 = some 0 := rfl
theorem ms_if0 {α : Type} {a b : α} : (if (0 : Nat) = 0 then a else b) = a := if_pos rfl
theorem ms_inp_n (M : ce_M) {x : Int32} {n : Nat} (h : ms_bad x n) : f_X8_in M x 0 (nI n - 1) = some 0 := by
  by_cases c : n = 0
  · subst c
    unfold f_X8_in
    by_cases c0 : x < 0
    · rw [if_pos c0]
    · obtain ⟨j, hj, rfl⟩ := nI_of c0
      have q3 : nI 0 - 1 < nI j := by
        refine Int32.not_le.mp (fun q4 => ?_)
        have q5 : (nI j).toInt ≤ (nI 0 - 1 : Int32).toInt := Int32.le_iff_toInt_le.mp q4
        rw [nI_toInt hj, show (nI 0 - 1 : Int32).toInt = -1 from by decide] at q5
        omega
      rw [if_neg c0, if_pos q3]
  · obtain ⟨m, rfl⟩ : ∃ m, n = m + 1 := ⟨n - 1, by omega⟩
    rw [nI_pred]
    exact ms_in_n _ h
theorem ms_inp_y (M : ce_M) {j n : Nat} (h : j < n) (hn : n ≤ 2 ^ 30) : f_X8_in M (nI j) 0 (nI n - 1) = some 1 := by
  obtain ⟨m, rfl⟩ : ∃ m, n = m + 1 := ⟨n - 1, by omega⟩
  rw [nI_pred]
  exact ms_in_y _ h (by omega)
theorem LW_subscriber (x y : Int32) : LW (fun M => f_L_subscriber M 0 x y 421) (fun M => f_X8_subscriber 414 M x y) := by
  refine LW_q (fun M t n en hG hW hI ht => ?_)
  have hW0 := hW
  have hI0 := hI
  obtain ⟨R0, R1, R2, R3, R4, R5, R6, R7, R8⟩ := hW
  obtain ⟨I0, I1, I1', I2, I2', I3, I4, I5, I6, I7, I8, I9, I10⟩ := hI
  have hn : ce_rd M (0 + 1) 5 = nI n := R1.trans I1
  show (∃ v, f_L_subscriber M 0 x y 421 = _ ∧ ∀ Mm : ce_M, _ → f_X8_subscriber 414 (ms_S Mm _) x y = _) ∨ ∃ c, _ ∧ _ ∧ f_L_subscriber M 0 x y 421 = _ ∧ ∀ Mm : ce_M, _ → f_X8_subscriber 414 (ms_S Mm _) x y = _
  unfold f_L_subscriber f_X7_subscriber f_X8_subscriber
  rcases ms_ix x n with hx | ⟨a, ha, rfl⟩
  · refine Or.inr ⟨1, by omega, by omega, ?_, fun Mm _ => ?_⟩
    · rw [cs_sub_n hn hx]; rfl
    · rw [ms_one_n Mm I1 I1' hx]; rfl
  · have ha8 : a < 8 := by omega
    rw [cs_sub_y hn I1' ha, ms_b1, cs_ni1, ms_b1, ms_if0]
    rcases ms_ix y 12 with hy | ⟨j, hj, rfl⟩
    · refine Or.inr ⟨2, by omega, by omega, ?_, fun Mm _ => ?_⟩
      · rw [show f_X7_isBelow M y 12 = some 0 from cs_below_n M hy]; rfl
      · rw [ms_one_y Mm I1 I1' ha, ms_b1, if_neg (by decide), show f_X8_in (ms_S Mm (ce_rd M 415)) y 0 11 = some 0 from ms_in_n _ hy]; rfl
    · refine Or.inl ⟨sp_told (ce_rd M 415) a j, ?_, fun Mm _ => ?_⟩
      · rw [show f_X7_isBelow M (nI j) 12 = some 1 from cs_below_y (n := 12) M hj (by omega), ms_b1, cs_na1, ms_b1, ms_if0, ms_gi (show a < 8 by omega) (show 8 < 2 ^ 31 by omega), nI_clamp (show a < 2 ^ 31 by omega), ms_nm, show f_X4_valueOf (0 + 1 + 2 + (10 + 7 * a)) M (nI j) = _ from cs_val (R5 a ha8) (I7 a ha8) hj]
        rfl
      · rw [ms_one_y Mm I1 I1' ha, ms_b1, if_neg (by decide), show f_X8_in (ms_S Mm (ce_rd M 415)) (nI j) 0 11 = some 1 from ms_in_y (m := 11) _ hj (by omega), ms_b1, if_neg (by decide), ms_told Mm ha8 I2 I2' I10 hj]
        rfl
theorem LW_stay (x y z : Int32) : LW (fun M => f_L_stay M 0 x y z 421) (fun M => f_X8_stay 414 M x y z) := by
  refine LW_q (fun M t n en hG hW hI ht => ?_)
  obtain ⟨R0, R1, R2, R3, R4, R5, R6, R7, R8⟩ := hW
  obtain ⟨I0, I1, I1', I2, I2', I3, I4, I5, I6, I7, I8, I9, I10⟩ := hI
  have hn : ce_rd M (0 + 1) 5 = nI n := R1.trans I1
  show (∃ v, f_L_stay M 0 x y z 421 = _ ∧ ∀ Mm : ce_M, _ → f_X8_stay 414 (ms_S Mm _) x y z = _) ∨ ∃ c, _ ∧ _ ∧ f_L_stay M 0 x y z 421 = _ ∧ ∀ Mm : ce_M, _ → f_X8_stay 414 (ms_S Mm _) x y z = _
  unfold f_L_stay f_X7_stay f_X8_stay
  rcases ms_ix x n with hx | ⟨a, ha, rfl⟩
  · refine Or.inr ⟨1, by omega, by omega, ?_, fun Mm _ => ?_⟩
    · rw [cs_sub_n hn hx]; rfl
    · rw [ms_one_n Mm I1 I1' hx]; rfl
  · have ha8 : a < 8 := by omega
    rw [cs_sub_y hn I1' ha, ms_b1, cs_ni1, ms_b1, ms_if0, ms_nm, ms_nm]
    by_cases hy : y < 0
    · refine Or.inr ⟨2, by omega, by omega, ?_, fun Mm _ => ?_⟩
      · rw [if_pos hy]; rfl
      · rw [ms_one_y Mm I1 I1' ha, ms_b1, if_neg (by decide), ms_nm, if_pos hy]; rfl
    · obtain ⟨i, hi, rfl⟩ := nI_of hy
      rcases ms_ix z 3 with hz | ⟨j, hj, rfl⟩
      · refine Or.inr ⟨2, by omega, by omega, ?_, fun Mm _ => ?_⟩
        · rw [if_neg hy, show f_X7_isBelow M z 3 = some 0 from cs_below_n M hz]; rfl
        · rw [ms_one_y Mm I1 I1' ha, ms_b1, if_neg (by decide), ms_nm, if_neg hy, show f_X8_in (ms_S Mm (ce_rd M 415)) z 0 2 = some 0 from ms_in_n _ hz]; rfl
      · obtain ⟨c, c1, c2, c3⟩ := I8 a ha
        refine Or.inl ⟨sp_st (ce_rd M 415) a c i j, ?_, fun Mm _ => ?_⟩
        · rw [if_neg hy, show f_X7_isBelow M (nI j) 3 = some 1 from cs_below_y (n := 3) M hj (by omega), ms_b1, if_neg (by decide)]
          dsimp only
          rw [cs_na1, ms_b1, ms_if0, ms_gi (show a < 8 by omega) (show 8 < 2 ^ 31 by omega), nI_clamp (show a < 2 ^ 31 by omega), ms_nm, show f_X3_valueOf (0 + 1 + 2 + (10 + 7 * a) + 1) M (nI i) (nI j) = _ from cs_st (R5 a ha8) c3 c2 hi hj]
          rfl
        · rw [ms_one_y Mm I1 I1' ha, ms_b1, if_neg (by decide), ms_nm, if_neg hy, show f_X8_in (ms_S Mm (ce_rd M 415)) (nI j) 0 2 = some 1 from ms_in_y (m := 2) _ hj (by omega), ms_b1, if_neg (by decide), show f_X8_of 414 (ms_S Mm (ce_rd M 415)) (nI a) 11 = some (ce_rd M 415 (24 + 54 * a + 11)) from ms_of (k := 11) Mm _ ha8 (by omega), ms_b1, c3, ms_nm]
          unfold sp_st
          by_cases q : i < c
          · rw [if_neg (nI_ge q (by omega)), if_pos q, show nI c - 1 = nI (c - 1) from ms_sub (b := 1) (by omega), ms_sub (by omega), ms_stA Mm _ ha8 (show c - 1 - i < 10 by omega) hj, ms_b1, show c - 1 - i = c - (i + 1) by omega]
            rfl
          · rw [if_pos (nI_le (show c ≤ i by omega) hi), if_neg q]
            rfl
theorem LW_waiting (x y : Int32) : LW (fun M => f_L_waiting M 0 x y 421) (fun M => f_X8_waiting 414 M x y) := by
  refine LW_q (fun M t n en hG hW hI ht => ?_)
  obtain ⟨R0, R1, R2, R3, R4, R5, R6, R7, R8⟩ := hW
  obtain ⟨I0, I1, I1', I2, I2', I3, I4, I5, I6, I7, I8, I9, I10⟩ := hI
  have hn : ce_rd M (0 + 1) 5 = nI n := R1.trans I1
  show (∃ v, f_L_waiting M 0 x y 421 = _ ∧ ∀ Mm : ce_M, _ → f_X8_waiting 414 (ms_S Mm _) x y = _) ∨ ∃ c, _ ∧ _ ∧ f_L_waiting M 0 x y 421 = _ ∧ ∀ Mm : ce_M, _ → f_X8_waiting 414 (ms_S Mm _) x y = _
  unfold f_L_waiting f_X7_waiting f_X8_waiting
  rcases ms_ix x n with hx | ⟨a, ha, rfl⟩
  · refine Or.inr ⟨1, by omega, by omega, ?_, fun Mm _ => ?_⟩
    · rw [cs_sub_n hn hx]; rfl
    · rw [ms_one_n Mm I1 I1' hx]; rfl
  · have ha8 : a < 8 := by omega
    rw [cs_sub_y hn I1' ha, ms_b1, cs_ni1, ms_b1, ms_if0, ms_nm]
    by_cases hy : y < 0
    · have hy2 : ¬ 0 ≤ y := Int32.not_le.mpr hy
      refine Or.inr ⟨2, by omega, by omega, ?_, fun Mm _ => ?_⟩
      · rw [if_pos hy]; rfl
      · rw [ms_one_y Mm I1 I1' ha, ms_b1, if_neg (by decide), if_neg hy2]; rfl
    · obtain ⟨i, hi, rfl⟩ := nI_of hy
      obtain ⟨so, le, po, ca, se, th, wz, c, i0, i0', i1, i1', i2, i2', i3, i3', i4, i4', i5, i5', i6, i6', i11, i11', iw, ip, ib, ix, is⟩ := I7 a ha8
      refine Or.inl ⟨sp_bx (ce_rd M 415) a wz i, ?_, fun Mm _ => ?_⟩
      · rw [if_neg hy]
        dsimp only
        rw [cs_na1, ms_b1, ms_if0, ms_gi (show a < 8 by omega) (show 8 < 2 ^ 31 by omega), nI_clamp (show a < 2 ^ 31 by omega), ms_nm, show f_X2_eventAt (0 + 1 + 2 + (10 + 7 * a) + 5) M (nI i) = _ from cs_bx (R5 a ha8) i6 i6' hi]
        rfl
      · rw [ms_one_y Mm I1 I1' ha, ms_b1, if_neg (by decide), if_pos (nI_pos' hi), show f_X8_of 414 (ms_S Mm (ce_rd M 415)) (nI a) 6 = some (ce_rd M 415 (24 + 54 * a + 6)) from ms_of (k := 6) Mm _ ha8 (by omega), ms_b1, i6, ms_nm]
        unfold sp_bx
        by_cases q : i < wz
        · rw [if_neg (nI_ge q (by omega)), if_pos q, show 12 + nI i = nI (12 + i) from nI_add 12 i, ms_of Mm _ ha8 (show 12 + i < 54 by omega), ms_b1]
          rfl
        · rw [if_pos (nI_le (show wz ≤ i by omega) hi), if_neg q]
          rfl
