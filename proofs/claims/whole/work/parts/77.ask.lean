/-! the questions of the law: the rest -/
theorem LW_event (x y : Int32) : LW (fun M => f_L_event M 0 x y 421) (fun M => f_X8_event 414 M x y) := by
  refine LW_q (fun M t n en hG hW hI ht => ?_)
  have hW0 := hW
  have hI0 := hI
  obtain ⟨R0, R1, R2, R3, R4, R5, R6, R7, R8⟩ := hW
  obtain ⟨I0, I1, I1', I2, I2', I3, I4, I5, I6, I7, I8, I9, I10⟩ := hI
  have hn : ce_rd M (0 + 1) 5 = nI n := R1.trans I1
  show (∃ v, f_L_event M 0 x y 421 = _ ∧ ∀ Mm : ce_M, _ → f_X8_event 414 (ms_S Mm _) x y = _) ∨ ∃ c, _ ∧ _ ∧ f_L_event M 0 x y 421 = _ ∧ ∀ Mm : ce_M, _ → f_X8_event 414 (ms_S Mm _) x y = _
  unfold f_L_event f_X7_event f_X8_event
  have g2 : ∀ K : Option (ce_M × Int32), ce_gi 2 816 K = K := fun K => ms_gi (n := 2) (by omega) (by omega)
  have v2 : ∀ Mm : ce_M, ce_rd (ms_S Mm (ce_rd M 415)) (414 + 1) (Int32.toNatClampNeg 2) = nI en := fun Mm => I2
  rw [show ce_rd M (0 + 1 + 3) 6 = nI en from R2.trans I2]
  rcases ms_ix x en with hx | ⟨e, he, rfl⟩
  · refine Or.inr ⟨1, by omega, by omega, ?_, fun Mm _ => ?_⟩
    · rw [cs_below_n M hx]; rfl
    · rw [g2, v2, ms_nm, ms_inp_n _ hx]; rfl
  · rw [cs_below_y M he (by omega), ms_b1, cs_ni1, ms_b1, ms_if0]
    rcases ms_ix y 7 with hy | ⟨j, hj, rfl⟩
    · refine Or.inr ⟨2, by omega, by omega, ?_, fun Mm _ => ?_⟩
      · rw [show f_X7_isBelow M y 7 = some 0 from cs_below_n M hy]; rfl
      · rw [g2, v2, ms_nm, ms_inp_y _ he (by omega), ms_b1, if_neg (by decide), show f_X8_in (ms_S Mm (ce_rd M 415)) y 0 6 = some 0 from ms_in_n _ hy]; rfl
    · refine Or.inl ⟨sp_ev (ce_rd M 415) n e j, ?_, fun Mm _ => ?_⟩
      · rw [show f_X7_isBelow M (nI j) 7 = some 1 from cs_below_y (n := 7) M hj (by omega), ms_b1, cs_na1, ms_b1, ms_if0, show f_X6_valueOfEvent (0 + 1) M (nI e) (nI j) = _ from cs_ev hW0 hI0 (show e < 60 by omega) hj]
        rfl
      · rw [g2, v2, ms_nm, ms_inp_y _ he (by omega), ms_b1, if_neg (by decide), show f_X8_in (ms_S Mm (ce_rd M 415)) (nI j) 0 6 = some 1 from ms_in_y (m := 6) _ hj (by omega), ms_b1, if_neg (by decide), ms_ev Mm hI0 (show e < 60 by omega) hj]
        rfl
theorem LW_leaf (x y : Int32) : LW (fun M => f_L_leaf M 0 x y 421) (fun M => f_X8_leaf 414 M x y) := by
  refine LW_q (fun M t n en hG hW hI ht => ?_)
  have hW0 := hW
  have hI0 := hI
  obtain ⟨R0, R1, R2, R3, R4, R5, R6, R7, R8⟩ := hW
  obtain ⟨I0, I1, I1', I2, I2', I3, I4, I5, I6, I7, I8, I9, I10⟩ := hI
  have hn : ce_rd M (0 + 1) 5 = nI n := R1.trans I1
  show (∃ v, f_L_leaf M 0 x y 421 = _ ∧ ∀ Mm : ce_M, _ → f_X8_leaf 414 (ms_S Mm _) x y = _) ∨ ∃ c, _ ∧ _ ∧ f_L_leaf M 0 x y 421 = _ ∧ ∀ Mm : ce_M, _ → f_X8_leaf 414 (ms_S Mm _) x y = _
  unfold f_L_leaf f_X7_leaf f_X8_leaf
  rcases ms_ix x 16 with hx | ⟨l, hl, rfl⟩
  · refine Or.inr ⟨1, by omega, by omega, ?_, fun Mm _ => ?_⟩
    · rw [show f_X7_isBelow M x 16 = some 0 from cs_below_n M hx]; rfl
    · rw [ms_leaf_n _ hx]; rfl
  · rw [show f_X7_isBelow M (nI l) 16 = some 1 from cs_below_y (n := 16) M hl (by omega), ms_b1, cs_ni1, ms_b1, ms_if0]
    rcases ms_ix y 4 with hy | ⟨j, hj, rfl⟩
    · refine Or.inr ⟨2, by omega, by omega, ?_, fun Mm _ => ?_⟩
      · rw [show f_X7_isBelow M y 4 = some 0 from cs_below_n M hy]; rfl
      · rw [ms_leaf_y _ hl, ms_b1, if_neg (by decide), show f_X8_in (ms_S Mm (ce_rd M 415)) y 0 3 = some 0 from ms_in_n _ hy]; rfl
    · refine Or.inl ⟨sp_lv (ce_rd M 415) n l j, ?_, fun Mm _ => ?_⟩
      · rw [show f_X7_isBelow M (nI j) 4 = some 1 from cs_below_y (n := 4) M hj (by omega), ms_b1, cs_na1, ms_b1, ms_if0, show f_X6_valueOfLeaf (0 + 1) M (nI l) (nI j) = _ from cs_lv hW0 hI0 hl hj]
        rfl
      · rw [ms_leaf_y _ hl, ms_b1, if_neg (by decide), show f_X8_in (ms_S Mm (ce_rd M 415)) (nI j) 0 3 = some 1 from ms_in_y (m := 3) _ hj (by omega), ms_b1, if_neg (by decide), ms_lv Mm hI0 hl hj]
        rfl
theorem cs_whA {M : ce_M} {j : Nat} (hj : j < 13) : f_X7_valueOfWhole 0 M (nI j) = f_X6_valueOfWhole 1 M (nI j) := by
  unfold f_X7_valueOfWhole
  rw [if_neg (show ¬ nI j = 13 from fun q => absurd (ms_nI (b := 13) q (by omega) (by omega)) (by omega)), ms_b1s]
theorem LW_whole (x : Int32) : LW (fun M => f_L_whole M 0 x 421) (fun M => f_X8_whole 414 M x) := by
  refine LW_q (fun M t n en hG hW hI ht => ?_)
  have hW0 := hW
  have hI0 := hI
  obtain ⟨R0, R1, R2, R3, R4, R5, R6, R7, R8⟩ := hW
  obtain ⟨I0, I1, I1', I2, I2', I3, I4, I5, I6, I7, I8, I9, I10⟩ := hI
  have hn : ce_rd M (0 + 1) 5 = nI n := R1.trans I1
  show (∃ v, f_L_whole M 0 x 421 = _ ∧ ∀ Mm : ce_M, _ → f_X8_whole 414 (ms_S Mm _) x = _) ∨ ∃ c, _ ∧ _ ∧ f_L_whole M 0 x 421 = _ ∧ ∀ Mm : ce_M, _ → f_X8_whole 414 (ms_S Mm _) x = _
  unfold f_L_whole f_X7_whole f_X8_whole
  rcases ms_ix x 14 with hx | ⟨j, hj, rfl⟩
  · refine Or.inr ⟨1, by omega, by omega, ?_, fun Mm _ => ?_⟩
    · rw [show f_X7_isBelow M x 14 = some 0 from cs_below_n M hx]; rfl
    · rw [show f_X8_in (ms_S Mm (ce_rd M 415)) x 0 13 = some 0 from ms_in_n _ hx]; rfl
  · rw [show f_X7_isBelow M (nI j) 14 = some 1 from cs_below_y (n := 14) M hj (by omega), ms_b1, cs_na1, ms_b1, ms_if0]
    by_cases hj2 : j < 13
    · refine Or.inl ⟨sp_wh (ce_rd M 415) n j, ?_, fun Mm _ => ?_⟩
      · rw [cs_whA hj2, cs_wh hW0 hI0 hj2]
        rfl
      · rw [show f_X8_in (ms_S Mm (ce_rd M 415)) (nI j) 0 13 = some 1 from ms_in_y (m := 13) _ hj (by omega), ms_b1, if_neg (by decide), ms_wh Mm hI0 hj2]
        rfl
    · have e : j = 13 := by omega
      subst e
      obtain ⟨_, _, len, l1, l2, l3, _⟩ := hG
      refine Or.inl ⟨nI len, ?_, fun Mm h8 => ?_⟩
      · rw [show f_X7_valueOfWhole 0 M (nI 13) = some (nI len) from by
          unfold f_X7_valueOfWhole
          rw [if_pos (show nI 13 = 13 from rfl)]
          exact congrArg some l2]
        rfl
      · rw [show f_X8_in (ms_S Mm (ce_rd M 415)) (nI 13) 0 13 = some 1 from ms_in_y (m := 13) _ hj (by omega), ms_b1, if_neg (by decide), ms_wh13, h8, l3]
        rfl
theorem LW_wouldReach (x y z : Int32) : LW (fun M => f_L_wouldReach M 0 x y z 421) (fun M => f_X8_wouldReach 414 M x y z) := by
  refine LW_q (fun M t n en hG hW hI ht => ?_)
  have hW0 := hW
  have hI0 := hI
  obtain ⟨R0, R1, R2, R3, R4, R5, R6, R7, R8⟩ := hW
  obtain ⟨I0, I1, I1', I2, I2', I3, I4, I5, I6, I7, I8, I9, I10⟩ := hI
  have hn : ce_rd M (0 + 1) 5 = nI n := R1.trans I1
  show (∃ v, f_L_wouldReach M 0 x y z 421 = _ ∧ ∀ Mm : ce_M, _ → f_X8_wouldReach 414 (ms_S Mm _) x y z = _) ∨ ∃ c, _ ∧ _ ∧ f_L_wouldReach M 0 x y z 421 = _ ∧ ∀ Mm : ce_M, _ → f_X8_wouldReach 414 (ms_S Mm _) x y z = _
  unfold f_L_wouldReach f_X7_wouldReach f_X8_wouldReach
  rcases ms_ix x 16 with hx | ⟨l, hl, rfl⟩
  · refine Or.inr ⟨1, by omega, by omega, ?_, fun Mm _ => ?_⟩
    · rw [show f_X7_isBelow M x 16 = some 0 from cs_below_n M hx]; rfl
    · rw [ms_leaf_n _ hx]; rfl
  · rw [show f_X7_isBelow M (nI l) 16 = some 1 from cs_below_y (n := 16) M hl (by omega), ms_b1, cs_ni1, ms_b1, ms_if0]
    rcases ms_ix y 3 with hy | ⟨v, hv, rfl⟩
    · refine Or.inr ⟨2, by omega, by omega, ?_, fun Mm _ => ?_⟩
      · rw [show f_X7_isBelow M y 3 = some 0 from cs_below_n M hy]; rfl
      · rw [ms_leaf_y _ hl, ms_b1, if_neg (by decide), ms_level_n _ hy]; rfl
    · rw [show f_X7_isBelow M (nI v) 3 = some 1 from cs_below_y (n := 3) M hv (by omega), ms_b1, ms_nm, ms_nm, if_neg (by decide)]
      by_cases hz : z < 0
      · have hz2 : ¬ 0 ≤ z := Int32.not_le.mpr hz
        refine Or.inr ⟨2, by omega, by omega, ?_, fun Mm _ => ?_⟩
        · rw [if_pos hz]; rfl
        · rw [ms_leaf_y _ hl, ms_b1, if_neg (by decide), ms_level_y _ hv, ms_b1, ms_nm, if_neg (by decide), if_neg hz2]; rfl
      · have hz2 : 0 ≤ z := Int32.not_lt.mp hz
        have ct : f_X6_isTooLate (0 + 1) M z = some (sp_tl (ce_rd M 415) z) := cs_tooLate hW0 z
        have cr : f_X6_reachedBy (0 + 1) M (nI l) (nI v) (ce_rd M 415 0 - z) = some (sp_rb (ce_rd M 415) l v (ce_rd M 415 0 - z) n) := cs_reachedBy hW0 hI0 hl hv
        refine Or.inl ⟨if sp_tl (ce_rd M 415) z = 0 then sp_rb (ce_rd M 415) l v (ce_rd M 415 0 - z) n else -1, ?_, fun Mm _ => ?_⟩
        · rw [if_neg hz]
          dsimp only
          rw [cs_na1, ms_b1, ms_if0, ct, ms_b1, show ce_rd M (0 + 1) 6 = ce_rd M 415 0 from R0, cr, ms_b1]
          by_cases q : sp_tl (ce_rd M 415) z = 0
          · rw [if_pos q, if_pos q]; rfl
          · rw [if_neg q, if_neg q]; rfl
        · rw [ms_leaf_y _ hl, ms_b1, if_neg (by decide), ms_level_y _ hv, ms_b1, ms_nm, if_neg (by decide), if_pos hz2, ms_tooLate, ms_b1, ms_nm]
          by_cases q : sp_tl (ce_rd M 415) z = 0
          · rw [if_pos q, if_pos q, show ∀ K : Option (ce_M × Int32), ce_gi 0 816 K = K from fun K => ms_gi (n := 0) (by omega) (by omega), show ce_rd (ms_S Mm (ce_rd M 415)) (414 + 1) (Int32.toNatClampNeg 0) = ce_rd M 415 0 from rfl, ms_nm, ms_reachedBy Mm I1 I1' I7 hl hv]; rfl
          · rw [if_neg q, if_neg q]; rfl
theorem LW_reason (x y z : Int32) : LW (fun M => f_L_reason M 0 x y z 421) (fun M => f_X8_reason 414 M x y z) := by
  refine LW_q (fun M t n en hG hW hI ht => ?_)
  have hW0 := hW
  have hI0 := hI
  obtain ⟨R0, R1, R2, R3, R4, R5, R6, R7, R8⟩ := hW
  obtain ⟨I0, I1, I1', I2, I2', I3, I4, I5, I6, I7, I8, I9, I10⟩ := hI
  have hn : ce_rd M (0 + 1) 5 = nI n := R1.trans I1
  show (∃ v, f_L_reason M 0 x y z 421 = _ ∧ ∀ Mm : ce_M, _ → f_X8_reason 414 (ms_S Mm _) x y z = _) ∨ ∃ c, _ ∧ _ ∧ f_L_reason M 0 x y z 421 = _ ∧ ∀ Mm : ce_M, _ → f_X8_reason 414 (ms_S Mm _) x y z = _
  unfold f_L_reason f_X7_reason f_X8_reason
  rcases ms_ix x n with hx | ⟨a, ha, rfl⟩
  · refine Or.inr ⟨1, by omega, by omega, ?_, fun Mm _ => ?_⟩
    · rw [cs_sub_n hn hx]; rfl
    · rw [ms_one_n Mm I1 I1' hx]; rfl
  · have ha8 : a < 8 := by omega
    rw [cs_sub_y hn I1' ha, ms_b1, ms_nm, ms_nm, if_neg (by decide)]
    rcases ms_ix y 16 with hy | ⟨l, hl, rfl⟩
    · refine Or.inr ⟨1, by omega, by omega, ?_, fun Mm _ => ?_⟩
      · rw [show f_X7_isBelow M y 16 = some 0 from cs_below_n M hy]; rfl
      · rw [ms_one_y Mm I1 I1' ha, ms_b1, ms_nm, if_neg (by decide), ms_leaf_n _ hy]; rfl
    · rw [show f_X7_isBelow M (nI l) 16 = some 1 from cs_below_y (n := 16) M hl (by omega), ms_b1, if_neg (by decide)]
      dsimp only
      rw [cs_ni1, ms_b1, ms_if0]
      rcases ms_ix z 3 with hz | ⟨v, hv, rfl⟩
      · refine Or.inr ⟨2, by omega, by omega, ?_, fun Mm _ => ?_⟩
        · rw [show f_X7_isBelow M z 3 = some 0 from cs_below_n M hz]; rfl
        · rw [ms_one_y Mm I1 I1' ha, ms_b1, ms_nm, if_neg (by decide), ms_leaf_y _ hl, ms_b1, if_neg (by decide), ms_level_n _ hz]; rfl
      · refine Or.inl ⟨sp_why (ce_rd M 415) a l v, ?_, fun Mm _ => ?_⟩
        · rw [show f_X7_isBelow M (nI v) 3 = some 1 from cs_below_y (n := 3) M hv (by omega), ms_b1, cs_na1, ms_b1, ms_if0, ms_gi (show a < 8 by omega) (show 8 < 2 ^ 31 by omega), nI_clamp (show a < 2 ^ 31 by omega), ms_nm, cs_area M hl hv, ms_b1, show f_X4_reasonAgainst (0 + 1 + 2 + (10 + 7 * a)) M (sp_ar l v) = _ from cs_why (R5 a ha8) (I7 a ha8) hl hv]
          rfl
        · rw [ms_one_y Mm I1 I1' ha, ms_b1, ms_nm, if_neg (by decide), ms_leaf_y _ hl, ms_b1, if_neg (by decide), ms_level_y _ hv, ms_b1, if_neg (by decide), ms_why Mm ha8 (I7 a ha8) hl hv]
          rfl
theorem LW_servedIn (x : Int32) : LW (fun M => f_L_servedIn M 0 x 421) (fun M => f_X8_servedIn 414 M x) := by
  refine LW_q (fun M t n en hG hW hI ht => ?_)
  have hW0 := hW
  have hI0 := hI
  obtain ⟨R0, R1, R2, R3, R4, R5, R6, R7, R8⟩ := hW
  obtain ⟨I0, I1, I1', I2, I2', I3, I4, I5, I6, I7, I8, I9, I10⟩ := hI
  have hn : ce_rd M (0 + 1) 5 = nI n := R1.trans I1
  show (∃ v, f_L_servedIn M 0 x 421 = _ ∧ ∀ Mm : ce_M, _ → f_X8_servedIn 414 (ms_S Mm _) x = _) ∨ ∃ c, _ ∧ _ ∧ f_L_servedIn M 0 x 421 = _ ∧ ∀ Mm : ce_M, _ → f_X8_servedIn 414 (ms_S Mm _) x = _
  unfold f_L_servedIn f_X7_servedIn f_X8_servedIn
  rcases ms_ix x n with hx | ⟨a, ha, rfl⟩
  · refine Or.inr ⟨1, by omega, by omega, ?_, fun Mm _ => ?_⟩
    · rw [cs_sub_n hn hx]; rfl
    · rw [ms_one_n Mm I1 I1' hx]; rfl
  · have ha8 : a < 8 := by omega
    refine Or.inl ⟨sp_ch (ce_rd M 415) a, ?_, fun Mm _ => ?_⟩
    · rw [cs_sub_y hn I1' ha, ms_b1, cs_ni1, ms_b1, ms_if0, show f_X6_ticksUntilServed (0 + 1) M (nI a) = _ from cs_until (t := t) (n := n) (en := en) hW0 ha8]
      rfl
    · rw [ms_one_y Mm I1 I1' ha, ms_b1, if_neg (by decide), ms_until Mm ha8 hI0 (by omega)]
      rfl
theorem LW_covered (x : Int32) : LW (fun M => f_L_covered M 0 x 421) (fun M => f_X8_covered 414 M x) := by
  refine LW_q (fun M t n en hG hW hI ht => ?_)
  have hW0 := hW
  have hI0 := hI
  obtain ⟨R0, R1, R2, R3, R4, R5, R6, R7, R8⟩ := hW
  obtain ⟨I0, I1, I1', I2, I2', I3, I4, I5, I6, I7, I8, I9, I10⟩ := hI
  have hn : ce_rd M (0 + 1) 5 = nI n := R1.trans I1
  show (∃ v, f_L_covered M 0 x 421 = _ ∧ ∀ Mm : ce_M, _ → f_X8_covered 414 (ms_S Mm _) x = _) ∨ ∃ c, _ ∧ _ ∧ f_L_covered M 0 x 421 = _ ∧ ∀ Mm : ce_M, _ → f_X8_covered 414 (ms_S Mm _) x = _
  unfold f_L_covered f_X7_covered f_X8_covered
  rcases ms_ix x n with hx | ⟨a, ha, rfl⟩
  · refine Or.inr ⟨1, by omega, by omega, ?_, fun Mm _ => ?_⟩
    · rw [cs_sub_n hn hx]; rfl
    · rw [ms_one_n Mm I1 I1' hx]; rfl
  · have ha8 : a < 8 := by omega
    refine Or.inl ⟨sp_cv (ce_rd M 415) a, ?_, fun Mm _ => ?_⟩
    · rw [cs_sub_y hn I1' ha, ms_b1, cs_ni1, ms_b1, ms_if0, ms_gi (show a < 8 by omega) (show 8 < 2 ^ 31 by omega), nI_clamp (show a < 2 ^ 31 by omega), ms_nm, show f_X4_coverage (0 + 1 + 2 + (10 + 7 * a)) M = _ from cs_cover (R5 a ha8) (I7 a ha8)]
      rfl
    · rw [ms_one_y Mm I1 I1' ha, ms_b1, if_neg (by decide), ms_cover Mm ha8 (I7 a ha8)]
      rfl
theorem LW_busiest {M : ce_M} (hG : GI M) : ∃ v M3, f_X7_busiest 0 M = some v ∧ f_X8_busiest 414 M = some (M3, v) ∧ GI M3 := by
  have hG0 := hG
  obtain ⟨⟨hW, t, n, en, ht, hI⟩, _⟩ := hG
  refine ⟨(sp_bz (fun l => sp_sm (sp_lfw (ce_rd M 415) l) n) 16).1, ce_wr M 414 4 0, ?_, ?_, GI_m hG0 _ (by omega) (by omega)⟩
  · unfold f_X7_busiest
    rw [show f_X6_busiestLeaf (0 + 1) M = _ from cs_busiest hW hI]
    rfl
  · unfold f_X8_busiest
    have q := ms_busiest M hI
    rw [ms_S_self] at q
    rw [q, ms_b1]
    unfold f_X8_tells
    rw [ms_nm, ms_b2]
