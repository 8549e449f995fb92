/-! what the class answers between two calls, in the words of the state -/
theorem cs_ni1 (M : ce_M) : f_X7_needIndex M 1 = some 0 := rfl
theorem cs_na1 (M : ce_M) : f_X7_needArgument M 1 = some 0 := rfl
theorem ms_if0 {α : Type} {a b : α} : (if (0 : Nat) = 0 then a else b) = a := if_pos rfl
theorem ms_b1s {α : Type} (o : Option α) : ce_b1 o (fun x => some x) = o := by cases o <;> rfl
theorem ms_b2s {α β : Type} (o : Option (α × β)) : ce_b2 o (fun x y => some (x, y)) = o := by cases o <;> rfl
theorem cs_whA {M : ce_M} {j : Nat} (hj : j < 13) : f_X7_valueOfWhole 0 M (nI j) = f_X6_valueOfWhole 1 M (nI j) := by
  unfold f_X7_valueOfWhole
  rw [if_neg (show ¬ nI j = 13 from fun q => absurd (ms_nI (b := 13) q (by omega) (by omega)) (by omega)), ms_b1s]
def sp_em (σ : Nat → Int32) (n a : Nat) : Nat → Nat → Int32
  | 0, i => if (sp_ps σ n i).1 (24 + 54 * a + 6) = nI 0 then nI i else -1
  | m + 1, i => if (sp_ps σ n i).1 (24 + 54 * a + 6) = nI 0 then nI i else sp_em σ n a m (i + 1)
theorem cs_em {σ : Nat → Int32} {t n en a : Nat} (hI : ms_IN σ t n en) (ha : a < n) : ∀ m i (M1 : ce_M), i + m = 200 → ms_WR M1 69 (sp_ps σ n i).1 → ∀ fuel, m < fuel → ∃ M', ce_lp2 (f_X6_passUntilEmpty_L12 (69 + 2 + (10 + 7 * a)) 69 (fun (M8 : ce_M) => if (ce_rd M8 (69 + 2 + (10 + 7 * a) + 5) 1) = 0 then some (M8, 200) else some (M8, (-1)))) fuel M1 (nI i) = some (M', sp_em σ n a m i) ∧ ms_fr 69 137 M1 M' := by
  have hn8 : n ≤ 8 := hI.2.2.1
  intro m
  induction m with
  | zero =>
    intro i M1 h1 hR fuel hf
    obtain ⟨f, rfl⟩ : ∃ f, fuel = f + 1 := ⟨fuel - 1, by omega⟩
    have e : i = 200 := by omega
    subst e
    have h6 : ce_rd M1 (69 + 2 + (10 + 7 * a) + 5) 1 = (sp_ps σ n 200).1 (24 + 54 * a + 6) := (hR.2.2.2.2.2.1 a (by omega)).2.2.2.2.2.2.1
    refine ⟨M1, ?_, ms_fr_r⟩
    show f_X6_passUntilEmpty_L12 (69 + 2 + (10 + 7 * a)) 69 _ _ _ _ = _
    unfold f_X6_passUntilEmpty_L12
    rw [if_pos (show (200 : Int32) ≤ nI 200 from by decide)]
    dsimp only
    rw [h6]
    unfold sp_em
    by_cases q : (sp_ps σ n 200).1 (24 + 54 * a + 6) = nI 0
    · rw [if_pos q, if_pos (show (sp_ps σ n 200).1 (24 + 54 * a + 6) = 0 from q)]; rfl
    · rw [if_neg q, if_neg (show ¬ (sp_ps σ n 200).1 (24 + 54 * a + 6) = 0 from q)]
  | succ m ih =>
    intro i M1 h1 hR fuel hf
    obtain ⟨f, rfl⟩ : ∃ f, fuel = f + 1 := ⟨fuel - 1, by omega⟩
    have h6 : ce_rd M1 (69 + 2 + (10 + 7 * a) + 5) 1 = (sp_ps σ n i).1 (24 + 54 * a + 6) := (hR.2.2.2.2.2.1 a (by omega)).2.2.2.2.2.2.1
    by_cases q : (sp_ps σ n i).1 (24 + 54 * a + 6) = nI 0
    · refine ⟨M1, ?_, ms_fr_r⟩
      show f_X6_passUntilEmpty_L12 (69 + 2 + (10 + 7 * a)) 69 _ _ _ _ = _
      unfold f_X6_passUntilEmpty_L12
      rw [if_neg (show ¬ (200 : Int32) ≤ nI i from nI_ge (b := 200) (by omega) (by omega)), h6, if_pos (show (sp_ps σ n i).1 (24 + 54 * a + 6) = 0 from q)]
      unfold sp_em
      rw [if_pos q]
    · obtain ⟨M2, e2, w2, f2⟩ := cs_tick hR (ms_IN_ps hI i)
      obtain ⟨M3, e3, f3⟩ := ih (i + 1) M2 (by omega) w2 f (by omega)
      refine ⟨M3, ?_, ms_fr_t f2 f3⟩
      show f_X6_passUntilEmpty_L12 (69 + 2 + (10 + 7 * a)) 69 _ _ _ _ = _
      unfold f_X6_passUntilEmpty_L12
      rw [if_neg (show ¬ (200 : Int32) ≤ nI i from nI_ge (b := 200) (by omega) (by omega)), h6, if_neg (show ¬ (sp_ps σ n i).1 (24 + 54 * a + 6) = 0 from q), e2, ms_b2, ms_nm, nI_1]
      refine e3.trans ?_
      show _ = some (M3, if (sp_ps σ n i).1 (24 + 54 * a + 6) = nI 0 then nI i else sp_em σ n a m (i + 1))
      rw [if_neg q]
theorem q_one {M : ce_M} {σ : Nat → Int32} {ps : List (Nat → Int32)} {t n en : Nat} (hS : q_S M σ ps) (hI : ms_IN σ t n en) {a j : Nat} (ha : a < n) (hj : j < 12) : f0_L_one M 0 (nI a) (nI j) = some (sp_told σ a j) := by
  have hW0 := hS.1
  have hI0 := hI
  obtain ⟨R0, R1, R2, R3, R4, R5, R6, R7, R8⟩ := hS.1
  obtain ⟨I0, I1, I1', I2, I2', I3, I4, I5, I6, I7, I8, I9, I10⟩ := hI
  have hn : ce_rd M (0 + 1) 5 = nI n := R1.trans I1
  have ha8 : a < 8 := by omega
  unfold f0_L_one f_X7_subscriber
  rw [cs_sub_y hn I1' ha, ms_b1, cs_ni1, ms_b1, ms_if0, show f_X7_isBelow M (nI j) 12 = some 1 from cs_below_y (n := 12) M hj (by omega), ms_b1, cs_na1, ms_b1, ms_if0, ms_gi (show a < 8 by omega) (show 8 < 2 ^ 31 by omega), nI_clamp (show a < 2 ^ 31 by omega), ms_nm, show f_X4_valueOf (0 + 1 + 2 + (10 + 7 * a)) M (nI j) = _ from cs_val (R5 a ha8) (I7 a ha8) hj]
  rw [ms_b1, ms_b2, ms_if0]
theorem q_stay {M : ce_M} {σ : Nat → Int32} {ps : List (Nat → Int32)} {t n en : Nat} (hS : q_S M σ ps) (hI : ms_IN σ t n en) {a i j c : Nat} (ha : a < n) (hc : σ (24 + 54 * a + 11) = nI c) (hc2 : c ≤ 10) (hi : i < 2 ^ 31) (hj : j < 3) : f0_L_stay M 0 (nI a) (nI i) (nI j) = some (sp_st σ a c i j) := by
  have hW0 := hS.1
  have hI0 := hI
  obtain ⟨R0, R1, R2, R3, R4, R5, R6, R7, R8⟩ := hS.1
  obtain ⟨I0, I1, I1', I2, I2', I3, I4, I5, I6, I7, I8, I9, I10⟩ := hI
  have hn : ce_rd M (0 + 1) 5 = nI n := R1.trans I1
  have ha8 : a < 8 := by omega
  unfold f0_L_stay f_X7_stay
  rw [cs_sub_y hn I1' ha, ms_b1, cs_ni1, ms_b1, ms_if0, ms_nm, ms_nm, if_neg (nI_pos hi), show f_X7_isBelow M (nI j) 3 = some 1 from cs_below_y (n := 3) M hj (by omega), ms_b1, if_neg (by decide)]
  dsimp only
  rw [cs_na1, ms_b1, ms_if0, ms_gi (show a < 8 by omega) (show 8 < 2 ^ 31 by omega), nI_clamp (show a < 2 ^ 31 by omega), ms_nm, show f_X3_valueOf (0 + 1 + 2 + (10 + 7 * a) + 1) M (nI i) (nI j) = _ from cs_st (R5 a ha8) hc hc2 hi hj]
  rw [ms_b1, ms_b2, ms_if0]
theorem q_box {M : ce_M} {σ : Nat → Int32} {ps : List (Nat → Int32)} {t n en : Nat} (hS : q_S M σ ps) (hI : ms_IN σ t n en) {a i wz : Nat} (ha : a < n) (hw : σ (24 + 54 * a + 6) = nI wz) (hw2 : wz ≤ 12) (hi : i < 2 ^ 31) : f0_L_box M 0 (nI a) (nI i) = some (sp_bx σ a wz i) := by
  have hW0 := hS.1
  have hI0 := hI
  obtain ⟨R0, R1, R2, R3, R4, R5, R6, R7, R8⟩ := hS.1
  obtain ⟨I0, I1, I1', I2, I2', I3, I4, I5, I6, I7, I8, I9, I10⟩ := hI
  have hn : ce_rd M (0 + 1) 5 = nI n := R1.trans I1
  have ha8 : a < 8 := by omega
  unfold f0_L_box f_X7_waiting
  rw [cs_sub_y hn I1' ha, ms_b1, cs_ni1, ms_b1, ms_if0, ms_nm, if_neg (nI_pos hi)]
  dsimp only
  rw [cs_na1, ms_b1, ms_if0, ms_gi (show a < 8 by omega) (show 8 < 2 ^ 31 by omega), nI_clamp (show a < 2 ^ 31 by omega), ms_nm, show f_X2_eventAt (0 + 1 + 2 + (10 + 7 * a) + 5) M (nI i) = _ from cs_bx (R5 a ha8) hw hw2 hi]
  rw [ms_b1, ms_b2, ms_if0]
theorem q_event {M : ce_M} {σ : Nat → Int32} {ps : List (Nat → Int32)} {t n en : Nat} (hS : q_S M σ ps) (hI : ms_IN σ t n en) {e j : Nat} (he : e < en) (hj : j < 7) : f0_L_event M 0 (nI e) (nI j) = some (sp_ev σ n e j) := by
  have hW0 := hS.1
  have hI0 := hI
  obtain ⟨R0, R1, R2, R3, R4, R5, R6, R7, R8⟩ := hS.1
  obtain ⟨I0, I1, I1', I2, I2', I3, I4, I5, I6, I7, I8, I9, I10⟩ := hI
  have hn : ce_rd M (0 + 1) 5 = nI n := R1.trans I1
  unfold f0_L_event f_X7_event
  rw [show ce_rd M (0 + 1 + 3) 6 = nI en from R2.trans I2, cs_below_y M he (by omega), ms_b1, cs_ni1, ms_b1, ms_if0, show f_X7_isBelow M (nI j) 7 = some 1 from cs_below_y (n := 7) M hj (by omega), ms_b1, cs_na1, ms_b1, ms_if0, show f_X6_valueOfEvent (0 + 1) M (nI e) (nI j) = _ from cs_ev hW0 hI0 (show e < 60 by omega) hj]
  rw [ms_b1, ms_b2, ms_if0]
theorem q_leaf {M : ce_M} {σ : Nat → Int32} {ps : List (Nat → Int32)} {t n en : Nat} (hS : q_S M σ ps) (hI : ms_IN σ t n en) {l j : Nat} (hl : l < 16) (hj : j < 4) : f0_L_leaf M 0 (nI l) (nI j) = some (sp_lv σ n l j) := by
  have hW0 := hS.1
  have hI0 := hI
  obtain ⟨R0, R1, R2, R3, R4, R5, R6, R7, R8⟩ := hS.1
  obtain ⟨I0, I1, I1', I2, I2', I3, I4, I5, I6, I7, I8, I9, I10⟩ := hI
  have hn : ce_rd M (0 + 1) 5 = nI n := R1.trans I1
  unfold f0_L_leaf f_X7_leaf
  rw [show f_X7_isBelow M (nI l) 16 = some 1 from cs_below_y (n := 16) M hl (by omega), ms_b1, cs_ni1, ms_b1, ms_if0, show f_X7_isBelow M (nI j) 4 = some 1 from cs_below_y (n := 4) M hj (by omega), ms_b1, cs_na1, ms_b1, ms_if0, show f_X6_valueOfLeaf (0 + 1) M (nI l) (nI j) = _ from cs_lv hW0 hI0 hl hj]
  rw [ms_b1, ms_b2, ms_if0]
theorem q_whole {M : ce_M} {σ : Nat → Int32} {ps : List (Nat → Int32)} {t n en : Nat} (hS : q_S M σ ps) (hI : ms_IN σ t n en) {j : Nat} (hj : j < 14) : f0_L_whole M 0 (nI j) = some (if j < 13 then sp_wh σ n j else nI 0) := by
  have hW0 := hS.1
  have hI0 := hI
  obtain ⟨R0, R1, R2, R3, R4, R5, R6, R7, R8⟩ := hS.1
  obtain ⟨I0, I1, I1', I2, I2', I3, I4, I5, I6, I7, I8, I9, I10⟩ := hI
  have hn : ce_rd M (0 + 1) 5 = nI n := R1.trans I1
  unfold f0_L_whole f_X7_whole
  rw [show f_X7_isBelow M (nI j) 14 = some 1 from cs_below_y (n := 14) M hj (by omega), ms_b1, cs_na1, ms_b1, ms_if0]
  by_cases hj2 : j < 13
  · rw [cs_whA hj2, cs_wh hW0 hI0 hj2, if_pos hj2]
    rw [ms_b1, ms_b2, ms_if0]
  · have e : j = 13 := by omega
    subst e
    rw [show f_X7_valueOfWhole 0 M (nI 13) = some (nI 0) from by
      unfold f_X7_valueOfWhole
      rw [if_pos (show nI 13 = 13 from rfl)]
      exact congrArg some hS.2.2, if_neg hj2]
    rw [ms_b1, ms_b2, ms_if0]
theorem q_would {M : ce_M} {σ : Nat → Int32} {ps : List (Nat → Int32)} {t n en : Nat} (hS : q_S M σ ps) (hI : ms_IN σ t n en) {l v d : Nat} (hl : l < 16) (hv : v < 3) (hd : d < 2 ^ 31) : f0_L_would M 0 (nI l) (nI v) (nI d) = some (if sp_tl σ (nI d) = 0 then sp_rb σ l v (σ 0 - nI d) n else -1) := by
  have hW0 := hS.1
  have hI0 := hI
  obtain ⟨R0, R1, R2, R3, R4, R5, R6, R7, R8⟩ := hS.1
  obtain ⟨I0, I1, I1', I2, I2', I3, I4, I5, I6, I7, I8, I9, I10⟩ := hI
  have hn : ce_rd M (0 + 1) 5 = nI n := R1.trans I1
  unfold f0_L_would f_X7_wouldReach
  have ct : f_X6_isTooLate (0 + 1) M (nI d) = some (sp_tl σ (nI d)) := cs_tooLate hW0 _
  have cr : f_X6_reachedBy (0 + 1) M (nI l) (nI v) (σ 0 - nI d) = some (sp_rb σ l v (σ 0 - nI d) n) := cs_reachedBy hW0 hI0 hl hv
  rw [show f_X7_isBelow M (nI l) 16 = some 1 from cs_below_y (n := 16) M hl (by omega), ms_b1, cs_ni1, ms_b1, ms_if0, show f_X7_isBelow M (nI v) 3 = some 1 from cs_below_y (n := 3) M hv (by omega), ms_b1, ms_nm, ms_nm, if_neg (by decide), if_neg (nI_pos hd)]
  dsimp only
  rw [cs_na1, ms_b1, ms_if0, ct, ms_b1, show ce_rd M (0 + 1) 6 = σ 0 from R0, cr, ms_b1]
  by_cases q : sp_tl σ (nI d) = 0
  · rw [if_pos q, if_pos q, ms_b2, ms_if0]
  · rw [if_neg q, if_neg q, ms_b2, ms_if0]
theorem q_why {M : ce_M} {σ : Nat → Int32} {ps : List (Nat → Int32)} {t n en : Nat} (hS : q_S M σ ps) (hI : ms_IN σ t n en) {a l v : Nat} (ha : a < n) (hl : l < 16) (hv : v < 3) : f0_L_why M 0 (nI a) (nI l) (nI v) = some (sp_why σ a l v) := by
  have hW0 := hS.1
  have hI0 := hI
  obtain ⟨R0, R1, R2, R3, R4, R5, R6, R7, R8⟩ := hS.1
  obtain ⟨I0, I1, I1', I2, I2', I3, I4, I5, I6, I7, I8, I9, I10⟩ := hI
  have hn : ce_rd M (0 + 1) 5 = nI n := R1.trans I1
  have ha8 : a < 8 := by omega
  unfold f0_L_why f_X7_reason
  rw [cs_sub_y hn I1' ha, ms_b1, ms_nm, ms_nm, if_neg (by decide), show f_X7_isBelow M (nI l) 16 = some 1 from cs_below_y (n := 16) M hl (by omega), ms_b1, if_neg (by decide)]
  dsimp only
  rw [cs_ni1, ms_b1, ms_if0, show f_X7_isBelow M (nI v) 3 = some 1 from cs_below_y (n := 3) M hv (by omega), ms_b1, cs_na1, ms_b1, ms_if0, ms_gi (show a < 8 by omega) (show 8 < 2 ^ 31 by omega), nI_clamp (show a < 2 ^ 31 by omega), ms_nm, cs_area M hl hv, ms_b1, show f_X4_reasonAgainst (0 + 1 + 2 + (10 + 7 * a)) M (sp_ar l v) = _ from cs_why (R5 a ha8) (I7 a ha8) hl hv]
  rw [ms_b1, ms_b2, ms_if0]
theorem q_served {M : ce_M} {σ : Nat → Int32} {ps : List (Nat → Int32)} {t n en : Nat} (hS : q_S M σ ps) (hI : ms_IN σ t n en) {a : Nat} (ha : a < n) : f0_L_served M 0 (nI a) = some (sp_ch σ a) := by
  have hW0 := hS.1
  have hI0 := hI
  obtain ⟨R0, R1, R2, R3, R4, R5, R6, R7, R8⟩ := hS.1
  obtain ⟨I0, I1, I1', I2, I2', I3, I4, I5, I6, I7, I8, I9, I10⟩ := hI
  have hn : ce_rd M (0 + 1) 5 = nI n := R1.trans I1
  have ha8 : a < 8 := by omega
  unfold f0_L_served f_X7_servedIn
  rw [cs_sub_y hn I1' ha, ms_b1, cs_ni1, ms_b1, ms_if0, show f_X6_ticksUntilServed (0 + 1) M (nI a) = _ from cs_until (t := t) (n := n) (en := en) hW0 ha8]
  rw [ms_b1, ms_b2, ms_if0]
theorem q_covers {M : ce_M} {σ : Nat → Int32} {ps : List (Nat → Int32)} {t n en : Nat} (hS : q_S M σ ps) (hI : ms_IN σ t n en) {a : Nat} (ha : a < n) : f0_L_covers M 0 (nI a) = some (sp_cv σ a) := by
  have hW0 := hS.1
  have hI0 := hI
  obtain ⟨R0, R1, R2, R3, R4, R5, R6, R7, R8⟩ := hS.1
  obtain ⟨I0, I1, I1', I2, I2', I3, I4, I5, I6, I7, I8, I9, I10⟩ := hI
  have hn : ce_rd M (0 + 1) 5 = nI n := R1.trans I1
  have ha8 : a < 8 := by omega
  unfold f0_L_covers f_X7_covered
  rw [cs_sub_y hn I1' ha, ms_b1, cs_ni1, ms_b1, ms_if0, ms_gi (show a < 8 by omega) (show 8 < 2 ^ 31 by omega), nI_clamp (show a < 2 ^ 31 by omega), ms_nm, show f_X4_coverage (0 + 1 + 2 + (10 + 7 * a)) M = _ from cs_cover (R5 a ha8) (I7 a ha8)]
  rw [ms_b1, ms_b2, ms_if0]
theorem q_busiest {M : ce_M} {σ : Nat → Int32} {ps : List (Nat → Int32)} {t n en : Nat} (hS : q_S M σ ps) (hI : ms_IN σ t n en) : f_X7_busiest 0 M = some (sp_bz (fun l => sp_sm (sp_lfw σ l) n) 16).1 := by
  unfold f_X7_busiest
  rw [show f_X6_busiestLeaf (0 + 1) M = _ from cs_busiest hS.1 hI]
  rfl
theorem q_empty {M : ce_M} {σ : Nat → Int32} {ps : List (Nat → Int32)} {t n en : Nat} (hS : q_S M σ ps) (hI : ms_IN σ t n en) {a : Nat} (ha : a < n) : ∃ M', f0_L_empty M 0 (nI a) = some (M', sp_em σ n a 200 0) ∧ q_S M' σ ps := by
  have hn : ce_rd M (0 + 1) 5 = nI n := hS.1.2.1.trans hI.2.1
  have hn8 : n ≤ 8 := hI.2.2.1
  obtain ⟨M5, e5, w5, f5⟩ := cs_copy (k := 69) hS.1 hI (by omega)
  obtain ⟨M1, e1, f1⟩ := cs_em hI ha 200 0 M5 (by omega) w5 ce_FU (by rw [ms_FU]; omega)
  have hf : ∀ q, q < 69 ∨ 137 ≤ q → ce_rd M1 q = ce_rd M q := fun q hq => (f1.2 q (by omega)).trans (f5.2 q (by omega))
  refine ⟨M1, ?_, q_S_fr hS (fun q _ hq => hf q hq)⟩
  unfold f0_L_empty f_X7_emptyIn
  rw [cs_sub_y hn hn8 ha, ms_b1, cs_ni1, ms_b1, ms_if0, show f_X6_copyFrom (0 + 69) M (0 + 1) = some M5 from e5, ms_b1]
  unfold f_X6_passUntilEmpty
  rw [ms_gi (show a < 8 by omega) (show 8 < 2 ^ 31 by omega), nI_clamp (show a < 2 ^ 31 by omega), ms_nm, ms_nm]
  rw [show ce_lp2 (f_X6_passUntilEmpty_L12 (0 + 69 + 2 + (10 + 7 * a)) (0 + 69) (fun (M8 : ce_M) => if (ce_rd M8 (0 + 69 + 2 + (10 + 7 * a) + 5) 1) = 0 then some (M8, 200) else some (M8, (-1)))) ce_FU M5 0 = _ from e1, ms_b2, ms_b3, if_pos rfl]
