/-! what is refused changes nothing -/
theorem q_bad {k m : Nat} (h : m ≤ k) (hk : k < 2 ^ 31) : ms_bad (nI k) m := Or.inr ⟨k, hk, h, rfl⟩
theorem q_badm (m : Nat) : ms_bad (-1) m := Or.inl (by decide)
theorem q_f0whole {M : ce_M} {x v : Int32} (h : f0_L_whole M 0 x = some v) : f_L_whole M 0 x = some v := by
  unfold f0_L_whole at h
  unfold f_L_whole
  obtain ⟨x1, t2, e, h⟩ := ce_b2_e h
  rw [e, ms_b2]
  by_cases c : t2 = 0
  · rw [if_pos c] at h ⊢; exact h
  · rw [if_neg c] at h; cases h
theorem q_refused {M : ce_M} {σ : Nat → Int32} {ps : List (Nat → Int32)} {t n en : Nat} (hS : q_S M σ ps) (hI : ms_IN σ t n en) : f_L_refused M 0 = some (M, 1) := by
  have hI0 := hI
  have hW0 := hS.1
  obtain ⟨I0, I1, I1', I2, I2', I3, I4, I5, I6, I7, I8, I9, I10⟩ := hI
  obtain ⟨R0, R1, R2, R3, R4, R5, R6, R7, R8⟩ := hS.1
  have hn : ce_rd M 1 5 = nI n := R1.trans I1
  have hn' : ce_rd M (0 + 1) 5 = nI n := hn
  have b8 : ms_bad 8 n := q_bad (k := 8) (by omega) (by omega)
  have bm : ∀ m, ms_bad (-1) m := q_badm
  have s8 : f_X6_isSubscriber 1 M 8 = some 0 := cs_sub_n hn b8
  have sm : f_X6_isSubscriber 1 M (-1) = some 0 := cs_sub_n hn (bm n)
  have lz16 : f_X7_isBelow M 0 16 = some 1 := cs_below_y (j := 0) (n := 16) M (by omega) (by omega)
  have lz3 : f_X7_isBelow M 0 3 = some 1 := cs_below_y (j := 0) (n := 3) M (by omega) (by omega)
  have lm16 : f_X7_isBelow M (-1) 16 = some 0 := cs_below_n (n := 16) M (bm 16)
  have l33 : f_X7_isBelow M 3 3 = some 0 := cs_below_n (x := nI 3) (n := 3) M (q_bad (by omega) (by omega))
  have e1 : f_L_joins M 0 0 0 16 = some (M, -900000003) := by
    have h : f_X6_against 1 M 0 0 0 16 = some 1 := by
      rw [cs_a0]
      unfold f_X6_againstJoining
      rw [show f_X7_isBelow M 16 16 = some 0 from cs_below_n (x := nI 16) (n := 16) M (q_bad (by omega) (by omega))]
      rfl
    unfold f_L_joins f_X7_subscribe
    rw [cs_act_no h (by decide)]
    rfl
  have e2 : f_L_joins M 0 3 0 0 = some (M, -900000001) := by
    have h : f_X6_against 1 M 0 3 0 0 = some 2 := by
      rw [cs_a0]
      unfold f_X6_againstJoining
      rw [lz16, ms_b1, if_neg (by decide), l33]
      rfl
    unfold f_L_joins f_X7_subscribe
    rw [cs_act_no h (by decide)]
    rfl
  have e3 : f_L_goes M 0 8 0 = some (M, -900000003) := by
    have h : f_X6_against 1 M 1 8 0 0 = some 1 := by
      rw [cs_a1]
      unfold f_X6_againstMoving
      rw [s8]
      rfl
    unfold f_L_goes f_X7_move
    rw [cs_act_no h (by decide)]
    rfl
  have e4 : f_L_goes M 0 0 (-1) = some (M, -900000003) := by
    have h : f_X6_against 1 M 1 0 (-1) 0 = some 1 := by
      rw [cs_a1]
      unfold f_X6_againstMoving
      by_cases c : n = 0
      · rw [show f_X6_isSubscriber 1 M 0 = some 0 from cs_sub_n hn (q_bad (k := 0) (by omega) (by omega))]
        rfl
      · rw [show f_X6_isSubscriber 1 M 0 = some 1 from cs_sub_y (j := 0) hn I1' (by omega), ms_b1, if_neg (by decide), lm16]
        rfl
    unfold f_L_goes f_X7_move
    rw [cs_act_no h (by decide)]
    rfl
  have e5 : f_L_quits M 0 (-1) = some (M, -900000003) := by
    have h : f_X6_against 1 M 2 (-1) 0 0 = some 1 := by
      rw [cs_a2]
      unfold f_X6_againstLeaving
      rw [sm]
      rfl
    unfold f_L_quits f_X7_leave
    rw [cs_act_no h (by decide)]
    rfl
  have e6 : f_L_levels M 0 8 0 = some (M, -900000003) := by
    have h : f_X6_against 1 M 7 8 0 0 = some 1 := by
      rw [cs_a7]
      unfold f_X6_againstRelevelling
      rw [s8]
      rfl
    unfold f_L_levels f_X7_setLevel
    rw [cs_act_no h (by decide)]
    rfl
  have e7 : f_L_sets M 0 1 0 = some (M, -900000001) := by
    have h : f_X6_against 1 M 5 1 0 0 = some 2 := by
      rw [cs_a5]
      exact (cs_setting_v (w := 1) (j := 1) (M := M) (y := 0) (by omega)).trans (if_pos (by decide))
    unfold f_L_sets f_X7_set
    rw [cs_act_no h (by decide)]
    rfl
  have e8 : f_L_sends M 0 (-1) 0 0 = some (M, -900000003) := by
    have h : f_X6_against 1 M 4 (-1) 0 0 = some 1 := by
      rw [cs_a4]
      unfold f_X6_againstPublishing
      rw [lm16]
      rfl
    unfold f_L_sends f_X7_publish
    rw [cs_act_no h (by decide)]
    rfl
  have e9 : f_L_sends M 0 0 0 (-5) = some (M, -900000001) := by
    have h : f_X6_against 1 M 4 0 0 (-5) = some 2 := by
      rw [cs_a4]
      unfold f_X6_againstPublishing
      rw [lz16, ms_b1, if_neg (by decide), lz3, ms_b1, if_neg (by decide), if_neg (by decide)]
    unfold f_L_sends f_X7_publish
    rw [cs_act_no h (by decide)]
    rfl
  have e10 : f_L_sends M 0 0 0 21 = some (M, -900000002) := by
    refine q_pub_no (l := 0) (v := 0) (d := 21) hS hI0 (by omega) (by omega) (by omega) (Or.inr ?_)
    obtain ⟨s, s1, s2⟩ := I6
    unfold sp_tl
    rw [show σ (3 + 3) = nI s from s2, if_pos (nI_lt (by omega) (by omega))]
    decide
  have e11 : f_L_passes M 0 51 = some (M, -900000001) := by
    have h : f_X6_against 1 M 6 51 0 0 = some 2 := by
      rw [cs_a6]
      unfold f_X6_againstPassing
      rw [if_neg (by decide), if_neg (by decide)]
    unfold f_L_passes f_X7_pass
    rw [cs_act_no h (by decide)]
    rfl
  have s8' : f_X6_isSubscriber (0 + 1) M 8 = some 0 := s8
  have sm' : f_X6_isSubscriber (0 + 1) M (-1) = some 0 := sm
  have e12 : f_L_one M 0 8 0 = some (-900000003) := by
    unfold f_L_one f_X7_subscriber
    rw [s8']; rfl
  have e13 : f_L_stay M 0 8 0 0 = some (-900000003) := by
    unfold f_L_stay f_X7_stay
    rw [s8']; rfl
  have e14 : f_L_box M 0 8 0 = some (-900000003) := by
    unfold f_L_box f_X7_waiting
    rw [s8']; rfl
  have e15 : f_L_event M 0 60 0 = some (-900000003) := by
    unfold f_L_event f_X7_event
    rw [show ce_rd M (0 + 1 + 3) 6 = nI en from R2.trans I2, show f_X7_isBelow M 60 (nI en) = some 0 from cs_below_n (x := nI 60) M (q_bad (by omega) (by omega))]; rfl
  have e16 : f_L_leaf M 0 0 (-1) = some (-900000001) := by
    unfold f_L_leaf f_X7_leaf
    rw [lz16, ms_b1, cs_ni1, ms_b1, ms_if0, show f_X7_isBelow M (-1) 4 = some 0 from cs_below_n (n := 4) M (bm 4)]; rfl
  have e17 : f_L_whole M 0 (-1) = some (-900000001) := by
    unfold f_L_whole f_X7_whole
    rw [show f_X7_isBelow M (-1) 14 = some 0 from cs_below_n (n := 14) M (bm 14)]; rfl
  have e18 : f_L_would M 0 0 3 0 = some (-900000001) := by
    unfold f_L_would f_X7_wouldReach
    rw [lz16, ms_b1, cs_ni1, ms_b1, ms_if0, l33]; rfl
  have e19 : f_L_why M 0 8 0 0 = some (-900000003) := by
    unfold f_L_why f_X7_reason
    rw [s8']; rfl
  have e20 : f_L_served M 0 8 = some (-900000003) := by
    unfold f_L_served f_X7_servedIn
    rw [s8']; rfl
  have e21 : f_L_empty M 0 8 = some (M, -900000003) := by
    unfold f_L_empty f_X7_emptyIn
    rw [s8']; rfl
  have e22 : f_L_covers M 0 (-1) = some (-900000003) := by
    unfold f_L_covers f_X7_covered
    rw [sm']; rfl
  have e23 : f_L_types M 0 (-1) = some (M, -900000001) := by
    unfold f_L_types f_X7_type
    rw [show f_X7_isBelow M (-1) 128 = some 0 from cs_below_n (n := 128) M (bm 128)]; rfl
  have w0 : f_L_whole M 0 0 = some (nI n) := q_f0whole ((q_whole (j := 0) hS hI0 (by omega)).trans (congrArg some I1))
  have w2 : f_L_whole M 0 2 = some (nI en) := q_f0whole ((q_whole (j := 2) hS hI0 (by omega)).trans (congrArg some I2))
  have hs := q_sum_v hS hI0
  unfold f_L_refused
  rw [hs, ms_b1, e1, ms_b2, ms_nm, ms_nm, if_pos rfl, e2, ms_b2, if_pos rfl, e3, ms_b2, if_pos rfl, e4, ms_b2, if_pos rfl, e5, ms_b2, if_pos rfl, e6, ms_b2, if_pos rfl, e7, ms_b2, if_pos rfl, e8, ms_b2, if_pos rfl, e9, ms_b2, if_pos rfl, e10, ms_b2, if_pos rfl, e11, ms_b2, if_pos rfl, e12, ms_b1, if_pos rfl, e13, ms_b1, if_pos rfl, e14, ms_b1, if_pos rfl, e15, ms_b1, if_pos rfl, e16, ms_b1, if_pos rfl, e17, ms_b1, if_pos rfl, e18, ms_b1, if_pos rfl, e19, ms_b1, if_pos rfl, e20, ms_b1, if_pos rfl, e21, ms_b2, if_pos rfl, e22, ms_b1, if_pos rfl, e23, ms_b2, if_pos rfl]
  dsimp only
  rw [ms_nm, ms_nm, if_neg (by decide), w0, ms_b1, ms_nm]
  have hq : ∀ {α : Type} (A B : α), (if lg_cmp (q_sum σ n en) (q_sum σ n en) = 0 then A else B) = A := fun A B => if_pos (q_cmp _)
  by_cases c : n < 8
  · rw [if_pos (show nI n < 8 from nI_lt (b := 8) c (by omega))]
    dsimp only
    rw [w2, ms_b1]
    by_cases c2 : en < 60
    · rw [if_pos (show nI en < 60 from nI_lt (b := 60) c2 (by omega))]
      rw [if_neg (by decide), hs, ms_b1, hq]
    · rw [if_neg (show ¬ nI en < 60 from nI_nlt (b := 60) (by omega) (by omega)), show f_L_sends M 0 0 0 0 = some (M, -900000002) from q_pub_no (l := 0) (v := 0) (d := 0) hS hI0 (by omega) (by omega) (by omega) (Or.inl (by omega)), ms_b2, if_pos rfl]
      rw [if_neg (by decide), hs, ms_b1, hq]
  · have e8 : n = 8 := by omega
    subst e8
    rw [if_neg (by decide), show f_L_joins M 0 0 0 0 = some (M, -900000002) from q_join_no (so := 0) (le := 0) (po := 0) hS hI0 (by omega) (by omega) (by omega), ms_b2, if_pos rfl]
    dsimp only
    rw [w2, ms_b1]
    by_cases c2 : en < 60
    · rw [if_pos (show nI en < 60 from nI_lt (b := 60) c2 (by omega))]
      rw [if_neg (by decide), hs, ms_b1, hq]
    · rw [if_neg (show ¬ nI en < 60 from nI_nlt (b := 60) (by omega) (by omega)), show f_L_sends M 0 0 0 0 = some (M, -900000002) from q_pub_no (l := 0) (v := 0) (d := 0) hS hI0 (by omega) (by omega) (by omega) (Or.inl (by omega)), ms_b2, if_pos rfl]
      rw [if_neg (by decide), hs, ms_b1, hq]
