set_option maxRecDepth 100000 in
set_option maxHeartbeats 4000000 in
theorem c0_X7_needIndex (l : Launch) (hfl : l.stackTraces = false) (X : ce_X) (G : ce_G) (b : Nat) {a1 : Int32} {M : ce_M}   (h : f_X7_needIndex M a1 = some 0) : ce_CtX l yX7_needIndex cX7_needIndex 1 none 6 81 0 0 X G b [.int a1] M none M 0 := by
  refine ce_ofWX (own := RX7) (by decide) rfl (Nat.le_of_ble_eq_true rfl) (fun p e s m below meth c ls hx hb hr hlocks hml hown hB hF hA hl hS htb => ?_)
  have hK := hF.1
  have hl : lv_has ls 1 [(0, .int a1)] := hl
  unfold f_X7_needIndex at h
  refine lv_iload_n hx hb dX7_needIndex_0 rfl (lv_at hl 0 rfl) ?_
  refine lv_if_ne (tgt := 12) hx hb dX7_needIndex_1 (by decide) (fun c1 => ?_) (fun c1 => ?_)
  · have h := ce_ie c1 h
    cases h
    exact ce_vretX hx hb hr hlocks hA hS (Nat.le_of_ble_eq_true rfl) (Nat.le_of_ble_eq_true rfl) dX7_needIndex_12
  · have h := ce_it c1 h
    cases h
set_option maxRecDepth 100000 in
set_option maxHeartbeats 4000000 in
theorem c0_X7_needArgument (l : Launch) (hfl : l.stackTraces = false) (X : ce_X) (G : ce_G) (b : Nat) {a1 : Int32} {M : ce_M}   (h : f_X7_needArgument M a1 = some 0) : ce_CtX l yX7_needArgument cX7_needArgument 1 none 6 81 0 0 X G b [.int a1] M none M 0 := by
  refine ce_ofWX (own := RX7) (by decide) rfl (Nat.le_of_ble_eq_true rfl) (fun p e s m below meth c ls hx hb hr hlocks hml hown hB hF hA hl hS htb => ?_)
  have hK := hF.1
  have hl : lv_has ls 1 [(0, .int a1)] := hl
  unfold f_X7_needArgument at h
  refine lv_iload_n hx hb dX7_needArgument_0 rfl (lv_at hl 0 rfl) ?_
  refine lv_if_ne (tgt := 12) hx hb dX7_needArgument_1 (by decide) (fun c1 => ?_) (fun c1 => ?_)
  · have h := ce_ie c1 h
    cases h
    exact ce_vretX hx hb hr hlocks hA hS (Nat.le_of_ble_eq_true rfl) (Nat.le_of_ble_eq_true rfl) dX7_needArgument_12
  · have h := ce_it c1 h
    cases h
set_option maxRecDepth 100000 in
set_option maxHeartbeats 4000000 in
theorem c0_X7_needState (l : Launch) (hfl : l.stackTraces = false) (X : ce_X) (G : ce_G) (b : Nat) {a1 : Int32} {M : ce_M}   (h : f_X7_needState M a1 = some 0) : ce_CtX l yX7_needState cX7_needState 1 none 6 81 0 0 X G b [.int a1] M none M 0 := by
  refine ce_ofWX (own := RX7) (by decide) rfl (Nat.le_of_ble_eq_true rfl) (fun p e s m below meth c ls hx hb hr hlocks hml hown hB hF hA hl hS htb => ?_)
  have hK := hF.1
  have hl : lv_has ls 1 [(0, .int a1)] := hl
  unfold f_X7_needState at h
  refine lv_iload_n hx hb dX7_needState_0 rfl (lv_at hl 0 rfl) ?_
  refine lv_if_ne (tgt := 12) hx hb dX7_needState_1 (by decide) (fun c1 => ?_) (fun c1 => ?_)
  · have h := ce_ie c1 h
    cases h
    exact ce_vretX hx hb hr hlocks hA hS (Nat.le_of_ble_eq_true rfl) (Nat.le_of_ble_eq_true rfl) dX7_needState_12
  · have h := ce_it c1 h
    cases h
set_option maxRecDepth 100000 in
set_option maxHeartbeats 4000000 in
theorem c0_X7_act (l : Launch) (hfl : l.stackTraces = false) (X : ce_X) (G : ce_G) (b : Nat) {k : Nat} {a1 : Int32} {a2 : Int32} {a3 : Int32} {a4 : Int32} {M : ce_M} (hk : ce_kd k = 7) {M' : ce_M} {r : Int32} (h : f_X7_act k M a1 a2 a3 a4 = some (M', r, 0)) : ce_CtX l yX7_act cX7_act 6 (some .int) 7 134 0 0 X G b [.ref (b + k), .int a1, .int a2, .int a3, .int a4] M (some (.int r)) M' 0 := by
  refine ce_ofWX (own := RX7) (by decide) rfl (Nat.le_of_ble_eq_true rfl) (fun p e s m below meth c ls hx hb hr hlocks hml hown hB hF hA hl hS htb => ?_)
  have hK := hF.1
  have hl : lv_has ls 6 [(0, .ref (b + k)), (1, .int a1), (2, .int a2), (3, .int a3), (4, .int a4)] := hl
  unfold f_X7_act at h
  refine lv_aload_n hx hb dX7_act_0 rfl (lv_at hl 0 rfl) ?_
  refine ce_g_7_0 hx hb hB hown hK hA hk ce_w223 dX7_act_1 ?_
  refine lv_iload_n hx hb dX7_act_4 rfl (lv_at hl 1 rfl) ?_
  refine lv_iload_n hx hb dX7_act_5 rfl (lv_at hl 2 rfl) ?_
  refine lv_iload_n hx hb dX7_act_6 rfl (lv_at hl 3 rfl) ?_
  refine lv_iload hx hb dX7_act_7 (lv_at hl 4 rfl) ?_
  obtain ⟨x1, g2, h⟩ := ce_b1_e h
  refine ce_callVi (As := [.int a1, .int a2, .int a3, .int a4]) (rest := []) hx hb hml hown hB (c_X6_against l X G b (ce_kf_7_0 hk) g2) ce_v_X6_against ce_w258 ⟨Nat.le_of_ble_eq_true rfl, Nat.le_of_ble_eq_true rfl⟩ hF hA hS (ce_rc_6 hK hA (ce_kf_7_0 hk)) hl rfl rfl (Nat.le_of_ble_eq_true rfl) dX7_act_9 ⟨Nat.le_of_ble_eq_true rfl, Nat.le_of_ble_eq_true rfl⟩ (fun H locs hA hS => ?_)
  refine lv_istore (lv' := [(5, .int x1), (0, .ref (b + k)), (1, .int a1), (2, .int a2), (3, .int a3), (4, .int a4)]) hx hb dX7_act_12 hl (by decide) rfl (fun ls hl => ?_)
  refine lv_iload hx hb dX7_act_14 (lv_at hl 0 rfl) ?_
  refine lv_iconst (v := 1) hx hb dX7_act_16 (by decide) ?_
  obtain ⟨u6, e29, h⟩ := ce_nm_e h
  have Ju6 : ∀ (x3 : Int32) (x4 : Int32) (x5 : Int32), u6 x3 x4 x5 = some (M', r, 0) → ce_Wg p l e (ce_R 7 134 0 0) s m (([.ref (b + k), .int a1, .int a2, .int a3, .int a4] : List Value).toArray) below meth c 0 0 (vx_MQ below (ce_QT X b M' (some (.int r)) 0) (ce_XT X b M' 0) ([.ref (b + k), .int a1, .int a2, .int a3, .int a4] : List Value).toArray s 0 0 (ce_Ab b)) X b M 6 [(0, .ref (b + k)), (1, .int a1), (2, .int a2), (3, .int x3), (4, .int x4), (5, .int x1)] 25 [.int x5] := by
    intro x3 x4 x5 h  H locs ls hA hS hl
    subst e29
    obtain ⟨t7, g8, h⟩ := ce_b1_e h
    by_cases c9 : t7 = 0
    · have h := ce_it c9 h
      rw [c9] at g8
      refine ce_callSXv (tc := 0) (As := [.int x5]) (rest := []) hx hb hml hown hB (c0_X7_needIndex l hfl X G b  g8) ce_s_X7_needIndex ce_w309 ⟨Nat.le_of_ble_eq_true rfl, Nat.le_of_ble_eq_true rfl⟩ hF hA hS hl rfl rfl (Nat.le_of_ble_eq_true rfl) dX7_act_25 ⟨(Nat.le_of_ble_eq_true rfl), (Nat.le_of_ble_eq_true rfl)⟩ (fun _ H locs hA hS => ?_) (fun lt => absurd rfl lt)
      refine lv_iload hx hb dX7_act_28 (lv_at hl 5 rfl) ?_
      refine lv_iconst (v := 2) hx hb dX7_act_30 (by decide) ?_
      obtain ⟨u11, e27, h⟩ := ce_nm_e h
      have Ju11 : ∀ (x10 : Int32), u11 x10 = some (M', r, 0) → ce_Wg p l e (ce_R 7 134 0 0) s m (([.ref (b + k), .int a1, .int a2, .int a3, .int a4] : List Value).toArray) below meth c 0 0 (vx_MQ below (ce_QT X b M' (some (.int r)) 0) (ce_XT X b M' 0) ([.ref (b + k), .int a1, .int a2, .int a3, .int a4] : List Value).toArray s 0 0 (ce_Ab b)) X b M 6 [(0, .ref (b + k)), (1, .int a1), (2, .int a2), (3, .int x3), (4, .int x4), (5, .int x1)] 39 [.int x10] := by
        intro x10 h  H locs ls hA hS hl
        subst e27
        obtain ⟨t12, g13, h⟩ := ce_b1_e h
        by_cases c14 : t12 = 0
        · have h := ce_it c14 h
          rw [c14] at g13
          refine ce_callSXv (tc := 0) (As := [.int x10]) (rest := []) hx hb hml hown hB (c0_X7_needArgument l hfl X G b  g13) ce_s_X7_needArgument ce_w375 ⟨Nat.le_of_ble_eq_true rfl, Nat.le_of_ble_eq_true rfl⟩ hF hA hS hl rfl rfl (Nat.le_of_ble_eq_true rfl) dX7_act_39 ⟨(Nat.le_of_ble_eq_true rfl), (Nat.le_of_ble_eq_true rfl)⟩ (fun _ H locs hA hS => ?_) (fun lt => absurd rfl lt)
          refine lv_iload hx hb dX7_act_42 (lv_at hl 5 rfl) ?_
          refine lv_iconst (v := 3) hx hb dX7_act_44 (by decide) ?_
          obtain ⟨u16, e25, h⟩ := ce_nm_e h
          have Ju16 : ∀ (x15 : Int32), u16 x15 = some (M', r, 0) → ce_Wg p l e (ce_R 7 134 0 0) s m (([.ref (b + k), .int a1, .int a2, .int a3, .int a4] : List Value).toArray) below meth c 0 0 (vx_MQ below (ce_QT X b M' (some (.int r)) 0) (ce_XT X b M' 0) ([.ref (b + k), .int a1, .int a2, .int a3, .int a4] : List Value).toArray s 0 0 (ce_Ab b)) X b M 6 [(0, .ref (b + k)), (1, .int a1), (2, .int a2), (3, .int x3), (4, .int x4)] 53 [.int x15] := by
            intro x15 h  H locs ls hA hS hl
            subst e25
            obtain ⟨t17, g18, h⟩ := ce_b1_e h
            by_cases c19 : t17 = 0
            · have h := ce_it c19 h
              rw [c19] at g18
              refine ce_callSXv (tc := 0) (As := [.int x15]) (rest := []) hx hb hml hown hB (c0_X7_needState l hfl X G b  g18) ce_s_X7_needState ce_w393 ⟨Nat.le_of_ble_eq_true rfl, Nat.le_of_ble_eq_true rfl⟩ hF hA hS hl rfl rfl (Nat.le_of_ble_eq_true rfl) dX7_act_53 ⟨(Nat.le_of_ble_eq_true rfl), (Nat.le_of_ble_eq_true rfl)⟩ (fun _ H locs hA hS => ?_) (fun lt => absurd rfl lt)
              refine lv_aload_n hx hb dX7_act_56 rfl (lv_at hl 0 rfl) ?_
              refine ce_g_7_2 hx hb hB hown hK hA hk ce_w225 dX7_act_57 ?_
              refine lv_aload_n hx hb dX7_act_60 rfl (lv_at hl 0 rfl) ?_
              refine ce_g_7_0 hx hb hB hown hK hA hk ce_w223 dX7_act_61 ?_
              obtain ⟨M20, g21, h⟩ := ce_b1_e h
              refine ce_callVv (As := [.ref (b + (k + 1))]) (rest := []) hx hb hml hown hB (c_X5_keep l X G b (ce_kf_7_2 hk) (ce_kf_7_0 hk) g21) ce_v_X5_keep ce_w411 ⟨Nat.le_of_ble_eq_true rfl, Nat.le_of_ble_eq_true rfl⟩ hF hA hS (ce_rc_5 hK hA (ce_kf_7_2 hk)) hl rfl rfl (Nat.le_of_ble_eq_true rfl) dX7_act_64 ⟨Nat.le_of_ble_eq_true rfl, Nat.le_of_ble_eq_true rfl⟩ (fun H locs hA hS => ?_)
              refine lv_aload_n hx hb dX7_act_67 rfl (lv_at hl 0 rfl) ?_
              refine ce_g_7_0 hx hb hB hown hK hA hk ce_w223 dX7_act_68 ?_
              refine lv_iload_n hx hb dX7_act_71 rfl (lv_at hl 1 rfl) ?_
              refine lv_iload_n hx hb dX7_act_72 rfl (lv_at hl 2 rfl) ?_
              refine lv_iload_n hx hb dX7_act_73 rfl (lv_at hl 3 rfl) ?_
              refine lv_iload hx hb dX7_act_74 (lv_at hl 4 rfl) ?_
              obtain ⟨M22, x23, g24, h⟩ := ce_b2_e h
              refine ce_callVi (As := [.int a1, .int a2, .int x3, .int x4]) (rest := []) hx hb hml hown hB (c_X6_perform l X G b (ce_kf_7_0 hk) g24) ce_v_X6_perform ce_w444 ⟨Nat.le_of_ble_eq_true rfl, Nat.le_of_ble_eq_true rfl⟩ hF hA hS (ce_rc_6 hK hA (ce_kf_7_0 hk)) hl rfl rfl (Nat.le_of_ble_eq_true rfl) dX7_act_76 ⟨Nat.le_of_ble_eq_true rfl, Nat.le_of_ble_eq_true rfl⟩ (fun H locs hA hS => ?_)
              cases h
              exact ce_iretX hx hb hr hlocks hA hS (Nat.le_of_ble_eq_true rfl) (Nat.le_of_ble_eq_true rfl) dX7_act_79
            · have h := ce_ie c19 h
              cases h
              exact absurd rfl c19
          refine lv_icmp_eq (tgt := 52) hx hb dX7_act_45 (by decide) (fun c26 => ?_) (fun c26 => ?_)
          · have h := ce_it c26 h
            refine lv_iconst (v := 0) hx hb dX7_act_52 (by decide) ?_
            exact Ju16 0 h  _ _ _ hA hS (lv_sub hl [0, 1, 2, 3, 4] rfl)
          · have h := ce_ie c26 h
            refine lv_iconst (v := 1) hx hb dX7_act_48 (by decide) ?_
            refine lv_goto (tgt := 53) hx hb dX7_act_49 (by decide) ?_
            exact Ju16 1 h  _ _ _ hA hS (lv_sub hl [0, 1, 2, 3, 4] rfl)
        · have h := ce_ie c14 h
          cases h
          exact absurd rfl c14
      refine lv_icmp_eq (tgt := 38) hx hb dX7_act_31 (by decide) (fun c28 => ?_) (fun c28 => ?_)
      · have h := ce_it c28 h
        refine lv_iconst (v := 0) hx hb dX7_act_38 (by decide) ?_
        exact Ju11 0 h  _ _ _ hA hS (lv_sub hl [0, 1, 2, 3, 4, 5] rfl)
      · have h := ce_ie c28 h
        refine lv_iconst (v := 1) hx hb dX7_act_34 (by decide) ?_
        refine lv_goto (tgt := 39) hx hb dX7_act_35 (by decide) ?_
        exact Ju11 1 h  _ _ _ hA hS (lv_sub hl [0, 1, 2, 3, 4, 5] rfl)
    · have h := ce_ie c9 h
      cases h
      exact absurd rfl c9
  refine lv_icmp_eq (tgt := 24) hx hb dX7_act_17 (by decide) (fun c30 => ?_) (fun c30 => ?_)
  · have h := ce_it c30 h
    refine lv_iconst (v := 0) hx hb dX7_act_24 (by decide) ?_
    exact Ju6 a3 a4 0 h  _ _ _ hA hS (lv_sub hl [1, 2, 3, 4, 5, 0] rfl)
  · have h := ce_ie c30 h
    refine lv_iconst (v := 1) hx hb dX7_act_20 (by decide) ?_
    refine lv_goto (tgt := 25) hx hb dX7_act_21 (by decide) ?_
    exact Ju6 a3 a4 1 h  _ _ _ hA hS (lv_sub hl [1, 2, 3, 4, 5, 0] rfl)
set_option maxRecDepth 100000 in
set_option maxHeartbeats 4000000 in
theorem c0_X7_subscribe (l : Launch) (hfl : l.stackTraces = false) (X : ce_X) (G : ce_G) (b : Nat) {k : Nat} {a1 : Int32} {a2 : Int32} {a3 : Int32} {M : ce_M} (hk : ce_kd k = 7) {M' : ce_M} {r : Int32} (h : f_X7_subscribe k M a1 a2 a3 = some (M', r, 0)) : ce_CtX l yX7_subscribe cX7_subscribe 4 (some .int) 8 159 0 0 X G b [.ref (b + k), .int a1, .int a2, .int a3] M (some (.int r)) M' 0 := by
  refine ce_ofWX (own := RX7) (by decide) rfl (Nat.le_of_ble_eq_true rfl) (fun p e s m below meth c ls hx hb hr hlocks hml hown hB hF hA hl hS htb => ?_)
  have hK := hF.1
  have hl : lv_has ls 4 [(0, .ref (b + k)), (1, .int a1), (2, .int a2), (3, .int a3)] := hl
  unfold f_X7_subscribe at h
  refine lv_aload_n hx hb dX7_subscribe_0 rfl (lv_at hl 0 rfl) ?_
  refine lv_iconst (v := 0) hx hb dX7_subscribe_1 (by decide) ?_
  refine lv_iload_n hx hb dX7_subscribe_2 rfl (lv_at hl 1 rfl) ?_
  refine lv_iload_n hx hb dX7_subscribe_3 rfl (lv_at hl 2 rfl) ?_
  refine lv_iload_n hx hb dX7_subscribe_4 rfl (lv_at hl 3 rfl) ?_
  obtain ⟨M1, x2, t3, g4, h⟩ := ce_b3_e h
  by_cases c5 : t3 = 0
  · have h := ce_it c5 h
    rw [c5] at g4
    refine ce_callVXi (tc := 0) (As := [.int 0, .int a1, .int a2, .int a3]) (rest := []) hx hb hml hown hB (c0_X7_act l hfl X G b hk g4) ce_v_X7_act ce_w254 ⟨Nat.le_of_ble_eq_true rfl, Nat.le_of_ble_eq_true rfl⟩ hF hA hS (ce_rc_7 hK hA hk) hl rfl rfl (Nat.le_of_ble_eq_true rfl) dX7_subscribe_5 ⟨(Nat.le_of_ble_eq_true rfl), (Nat.le_of_ble_eq_true rfl)⟩ (fun _ H locs hA hS => ?_) (fun lt => absurd rfl lt)
    cases h
    exact ce_iretX hx hb hr hlocks hA hS (Nat.le_of_ble_eq_true rfl) (Nat.le_of_ble_eq_true rfl) dX7_subscribe_8
  · have h := ce_ie c5 h
    cases h
    exact absurd rfl c5
set_option maxRecDepth 100000 in
set_option maxHeartbeats 4000000 in
theorem c0_X7_move (l : Launch) (hfl : l.stackTraces = false) (X : ce_X) (G : ce_G) (b : Nat) {k : Nat} {a1 : Int32} {a2 : Int32} {M : ce_M} (hk : ce_kd k = 7) {M' : ce_M} {r : Int32} (h : f_X7_move k M a1 a2 = some (M', r, 0)) : ce_CtX l yX7_move cX7_move 3 (some .int) 8 159 0 0 X G b [.ref (b + k), .int a1, .int a2] M (some (.int r)) M' 0 := by
  refine ce_ofWX (own := RX7) (by decide) rfl (Nat.le_of_ble_eq_true rfl) (fun p e s m below meth c ls hx hb hr hlocks hml hown hB hF hA hl hS htb => ?_)
  have hK := hF.1
  have hl : lv_has ls 3 [(0, .ref (b + k)), (1, .int a1), (2, .int a2)] := hl
  unfold f_X7_move at h
  refine lv_aload_n hx hb dX7_move_0 rfl (lv_at hl 0 rfl) ?_
  refine lv_iconst (v := 1) hx hb dX7_move_1 (by decide) ?_
  refine lv_iload_n hx hb dX7_move_2 rfl (lv_at hl 1 rfl) ?_
  refine lv_iload_n hx hb dX7_move_3 rfl (lv_at hl 2 rfl) ?_
  refine lv_iconst (v := 0) hx hb dX7_move_4 (by decide) ?_
  obtain ⟨M1, x2, t3, g4, h⟩ := ce_b3_e h
  by_cases c5 : t3 = 0
  · have h := ce_it c5 h
    rw [c5] at g4
    refine ce_callVXi (tc := 0) (As := [.int 1, .int a1, .int a2, .int 0]) (rest := []) hx hb hml hown hB (c0_X7_act l hfl X G b hk g4) ce_v_X7_act ce_w254 ⟨Nat.le_of_ble_eq_true rfl, Nat.le_of_ble_eq_true rfl⟩ hF hA hS (ce_rc_7 hK hA hk) hl rfl rfl (Nat.le_of_ble_eq_true rfl) dX7_move_5 ⟨(Nat.le_of_ble_eq_true rfl), (Nat.le_of_ble_eq_true rfl)⟩ (fun _ H locs hA hS => ?_) (fun lt => absurd rfl lt)
    cases h
    exact ce_iretX hx hb hr hlocks hA hS (Nat.le_of_ble_eq_true rfl) (Nat.le_of_ble_eq_true rfl) dX7_move_8
  · have h := ce_ie c5 h
    cases h
    exact absurd rfl c5
set_option maxRecDepth 100000 in
set_option maxHeartbeats 4000000 in
theorem c0_X7_leave (l : Launch) (hfl : l.stackTraces = false) (X : ce_X) (G : ce_G) (b : Nat) {k : Nat} {a1 : Int32} {M : ce_M} (hk : ce_kd k = 7) {M' : ce_M} {r : Int32} (h : f_X7_leave k M a1 = some (M', r, 0)) : ce_CtX l yX7_leave cX7_leave 2 (some .int) 8 159 0 0 X G b [.ref (b + k), .int a1] M (some (.int r)) M' 0 := by
  refine ce_ofWX (own := RX7) (by decide) rfl (Nat.le_of_ble_eq_true rfl) (fun p e s m below meth c ls hx hb hr hlocks hml hown hB hF hA hl hS htb => ?_)
  have hK := hF.1
  have hl : lv_has ls 2 [(0, .ref (b + k)), (1, .int a1)] := hl
  unfold f_X7_leave at h
  refine lv_aload_n hx hb dX7_leave_0 rfl (lv_at hl 0 rfl) ?_
  refine lv_iconst (v := 2) hx hb dX7_leave_1 (by decide) ?_
  refine lv_iload_n hx hb dX7_leave_2 rfl (lv_at hl 1 rfl) ?_
  refine lv_iconst (v := 0) hx hb dX7_leave_3 (by decide) ?_
  refine lv_iconst (v := 0) hx hb dX7_leave_4 (by decide) ?_
  obtain ⟨M1, x2, t3, g4, h⟩ := ce_b3_e h
  by_cases c5 : t3 = 0
  · have h := ce_it c5 h
    rw [c5] at g4
    refine ce_callVXi (tc := 0) (As := [.int 2, .int a1, .int 0, .int 0]) (rest := []) hx hb hml hown hB (c0_X7_act l hfl X G b hk g4) ce_v_X7_act ce_w254 ⟨Nat.le_of_ble_eq_true rfl, Nat.le_of_ble_eq_true rfl⟩ hF hA hS (ce_rc_7 hK hA hk) hl rfl rfl (Nat.le_of_ble_eq_true rfl) dX7_leave_5 ⟨(Nat.le_of_ble_eq_true rfl), (Nat.le_of_ble_eq_true rfl)⟩ (fun _ H locs hA hS => ?_) (fun lt => absurd rfl lt)
    cases h
    exact ce_iretX hx hb hr hlocks hA hS (Nat.le_of_ble_eq_true rfl) (Nat.le_of_ble_eq_true rfl) dX7_leave_8
  · have h := ce_ie c5 h
    cases h
    exact absurd rfl c5
set_option maxRecDepth 100000 in
set_option maxHeartbeats 4000000 in
theorem c0_X7_setLevel (l : Launch) (hfl : l.stackTraces = false) (X : ce_X) (G : ce_G) (b : Nat) {k : Nat} {a1 : Int32} {a2 : Int32} {M : ce_M} (hk : ce_kd k = 7) {M' : ce_M} {r : Int32} (h : f_X7_setLevel k M a1 a2 = some (M', r, 0)) : ce_CtX l yX7_setLevel cX7_setLevel 3 (some .int) 8 159 0 0 X G b [.ref (b + k), .int a1, .int a2] M (some (.int r)) M' 0 := by
  refine ce_ofWX (own := RX7) (by decide) rfl (Nat.le_of_ble_eq_true rfl) (fun p e s m below meth c ls hx hb hr hlocks hml hown hB hF hA hl hS htb => ?_)
  have hK := hF.1
  have hl : lv_has ls 3 [(0, .ref (b + k)), (1, .int a1), (2, .int a2)] := hl
  unfold f_X7_setLevel at h
  refine lv_aload_n hx hb dX7_setLevel_0 rfl (lv_at hl 0 rfl) ?_
  refine lv_bipush (v := 7) hx hb dX7_setLevel_1 (by decide) ?_
  refine lv_iload_n hx hb dX7_setLevel_3 rfl (lv_at hl 1 rfl) ?_
  refine lv_iload_n hx hb dX7_setLevel_4 rfl (lv_at hl 2 rfl) ?_
  refine lv_iconst (v := 0) hx hb dX7_setLevel_5 (by decide) ?_
  obtain ⟨M1, x2, t3, g4, h⟩ := ce_b3_e h
  by_cases c5 : t3 = 0
  · have h := ce_it c5 h
    rw [c5] at g4
    refine ce_callVXi (tc := 0) (As := [.int 7, .int a1, .int a2, .int 0]) (rest := []) hx hb hml hown hB (c0_X7_act l hfl X G b hk g4) ce_v_X7_act ce_w254 ⟨Nat.le_of_ble_eq_true rfl, Nat.le_of_ble_eq_true rfl⟩ hF hA hS (ce_rc_7 hK hA hk) hl rfl rfl (Nat.le_of_ble_eq_true rfl) dX7_setLevel_6 ⟨(Nat.le_of_ble_eq_true rfl), (Nat.le_of_ble_eq_true rfl)⟩ (fun _ H locs hA hS => ?_) (fun lt => absurd rfl lt)
    cases h
    exact ce_iretX hx hb hr hlocks hA hS (Nat.le_of_ble_eq_true rfl) (Nat.le_of_ble_eq_true rfl) dX7_setLevel_9
  · have h := ce_ie c5 h
    cases h
    exact absurd rfl c5
set_option maxRecDepth 100000 in
set_option maxHeartbeats 4000000 in
theorem c0_X7_set (l : Launch) (hfl : l.stackTraces = false) (X : ce_X) (G : ce_G) (b : Nat) {k : Nat} {a1 : Int32} {a2 : Int32} {M : ce_M} (hk : ce_kd k = 7) {M' : ce_M} {r : Int32} (h : f_X7_set k M a1 a2 = some (M', r, 0)) : ce_CtX l yX7_set cX7_set 3 (some .int) 8 159 0 0 X G b [.ref (b + k), .int a1, .int a2] M (some (.int r)) M' 0 := by
  refine ce_ofWX (own := RX7) (by decide) rfl (Nat.le_of_ble_eq_true rfl) (fun p e s m below meth c ls hx hb hr hlocks hml hown hB hF hA hl hS htb => ?_)
  have hK := hF.1
  have hl : lv_has ls 3 [(0, .ref (b + k)), (1, .int a1), (2, .int a2)] := hl
  unfold f_X7_set at h
  refine lv_aload_n hx hb dX7_set_0 rfl (lv_at hl 0 rfl) ?_
  refine lv_iconst (v := 5) hx hb dX7_set_1 (by decide) ?_
  refine lv_iload_n hx hb dX7_set_2 rfl (lv_at hl 1 rfl) ?_
  refine lv_iload_n hx hb dX7_set_3 rfl (lv_at hl 2 rfl) ?_
  refine lv_iconst (v := 0) hx hb dX7_set_4 (by decide) ?_
  obtain ⟨M1, x2, t3, g4, h⟩ := ce_b3_e h
  by_cases c5 : t3 = 0
  · have h := ce_it c5 h
    rw [c5] at g4
    refine ce_callVXi (tc := 0) (As := [.int 5, .int a1, .int a2, .int 0]) (rest := []) hx hb hml hown hB (c0_X7_act l hfl X G b hk g4) ce_v_X7_act ce_w254 ⟨Nat.le_of_ble_eq_true rfl, Nat.le_of_ble_eq_true rfl⟩ hF hA hS (ce_rc_7 hK hA hk) hl rfl rfl (Nat.le_of_ble_eq_true rfl) dX7_set_5 ⟨(Nat.le_of_ble_eq_true rfl), (Nat.le_of_ble_eq_true rfl)⟩ (fun _ H locs hA hS => ?_) (fun lt => absurd rfl lt)
    cases h
    exact ce_iretX hx hb hr hlocks hA hS (Nat.le_of_ble_eq_true rfl) (Nat.le_of_ble_eq_true rfl) dX7_set_8
  · have h := ce_ie c5 h
    cases h
    exact absurd rfl c5
set_option maxRecDepth 100000 in
set_option maxHeartbeats 4000000 in
theorem c0_X7_publish (l : Launch) (hfl : l.stackTraces = false) (X : ce_X) (G : ce_G) (b : Nat) {k : Nat} {a1 : Int32} {a2 : Int32} {a3 : Int32} {M : ce_M} (hk : ce_kd k = 7) {M' : ce_M} {r : Int32} (h : f_X7_publish k M a1 a2 a3 = some (M', r, 0)) : ce_CtX l yX7_publish cX7_publish 4 (some .int) 8 159 0 0 X G b [.ref (b + k), .int a1, .int a2, .int a3] M (some (.int r)) M' 0 := by
  refine ce_ofWX (own := RX7) (by decide) rfl (Nat.le_of_ble_eq_true rfl) (fun p e s m below meth c ls hx hb hr hlocks hml hown hB hF hA hl hS htb => ?_)
  have hK := hF.1
  have hl : lv_has ls 4 [(0, .ref (b + k)), (1, .int a1), (2, .int a2), (3, .int a3)] := hl
  unfold f_X7_publish at h
  refine lv_aload_n hx hb dX7_publish_0 rfl (lv_at hl 0 rfl) ?_
  refine lv_iconst (v := 4) hx hb dX7_publish_1 (by decide) ?_
  refine lv_iload_n hx hb dX7_publish_2 rfl (lv_at hl 1 rfl) ?_
  refine lv_iload_n hx hb dX7_publish_3 rfl (lv_at hl 2 rfl) ?_
  refine lv_iload_n hx hb dX7_publish_4 rfl (lv_at hl 3 rfl) ?_
  obtain ⟨M1, x2, t3, g4, h⟩ := ce_b3_e h
  by_cases c5 : t3 = 0
  · have h := ce_it c5 h
    rw [c5] at g4
    refine ce_callVXi (tc := 0) (As := [.int 4, .int a1, .int a2, .int a3]) (rest := []) hx hb hml hown hB (c0_X7_act l hfl X G b hk g4) ce_v_X7_act ce_w254 ⟨Nat.le_of_ble_eq_true rfl, Nat.le_of_ble_eq_true rfl⟩ hF hA hS (ce_rc_7 hK hA hk) hl rfl rfl (Nat.le_of_ble_eq_true rfl) dX7_publish_5 ⟨(Nat.le_of_ble_eq_true rfl), (Nat.le_of_ble_eq_true rfl)⟩ (fun _ H locs hA hS => ?_) (fun lt => absurd rfl lt)
    cases h
    exact ce_iretX hx hb hr hlocks hA hS (Nat.le_of_ble_eq_true rfl) (Nat.le_of_ble_eq_true rfl) dX7_publish_8
  · have h := ce_ie c5 h
    cases h
    exact absurd rfl c5
set_option maxRecDepth 100000 in
set_option maxHeartbeats 4000000 in
theorem c0_X7_pass (l : Launch) (hfl : l.stackTraces = false) (X : ce_X) (G : ce_G) (b : Nat) {k : Nat} {a1 : Int32} {M : ce_M} (hk : ce_kd k = 7) {M' : ce_M} {r : Int32} (h : f_X7_pass k M a1 = some (M', r, 0)) : ce_CtX l yX7_pass cX7_pass 2 (some .int) 8 159 0 0 X G b [.ref (b + k), .int a1] M (some (.int r)) M' 0 := by
  refine ce_ofWX (own := RX7) (by decide) rfl (Nat.le_of_ble_eq_true rfl) (fun p e s m below meth c ls hx hb hr hlocks hml hown hB hF hA hl hS htb => ?_)
  have hK := hF.1
  have hl : lv_has ls 2 [(0, .ref (b + k)), (1, .int a1)] := hl
  unfold f_X7_pass at h
  refine lv_aload_n hx hb dX7_pass_0 rfl (lv_at hl 0 rfl) ?_
  refine lv_bipush (v := 6) hx hb dX7_pass_1 (by decide) ?_
  refine lv_iload_n hx hb dX7_pass_3 rfl (lv_at hl 1 rfl) ?_
  refine lv_iconst (v := 0) hx hb dX7_pass_4 (by decide) ?_
  refine lv_iconst (v := 0) hx hb dX7_pass_5 (by decide) ?_
  obtain ⟨M1, x2, t3, g4, h⟩ := ce_b3_e h
  by_cases c5 : t3 = 0
  · have h := ce_it c5 h
    rw [c5] at g4
    refine ce_callVXi (tc := 0) (As := [.int 6, .int a1, .int 0, .int 0]) (rest := []) hx hb hml hown hB (c0_X7_act l hfl X G b hk g4) ce_v_X7_act ce_w254 ⟨Nat.le_of_ble_eq_true rfl, Nat.le_of_ble_eq_true rfl⟩ hF hA hS (ce_rc_7 hK hA hk) hl rfl rfl (Nat.le_of_ble_eq_true rfl) dX7_pass_6 ⟨(Nat.le_of_ble_eq_true rfl), (Nat.le_of_ble_eq_true rfl)⟩ (fun _ H locs hA hS => ?_) (fun lt => absurd rfl lt)
    cases h
    exact ce_iretX hx hb hr hlocks hA hS (Nat.le_of_ble_eq_true rfl) (Nat.le_of_ble_eq_true rfl) dX7_pass_9
  · have h := ce_ie c5 h
    cases h
    exact absurd rfl c5
set_option maxRecDepth 100000 in
set_option maxHeartbeats 4000000 in
theorem c0_X7_subscriber (l : Launch) (hfl : l.stackTraces = false) (X : ce_X) (G : ce_G) (b : Nat) {k : Nat} {a1 : Int32} {a2 : Int32} {M : ce_M} (hk : ce_kd k = 7) {r : Int32} (h : f_X7_subscriber k M a1 a2 = some (r, 0)) : ce_CtX l yX7_subscriber cX7_subscriber 3 (some .int) 7 101 0 0 X G b [.ref (b + k), .int a1, .int a2] M (some (.int r)) M 0 := by
  refine ce_ofWX (own := RX7) (by decide) rfl (Nat.le_of_ble_eq_true rfl) (fun p e s m below meth c ls hx hb hr hlocks hml hown hB hF hA hl hS htb => ?_)
  have hK := hF.1
  have hl : lv_has ls 3 [(0, .ref (b + k)), (1, .int a1), (2, .int a2)] := hl
  unfold f_X7_subscriber at h
  refine lv_aload_n hx hb dX7_subscriber_0 rfl (lv_at hl 0 rfl) ?_
  refine ce_g_7_0 hx hb hB hown hK hA hk ce_w223 dX7_subscriber_1 ?_
  refine lv_iload_n hx hb dX7_subscriber_4 rfl (lv_at hl 1 rfl) ?_
  obtain ⟨x1, g2, h⟩ := ce_b1_e h
  refine ce_callVi (As := [.int a1]) (rest := []) hx hb hml hown hB (c_X6_isSubscriber l X G b (ce_kf_7_0 hk) g2) ce_v_X6_isSubscriber ce_w626 ⟨Nat.le_of_ble_eq_true rfl, Nat.le_of_ble_eq_true rfl⟩ hF hA hS (ce_rc_6 hK hA (ce_kf_7_0 hk)) hl rfl rfl (Nat.le_of_ble_eq_true rfl) dX7_subscriber_5 ⟨Nat.le_of_ble_eq_true rfl, Nat.le_of_ble_eq_true rfl⟩ (fun H locs hA hS => ?_)
  obtain ⟨t3, g4, h⟩ := ce_b1_e h
  by_cases c5 : t3 = 0
  · have h := ce_it c5 h
    rw [c5] at g4
    refine ce_callSXv (tc := 0) (As := [.int x1]) (rest := []) hx hb hml hown hB (c0_X7_needIndex l hfl X G b  g4) ce_s_X7_needIndex ce_w309 ⟨Nat.le_of_ble_eq_true rfl, Nat.le_of_ble_eq_true rfl⟩ hF hA hS hl rfl rfl (Nat.le_of_ble_eq_true rfl) dX7_subscriber_8 ⟨(Nat.le_of_ble_eq_true rfl), (Nat.le_of_ble_eq_true rfl)⟩ (fun _ H locs hA hS => ?_) (fun lt => absurd rfl lt)
    refine lv_iload_n hx hb dX7_subscriber_11 rfl (lv_at hl 2 rfl) ?_
    refine lv_bipush (v := 12) hx hb dX7_subscriber_12 (by decide) ?_
    obtain ⟨x6, g7, h⟩ := ce_b1_e h
    refine ce_callSi (As := [.int a2, .int 12]) (rest := []) hx hb hml hown hB (c_X7_isBelow l X G b  g7) ce_s_X7_isBelow ce_w586 ⟨Nat.le_of_ble_eq_true rfl, Nat.le_of_ble_eq_true rfl⟩ hF hA hS hl rfl rfl (Nat.le_of_ble_eq_true rfl) dX7_subscriber_14 ⟨Nat.le_of_ble_eq_true rfl, Nat.le_of_ble_eq_true rfl⟩ (fun H locs hA hS => ?_)
    obtain ⟨t8, g9, h⟩ := ce_b1_e h
    by_cases c10 : t8 = 0
    · have h := ce_it c10 h
      rw [c10] at g9
      refine ce_callSXv (tc := 0) (As := [.int x6]) (rest := []) hx hb hml hown hB (c0_X7_needArgument l hfl X G b  g9) ce_s_X7_needArgument ce_w375 ⟨Nat.le_of_ble_eq_true rfl, Nat.le_of_ble_eq_true rfl⟩ hF hA hS hl rfl rfl (Nat.le_of_ble_eq_true rfl) dX7_subscriber_17 ⟨(Nat.le_of_ble_eq_true rfl), (Nat.le_of_ble_eq_true rfl)⟩ (fun _ H locs hA hS => ?_) (fun lt => absurd rfl lt)
      refine lv_aload_n hx hb dX7_subscriber_20 rfl (lv_at hl 0 rfl) ?_
      refine ce_g_7_0 hx hb hB hown hK hA hk ce_w223 dX7_subscriber_21 ?_
      refine ce_g_6_1 hx hb hB hown hK hA (ce_kf_7_0 hk) ce_w157 dX7_subscriber_24 ?_
      refine lv_iload_n hx hb dX7_subscriber_27 rfl (lv_at hl 1 rfl) ?_
      obtain ⟨i12, h⟩ := ce_gi_e h
      obtain ⟨k11, e13, h⟩ := ce_nm_e h
      have hk11 : ce_kd k11 = 4 := e13 ▸ ce_kf_sub (ce_kf_6_1 (ce_kf_7_0 hk)) (ce_in_lt i12)
      refine ce_aaldS hx hb hK hA (ce_kf_6_1 (ce_kf_7_0 hk)) i12 dX7_subscriber_28 ?_
      refine ce_topr e13 ?_
      refine lv_iload_n hx hb dX7_subscriber_29 rfl (lv_at hl 2 rfl) ?_
      obtain ⟨x14, g15, h⟩ := ce_b1_e h
      refine ce_callVi (As := [.int a2]) (rest := []) hx hb hml hown hB (c_X4_valueOf l X G b hk11 g15) ce_v_X4_valueOf ce_w627 ⟨Nat.le_of_ble_eq_true rfl, Nat.le_of_ble_eq_true rfl⟩ hF hA hS (ce_rc_4 hK hA hk11) hl rfl rfl (Nat.le_of_ble_eq_true rfl) dX7_subscriber_30 ⟨Nat.le_of_ble_eq_true rfl, Nat.le_of_ble_eq_true rfl⟩ (fun H locs hA hS => ?_)
      cases h
      exact ce_iretX hx hb hr hlocks hA hS (Nat.le_of_ble_eq_true rfl) (Nat.le_of_ble_eq_true rfl) dX7_subscriber_33
    · have h := ce_ie c10 h
      cases h
      exact absurd rfl c10
  · have h := ce_ie c5 h
    cases h
    exact absurd rfl c5
set_option maxRecDepth 100000 in
set_option maxHeartbeats 4000000 in
theorem c0_X7_stay (l : Launch) (hfl : l.stackTraces = false) (X : ce_X) (G : ce_G) (b : Nat) {k : Nat} {a1 : Int32} {a2 : Int32} {a3 : Int32} {M : ce_M} (hk : ce_kd k = 7) {r : Int32} (h : f_X7_stay k M a1 a2 a3 = some (r, 0)) : ce_CtX l yX7_stay cX7_stay 4 (some .int) 7 101 0 0 X G b [.ref (b + k), .int a1, .int a2, .int a3] M (some (.int r)) M 0 := by
  refine ce_ofWX (own := RX7) (by decide) rfl (Nat.le_of_ble_eq_true rfl) (fun p e s m below meth c ls hx hb hr hlocks hml hown hB hF hA hl hS htb => ?_)
  have hK := hF.1
  have hl : lv_has ls 4 [(0, .ref (b + k)), (1, .int a1), (2, .int a2), (3, .int a3)] := hl
  unfold f_X7_stay at h
  refine lv_aload_n hx hb dX7_stay_0 rfl (lv_at hl 0 rfl) ?_
  refine ce_g_7_0 hx hb hB hown hK hA hk ce_w223 dX7_stay_1 ?_
  refine lv_iload_n hx hb dX7_stay_4 rfl (lv_at hl 1 rfl) ?_
  obtain ⟨x1, g2, h⟩ := ce_b1_e h
  refine ce_callVi (As := [.int a1]) (rest := []) hx hb hml hown hB (c_X6_isSubscriber l X G b (ce_kf_7_0 hk) g2) ce_v_X6_isSubscriber ce_w626 ⟨Nat.le_of_ble_eq_true rfl, Nat.le_of_ble_eq_true rfl⟩ hF hA hS (ce_rc_6 hK hA (ce_kf_7_0 hk)) hl rfl rfl (Nat.le_of_ble_eq_true rfl) dX7_stay_5 ⟨Nat.le_of_ble_eq_true rfl, Nat.le_of_ble_eq_true rfl⟩ (fun H locs hA hS => ?_)
  obtain ⟨t3, g4, h⟩ := ce_b1_e h
  by_cases c5 : t3 = 0
  · have h := ce_it c5 h
    rw [c5] at g4
    refine ce_callSXv (tc := 0) (As := [.int x1]) (rest := []) hx hb hml hown hB (c0_X7_needIndex l hfl X G b  g4) ce_s_X7_needIndex ce_w309 ⟨Nat.le_of_ble_eq_true rfl, Nat.le_of_ble_eq_true rfl⟩ hF hA hS hl rfl rfl (Nat.le_of_ble_eq_true rfl) dX7_stay_8 ⟨(Nat.le_of_ble_eq_true rfl), (Nat.le_of_ble_eq_true rfl)⟩ (fun _ H locs hA hS => ?_) (fun lt => absurd rfl lt)
    refine lv_iload_n hx hb dX7_stay_11 rfl (lv_at hl 2 rfl) ?_
    obtain ⟨u9, e18, h⟩ := ce_nm_e h
    have Ju9 : ∀ (x8 : Int32), u9 x8 = some (r, 0) → ce_Wg p l e (ce_R 7 101 0 0) s m (([.ref (b + k), .int a1, .int a2, .int a3] : List Value).toArray) below meth c 0 0 (vx_MQ below (ce_QT X b M (some (.int r)) 0) (ce_XT X b M 0) ([.ref (b + k), .int a1, .int a2, .int a3] : List Value).toArray s 0 0 (ce_Ab b)) X b M 4 [(0, .ref (b + k)), (1, .int a1), (2, .int a2), (3, .int a3)] 28 [.int x8] := by
      intro x8 h  H locs ls hA hS hl
      subst e18
      obtain ⟨t10, g11, h⟩ := ce_b1_e h
      by_cases c12 : t10 = 0
      · have h := ce_it c12 h
        rw [c12] at g11
        refine ce_callSXv (tc := 0) (As := [.int x8]) (rest := []) hx hb hml hown hB (c0_X7_needArgument l hfl X G b  g11) ce_s_X7_needArgument ce_w375 ⟨Nat.le_of_ble_eq_true rfl, Nat.le_of_ble_eq_true rfl⟩ hF hA hS hl rfl rfl (Nat.le_of_ble_eq_true rfl) dX7_stay_28 ⟨(Nat.le_of_ble_eq_true rfl), (Nat.le_of_ble_eq_true rfl)⟩ (fun _ H locs hA hS => ?_) (fun lt => absurd rfl lt)
        refine lv_aload_n hx hb dX7_stay_31 rfl (lv_at hl 0 rfl) ?_
        refine ce_g_7_0 hx hb hB hown hK hA hk ce_w223 dX7_stay_32 ?_
        refine ce_g_6_1 hx hb hB hown hK hA (ce_kf_7_0 hk) ce_w157 dX7_stay_35 ?_
        refine lv_iload_n hx hb dX7_stay_38 rfl (lv_at hl 1 rfl) ?_
        obtain ⟨i14, h⟩ := ce_gi_e h
        obtain ⟨k13, e15, h⟩ := ce_nm_e h
        have hk13 : ce_kd k13 = 4 := e15 ▸ ce_kf_sub (ce_kf_6_1 (ce_kf_7_0 hk)) (ce_in_lt i14)
        refine ce_aaldS hx hb hK hA (ce_kf_6_1 (ce_kf_7_0 hk)) i14 dX7_stay_39 ?_
        refine ce_topr e15 ?_
        refine ce_g_4_0 hx hb hB hown hK hA hk13 ce_w104 dX7_stay_40 ?_
        refine lv_iload_n hx hb dX7_stay_43 rfl (lv_at hl 2 rfl) ?_
        refine lv_iload_n hx hb dX7_stay_44 rfl (lv_at hl 3 rfl) ?_
        obtain ⟨x16, g17, h⟩ := ce_b1_e h
        refine ce_callVi (As := [.int a2, .int a3]) (rest := []) hx hb hml hown hB (c_X3_valueOf l X G b (ce_kf_4_0 hk13) g17) ce_v_X3_valueOf ce_w635 ⟨Nat.le_of_ble_eq_true rfl, Nat.le_of_ble_eq_true rfl⟩ hF hA hS (ce_rc_3 hK hA (ce_kf_4_0 hk13)) hl rfl rfl (Nat.le_of_ble_eq_true rfl) dX7_stay_45 ⟨Nat.le_of_ble_eq_true rfl, Nat.le_of_ble_eq_true rfl⟩ (fun H locs hA hS => ?_)
        cases h
        exact ce_iretX hx hb hr hlocks hA hS (Nat.le_of_ble_eq_true rfl) (Nat.le_of_ble_eq_true rfl) dX7_stay_48
      · have h := ce_ie c12 h
        cases h
        exact absurd rfl c12
    obtain ⟨u6, e19, h⟩ := ce_nm_e h
    have Ju6 : ∀ (z7 : Unit), u6 z7 = some (r, 0) → ce_Wg p l e (ce_R 7 101 0 0) s m (([.ref (b + k), .int a1, .int a2, .int a3] : List Value).toArray) below meth c 0 0 (vx_MQ below (ce_QT X b M (some (.int r)) 0) (ce_XT X b M 0) ([.ref (b + k), .int a1, .int a2, .int a3] : List Value).toArray s 0 0 (ce_Ab b)) X b M 4 [(0, .ref (b + k)), (1, .int a1), (2, .int a2), (3, .int a3)] 27 [] := by
      intro z7 h  H locs ls hA hS hl
      subst e19
      refine lv_iconst (v := 0) hx hb dX7_stay_27 (by decide) ?_
      exact Ju9 0 h  _ _ _ hA hS (lv_sub hl [0, 1, 2, 3] rfl)
    refine lv_if_lt (tgt := 27) hx hb dX7_stay_12 (by decide) (fun c20 => ?_) (fun c20 => ?_)
    · have h := ce_it c20 h
      exact Ju6 () h  _ _ _ hA hS (lv_sub hl [0, 1, 2, 3] rfl)
    · have h := ce_ie c20 h
      refine lv_iload_n hx hb dX7_stay_15 rfl (lv_at hl 3 rfl) ?_
      refine lv_iconst (v := 3) hx hb dX7_stay_16 (by decide) ?_
      obtain ⟨x21, g22, h⟩ := ce_b1_e h
      refine ce_callSi (As := [.int a3, .int 3]) (rest := []) hx hb hml hown hB (c_X7_isBelow l X G b  g22) ce_s_X7_isBelow ce_w586 ⟨Nat.le_of_ble_eq_true rfl, Nat.le_of_ble_eq_true rfl⟩ hF hA hS hl rfl rfl (Nat.le_of_ble_eq_true rfl) dX7_stay_17 ⟨Nat.le_of_ble_eq_true rfl, Nat.le_of_ble_eq_true rfl⟩ (fun H locs hA hS => ?_)
      refine lv_if_eq (tgt := 27) hx hb dX7_stay_20 (by decide) (fun c23 => ?_) (fun c23 => ?_)
      · have h := ce_it c23 h
        exact Ju6 () h  _ _ _ hA hS (lv_sub hl [0, 1, 2, 3] rfl)
      · have h := ce_ie c23 h
        refine lv_iconst (v := 1) hx hb dX7_stay_23 (by decide) ?_
        refine lv_goto (tgt := 28) hx hb dX7_stay_24 (by decide) ?_
        exact Ju9 1 h  _ _ _ hA hS (lv_sub hl [0, 1, 2, 3] rfl)
  · have h := ce_ie c5 h
    cases h
    exact absurd rfl c5
set_option maxRecDepth 100000 in
set_option maxHeartbeats 4000000 in
theorem c0_X7_waiting (l : Launch) (hfl : l.stackTraces = false) (X : ce_X) (G : ce_G) (b : Nat) {k : Nat} {a1 : Int32} {a2 : Int32} {M : ce_M} (hk : ce_kd k = 7) {r : Int32} (h : f_X7_waiting k M a1 a2 = some (r, 0)) : ce_CtX l yX7_waiting cX7_waiting 3 (some .int) 7 101 0 0 X G b [.ref (b + k), .int a1, .int a2] M (some (.int r)) M 0 := by
  refine ce_ofWX (own := RX7) (by decide) rfl (Nat.le_of_ble_eq_true rfl) (fun p e s m below meth c ls hx hb hr hlocks hml hown hB hF hA hl hS htb => ?_)
  have hK := hF.1
  have hl : lv_has ls 3 [(0, .ref (b + k)), (1, .int a1), (2, .int a2)] := hl
  unfold f_X7_waiting at h
  refine lv_aload_n hx hb dX7_waiting_0 rfl (lv_at hl 0 rfl) ?_
  refine ce_g_7_0 hx hb hB hown hK hA hk ce_w223 dX7_waiting_1 ?_
  refine lv_iload_n hx hb dX7_waiting_4 rfl (lv_at hl 1 rfl) ?_
  obtain ⟨x1, g2, h⟩ := ce_b1_e h
  refine ce_callVi (As := [.int a1]) (rest := []) hx hb hml hown hB (c_X6_isSubscriber l X G b (ce_kf_7_0 hk) g2) ce_v_X6_isSubscriber ce_w626 ⟨Nat.le_of_ble_eq_true rfl, Nat.le_of_ble_eq_true rfl⟩ hF hA hS (ce_rc_6 hK hA (ce_kf_7_0 hk)) hl rfl rfl (Nat.le_of_ble_eq_true rfl) dX7_waiting_5 ⟨Nat.le_of_ble_eq_true rfl, Nat.le_of_ble_eq_true rfl⟩ (fun H locs hA hS => ?_)
  obtain ⟨t3, g4, h⟩ := ce_b1_e h
  by_cases c5 : t3 = 0
  · have h := ce_it c5 h
    rw [c5] at g4
    refine ce_callSXv (tc := 0) (As := [.int x1]) (rest := []) hx hb hml hown hB (c0_X7_needIndex l hfl X G b  g4) ce_s_X7_needIndex ce_w309 ⟨Nat.le_of_ble_eq_true rfl, Nat.le_of_ble_eq_true rfl⟩ hF hA hS hl rfl rfl (Nat.le_of_ble_eq_true rfl) dX7_waiting_8 ⟨(Nat.le_of_ble_eq_true rfl), (Nat.le_of_ble_eq_true rfl)⟩ (fun _ H locs hA hS => ?_) (fun lt => absurd rfl lt)
    refine lv_iload_n hx hb dX7_waiting_11 rfl (lv_at hl 2 rfl) ?_
    obtain ⟨u7, e16, h⟩ := ce_nm_e h
    have Ju7 : ∀ (x6 : Int32), u7 x6 = some (r, 0) → ce_Wg p l e (ce_R 7 101 0 0) s m (([.ref (b + k), .int a1, .int a2] : List Value).toArray) below meth c 0 0 (vx_MQ below (ce_QT X b M (some (.int r)) 0) (ce_XT X b M 0) ([.ref (b + k), .int a1, .int a2] : List Value).toArray s 0 0 (ce_Ab b)) X b M 3 [(0, .ref (b + k)), (1, .int a1), (2, .int a2)] 20 [.int x6] := by
      intro x6 h  H locs ls hA hS hl
      subst e16
      obtain ⟨t8, g9, h⟩ := ce_b1_e h
      by_cases c10 : t8 = 0
      · have h := ce_it c10 h
        rw [c10] at g9
        refine ce_callSXv (tc := 0) (As := [.int x6]) (rest := []) hx hb hml hown hB (c0_X7_needArgument l hfl X G b  g9) ce_s_X7_needArgument ce_w375 ⟨Nat.le_of_ble_eq_true rfl, Nat.le_of_ble_eq_true rfl⟩ hF hA hS hl rfl rfl (Nat.le_of_ble_eq_true rfl) dX7_waiting_20 ⟨(Nat.le_of_ble_eq_true rfl), (Nat.le_of_ble_eq_true rfl)⟩ (fun _ H locs hA hS => ?_) (fun lt => absurd rfl lt)
        refine lv_aload_n hx hb dX7_waiting_23 rfl (lv_at hl 0 rfl) ?_
        refine ce_g_7_0 hx hb hB hown hK hA hk ce_w223 dX7_waiting_24 ?_
        refine ce_g_6_1 hx hb hB hown hK hA (ce_kf_7_0 hk) ce_w157 dX7_waiting_27 ?_
        refine lv_iload_n hx hb dX7_waiting_30 rfl (lv_at hl 1 rfl) ?_
        obtain ⟨i12, h⟩ := ce_gi_e h
        obtain ⟨k11, e13, h⟩ := ce_nm_e h
        have hk11 : ce_kd k11 = 4 := e13 ▸ ce_kf_sub (ce_kf_6_1 (ce_kf_7_0 hk)) (ce_in_lt i12)
        refine ce_aaldS hx hb hK hA (ce_kf_6_1 (ce_kf_7_0 hk)) i12 dX7_waiting_31 ?_
        refine ce_topr e13 ?_
        refine ce_g_4_1 hx hb hB hown hK hA hk11 ce_w106 dX7_waiting_32 ?_
        refine lv_iload_n hx hb dX7_waiting_35 rfl (lv_at hl 2 rfl) ?_
        obtain ⟨x14, g15, h⟩ := ce_b1_e h
        refine ce_callVi (As := [.int a2]) (rest := []) hx hb hml hown hB (c_X2_eventAt l X G b (ce_kf_4_1 hk11) g15) ce_v_X2_eventAt ce_w646 ⟨Nat.le_of_ble_eq_true rfl, Nat.le_of_ble_eq_true rfl⟩ hF hA hS (ce_rc_2 hK hA (ce_kf_4_1 hk11)) hl rfl rfl (Nat.le_of_ble_eq_true rfl) dX7_waiting_36 ⟨Nat.le_of_ble_eq_true rfl, Nat.le_of_ble_eq_true rfl⟩ (fun H locs hA hS => ?_)
        cases h
        exact ce_iretX hx hb hr hlocks hA hS (Nat.le_of_ble_eq_true rfl) (Nat.le_of_ble_eq_true rfl) dX7_waiting_39
      · have h := ce_ie c10 h
        cases h
        exact absurd rfl c10
    refine lv_if_lt (tgt := 19) hx hb dX7_waiting_12 (by decide) (fun c17 => ?_) (fun c17 => ?_)
    · have h := ce_it c17 h
      refine lv_iconst (v := 0) hx hb dX7_waiting_19 (by decide) ?_
      exact Ju7 0 h  _ _ _ hA hS (lv_sub hl [0, 1, 2] rfl)
    · have h := ce_ie c17 h
      refine lv_iconst (v := 1) hx hb dX7_waiting_15 (by decide) ?_
      refine lv_goto (tgt := 20) hx hb dX7_waiting_16 (by decide) ?_
      exact Ju7 1 h  _ _ _ hA hS (lv_sub hl [0, 1, 2] rfl)
  · have h := ce_ie c5 h
    cases h
    exact absurd rfl c5
set_option maxRecDepth 100000 in
set_option maxHeartbeats 4000000 in
theorem c0_X7_event (l : Launch) (hfl : l.stackTraces = false) (X : ce_X) (G : ce_G) (b : Nat) {k : Nat} {a1 : Int32} {a2 : Int32} {M : ce_M} (hk : ce_kd k = 7) {r : Int32} (h : f_X7_event k M a1 a2 = some (r, 0)) : ce_CtX l yX7_event cX7_event 3 (some .int) 7 101 0 0 X G b [.ref (b + k), .int a1, .int a2] M (some (.int r)) M 0 := by
  refine ce_ofWX (own := RX7) (by decide) rfl (Nat.le_of_ble_eq_true rfl) (fun p e s m below meth c ls hx hb hr hlocks hml hown hB hF hA hl hS htb => ?_)
  have hK := hF.1
  have hl : lv_has ls 3 [(0, .ref (b + k)), (1, .int a1), (2, .int a2)] := hl
  unfold f_X7_event at h
  refine lv_iload_n hx hb dX7_event_0 rfl (lv_at hl 1 rfl) ?_
  refine lv_aload_n hx hb dX7_event_1 rfl (lv_at hl 0 rfl) ?_
  refine ce_g_7_0 hx hb hB hown hK hA hk ce_w223 dX7_event_2 ?_
  refine ce_g_6_2 hx hb hB hown hK hA (ce_kf_7_0 hk) ce_w159 dX7_event_5 ?_
  refine ce_g_1_6 hx hb hB hown hK hA (ce_kf_6_2 (ce_kf_7_0 hk)) ce_w46 dX7_event_8 ?_
  obtain ⟨x1, g2, h⟩ := ce_b1_e h
  refine ce_callSi (As := [.int a1, .int (ce_rd M ((k + 1) + 3) 6)]) (rest := []) hx hb hml hown hB (c_X7_isBelow l X G b  g2) ce_s_X7_isBelow ce_w586 ⟨Nat.le_of_ble_eq_true rfl, Nat.le_of_ble_eq_true rfl⟩ hF hA hS hl rfl rfl (Nat.le_of_ble_eq_true rfl) dX7_event_11 ⟨Nat.le_of_ble_eq_true rfl, Nat.le_of_ble_eq_true rfl⟩ (fun H locs hA hS => ?_)
  obtain ⟨t3, g4, h⟩ := ce_b1_e h
  by_cases c5 : t3 = 0
  · have h := ce_it c5 h
    rw [c5] at g4
    refine ce_callSXv (tc := 0) (As := [.int x1]) (rest := []) hx hb hml hown hB (c0_X7_needIndex l hfl X G b  g4) ce_s_X7_needIndex ce_w309 ⟨Nat.le_of_ble_eq_true rfl, Nat.le_of_ble_eq_true rfl⟩ hF hA hS hl rfl rfl (Nat.le_of_ble_eq_true rfl) dX7_event_14 ⟨(Nat.le_of_ble_eq_true rfl), (Nat.le_of_ble_eq_true rfl)⟩ (fun _ H locs hA hS => ?_) (fun lt => absurd rfl lt)
    refine lv_iload_n hx hb dX7_event_17 rfl (lv_at hl 2 rfl) ?_
    refine lv_bipush (v := 7) hx hb dX7_event_18 (by decide) ?_
    obtain ⟨x6, g7, h⟩ := ce_b1_e h
    refine ce_callSi (As := [.int a2, .int 7]) (rest := []) hx hb hml hown hB (c_X7_isBelow l X G b  g7) ce_s_X7_isBelow ce_w586 ⟨Nat.le_of_ble_eq_true rfl, Nat.le_of_ble_eq_true rfl⟩ hF hA hS hl rfl rfl (Nat.le_of_ble_eq_true rfl) dX7_event_20 ⟨Nat.le_of_ble_eq_true rfl, Nat.le_of_ble_eq_true rfl⟩ (fun H locs hA hS => ?_)
    obtain ⟨t8, g9, h⟩ := ce_b1_e h
    by_cases c10 : t8 = 0
    · have h := ce_it c10 h
      rw [c10] at g9
      refine ce_callSXv (tc := 0) (As := [.int x6]) (rest := []) hx hb hml hown hB (c0_X7_needArgument l hfl X G b  g9) ce_s_X7_needArgument ce_w375 ⟨Nat.le_of_ble_eq_true rfl, Nat.le_of_ble_eq_true rfl⟩ hF hA hS hl rfl rfl (Nat.le_of_ble_eq_true rfl) dX7_event_23 ⟨(Nat.le_of_ble_eq_true rfl), (Nat.le_of_ble_eq_true rfl)⟩ (fun _ H locs hA hS => ?_) (fun lt => absurd rfl lt)
      refine lv_aload_n hx hb dX7_event_26 rfl (lv_at hl 0 rfl) ?_
      refine ce_g_7_0 hx hb hB hown hK hA hk ce_w223 dX7_event_27 ?_
      refine lv_iload_n hx hb dX7_event_30 rfl (lv_at hl 1 rfl) ?_
      refine lv_iload_n hx hb dX7_event_31 rfl (lv_at hl 2 rfl) ?_
      obtain ⟨x11, g12, h⟩ := ce_b1_e h
      refine ce_callVi (As := [.int a1, .int a2]) (rest := []) hx hb hml hown hB (c_X6_valueOfEvent l X G b (ce_kf_7_0 hk) g12) ce_v_X6_valueOfEvent ce_w654 ⟨Nat.le_of_ble_eq_true rfl, Nat.le_of_ble_eq_true rfl⟩ hF hA hS (ce_rc_6 hK hA (ce_kf_7_0 hk)) hl rfl rfl (Nat.le_of_ble_eq_true rfl) dX7_event_32 ⟨Nat.le_of_ble_eq_true rfl, Nat.le_of_ble_eq_true rfl⟩ (fun H locs hA hS => ?_)
      cases h
      exact ce_iretX hx hb hr hlocks hA hS (Nat.le_of_ble_eq_true rfl) (Nat.le_of_ble_eq_true rfl) dX7_event_35
    · have h := ce_ie c10 h
      cases h
      exact absurd rfl c10
  · have h := ce_ie c5 h
    cases h
    exact absurd rfl c5
set_option maxRecDepth 100000 in
set_option maxHeartbeats 4000000 in
theorem c0_X7_leaf (l : Launch) (hfl : l.stackTraces = false) (X : ce_X) (G : ce_G) (b : Nat) {k : Nat} {a1 : Int32} {a2 : Int32} {M : ce_M} (hk : ce_kd k = 7) {r : Int32} (h : f_X7_leaf k M a1 a2 = some (r, 0)) : ce_CtX l yX7_leaf cX7_leaf 3 (some .int) 7 101 0 0 X G b [.ref (b + k), .int a1, .int a2] M (some (.int r)) M 0 := by
  refine ce_ofWX (own := RX7) (by decide) rfl (Nat.le_of_ble_eq_true rfl) (fun p e s m below meth c ls hx hb hr hlocks hml hown hB hF hA hl hS htb => ?_)
  have hK := hF.1
  have hl : lv_has ls 3 [(0, .ref (b + k)), (1, .int a1), (2, .int a2)] := hl
  unfold f_X7_leaf at h
  refine lv_iload_n hx hb dX7_leaf_0 rfl (lv_at hl 1 rfl) ?_
  refine lv_bipush (v := 16) hx hb dX7_leaf_1 (by decide) ?_
  obtain ⟨x1, g2, h⟩ := ce_b1_e h
  refine ce_callSi (As := [.int a1, .int 16]) (rest := []) hx hb hml hown hB (c_X7_isBelow l X G b  g2) ce_s_X7_isBelow ce_w586 ⟨Nat.le_of_ble_eq_true rfl, Nat.le_of_ble_eq_true rfl⟩ hF hA hS hl rfl rfl (Nat.le_of_ble_eq_true rfl) dX7_leaf_3 ⟨Nat.le_of_ble_eq_true rfl, Nat.le_of_ble_eq_true rfl⟩ (fun H locs hA hS => ?_)
  obtain ⟨t3, g4, h⟩ := ce_b1_e h
  by_cases c5 : t3 = 0
  · have h := ce_it c5 h
    rw [c5] at g4
    refine ce_callSXv (tc := 0) (As := [.int x1]) (rest := []) hx hb hml hown hB (c0_X7_needIndex l hfl X G b  g4) ce_s_X7_needIndex ce_w309 ⟨Nat.le_of_ble_eq_true rfl, Nat.le_of_ble_eq_true rfl⟩ hF hA hS hl rfl rfl (Nat.le_of_ble_eq_true rfl) dX7_leaf_6 ⟨(Nat.le_of_ble_eq_true rfl), (Nat.le_of_ble_eq_true rfl)⟩ (fun _ H locs hA hS => ?_) (fun lt => absurd rfl lt)
    refine lv_iload_n hx hb dX7_leaf_9 rfl (lv_at hl 2 rfl) ?_
    refine lv_iconst (v := 4) hx hb dX7_leaf_10 (by decide) ?_
    obtain ⟨x6, g7, h⟩ := ce_b1_e h
    refine ce_callSi (As := [.int a2, .int 4]) (rest := []) hx hb hml hown hB (c_X7_isBelow l X G b  g7) ce_s_X7_isBelow ce_w586 ⟨Nat.le_of_ble_eq_true rfl, Nat.le_of_ble_eq_true rfl⟩ hF hA hS hl rfl rfl (Nat.le_of_ble_eq_true rfl) dX7_leaf_11 ⟨Nat.le_of_ble_eq_true rfl, Nat.le_of_ble_eq_true rfl⟩ (fun H locs hA hS => ?_)
    obtain ⟨t8, g9, h⟩ := ce_b1_e h
    by_cases c10 : t8 = 0
    · have h := ce_it c10 h
      rw [c10] at g9
      refine ce_callSXv (tc := 0) (As := [.int x6]) (rest := []) hx hb hml hown hB (c0_X7_needArgument l hfl X G b  g9) ce_s_X7_needArgument ce_w375 ⟨Nat.le_of_ble_eq_true rfl, Nat.le_of_ble_eq_true rfl⟩ hF hA hS hl rfl rfl (Nat.le_of_ble_eq_true rfl) dX7_leaf_14 ⟨(Nat.le_of_ble_eq_true rfl), (Nat.le_of_ble_eq_true rfl)⟩ (fun _ H locs hA hS => ?_) (fun lt => absurd rfl lt)
      refine lv_aload_n hx hb dX7_leaf_17 rfl (lv_at hl 0 rfl) ?_
      refine ce_g_7_0 hx hb hB hown hK hA hk ce_w223 dX7_leaf_18 ?_
      refine lv_iload_n hx hb dX7_leaf_21 rfl (lv_at hl 1 rfl) ?_
      refine lv_iload_n hx hb dX7_leaf_22 rfl (lv_at hl 2 rfl) ?_
      obtain ⟨x11, g12, h⟩ := ce_b1_e h
      refine ce_callVi (As := [.int a1, .int a2]) (rest := []) hx hb hml hown hB (c_X6_valueOfLeaf l X G b (ce_kf_7_0 hk) g12) ce_v_X6_valueOfLeaf ce_w677 ⟨Nat.le_of_ble_eq_true rfl, Nat.le_of_ble_eq_true rfl⟩ hF hA hS (ce_rc_6 hK hA (ce_kf_7_0 hk)) hl rfl rfl (Nat.le_of_ble_eq_true rfl) dX7_leaf_23 ⟨Nat.le_of_ble_eq_true rfl, Nat.le_of_ble_eq_true rfl⟩ (fun H locs hA hS => ?_)
      cases h
      exact ce_iretX hx hb hr hlocks hA hS (Nat.le_of_ble_eq_true rfl) (Nat.le_of_ble_eq_true rfl) dX7_leaf_26
    · have h := ce_ie c10 h
      cases h
      exact absurd rfl c10
  · have h := ce_ie c5 h
    cases h
    exact absurd rfl c5
set_option maxRecDepth 100000 in
set_option maxHeartbeats 4000000 in
theorem c0_X7_whole (l : Launch) (hfl : l.stackTraces = false) (X : ce_X) (G : ce_G) (b : Nat) {k : Nat} {a1 : Int32} {M : ce_M} (hk : ce_kd k = 7) {r : Int32} (h : f_X7_whole k M a1 = some (r, 0)) : ce_CtX l yX7_whole cX7_whole 2 (some .int) 7 101 0 0 X G b [.ref (b + k), .int a1] M (some (.int r)) M 0 := by
  refine ce_ofWX (own := RX7) (by decide) rfl (Nat.le_of_ble_eq_true rfl) (fun p e s m below meth c ls hx hb hr hlocks hml hown hB hF hA hl hS htb => ?_)
  have hK := hF.1
  have hl : lv_has ls 2 [(0, .ref (b + k)), (1, .int a1)] := hl
  unfold f_X7_whole at h
  refine lv_iload_n hx hb dX7_whole_0 rfl (lv_at hl 1 rfl) ?_
  refine lv_bipush (v := 14) hx hb dX7_whole_1 (by decide) ?_
  obtain ⟨x1, g2, h⟩ := ce_b1_e h
  refine ce_callSi (As := [.int a1, .int 14]) (rest := []) hx hb hml hown hB (c_X7_isBelow l X G b  g2) ce_s_X7_isBelow ce_w586 ⟨Nat.le_of_ble_eq_true rfl, Nat.le_of_ble_eq_true rfl⟩ hF hA hS hl rfl rfl (Nat.le_of_ble_eq_true rfl) dX7_whole_3 ⟨Nat.le_of_ble_eq_true rfl, Nat.le_of_ble_eq_true rfl⟩ (fun H locs hA hS => ?_)
  obtain ⟨t3, g4, h⟩ := ce_b1_e h
  by_cases c5 : t3 = 0
  · have h := ce_it c5 h
    rw [c5] at g4
    refine ce_callSXv (tc := 0) (As := [.int x1]) (rest := []) hx hb hml hown hB (c0_X7_needArgument l hfl X G b  g4) ce_s_X7_needArgument ce_w375 ⟨Nat.le_of_ble_eq_true rfl, Nat.le_of_ble_eq_true rfl⟩ hF hA hS hl rfl rfl (Nat.le_of_ble_eq_true rfl) dX7_whole_6 ⟨(Nat.le_of_ble_eq_true rfl), (Nat.le_of_ble_eq_true rfl)⟩ (fun _ H locs hA hS => ?_) (fun lt => absurd rfl lt)
    refine lv_aload_n hx hb dX7_whole_9 rfl (lv_at hl 0 rfl) ?_
    refine lv_iload_n hx hb dX7_whole_10 rfl (lv_at hl 1 rfl) ?_
    obtain ⟨x6, g7, h⟩ := ce_b1_e h
    refine ce_callVi (As := [.int a1]) (rest := []) hx hb hml hown hB (c_X7_valueOfWhole l X G b hk g7) ce_v_X7_valueOfWhole ce_w587 ⟨Nat.le_of_ble_eq_true rfl, Nat.le_of_ble_eq_true rfl⟩ hF hA hS (ce_rc_7 hK hA hk) hl rfl rfl (Nat.le_of_ble_eq_true rfl) dX7_whole_11 ⟨Nat.le_of_ble_eq_true rfl, Nat.le_of_ble_eq_true rfl⟩ (fun H locs hA hS => ?_)
    cases h
    exact ce_iretX hx hb hr hlocks hA hS (Nat.le_of_ble_eq_true rfl) (Nat.le_of_ble_eq_true rfl) dX7_whole_14
  · have h := ce_ie c5 h
    cases h
    exact absurd rfl c5
set_option maxRecDepth 100000 in
set_option maxHeartbeats 4000000 in
theorem c0_X7_wouldReach (l : Launch) (hfl : l.stackTraces = false) (X : ce_X) (G : ce_G) (b : Nat) {k : Nat} {a1 : Int32} {a2 : Int32} {a3 : Int32} {M : ce_M} (hk : ce_kd k = 7) {r : Int32} (h : f_X7_wouldReach k M a1 a2 a3 = some (r, 0)) : ce_CtX l yX7_wouldReach cX7_wouldReach 4 (some .int) 7 101 0 0 X G b [.ref (b + k), .int a1, .int a2, .int a3] M (some (.int r)) M 0 := by
  refine ce_ofWX (own := RX7) (by decide) rfl (Nat.le_of_ble_eq_true rfl) (fun p e s m below meth c ls hx hb hr hlocks hml hown hB hF hA hl hS htb => ?_)
  have hK := hF.1
  have hl : lv_has ls 4 [(0, .ref (b + k)), (1, .int a1), (2, .int a2), (3, .int a3)] := hl
  unfold f_X7_wouldReach at h
  refine lv_iload_n hx hb dX7_wouldReach_0 rfl (lv_at hl 1 rfl) ?_
  refine lv_bipush (v := 16) hx hb dX7_wouldReach_1 (by decide) ?_
  obtain ⟨x1, g2, h⟩ := ce_b1_e h
  refine ce_callSi (As := [.int a1, .int 16]) (rest := []) hx hb hml hown hB (c_X7_isBelow l X G b  g2) ce_s_X7_isBelow ce_w586 ⟨Nat.le_of_ble_eq_true rfl, Nat.le_of_ble_eq_true rfl⟩ hF hA hS hl rfl rfl (Nat.le_of_ble_eq_true rfl) dX7_wouldReach_3 ⟨Nat.le_of_ble_eq_true rfl, Nat.le_of_ble_eq_true rfl⟩ (fun H locs hA hS => ?_)
  obtain ⟨t3, g4, h⟩ := ce_b1_e h
  by_cases c5 : t3 = 0
  · have h := ce_it c5 h
    rw [c5] at g4
    refine ce_callSXv (tc := 0) (As := [.int x1]) (rest := []) hx hb hml hown hB (c0_X7_needIndex l hfl X G b  g4) ce_s_X7_needIndex ce_w309 ⟨Nat.le_of_ble_eq_true rfl, Nat.le_of_ble_eq_true rfl⟩ hF hA hS hl rfl rfl (Nat.le_of_ble_eq_true rfl) dX7_wouldReach_6 ⟨(Nat.le_of_ble_eq_true rfl), (Nat.le_of_ble_eq_true rfl)⟩ (fun _ H locs hA hS => ?_) (fun lt => absurd rfl lt)
    refine lv_iload_n hx hb dX7_wouldReach_9 rfl (lv_at hl 2 rfl) ?_
    refine lv_iconst (v := 3) hx hb dX7_wouldReach_10 (by decide) ?_
    obtain ⟨x6, g7, h⟩ := ce_b1_e h
    refine ce_callSi (As := [.int a2, .int 3]) (rest := []) hx hb hml hown hB (c_X7_isBelow l X G b  g7) ce_s_X7_isBelow ce_w586 ⟨Nat.le_of_ble_eq_true rfl, Nat.le_of_ble_eq_true rfl⟩ hF hA hS hl rfl rfl (Nat.le_of_ble_eq_true rfl) dX7_wouldReach_11 ⟨Nat.le_of_ble_eq_true rfl, Nat.le_of_ble_eq_true rfl⟩ (fun H locs hA hS => ?_)
    obtain ⟨u11, e20, h⟩ := ce_nm_e h
    have Ju11 : ∀ (x10 : Int32), u11 x10 = some (r, 0) → ce_Wg p l e (ce_R 7 101 0 0) s m (([.ref (b + k), .int a1, .int a2, .int a3] : List Value).toArray) below meth c 0 0 (vx_MQ below (ce_QT X b M (some (.int r)) 0) (ce_XT X b M 0) ([.ref (b + k), .int a1, .int a2, .int a3] : List Value).toArray s 0 0 (ce_Ab b)) X b M 4 [(0, .ref (b + k)), (1, .int a1), (2, .int a2), (3, .int a3)] 26 [.int x10] := by
      intro x10 h  H locs ls hA hS hl
      subst e20
      obtain ⟨t12, g13, h⟩ := ce_b1_e h
      by_cases c14 : t12 = 0
      · have h := ce_it c14 h
        rw [c14] at g13
        refine ce_callSXv (tc := 0) (As := [.int x10]) (rest := []) hx hb hml hown hB (c0_X7_needArgument l hfl X G b  g13) ce_s_X7_needArgument ce_w375 ⟨Nat.le_of_ble_eq_true rfl, Nat.le_of_ble_eq_true rfl⟩ hF hA hS hl rfl rfl (Nat.le_of_ble_eq_true rfl) dX7_wouldReach_26 ⟨(Nat.le_of_ble_eq_true rfl), (Nat.le_of_ble_eq_true rfl)⟩ (fun _ H locs hA hS => ?_) (fun lt => absurd rfl lt)
        refine lv_aload_n hx hb dX7_wouldReach_29 rfl (lv_at hl 0 rfl) ?_
        refine ce_g_7_0 hx hb hB hown hK hA hk ce_w223 dX7_wouldReach_30 ?_
        refine lv_iload_n hx hb dX7_wouldReach_33 rfl (lv_at hl 3 rfl) ?_
        obtain ⟨x15, g16, h⟩ := ce_b1_e h
        refine ce_callVi (As := [.int a3]) (rest := []) hx hb hml hown hB (c_X6_isTooLate l X G b (ce_kf_7_0 hk) g16) ce_v_X6_isTooLate ce_w724 ⟨Nat.le_of_ble_eq_true rfl, Nat.le_of_ble_eq_true rfl⟩ hF hA hS (ce_rc_6 hK hA (ce_kf_7_0 hk)) hl rfl rfl (Nat.le_of_ble_eq_true rfl) dX7_wouldReach_34 ⟨Nat.le_of_ble_eq_true rfl, Nat.le_of_ble_eq_true rfl⟩ (fun H locs hA hS => ?_)
        refine lv_if_eq (tgt := 44) hx hb dX7_wouldReach_37 (by decide) (fun c17 => ?_) (fun c17 => ?_)
        · have h := ce_it c17 h
          refine lv_aload_n hx hb dX7_wouldReach_44 rfl (lv_at hl 0 rfl) ?_
          refine ce_g_7_0 hx hb hB hown hK hA hk ce_w223 dX7_wouldReach_45 ?_
          refine lv_iload_n hx hb dX7_wouldReach_48 rfl (lv_at hl 1 rfl) ?_
          refine lv_iload_n hx hb dX7_wouldReach_49 rfl (lv_at hl 2 rfl) ?_
          refine lv_aload_n hx hb dX7_wouldReach_50 rfl (lv_at hl 0 rfl) ?_
          refine ce_g_7_0 hx hb hB hown hK hA hk ce_w223 dX7_wouldReach_51 ?_
          refine ce_g_6_6 hx hb hB hown hK hA (ce_kf_7_0 hk) ce_w164 dX7_wouldReach_54 ?_
          refine lv_iload_n hx hb dX7_wouldReach_57 rfl (lv_at hl 3 rfl) ?_
          refine lv_isub hx hb dX7_wouldReach_58 ?_
          obtain ⟨x18, g19, h⟩ := ce_b1_e h
          refine ce_callVi (As := [.int a1, .int a2, .int ((ce_rd M (k + 1) 6) - a3)]) (rest := []) hx hb hml hown hB (c_X6_reachedBy l X G b (ce_kf_7_0 hk) g19) ce_v_X6_reachedBy ce_w725 ⟨Nat.le_of_ble_eq_true rfl, Nat.le_of_ble_eq_true rfl⟩ hF hA hS (ce_rc_6 hK hA (ce_kf_7_0 hk)) hl rfl rfl (Nat.le_of_ble_eq_true rfl) dX7_wouldReach_59 ⟨Nat.le_of_ble_eq_true rfl, Nat.le_of_ble_eq_true rfl⟩ (fun H locs hA hS => ?_)
          cases h
          exact ce_iretX hx hb hr hlocks hA hS (Nat.le_of_ble_eq_true rfl) (Nat.le_of_ble_eq_true rfl) dX7_wouldReach_62
        · have h := ce_ie c17 h
          refine lv_iconst (v := (-1)) hx hb dX7_wouldReach_40 (by decide) ?_
          refine lv_goto (tgt := 62) hx hb dX7_wouldReach_41 (by decide) ?_
          cases h
          exact ce_iretX hx hb hr hlocks hA hS (Nat.le_of_ble_eq_true rfl) (Nat.le_of_ble_eq_true rfl) dX7_wouldReach_62
      · have h := ce_ie c14 h
        cases h
        exact absurd rfl c14
    obtain ⟨u8, e21, h⟩ := ce_nm_e h
    have Ju8 : ∀ (z9 : Unit), u8 z9 = some (r, 0) → ce_Wg p l e (ce_R 7 101 0 0) s m (([.ref (b + k), .int a1, .int a2, .int a3] : List Value).toArray) below meth c 0 0 (vx_MQ below (ce_QT X b M (some (.int r)) 0) (ce_XT X b M 0) ([.ref (b + k), .int a1, .int a2, .int a3] : List Value).toArray s 0 0 (ce_Ab b)) X b M 4 [(0, .ref (b + k)), (1, .int a1), (2, .int a2), (3, .int a3)] 25 [] := by
      intro z9 h  H locs ls hA hS hl
      subst e21
      refine lv_iconst (v := 0) hx hb dX7_wouldReach_25 (by decide) ?_
      exact Ju11 0 h  _ _ _ hA hS (lv_sub hl [0, 1, 2, 3] rfl)
    refine lv_if_eq (tgt := 25) hx hb dX7_wouldReach_14 (by decide) (fun c22 => ?_) (fun c22 => ?_)
    · have h := ce_it c22 h
      exact Ju8 () h  _ _ _ hA hS (lv_sub hl [0, 1, 2, 3] rfl)
    · have h := ce_ie c22 h
      refine lv_iload_n hx hb dX7_wouldReach_17 rfl (lv_at hl 3 rfl) ?_
      refine lv_if_lt (tgt := 25) hx hb dX7_wouldReach_18 (by decide) (fun c23 => ?_) (fun c23 => ?_)
      · have h := ce_it c23 h
        exact Ju8 () h  _ _ _ hA hS (lv_sub hl [0, 1, 2, 3] rfl)
      · have h := ce_ie c23 h
        refine lv_iconst (v := 1) hx hb dX7_wouldReach_21 (by decide) ?_
        refine lv_goto (tgt := 26) hx hb dX7_wouldReach_22 (by decide) ?_
        exact Ju11 1 h  _ _ _ hA hS (lv_sub hl [0, 1, 2, 3] rfl)
  · have h := ce_ie c5 h
    cases h
    exact absurd rfl c5
set_option maxRecDepth 100000 in
set_option maxHeartbeats 4000000 in
theorem c0_X7_reason (l : Launch) (hfl : l.stackTraces = false) (X : ce_X) (G : ce_G) (b : Nat) {k : Nat} {a1 : Int32} {a2 : Int32} {a3 : Int32} {M : ce_M} (hk : ce_kd k = 7) {r : Int32} (h : f_X7_reason k M a1 a2 a3 = some (r, 0)) : ce_CtX l yX7_reason cX7_reason 4 (some .int) 7 101 0 0 X G b [.ref (b + k), .int a1, .int a2, .int a3] M (some (.int r)) M 0 := by
  refine ce_ofWX (own := RX7) (by decide) rfl (Nat.le_of_ble_eq_true rfl) (fun p e s m below meth c ls hx hb hr hlocks hml hown hB hF hA hl hS htb => ?_)
  have hK := hF.1
  have hl : lv_has ls 4 [(0, .ref (b + k)), (1, .int a1), (2, .int a2), (3, .int a3)] := hl
  unfold f_X7_reason at h
  refine lv_aload_n hx hb dX7_reason_0 rfl (lv_at hl 0 rfl) ?_
  refine ce_g_7_0 hx hb hB hown hK hA hk ce_w223 dX7_reason_1 ?_
  refine lv_iload_n hx hb dX7_reason_4 rfl (lv_at hl 1 rfl) ?_
  obtain ⟨x1, g2, h⟩ := ce_b1_e h
  refine ce_callVi (As := [.int a1]) (rest := []) hx hb hml hown hB (c_X6_isSubscriber l X G b (ce_kf_7_0 hk) g2) ce_v_X6_isSubscriber ce_w626 ⟨Nat.le_of_ble_eq_true rfl, Nat.le_of_ble_eq_true rfl⟩ hF hA hS (ce_rc_6 hK hA (ce_kf_7_0 hk)) hl rfl rfl (Nat.le_of_ble_eq_true rfl) dX7_reason_5 ⟨Nat.le_of_ble_eq_true rfl, Nat.le_of_ble_eq_true rfl⟩ (fun H locs hA hS => ?_)
  obtain ⟨u7, e23, h⟩ := ce_nm_e h
  have Ju7 : ∀ (x5 : Int32) (x6 : Int32), u7 x5 x6 = some (r, 0) → ce_Wg p l e (ce_R 7 101 0 0) s m (([.ref (b + k), .int a1, .int a2, .int a3] : List Value).toArray) below meth c 0 0 (vx_MQ below (ce_QT X b M (some (.int r)) 0) (ce_XT X b M 0) ([.ref (b + k), .int a1, .int a2, .int a3] : List Value).toArray s 0 0 (ce_Ab b)) X b M 4 [(0, .ref (b + k)), (1, .int a1), (2, .int a2), (3, .int x5)] 25 [.int x6] := by
    intro x5 x6 h  H locs ls hA hS hl
    subst e23
    obtain ⟨t8, g9, h⟩ := ce_b1_e h
    by_cases c10 : t8 = 0
    · have h := ce_it c10 h
      rw [c10] at g9
      refine ce_callSXv (tc := 0) (As := [.int x6]) (rest := []) hx hb hml hown hB (c0_X7_needIndex l hfl X G b  g9) ce_s_X7_needIndex ce_w309 ⟨Nat.le_of_ble_eq_true rfl, Nat.le_of_ble_eq_true rfl⟩ hF hA hS hl rfl rfl (Nat.le_of_ble_eq_true rfl) dX7_reason_25 ⟨(Nat.le_of_ble_eq_true rfl), (Nat.le_of_ble_eq_true rfl)⟩ (fun _ H locs hA hS => ?_) (fun lt => absurd rfl lt)
      refine lv_iload_n hx hb dX7_reason_28 rfl (lv_at hl 3 rfl) ?_
      refine lv_iconst (v := 3) hx hb dX7_reason_29 (by decide) ?_
      obtain ⟨x11, g12, h⟩ := ce_b1_e h
      refine ce_callSi (As := [.int x5, .int 3]) (rest := []) hx hb hml hown hB (c_X7_isBelow l X G b  g12) ce_s_X7_isBelow ce_w586 ⟨Nat.le_of_ble_eq_true rfl, Nat.le_of_ble_eq_true rfl⟩ hF hA hS hl rfl rfl (Nat.le_of_ble_eq_true rfl) dX7_reason_30 ⟨Nat.le_of_ble_eq_true rfl, Nat.le_of_ble_eq_true rfl⟩ (fun H locs hA hS => ?_)
      obtain ⟨t13, g14, h⟩ := ce_b1_e h
      by_cases c15 : t13 = 0
      · have h := ce_it c15 h
        rw [c15] at g14
        refine ce_callSXv (tc := 0) (As := [.int x11]) (rest := []) hx hb hml hown hB (c0_X7_needArgument l hfl X G b  g14) ce_s_X7_needArgument ce_w375 ⟨Nat.le_of_ble_eq_true rfl, Nat.le_of_ble_eq_true rfl⟩ hF hA hS hl rfl rfl (Nat.le_of_ble_eq_true rfl) dX7_reason_33 ⟨(Nat.le_of_ble_eq_true rfl), (Nat.le_of_ble_eq_true rfl)⟩ (fun _ H locs hA hS => ?_) (fun lt => absurd rfl lt)
        refine lv_aload_n hx hb dX7_reason_36 rfl (lv_at hl 0 rfl) ?_
        refine ce_g_7_0 hx hb hB hown hK hA hk ce_w223 dX7_reason_37 ?_
        refine ce_g_6_1 hx hb hB hown hK hA (ce_kf_7_0 hk) ce_w157 dX7_reason_40 ?_
        refine lv_iload_n hx hb dX7_reason_43 rfl (lv_at hl 1 rfl) ?_
        obtain ⟨i17, h⟩ := ce_gi_e h
        obtain ⟨k16, e18, h⟩ := ce_nm_e h
        have hk16 : ce_kd k16 = 4 := e18 ▸ ce_kf_sub (ce_kf_6_1 (ce_kf_7_0 hk)) (ce_in_lt i17)
        refine ce_aaldS hx hb hK hA (ce_kf_6_1 (ce_kf_7_0 hk)) i17 dX7_reason_44 ?_
        refine ce_topr e18 ?_
        refine lv_iload_n hx hb dX7_reason_45 rfl (lv_at hl 2 rfl) ?_
        refine lv_iload_n hx hb dX7_reason_46 rfl (lv_at hl 3 rfl) ?_
        obtain ⟨x19, g20, h⟩ := ce_b1_e h
        refine ce_callSi (As := [.int a2, .int x5]) (rest := [.ref (b + k16)]) hx hb hml hown hB (c_X7_areaOf l X G b  g20) ce_s_X7_areaOf ce_w733 ⟨Nat.le_of_ble_eq_true rfl, Nat.le_of_ble_eq_true rfl⟩ hF hA hS hl rfl rfl (Nat.le_of_ble_eq_true rfl) dX7_reason_47 ⟨Nat.le_of_ble_eq_true rfl, Nat.le_of_ble_eq_true rfl⟩ (fun H locs hA hS => ?_)
        obtain ⟨x21, g22, h⟩ := ce_b1_e h
        refine ce_callVi (As := [.int x19]) (rest := []) hx hb hml hown hB (c_X4_reasonAgainst l X G b hk16 g22) ce_v_X4_reasonAgainst ce_w734 ⟨Nat.le_of_ble_eq_true rfl, Nat.le_of_ble_eq_true rfl⟩ hF hA hS (ce_rc_4 hK hA hk16) hl rfl rfl (Nat.le_of_ble_eq_true rfl) dX7_reason_50 ⟨Nat.le_of_ble_eq_true rfl, Nat.le_of_ble_eq_true rfl⟩ (fun H locs hA hS => ?_)
        cases h
        exact ce_iretX hx hb hr hlocks hA hS (Nat.le_of_ble_eq_true rfl) (Nat.le_of_ble_eq_true rfl) dX7_reason_53
      · have h := ce_ie c15 h
        cases h
        exact absurd rfl c15
    · have h := ce_ie c10 h
      cases h
      exact absurd rfl c10
  obtain ⟨u4, e24, h⟩ := ce_nm_e h
  have Ju4 : ∀ (x3 : Int32), u4 x3 = some (r, 0) → ce_Wg p l e (ce_R 7 101 0 0) s m (([.ref (b + k), .int a1, .int a2, .int a3] : List Value).toArray) below meth c 0 0 (vx_MQ below (ce_QT X b M (some (.int r)) 0) (ce_XT X b M 0) ([.ref (b + k), .int a1, .int a2, .int a3] : List Value).toArray s 0 0 (ce_Ab b)) X b M 4 [(0, .ref (b + k)), (1, .int a1), (2, .int a2), (3, .int x3)] 24 [] := by
    intro x3 h  H locs ls hA hS hl
    subst e24
    refine lv_iconst (v := 0) hx hb dX7_reason_24 (by decide) ?_
    exact Ju7 x3 0 h  _ _ _ hA hS (lv_sub hl [0, 1, 2, 3] rfl)
  refine lv_if_eq (tgt := 24) hx hb dX7_reason_8 (by decide) (fun c25 => ?_) (fun c25 => ?_)
  · have h := ce_it c25 h
    exact Ju4 a3 h  _ _ _ hA hS (lv_sub hl [0, 1, 2, 3] rfl)
  · have h := ce_ie c25 h
    refine lv_iload_n hx hb dX7_reason_11 rfl (lv_at hl 2 rfl) ?_
    refine lv_bipush (v := 16) hx hb dX7_reason_12 (by decide) ?_
    obtain ⟨x26, g27, h⟩ := ce_b1_e h
    refine ce_callSi (As := [.int a2, .int 16]) (rest := []) hx hb hml hown hB (c_X7_isBelow l X G b  g27) ce_s_X7_isBelow ce_w586 ⟨Nat.le_of_ble_eq_true rfl, Nat.le_of_ble_eq_true rfl⟩ hF hA hS hl rfl rfl (Nat.le_of_ble_eq_true rfl) dX7_reason_14 ⟨Nat.le_of_ble_eq_true rfl, Nat.le_of_ble_eq_true rfl⟩ (fun H locs hA hS => ?_)
    refine lv_if_eq (tgt := 24) hx hb dX7_reason_17 (by decide) (fun c28 => ?_) (fun c28 => ?_)
    · have h := ce_it c28 h
      exact Ju4 a3 h  _ _ _ hA hS (lv_sub hl [0, 1, 2, 3] rfl)
    · have h := ce_ie c28 h
      refine lv_iconst (v := 1) hx hb dX7_reason_20 (by decide) ?_
      refine lv_goto (tgt := 25) hx hb dX7_reason_21 (by decide) ?_
      exact Ju7 a3 1 h  _ _ _ hA hS (lv_sub hl [0, 1, 2, 3] rfl)
set_option maxRecDepth 100000 in
set_option maxHeartbeats 4000000 in
theorem c0_X7_servedIn (l : Launch) (hfl : l.stackTraces = false) (X : ce_X) (G : ce_G) (b : Nat) {k : Nat} {a1 : Int32} {M : ce_M} (hk : ce_kd k = 7) {r : Int32} (h : f_X7_servedIn k M a1 = some (r, 0)) : ce_CtX l yX7_servedIn cX7_servedIn 2 (some .int) 7 101 0 0 X G b [.ref (b + k), .int a1] M (some (.int r)) M 0 := by
  refine ce_ofWX (own := RX7) (by decide) rfl (Nat.le_of_ble_eq_true rfl) (fun p e s m below meth c ls hx hb hr hlocks hml hown hB hF hA hl hS htb => ?_)
  have hK := hF.1
  have hl : lv_has ls 2 [(0, .ref (b + k)), (1, .int a1)] := hl
  unfold f_X7_servedIn at h
  refine lv_aload_n hx hb dX7_servedIn_0 rfl (lv_at hl 0 rfl) ?_
  refine ce_g_7_0 hx hb hB hown hK hA hk ce_w223 dX7_servedIn_1 ?_
  refine lv_iload_n hx hb dX7_servedIn_4 rfl (lv_at hl 1 rfl) ?_
  obtain ⟨x1, g2, h⟩ := ce_b1_e h
  refine ce_callVi (As := [.int a1]) (rest := []) hx hb hml hown hB (c_X6_isSubscriber l X G b (ce_kf_7_0 hk) g2) ce_v_X6_isSubscriber ce_w626 ⟨Nat.le_of_ble_eq_true rfl, Nat.le_of_ble_eq_true rfl⟩ hF hA hS (ce_rc_6 hK hA (ce_kf_7_0 hk)) hl rfl rfl (Nat.le_of_ble_eq_true rfl) dX7_servedIn_5 ⟨Nat.le_of_ble_eq_true rfl, Nat.le_of_ble_eq_true rfl⟩ (fun H locs hA hS => ?_)
  obtain ⟨t3, g4, h⟩ := ce_b1_e h
  by_cases c5 : t3 = 0
  · have h := ce_it c5 h
    rw [c5] at g4
    refine ce_callSXv (tc := 0) (As := [.int x1]) (rest := []) hx hb hml hown hB (c0_X7_needIndex l hfl X G b  g4) ce_s_X7_needIndex ce_w309 ⟨Nat.le_of_ble_eq_true rfl, Nat.le_of_ble_eq_true rfl⟩ hF hA hS hl rfl rfl (Nat.le_of_ble_eq_true rfl) dX7_servedIn_8 ⟨(Nat.le_of_ble_eq_true rfl), (Nat.le_of_ble_eq_true rfl)⟩ (fun _ H locs hA hS => ?_) (fun lt => absurd rfl lt)
    refine lv_aload_n hx hb dX7_servedIn_11 rfl (lv_at hl 0 rfl) ?_
    refine ce_g_7_0 hx hb hB hown hK hA hk ce_w223 dX7_servedIn_12 ?_
    refine lv_iload_n hx hb dX7_servedIn_15 rfl (lv_at hl 1 rfl) ?_
    obtain ⟨x6, g7, h⟩ := ce_b1_e h
    refine ce_callVi (As := [.int a1]) (rest := []) hx hb hml hown hB (c_X6_ticksUntilServed l X G b (ce_kf_7_0 hk) g7) ce_v_X6_ticksUntilServed ce_w745 ⟨Nat.le_of_ble_eq_true rfl, Nat.le_of_ble_eq_true rfl⟩ hF hA hS (ce_rc_6 hK hA (ce_kf_7_0 hk)) hl rfl rfl (Nat.le_of_ble_eq_true rfl) dX7_servedIn_16 ⟨Nat.le_of_ble_eq_true rfl, Nat.le_of_ble_eq_true rfl⟩ (fun H locs hA hS => ?_)
    cases h
    exact ce_iretX hx hb hr hlocks hA hS (Nat.le_of_ble_eq_true rfl) (Nat.le_of_ble_eq_true rfl) dX7_servedIn_19
  · have h := ce_ie c5 h
    cases h
    exact absurd rfl c5
set_option maxRecDepth 100000 in
set_option maxHeartbeats 4000000 in
theorem c0_X7_emptyIn (l : Launch) (hfl : l.stackTraces = false) (X : ce_X) (G : ce_G) (b : Nat) {k : Nat} {a1 : Int32} {M : ce_M} (hk : ce_kd k = 7) {M' : ce_M} {r : Int32} (h : f_X7_emptyIn k M a1 = some (M', r, 0)) : ce_CtX l yX7_emptyIn cX7_emptyIn 2 (some .int) 7 110 0 0 X G b [.ref (b + k), .int a1] M (some (.int r)) M' 0 := by
  refine ce_ofWX (own := RX7) (by decide) rfl (Nat.le_of_ble_eq_true rfl) (fun p e s m below meth c ls hx hb hr hlocks hml hown hB hF hA hl hS htb => ?_)
  have hK := hF.1
  have hl : lv_has ls 2 [(0, .ref (b + k)), (1, .int a1)] := hl
  unfold f_X7_emptyIn at h
  refine lv_aload_n hx hb dX7_emptyIn_0 rfl (lv_at hl 0 rfl) ?_
  refine ce_g_7_0 hx hb hB hown hK hA hk ce_w223 dX7_emptyIn_1 ?_
  refine lv_iload_n hx hb dX7_emptyIn_4 rfl (lv_at hl 1 rfl) ?_
  obtain ⟨x1, g2, h⟩ := ce_b1_e h
  refine ce_callVi (As := [.int a1]) (rest := []) hx hb hml hown hB (c_X6_isSubscriber l X G b (ce_kf_7_0 hk) g2) ce_v_X6_isSubscriber ce_w626 ⟨Nat.le_of_ble_eq_true rfl, Nat.le_of_ble_eq_true rfl⟩ hF hA hS (ce_rc_6 hK hA (ce_kf_7_0 hk)) hl rfl rfl (Nat.le_of_ble_eq_true rfl) dX7_emptyIn_5 ⟨Nat.le_of_ble_eq_true rfl, Nat.le_of_ble_eq_true rfl⟩ (fun H locs hA hS => ?_)
  obtain ⟨t3, g4, h⟩ := ce_b1_e h
  by_cases c5 : t3 = 0
  · have h := ce_it c5 h
    rw [c5] at g4
    refine ce_callSXv (tc := 0) (As := [.int x1]) (rest := []) hx hb hml hown hB (c0_X7_needIndex l hfl X G b  g4) ce_s_X7_needIndex ce_w309 ⟨Nat.le_of_ble_eq_true rfl, Nat.le_of_ble_eq_true rfl⟩ hF hA hS hl rfl rfl (Nat.le_of_ble_eq_true rfl) dX7_emptyIn_8 ⟨(Nat.le_of_ble_eq_true rfl), (Nat.le_of_ble_eq_true rfl)⟩ (fun _ H locs hA hS => ?_) (fun lt => absurd rfl lt)
    refine lv_aload_n hx hb dX7_emptyIn_11 rfl (lv_at hl 0 rfl) ?_
    refine ce_g_7_1 hx hb hB hown hK hA hk ce_w224 dX7_emptyIn_12 ?_
    refine lv_aload_n hx hb dX7_emptyIn_15 rfl (lv_at hl 0 rfl) ?_
    refine ce_g_7_0 hx hb hB hown hK hA hk ce_w223 dX7_emptyIn_16 ?_
    obtain ⟨M6, g7, h⟩ := ce_b1_e h
    refine ce_callVv (As := [.ref (b + (k + 1))]) (rest := []) hx hb hml hown hB (c_X6_copyFrom l X G b (ce_kf_7_1 hk) (ce_kf_7_0 hk) g7) ce_v_X6_copyFrom ce_w760 ⟨Nat.le_of_ble_eq_true rfl, Nat.le_of_ble_eq_true rfl⟩ hF hA hS (ce_rc_6 hK hA (ce_kf_7_1 hk)) hl rfl rfl (Nat.le_of_ble_eq_true rfl) dX7_emptyIn_19 ⟨Nat.le_of_ble_eq_true rfl, Nat.le_of_ble_eq_true rfl⟩ (fun H locs hA hS => ?_)
    refine lv_aload_n hx hb dX7_emptyIn_22 rfl (lv_at hl 0 rfl) ?_
    refine ce_g_7_1 hx hb hB hown hK hA hk ce_w224 dX7_emptyIn_23 ?_
    refine lv_iload_n hx hb dX7_emptyIn_26 rfl (lv_at hl 1 rfl) ?_
    obtain ⟨M8, x9, g10, h⟩ := ce_b2_e h
    refine ce_callVi (As := [.int a1]) (rest := []) hx hb hml hown hB (c_X6_passUntilEmpty l X G b (ce_kf_7_1 hk) g10) ce_v_X6_passUntilEmpty ce_w761 ⟨Nat.le_of_ble_eq_true rfl, Nat.le_of_ble_eq_true rfl⟩ hF hA hS (ce_rc_6 hK hA (ce_kf_7_1 hk)) hl rfl rfl (Nat.le_of_ble_eq_true rfl) dX7_emptyIn_27 ⟨Nat.le_of_ble_eq_true rfl, Nat.le_of_ble_eq_true rfl⟩ (fun H locs hA hS => ?_)
    cases h
    exact ce_iretX hx hb hr hlocks hA hS (Nat.le_of_ble_eq_true rfl) (Nat.le_of_ble_eq_true rfl) dX7_emptyIn_30
  · have h := ce_ie c5 h
    cases h
    exact absurd rfl c5
set_option maxRecDepth 100000 in
set_option maxHeartbeats 4000000 in
theorem c0_X7_covered (l : Launch) (hfl : l.stackTraces = false) (X : ce_X) (G : ce_G) (b : Nat) {k : Nat} {a1 : Int32} {M : ce_M} (hk : ce_kd k = 7) {r : Int32} (h : f_X7_covered k M a1 = some (r, 0)) : ce_CtX l yX7_covered cX7_covered 2 (some .int) 7 101 0 0 X G b [.ref (b + k), .int a1] M (some (.int r)) M 0 := by
  refine ce_ofWX (own := RX7) (by decide) rfl (Nat.le_of_ble_eq_true rfl) (fun p e s m below meth c ls hx hb hr hlocks hml hown hB hF hA hl hS htb => ?_)
  have hK := hF.1
  have hl : lv_has ls 2 [(0, .ref (b + k)), (1, .int a1)] := hl
  unfold f_X7_covered at h
  refine lv_aload_n hx hb dX7_covered_0 rfl (lv_at hl 0 rfl) ?_
  refine ce_g_7_0 hx hb hB hown hK hA hk ce_w223 dX7_covered_1 ?_
  refine lv_iload_n hx hb dX7_covered_4 rfl (lv_at hl 1 rfl) ?_
  obtain ⟨x1, g2, h⟩ := ce_b1_e h
  refine ce_callVi (As := [.int a1]) (rest := []) hx hb hml hown hB (c_X6_isSubscriber l X G b (ce_kf_7_0 hk) g2) ce_v_X6_isSubscriber ce_w626 ⟨Nat.le_of_ble_eq_true rfl, Nat.le_of_ble_eq_true rfl⟩ hF hA hS (ce_rc_6 hK hA (ce_kf_7_0 hk)) hl rfl rfl (Nat.le_of_ble_eq_true rfl) dX7_covered_5 ⟨Nat.le_of_ble_eq_true rfl, Nat.le_of_ble_eq_true rfl⟩ (fun H locs hA hS => ?_)
  obtain ⟨t3, g4, h⟩ := ce_b1_e h
  by_cases c5 : t3 = 0
  · have h := ce_it c5 h
    rw [c5] at g4
    refine ce_callSXv (tc := 0) (As := [.int x1]) (rest := []) hx hb hml hown hB (c0_X7_needIndex l hfl X G b  g4) ce_s_X7_needIndex ce_w309 ⟨Nat.le_of_ble_eq_true rfl, Nat.le_of_ble_eq_true rfl⟩ hF hA hS hl rfl rfl (Nat.le_of_ble_eq_true rfl) dX7_covered_8 ⟨(Nat.le_of_ble_eq_true rfl), (Nat.le_of_ble_eq_true rfl)⟩ (fun _ H locs hA hS => ?_) (fun lt => absurd rfl lt)
    refine lv_aload_n hx hb dX7_covered_11 rfl (lv_at hl 0 rfl) ?_
    refine ce_g_7_0 hx hb hB hown hK hA hk ce_w223 dX7_covered_12 ?_
    refine ce_g_6_1 hx hb hB hown hK hA (ce_kf_7_0 hk) ce_w157 dX7_covered_15 ?_
    refine lv_iload_n hx hb dX7_covered_18 rfl (lv_at hl 1 rfl) ?_
    obtain ⟨i7, h⟩ := ce_gi_e h
    obtain ⟨k6, e8, h⟩ := ce_nm_e h
    have hk6 : ce_kd k6 = 4 := e8 ▸ ce_kf_sub (ce_kf_6_1 (ce_kf_7_0 hk)) (ce_in_lt i7)
    refine ce_aaldS hx hb hK hA (ce_kf_6_1 (ce_kf_7_0 hk)) i7 dX7_covered_19 ?_
    refine ce_topr e8 ?_
    obtain ⟨x9, g10, h⟩ := ce_b1_e h
    refine ce_callVi (As := []) (rest := []) hx hb hml hown hB (c_X4_coverage l X G b hk6 g10) ce_v_X4_coverage ce_w772 ⟨Nat.le_of_ble_eq_true rfl, Nat.le_of_ble_eq_true rfl⟩ hF hA hS (ce_rc_4 hK hA hk6) hl rfl rfl (Nat.le_of_ble_eq_true rfl) dX7_covered_20 ⟨Nat.le_of_ble_eq_true rfl, Nat.le_of_ble_eq_true rfl⟩ (fun H locs hA hS => ?_)
    cases h
    exact ce_iretX hx hb hr hlocks hA hS (Nat.le_of_ble_eq_true rfl) (Nat.le_of_ble_eq_true rfl) dX7_covered_23
  · have h := ce_ie c5 h
    cases h
    exact absurd rfl c5
set_option maxRecDepth 100000 in
set_option maxHeartbeats 4000000 in
theorem c0_X7_undo (l : Launch) (hfl : l.stackTraces = false) (X : ce_X) (G : ce_G) (b : Nat) {k : Nat} {M : ce_M} (hk : ce_kd k = 7) {M' : ce_M} {r : Int32} (h : f_X7_undo k M = some (M', r, 0)) : ce_CtX l yX7_undo cX7_undo 1 (some .int) 7 125 0 0 X G b [.ref (b + k)] M (some (.int r)) M' 0 := by
  refine ce_ofWX (own := RX7) (by decide) rfl (Nat.le_of_ble_eq_true rfl) (fun p e s m below meth c ls hx hb hr hlocks hml hown hB hF hA hl hS htb => ?_)
  have hK := hF.1
  have hl : lv_has ls 1 [(0, .ref (b + k))] := hl
  unfold f_X7_undo at h
  refine lv_aload_n hx hb dX7_undo_0 rfl (lv_at hl 0 rfl) ?_
  refine ce_g_7_2 hx hb hB hown hK hA hk ce_w225 dX7_undo_1 ?_
  refine ce_g_5_2 hx hb hB hown hK hA (ce_kf_7_2 hk) ce_w192 dX7_undo_4 ?_
  obtain ⟨u2, e9, h⟩ := ce_nm_e h
  have Ju2 : ∀ (x1 : Int32), u2 x1 = some (M', r, 0) → ce_Wg p l e (ce_R 7 125 0 0) s m (([.ref (b + k)] : List Value).toArray) below meth c 0 0 (vx_MQ below (ce_QT X b M' (some (.int r)) 0) (ce_XT X b M' 0) ([.ref (b + k)] : List Value).toArray s 0 0 (ce_Ab b)) X b M 1 [(0, .ref (b + k))] 15 [.int x1] := by
    intro x1 h  H locs ls hA hS hl
    subst e9
    obtain ⟨t3, g4, h⟩ := ce_b1_e h
    by_cases c5 : t3 = 0
    · have h := ce_it c5 h
      rw [c5] at g4
      refine ce_callSXv (tc := 0) (As := [.int x1]) (rest := []) hx hb hml hown hB (c0_X7_needState l hfl X G b  g4) ce_s_X7_needState ce_w393 ⟨Nat.le_of_ble_eq_true rfl, Nat.le_of_ble_eq_true rfl⟩ hF hA hS hl rfl rfl (Nat.le_of_ble_eq_true rfl) dX7_undo_15 ⟨(Nat.le_of_ble_eq_true rfl), (Nat.le_of_ble_eq_true rfl)⟩ (fun _ H locs hA hS => ?_) (fun lt => absurd rfl lt)
      refine lv_aload_n hx hb dX7_undo_18 rfl (lv_at hl 0 rfl) ?_
      refine ce_g_7_2 hx hb hB hown hK hA hk ce_w225 dX7_undo_19 ?_
      refine lv_aload_n hx hb dX7_undo_22 rfl (lv_at hl 0 rfl) ?_
      refine ce_g_7_0 hx hb hB hown hK hA hk ce_w223 dX7_undo_23 ?_
      obtain ⟨M6, x7, g8, h⟩ := ce_b2_e h
      refine ce_callVi (As := [.ref (b + (k + 1))]) (rest := []) hx hb hml hown hB (c_X5_restoreTo l X G b (ce_kf_7_2 hk) (ce_kf_7_0 hk) g8) ce_v_X5_restoreTo ce_w610 ⟨Nat.le_of_ble_eq_true rfl, Nat.le_of_ble_eq_true rfl⟩ hF hA hS (ce_rc_5 hK hA (ce_kf_7_2 hk)) hl rfl rfl (Nat.le_of_ble_eq_true rfl) dX7_undo_26 ⟨Nat.le_of_ble_eq_true rfl, Nat.le_of_ble_eq_true rfl⟩ (fun H locs hA hS => ?_)
      cases h
      exact ce_iretX hx hb hr hlocks hA hS (Nat.le_of_ble_eq_true rfl) (Nat.le_of_ble_eq_true rfl) dX7_undo_29
    · have h := ce_ie c5 h
      cases h
      exact absurd rfl c5
  refine lv_if_le (tgt := 14) hx hb dX7_undo_7 (by decide) (fun c10 => ?_) (fun c10 => ?_)
  · have h := ce_it c10 h
    refine lv_iconst (v := 0) hx hb dX7_undo_14 (by decide) ?_
    exact Ju2 0 h  _ _ _ hA hS (lv_sub hl [0] rfl)
  · have h := ce_ie c10 h
    refine lv_iconst (v := 1) hx hb dX7_undo_10 (by decide) ?_
    refine lv_goto (tgt := 15) hx hb dX7_undo_11 (by decide) ?_
    exact Ju2 1 h  _ _ _ hA hS (lv_sub hl [0] rfl)
