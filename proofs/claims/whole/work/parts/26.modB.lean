def f_X8_quits (k : Nat) (M : ce_M) (a1 : Int32) : Option (ce_M × Int32) :=
  ce_b1 (f_X8_isOne k M a1) (fun (x1 : Int32) =>
  if x1 = 0 then
    some (M, 1)
  else
    ce_b1 (f_X8_of k M a1 5) (fun (x4 : Int32) =>
    if x4 = 0 then
      some (M, 2)
    else
      ce_b1 (f_X8_of k M a1 6) (fun (x7 : Int32) =>
      ce_nm (ce_wr M k 5 x7) (fun (M9 : ce_M) =>
      ce_gi 7 816 (ce_nm (ce_rd M9 (k + 1) (Int32.toNatClampNeg 7)) (fun (x11 : Int32) =>
      ce_gi 7 816 (ce_nm (ce_wr M9 (k + 1) (Int32.toNatClampNeg 7) (x11 + (ce_rd M9 k 5))) (fun (M14 : ce_M) =>
      ce_b1 (f_X8_put k M14 a1 6 0) (fun (M17 : ce_M) =>
      ce_b1 (f_X8_put k M17 a1 5 0) (fun (M19 : ce_M) =>
      ce_b1 (f_X8_endsStay k M19 a1) (fun (M21 : ce_M) =>
      some (M21, 0))))))))))))
set_option maxRecDepth 100000 in
set_option maxHeartbeats 4000000 in
theorem c_X8_quits (l : Launch) (X : ce_X) (G : ce_G) (b : Nat) {k : Nat} {a1 : Int32} {M : ce_M} (hk : ce_kd k = 8) {M' : ce_M} {r : Int32} (h : f_X8_quits k M a1 = some (M', r)) : ce_Ct l yX8_quits cX8_quits 2 (some .int) 2 44 X G b [.ref (b + k), .int a1] M (some (.int r)) M' := by
  refine ce_ofW (own := RX8) (by decide) rfl (Nat.le_of_ble_eq_true rfl) (fun p e s m below meth c ls hx hb hr hlocks hml hown hB hF hA hl hS => ?_)
  have hK := hF.1
  have hl : lv_has ls 2 [(0, .ref (b + k)), (1, .int a1)] := hl
  unfold f_X8_quits at h
  refine lv_aload_n hx hb dX8_quits_0 rfl (lv_at hl 0 rfl) ?_
  refine lv_iload_n hx hb dX8_quits_1 rfl (lv_at hl 1 rfl) ?_
  obtain ⟨x1, g2, h⟩ := ce_b1_e h
  refine ce_callVi (As := [.int a1]) (rest := []) hx hb hml hown hB (c_X8_isOne l X G b hk g2) ce_v_X8_isOne ce_w1053 ⟨Nat.le_of_ble_eq_true rfl, Nat.le_of_ble_eq_true rfl⟩ hF hA hS (ce_rc_8 hK hA hk) hl rfl rfl (Nat.le_of_ble_eq_true rfl) dX8_quits_2 ⟨Nat.le_of_ble_eq_true rfl, Nat.le_of_ble_eq_true rfl⟩ (fun H locs hA hS => ?_)
  refine lv_if_ne (tgt := 10) hx hb dX8_quits_5 (by decide) (fun c3 => ?_) (fun c3 => ?_)
  · have h := ce_ie c3 h
    refine lv_aload_n hx hb dX8_quits_10 rfl (lv_at hl 0 rfl) ?_
    refine lv_iload_n hx hb dX8_quits_11 rfl (lv_at hl 1 rfl) ?_
    refine lv_iconst (v := 5) hx hb dX8_quits_12 (by decide) ?_
    obtain ⟨x4, g5, h⟩ := ce_b1_e h
    refine ce_callVi (As := [.int a1, .int 5]) (rest := []) hx hb hml hown hB (c_X8_of l X G b hk g5) ce_v_X8_of ce_w1017 ⟨Nat.le_of_ble_eq_true rfl, Nat.le_of_ble_eq_true rfl⟩ hF hA hS (ce_rc_8 hK hA hk) hl rfl rfl (Nat.le_of_ble_eq_true rfl) dX8_quits_13 ⟨Nat.le_of_ble_eq_true rfl, Nat.le_of_ble_eq_true rfl⟩ (fun H locs hA hS => ?_)
    refine lv_if_ne (tgt := 21) hx hb dX8_quits_16 (by decide) (fun c6 => ?_) (fun c6 => ?_)
    · have h := ce_ie c6 h
      refine lv_aload_n hx hb dX8_quits_21 rfl (lv_at hl 0 rfl) ?_
      refine lv_aload_n hx hb dX8_quits_22 rfl (lv_at hl 0 rfl) ?_
      refine lv_iload_n hx hb dX8_quits_23 rfl (lv_at hl 1 rfl) ?_
      refine lv_bipush (v := 6) hx hb dX8_quits_24 (by decide) ?_
      obtain ⟨x7, g8, h⟩ := ce_b1_e h
      refine ce_callVi (As := [.int a1, .int 6]) (rest := [.ref (b + k)]) hx hb hml hown hB (c_X8_of l X G b hk g8) ce_v_X8_of ce_w1017 ⟨Nat.le_of_ble_eq_true rfl, Nat.le_of_ble_eq_true rfl⟩ hF hA hS (ce_rc_8 hK hA hk) hl rfl rfl (Nat.le_of_ble_eq_true rfl) dX8_quits_26 ⟨Nat.le_of_ble_eq_true rfl, Nat.le_of_ble_eq_true rfl⟩ (fun H locs hA hS => ?_)
      obtain ⟨M9, e10, h⟩ := ce_nm_e h
      refine ce_p_8_5 hx hb hB hown hK hA hS hk ce_w949 dX8_quits_29 e10 (fun H locs hA hS => ?_)
      refine lv_aload_n hx hb dX8_quits_32 rfl (lv_at hl 0 rfl) ?_
      refine ce_g_8_0 hx hb hB hown hK hA hk ce_w944 dX8_quits_33 ?_
      refine lv_bipush (v := 7) hx hb dX8_quits_36 (by decide) ?_
      refine lv_dup2_11 hx hb dX8_quits_38 rfl rfl ?_
      obtain ⟨i12, h⟩ := ce_gi_e h
      obtain ⟨x11, e13, h⟩ := ce_nm_e h
      refine ce_iald hx hb hK hA 816 (ce_kf_8_0 hk) i12 e13 dX8_quits_39 ?_
      refine lv_aload_n hx hb dX8_quits_40 rfl (lv_at hl 0 rfl) ?_
      refine ce_g_8_5 hx hb hB hown hK hA hk ce_w949 dX8_quits_41 ?_
      refine lv_iadd hx hb dX8_quits_44 ?_
      obtain ⟨i15, h⟩ := ce_gi_e h
      obtain ⟨M14, e16, h⟩ := ce_nm_e h
      refine ce_iast hx hb hK hA hS 816 (ce_kf_8_0 hk) i15 dX8_quits_45 e16 (fun H locs hA hS => ?_)
      refine lv_aload_n hx hb dX8_quits_46 rfl (lv_at hl 0 rfl) ?_
      refine lv_iload_n hx hb dX8_quits_47 rfl (lv_at hl 1 rfl) ?_
      refine lv_bipush (v := 6) hx hb dX8_quits_48 (by decide) ?_
      refine lv_iconst (v := 0) hx hb dX8_quits_50 (by decide) ?_
      obtain ⟨M17, g18, h⟩ := ce_b1_e h
      refine ce_callVv (As := [.int a1, .int 6, .int 0]) (rest := []) hx hb hml hown hB (c_X8_put l X G b hk g18) ce_v_X8_put ce_w1009 ⟨Nat.le_of_ble_eq_true rfl, Nat.le_of_ble_eq_true rfl⟩ hF hA hS (ce_rc_8 hK hA hk) hl rfl rfl (Nat.le_of_ble_eq_true rfl) dX8_quits_51 ⟨Nat.le_of_ble_eq_true rfl, Nat.le_of_ble_eq_true rfl⟩ (fun H locs hA hS => ?_)
      refine lv_aload_n hx hb dX8_quits_54 rfl (lv_at hl 0 rfl) ?_
      refine lv_iload_n hx hb dX8_quits_55 rfl (lv_at hl 1 rfl) ?_
      refine lv_iconst (v := 5) hx hb dX8_quits_56 (by decide) ?_
      refine lv_iconst (v := 0) hx hb dX8_quits_57 (by decide) ?_
      obtain ⟨M19, g20, h⟩ := ce_b1_e h
      refine ce_callVv (As := [.int a1, .int 5, .int 0]) (rest := []) hx hb hml hown hB (c_X8_put l X G b hk g20) ce_v_X8_put ce_w1009 ⟨Nat.le_of_ble_eq_true rfl, Nat.le_of_ble_eq_true rfl⟩ hF hA hS (ce_rc_8 hK hA hk) hl rfl rfl (Nat.le_of_ble_eq_true rfl) dX8_quits_58 ⟨Nat.le_of_ble_eq_true rfl, Nat.le_of_ble_eq_true rfl⟩ (fun H locs hA hS => ?_)
      refine lv_aload_n hx hb dX8_quits_61 rfl (lv_at hl 0 rfl) ?_
      refine lv_iload_n hx hb dX8_quits_62 rfl (lv_at hl 1 rfl) ?_
      obtain ⟨M21, g22, h⟩ := ce_b1_e h
      refine ce_callVv (As := [.int a1]) (rest := []) hx hb hml hown hB (c_X8_endsStay l X G b hk g22) ce_v_X8_endsStay ce_w1065 ⟨Nat.le_of_ble_eq_true rfl, Nat.le_of_ble_eq_true rfl⟩ hF hA hS (ce_rc_8 hK hA hk) hl rfl rfl (Nat.le_of_ble_eq_true rfl) dX8_quits_63 ⟨Nat.le_of_ble_eq_true rfl, Nat.le_of_ble_eq_true rfl⟩ (fun H locs hA hS => ?_)
      refine lv_iconst (v := 0) hx hb dX8_quits_66 (by decide) ?_
      cases h
      exact ce_iret hx hb hr hlocks hA hS dX8_quits_67
    · have h := ce_it c6 h
      refine lv_iconst (v := 2) hx hb dX8_quits_19 (by decide) ?_
      cases h
      exact ce_iret hx hb hr hlocks hA hS dX8_quits_20
  · have h := ce_it c3 h
    refine lv_iconst (v := 1) hx hb dX8_quits_8 (by decide) ?_
    cases h
    exact ce_iret hx hb hr hlocks hA hS dX8_quits_9
def f_X8_sets (k : Nat) (M : ce_M) (a1 : Int32) (a2 : Int32) : Option (ce_M × Int32) :=
  ce_b1 (f_X8_in M a1 0 3) (fun (x1 : Int32) =>
  if x1 = 0 then
    some (M, 1)
  else
    ce_nm (fun (x4 : Int32) =>
      ce_nm (fun (x6 : Int32) =>
          ce_b1 (f_X8_in M a2 x6 x4) (fun (x8 : Int32) =>
          if x8 = 0 then
            some (M, 1)
          else
            ce_b1 (f_X8_setting k M a1) (fun (x11 : Int32) =>
            ce_nm (ce_wr M k 5 x11) (fun (M13 : ce_M) =>
            ce_gi (3 + a1) 816 (ce_nm (ce_wr M13 (k + 1) (Int32.toNatClampNeg (3 + a1)) a2) (fun (M15 : ce_M) =>
            some (M15, 0))))))) (fun (u7 : Int32 → Option (ce_M × Int32)) =>
      if a1 = 1 then
        u7 1
      else
        u7 0)) (fun (u5 : Int32 → Option (ce_M × Int32)) =>
    if a1 = 3 then
      u5 20
    else
      u5 9))
set_option maxRecDepth 100000 in
set_option maxHeartbeats 4000000 in
theorem c_X8_sets (l : Launch) (X : ce_X) (G : ce_G) (b : Nat) {k : Nat} {a1 : Int32} {a2 : Int32} {M : ce_M} (hk : ce_kd k = 8) {M' : ce_M} {r : Int32} (h : f_X8_sets k M a1 a2 = some (M', r)) : ce_Ct l yX8_sets cX8_sets 4 (some .int) 1 22 X G b [.ref (b + k), .int a1, .int a2] M (some (.int r)) M' := by
  refine ce_ofW (own := RX8) (by decide) rfl (Nat.le_of_ble_eq_true rfl) (fun p e s m below meth c ls hx hb hr hlocks hml hown hB hF hA hl hS => ?_)
  have hK := hF.1
  have hl : lv_has ls 4 [(0, .ref (b + k)), (1, .int a1), (2, .int a2)] := hl
  unfold f_X8_sets at h
  refine lv_iload_n hx hb dX8_sets_0 rfl (lv_at hl 1 rfl) ?_
  refine lv_iconst (v := 0) hx hb dX8_sets_1 (by decide) ?_
  refine lv_iconst (v := 3) hx hb dX8_sets_2 (by decide) ?_
  obtain ⟨x1, g2, h⟩ := ce_b1_e h
  refine ce_callSi (As := [.int a1, .int 0, .int 3]) (rest := []) hx hb hml hown hB (c_X8_in l X G b  g2) ce_s_X8_in ce_w1003 ⟨Nat.le_of_ble_eq_true rfl, Nat.le_of_ble_eq_true rfl⟩ hF hA hS hl rfl rfl (Nat.le_of_ble_eq_true rfl) dX8_sets_3 ⟨Nat.le_of_ble_eq_true rfl, Nat.le_of_ble_eq_true rfl⟩ (fun H locs hA hS => ?_)
  refine lv_if_ne (tgt := 11) hx hb dX8_sets_6 (by decide) (fun c3 => ?_) (fun c3 => ?_)
  · have h := ce_ie c3 h
    refine lv_iload_n hx hb dX8_sets_11 rfl (lv_at hl 1 rfl) ?_
    refine lv_iconst (v := 3) hx hb dX8_sets_12 (by decide) ?_
    obtain ⟨u5, e20, h⟩ := ce_nm_e h
    have Ju5 : ∀ (x4 : Int32), u5 x4 = some (M', r) → ce_Wg p l e (ce_R 1 22 0 0) s m (([.ref (b + k), .int a1, .int a2] : List Value).toArray) below meth c 0 0 (MQ below (ce_Q X b M' (some (.int r))) ([.ref (b + k), .int a1, .int a2] : List Value).toArray s 0 0 (ce_Ab b)) X b M 4 [(0, .ref (b + k)), (1, .int a1), (2, .int a2)] 23 [.int x4] := by
      intro x4 h  H locs ls hA hS hl
      subst e20
      refine lv_istore_n (lv' := [(3, .int x4), (0, .ref (b + k)), (1, .int a1), (2, .int a2)]) hx hb dX8_sets_23 rfl hl (by decide) rfl (fun ls hl => ?_)
      refine lv_iload_n hx hb dX8_sets_24 rfl (lv_at hl 3 rfl) ?_
      refine lv_iload_n hx hb dX8_sets_25 rfl (lv_at hl 2 rfl) ?_
      refine lv_iconst (v := 1) hx hb dX8_sets_26 (by decide) ?_
      obtain ⟨u7, e18, h⟩ := ce_nm_e h
      have Ju7 : ∀ (x6 : Int32), u7 x6 = some (M', r) → ce_Wg p l e (ce_R 1 22 0 0) s m (([.ref (b + k), .int a1, .int a2] : List Value).toArray) below meth c 0 0 (MQ below (ce_Q X b M' (some (.int r))) ([.ref (b + k), .int a1, .int a2] : List Value).toArray s 0 0 (ce_Ab b)) X b M 4 [(0, .ref (b + k)), (1, .int a1), (2, .int a2), (3, .int x4)] 35 [.int x6, .int a2] := by
        intro x6 h  H locs ls hA hS hl
        subst e18
        refine lv_iload_n hx hb dX8_sets_35 rfl (lv_at hl 3 rfl) ?_
        obtain ⟨x8, g9, h⟩ := ce_b1_e h
        refine ce_callSi (As := [.int a2, .int x6, .int x4]) (rest := []) hx hb hml hown hB (c_X8_in l X G b  g9) ce_s_X8_in ce_w1003 ⟨Nat.le_of_ble_eq_true rfl, Nat.le_of_ble_eq_true rfl⟩ hF hA hS hl rfl rfl (Nat.le_of_ble_eq_true rfl) dX8_sets_36 ⟨Nat.le_of_ble_eq_true rfl, Nat.le_of_ble_eq_true rfl⟩ (fun H locs hA hS => ?_)
        refine lv_if_ne (tgt := 44) hx hb dX8_sets_39 (by decide) (fun c10 => ?_) (fun c10 => ?_)
        · have h := ce_ie c10 h
          refine lv_aload_n hx hb dX8_sets_44 rfl (lv_at hl 0 rfl) ?_
          refine lv_aload_n hx hb dX8_sets_45 rfl (lv_at hl 0 rfl) ?_
          refine lv_iload_n hx hb dX8_sets_46 rfl (lv_at hl 1 rfl) ?_
          obtain ⟨x11, g12, h⟩ := ce_b1_e h
          refine ce_callVi (As := [.int a1]) (rest := [.ref (b + k)]) hx hb hml hown hB (c_X8_setting l X G b hk g12) ce_v_X8_setting ce_w1081 ⟨Nat.le_of_ble_eq_true rfl, Nat.le_of_ble_eq_true rfl⟩ hF hA hS (ce_rc_8 hK hA hk) hl rfl rfl (Nat.le_of_ble_eq_true rfl) dX8_sets_47 ⟨Nat.le_of_ble_eq_true rfl, Nat.le_of_ble_eq_true rfl⟩ (fun H locs hA hS => ?_)
          obtain ⟨M13, e14, h⟩ := ce_nm_e h
          refine ce_p_8_5 hx hb hB hown hK hA hS hk ce_w949 dX8_sets_50 e14 (fun H locs hA hS => ?_)
          refine lv_aload_n hx hb dX8_sets_53 rfl (lv_at hl 0 rfl) ?_
          refine ce_g_8_0 hx hb hB hown hK hA hk ce_w944 dX8_sets_54 ?_
          refine lv_iconst (v := 3) hx hb dX8_sets_57 (by decide) ?_
          refine lv_iload_n hx hb dX8_sets_58 rfl (lv_at hl 1 rfl) ?_
          refine lv_iadd hx hb dX8_sets_59 ?_
          refine lv_iload_n hx hb dX8_sets_60 rfl (lv_at hl 2 rfl) ?_
          obtain ⟨i16, h⟩ := ce_gi_e h
          obtain ⟨M15, e17, h⟩ := ce_nm_e h
          refine ce_iast hx hb hK hA hS 816 (ce_kf_8_0 hk) i16 dX8_sets_61 e17 (fun H locs hA hS => ?_)
          refine lv_iconst (v := 0) hx hb dX8_sets_62 (by decide) ?_
          cases h
          exact ce_iret hx hb hr hlocks hA hS dX8_sets_63
        · have h := ce_it c10 h
          refine lv_iconst (v := 1) hx hb dX8_sets_42 (by decide) ?_
          cases h
          exact ce_iret hx hb hr hlocks hA hS dX8_sets_43
      refine lv_icmp_ne (tgt := 34) hx hb dX8_sets_27 (by decide) (fun c19 => ?_) (fun c19 => ?_)
      · have h := ce_ie c19 h
        refine lv_iconst (v := 0) hx hb dX8_sets_34 (by decide) ?_
        exact Ju7 0 h  _ _ _ hA hS (lv_sub hl [1, 2, 3, 0] rfl)
      · have h := ce_it c19 h
        refine lv_iconst (v := 1) hx hb dX8_sets_30 (by decide) ?_
        refine lv_goto (tgt := 35) hx hb dX8_sets_31 (by decide) ?_
        exact Ju7 1 h  _ _ _ hA hS (lv_sub hl [1, 2, 3, 0] rfl)
    refine lv_icmp_ne (tgt := 21) hx hb dX8_sets_13 (by decide) (fun c21 => ?_) (fun c21 => ?_)
    · have h := ce_ie c21 h
      refine lv_bipush (v := 9) hx hb dX8_sets_21 (by decide) ?_
      exact Ju5 9 h  _ _ _ hA hS (lv_sub hl [0, 1, 2] rfl)
    · have h := ce_it c21 h
      refine lv_bipush (v := 20) hx hb dX8_sets_16 (by decide) ?_
      refine lv_goto (tgt := 23) hx hb dX8_sets_18 (by decide) ?_
      exact Ju5 20 h  _ _ _ hA hS (lv_sub hl [0, 1, 2] rfl)
  · have h := ce_it c3 h
    refine lv_iconst (v := 1) hx hb dX8_sets_9 (by decide) ?_
    cases h
    exact ce_iret hx hb hr hlocks hA hS dX8_sets_10
def f_X8_isTooLate (k : Nat) (M : ce_M) (a1 : Int32) : Option Int32 :=
  ce_b1 (f_X8_setting k M 3) (fun (x1 : Int32) =>
  if x1 < a1 then
    some 1
  else
    ce_gi 0 816 (ce_nm (ce_rd M (k + 1) (Int32.toNatClampNeg 0)) (fun (x4 : Int32) =>
    if a1 ≤ x4 then
      some 0
    else
      some 1)))
set_option maxRecDepth 100000 in
set_option maxHeartbeats 4000000 in
theorem c_X8_isTooLate (l : Launch) (X : ce_X) (G : ce_G) (b : Nat) {k : Nat} {a1 : Int32} {M : ce_M} (hk : ce_kd k = 8) {r : Int32} (h : f_X8_isTooLate k M a1 = some r) : ce_Ct l yX8_isTooLate cX8_isTooLate 2 (some .boolean) 1 21 X G b [.ref (b + k), .int a1] M (some (.int r)) M := by
  refine ce_ofW (own := RX8) (by decide) rfl (Nat.le_of_ble_eq_true rfl) (fun p e s m below meth c ls hx hb hr hlocks hml hown hB hF hA hl hS => ?_)
  have hK := hF.1
  have hl : lv_has ls 2 [(0, .ref (b + k)), (1, .int a1)] := hl
  unfold f_X8_isTooLate at h
  refine lv_iload_n hx hb dX8_isTooLate_0 rfl (lv_at hl 1 rfl) ?_
  refine lv_aload_n hx hb dX8_isTooLate_1 rfl (lv_at hl 0 rfl) ?_
  refine lv_iconst (v := 3) hx hb dX8_isTooLate_2 (by decide) ?_
  obtain ⟨x1, g2, h⟩ := ce_b1_e h
  refine ce_callVi (As := [.int 3]) (rest := [.int a1]) hx hb hml hown hB (c_X8_setting l X G b hk g2) ce_v_X8_setting ce_w1081 ⟨Nat.le_of_ble_eq_true rfl, Nat.le_of_ble_eq_true rfl⟩ hF hA hS (ce_rc_8 hK hA hk) hl rfl rfl (Nat.le_of_ble_eq_true rfl) dX8_isTooLate_3 ⟨Nat.le_of_ble_eq_true rfl, Nat.le_of_ble_eq_true rfl⟩ (fun H locs hA hS => ?_)
  refine lv_icmp_gt (tgt := 19) hx hb dX8_isTooLate_6 (by decide) (fun c3 => ?_) (fun c3 => ?_)
  · have h := ce_it c3 h
    refine lv_iconst (v := 1) hx hb dX8_isTooLate_19 (by decide) ?_
    refine lv_goto (tgt := 24) hx hb dX8_isTooLate_20 (by decide) ?_
    cases h
    exact ce_zret hx hb hr hlocks (Or.inr rfl) hA hS dX8_isTooLate_24
  · have h := ce_ie c3 h
    refine lv_iload_n hx hb dX8_isTooLate_9 rfl (lv_at hl 1 rfl) ?_
    refine lv_aload_n hx hb dX8_isTooLate_10 rfl (lv_at hl 0 rfl) ?_
    refine ce_g_8_0 hx hb hB hown hK hA hk ce_w944 dX8_isTooLate_11 ?_
    refine lv_iconst (v := 0) hx hb dX8_isTooLate_14 (by decide) ?_
    obtain ⟨i5, h⟩ := ce_gi_e h
    obtain ⟨x4, e6, h⟩ := ce_nm_e h
    refine ce_iald hx hb hK hA 816 (ce_kf_8_0 hk) i5 e6 dX8_isTooLate_15 ?_
    refine lv_icmp_le (tgt := 23) hx hb dX8_isTooLate_16 (by decide) (fun c7 => ?_) (fun c7 => ?_)
    · have h := ce_it c7 h
      refine lv_iconst (v := 0) hx hb dX8_isTooLate_23 (by decide) ?_
      cases h
      exact ce_zret hx hb hr hlocks (Or.inl rfl) hA hS dX8_isTooLate_24
    · have h := ce_ie c7 h
      refine lv_iconst (v := 1) hx hb dX8_isTooLate_19 (by decide) ?_
      refine lv_goto (tgt := 24) hx hb dX8_isTooLate_20 (by decide) ?_
      cases h
      exact ce_zret hx hb hr hlocks (Or.inr rfl) hA hS dX8_isTooLate_24
def f_X8_arrives (k : Nat) (M : ce_M) (a1 : Int32) (a2 : Int32) : Option ce_M :=
  ce_b1 (f_X8_of k M a1 6) (fun (x1 : Int32) =>
  if x1 = 12 then
    ce_b1 (f_X8_adds k M a1 8 1) (fun (M10 : ce_M) =>
    some M10)
  else
    ce_b1 (f_X8_of k M a1 6) (fun (x4 : Int32) =>
    ce_b1 (f_X8_put k M a1 (12 + x4) a2) (fun (M6 : ce_M) =>
    ce_b1 (f_X8_adds k M6 a1 6 1) (fun (M8 : ce_M) =>
    some M8))))
set_option maxRecDepth 100000 in
set_option maxHeartbeats 4000000 in
theorem c_X8_arrives (l : Launch) (X : ce_X) (G : ce_G) (b : Nat) {k : Nat} {a1 : Int32} {a2 : Int32} {M : ce_M} (hk : ce_kd k = 8) {M' : ce_M} (h : f_X8_arrives k M a1 a2 = some M') : ce_Ct l yX8_arrives cX8_arrives 3 none 1 23 X G b [.ref (b + k), .int a1, .int a2] M none M' := by
  refine ce_ofW (own := RX8) (by decide) rfl (Nat.le_of_ble_eq_true rfl) (fun p e s m below meth c ls hx hb hr hlocks hml hown hB hF hA hl hS => ?_)
  have hK := hF.1
  have hl : lv_has ls 3 [(0, .ref (b + k)), (1, .int a1), (2, .int a2)] := hl
  unfold f_X8_arrives at h
  refine lv_aload_n hx hb dX8_arrives_0 rfl (lv_at hl 0 rfl) ?_
  refine lv_iload_n hx hb dX8_arrives_1 rfl (lv_at hl 1 rfl) ?_
  refine lv_bipush (v := 6) hx hb dX8_arrives_2 (by decide) ?_
  obtain ⟨x1, g2, h⟩ := ce_b1_e h
  refine ce_callVi (As := [.int a1, .int 6]) (rest := []) hx hb hml hown hB (c_X8_of l X G b hk g2) ce_v_X8_of ce_w1017 ⟨Nat.le_of_ble_eq_true rfl, Nat.le_of_ble_eq_true rfl⟩ hF hA hS (ce_rc_8 hK hA hk) hl rfl rfl (Nat.le_of_ble_eq_true rfl) dX8_arrives_4 ⟨Nat.le_of_ble_eq_true rfl, Nat.le_of_ble_eq_true rfl⟩ (fun H locs hA hS => ?_)
  refine lv_bipush (v := 12) hx hb dX8_arrives_7 (by decide) ?_
  refine lv_icmp_ne (tgt := 23) hx hb dX8_arrives_9 (by decide) (fun c3 => ?_) (fun c3 => ?_)
  · have h := ce_ie c3 h
    refine lv_aload_n hx hb dX8_arrives_23 rfl (lv_at hl 0 rfl) ?_
    refine lv_iload_n hx hb dX8_arrives_24 rfl (lv_at hl 1 rfl) ?_
    refine lv_bipush (v := 12) hx hb dX8_arrives_25 (by decide) ?_
    refine lv_aload_n hx hb dX8_arrives_27 rfl (lv_at hl 0 rfl) ?_
    refine lv_iload_n hx hb dX8_arrives_28 rfl (lv_at hl 1 rfl) ?_
    refine lv_bipush (v := 6) hx hb dX8_arrives_29 (by decide) ?_
    obtain ⟨x4, g5, h⟩ := ce_b1_e h
    refine ce_callVi (As := [.int a1, .int 6]) (rest := [.int 12, .int a1, .ref (b + k)]) hx hb hml hown hB (c_X8_of l X G b hk g5) ce_v_X8_of ce_w1017 ⟨Nat.le_of_ble_eq_true rfl, Nat.le_of_ble_eq_true rfl⟩ hF hA hS (ce_rc_8 hK hA hk) hl rfl rfl (Nat.le_of_ble_eq_true rfl) dX8_arrives_31 ⟨Nat.le_of_ble_eq_true rfl, Nat.le_of_ble_eq_true rfl⟩ (fun H locs hA hS => ?_)
    refine lv_iadd hx hb dX8_arrives_34 ?_
    refine lv_iload_n hx hb dX8_arrives_35 rfl (lv_at hl 2 rfl) ?_
    obtain ⟨M6, g7, h⟩ := ce_b1_e h
    refine ce_callVv (As := [.int a1, .int (12 + x4), .int a2]) (rest := []) hx hb hml hown hB (c_X8_put l X G b hk g7) ce_v_X8_put ce_w1009 ⟨Nat.le_of_ble_eq_true rfl, Nat.le_of_ble_eq_true rfl⟩ hF hA hS (ce_rc_8 hK hA hk) hl rfl rfl (Nat.le_of_ble_eq_true rfl) dX8_arrives_36 ⟨Nat.le_of_ble_eq_true rfl, Nat.le_of_ble_eq_true rfl⟩ (fun H locs hA hS => ?_)
    refine lv_aload_n hx hb dX8_arrives_39 rfl (lv_at hl 0 rfl) ?_
    refine lv_iload_n hx hb dX8_arrives_40 rfl (lv_at hl 1 rfl) ?_
    refine lv_bipush (v := 6) hx hb dX8_arrives_41 (by decide) ?_
    refine lv_iconst (v := 1) hx hb dX8_arrives_43 (by decide) ?_
    obtain ⟨M8, g9, h⟩ := ce_b1_e h
    refine ce_callVv (As := [.int a1, .int 6, .int 1]) (rest := []) hx hb hml hown hB (c_X8_adds l X G b hk g9) ce_v_X8_adds ce_w1021 ⟨Nat.le_of_ble_eq_true rfl, Nat.le_of_ble_eq_true rfl⟩ hF hA hS (ce_rc_8 hK hA hk) hl rfl rfl (Nat.le_of_ble_eq_true rfl) dX8_arrives_44 ⟨Nat.le_of_ble_eq_true rfl, Nat.le_of_ble_eq_true rfl⟩ (fun H locs hA hS => ?_)
    cases h
    exact ce_vret hx hb hr hlocks hA hS dX8_arrives_47
  · have h := ce_it c3 h
    refine lv_aload_n hx hb dX8_arrives_12 rfl (lv_at hl 0 rfl) ?_
    refine lv_iload_n hx hb dX8_arrives_13 rfl (lv_at hl 1 rfl) ?_
    refine lv_bipush (v := 8) hx hb dX8_arrives_14 (by decide) ?_
    refine lv_iconst (v := 1) hx hb dX8_arrives_16 (by decide) ?_
    obtain ⟨M10, g11, h⟩ := ce_b1_e h
    refine ce_callVv (As := [.int a1, .int 8, .int 1]) (rest := []) hx hb hml hown hB (c_X8_adds l X G b hk g11) ce_v_X8_adds ce_w1021 ⟨Nat.le_of_ble_eq_true rfl, Nat.le_of_ble_eq_true rfl⟩ hF hA hS (ce_rc_8 hK hA hk) hl rfl rfl (Nat.le_of_ble_eq_true rfl) dX8_arrives_17 ⟨Nat.le_of_ble_eq_true rfl, Nat.le_of_ble_eq_true rfl⟩ (fun H locs hA hS => ?_)
    refine lv_goto (tgt := 47) hx hb dX8_arrives_20 (by decide) ?_
    cases h
    exact ce_vret hx hb hr hlocks hA hS dX8_arrives_47
def f_X8_publishes_L160 (k : Nat) (x18 : Int32) (x15 : Int32) (u60 : ce_M → Option (ce_M × Int32)) (rec57 : ce_M → Int32 → Option (ce_M × Int32)) (M55 : ce_M) (x56 : Int32) : Option (ce_M × Int32) :=
  ce_gi 1 816 (ce_nm (ce_rd M55 (k + 1) (Int32.toNatClampNeg 1)) (fun (x64 : Int32) =>
  if x64 ≤ x56 then
    u60 M55
  else
    ce_gi (x18 + 4) 816 (ce_nm (ce_rd M55 (k + 1) (Int32.toNatClampNeg (x18 + 4))) (fun (x68 : Int32) =>
    if ((x68 >>> (x56 &&& 31)) &&& 1) = 1 then
      ce_b1 (f_X8_arrives k M55 x56 x15) (fun (M74 : ce_M) =>
      ce_nm (x56 + 1) (fun (x76 : Int32) =>
      rec57 M74 x76))
    else
      ce_nm (x56 + 1) (fun (x72 : Int32) =>
      rec57 M55 x72)))))
def f_X8_publishes (k : Nat) (M : ce_M) (a1 : Int32) (a2 : Int32) (a3 : Int32) : Option (ce_M × Int32) :=
  ce_b1 (f_X8_isLeaf M a1) (fun (x1 : Int32) =>
  if x1 = 0 then
    some (M, 1)
  else
    ce_b1 (f_X8_isLevel M a2) (fun (x4 : Int32) =>
    if x4 = 0 then
      some (M, 2)
    else
      if 0 ≤ a3 then
        ce_gi 2 816 (ce_nm (ce_rd M (k + 1) (Int32.toNatClampNeg 2)) (fun (x8 : Int32) =>
        if x8 = 60 then
          some (M, 3)
        else
          ce_b1 (f_X8_isTooLate k M a3) (fun (x12 : Int32) =>
          if x12 = 0 then
            ce_gi 2 816 (ce_nm (ce_rd M (k + 1) (Int32.toNatClampNeg 2)) (fun (x15 : Int32) =>
            ce_nm (456 + (6 * x15)) (fun (x18 : Int32) =>
            ce_gi 2 816 (ce_nm (ce_rd M (k + 1) (Int32.toNatClampNeg 2)) (fun (x20 : Int32) =>
            ce_gi 2 816 (ce_nm (ce_wr M (k + 1) (Int32.toNatClampNeg 2) (x20 + 1)) (fun (M23 : ce_M) =>
            ce_gi (x18 + 0) 816 (ce_nm (ce_wr M23 (k + 1) (Int32.toNatClampNeg (x18 + 0)) a1) (fun (M26 : ce_M) =>
            ce_gi (x18 + 1) 816 (ce_nm (ce_wr M26 (k + 1) (Int32.toNatClampNeg (x18 + 1)) a2) (fun (M29 : ce_M) =>
            ce_gi 0 816 (ce_nm (ce_rd M29 (k + 1) (Int32.toNatClampNeg 0)) (fun (x32 : Int32) =>
            ce_gi (x18 + 2) 816 (ce_nm (ce_wr M29 (k + 1) (Int32.toNatClampNeg (x18 + 2)) (x32 - a3)) (fun (M35 : ce_M) =>
            ce_gi 0 816 (ce_nm (ce_rd M35 (k + 1) (Int32.toNatClampNeg 0)) (fun (x38 : Int32) =>
            ce_gi (x18 + 3) 816 (ce_nm (ce_wr M35 (k + 1) (Int32.toNatClampNeg (x18 + 3)) x38) (fun (M41 : ce_M) =>
            ce_gi 0 816 (ce_nm (ce_rd M41 (k + 1) (Int32.toNatClampNeg 0)) (fun (x44 : Int32) =>
            ce_b1 (f_X8_reachedBy k M41 a1 a2 (x44 - a3)) (fun (x47 : Int32) =>
            ce_gi (x18 + 4) 816 (ce_nm (ce_wr M41 (k + 1) (Int32.toNatClampNeg (x18 + 4)) x47) (fun (M49 : ce_M) =>
            ce_gi (x18 + 5) 816 (ce_nm (ce_wr M49 (k + 1) (Int32.toNatClampNeg (x18 + 5)) 0) (fun (M52 : ce_M) =>
            ce_nm (fun (M59 : ce_M) =>
      ce_nm (ce_wr M59 k 5 x15) (fun (M61 : ce_M) =>
      some (M61, 0))) (fun (u60 : ce_M → Option (ce_M × Int32)) =>
            ce_lp2 (f_X8_publishes_L160 k x18 x15 u60) ce_FU M52 0)))))))))))))))))))))))))))
          else
            some (M, 3))))
      else
        some (M, 2)))
set_option maxRecDepth 100000 in
set_option maxHeartbeats 4000000 in
theorem c_X8_publishes (l : Launch) (X : ce_X) (G : ce_G) (b : Nat) {k : Nat} {a1 : Int32} {a2 : Int32} {a3 : Int32} {M : ce_M} (hk : ce_kd k = 8) {M' : ce_M} {r : Int32} (h : f_X8_publishes k M a1 a2 a3 = some (M', r)) : ce_Ct l yX8_publishes cX8_publishes 7 (some .int) 5 120 X G b [.ref (b + k), .int a1, .int a2, .int a3] M (some (.int r)) M' := by
  refine ce_ofW (own := RX8) (by decide) rfl (Nat.le_of_ble_eq_true rfl) (fun p e s m below meth c ls hx hb hr hlocks hml hown hB hF hA hl hS => ?_)
  have hK := hF.1
  have hl : lv_has ls 7 [(0, .ref (b + k)), (1, .int a1), (2, .int a2), (3, .int a3)] := hl
  unfold f_X8_publishes at h
  refine lv_iload_n hx hb dX8_publishes_0 rfl (lv_at hl 1 rfl) ?_
  obtain ⟨x1, g2, h⟩ := ce_b1_e h
  refine ce_callSi (As := [.int a1]) (rest := []) hx hb hml hown hB (c_X8_isLeaf l X G b  g2) ce_s_X8_isLeaf ce_w1000 ⟨Nat.le_of_ble_eq_true rfl, Nat.le_of_ble_eq_true rfl⟩ hF hA hS hl rfl rfl (Nat.le_of_ble_eq_true rfl) dX8_publishes_1 ⟨Nat.le_of_ble_eq_true rfl, Nat.le_of_ble_eq_true rfl⟩ (fun H locs hA hS => ?_)
  refine lv_if_ne (tgt := 9) hx hb dX8_publishes_4 (by decide) (fun c3 => ?_) (fun c3 => ?_)
  · have h := ce_ie c3 h
    refine lv_iload_n hx hb dX8_publishes_9 rfl (lv_at hl 2 rfl) ?_
    obtain ⟨x4, g5, h⟩ := ce_b1_e h
    refine ce_callSi (As := [.int a2]) (rest := []) hx hb hml hown hB (c_X8_isLevel l X G b  g5) ce_s_X8_isLevel ce_w1006 ⟨Nat.le_of_ble_eq_true rfl, Nat.le_of_ble_eq_true rfl⟩ hF hA hS hl rfl rfl (Nat.le_of_ble_eq_true rfl) dX8_publishes_10 ⟨Nat.le_of_ble_eq_true rfl, Nat.le_of_ble_eq_true rfl⟩ (fun H locs hA hS => ?_)
    refine lv_if_eq (tgt := 20) hx hb dX8_publishes_13 (by decide) (fun c6 => ?_) (fun c6 => ?_)
    · have h := ce_it c6 h
      refine lv_iconst (v := 2) hx hb dX8_publishes_20 (by decide) ?_
      cases h
      exact ce_iret hx hb hr hlocks hA hS dX8_publishes_21
    · have h := ce_ie c6 h
      refine lv_iload_n hx hb dX8_publishes_16 rfl (lv_at hl 3 rfl) ?_
      refine lv_if_ge (tgt := 22) hx hb dX8_publishes_17 (by decide) (fun c7 => ?_) (fun c7 => ?_)
      · have h := ce_it c7 h
        refine lv_aload_n hx hb dX8_publishes_22 rfl (lv_at hl 0 rfl) ?_
        refine ce_g_8_0 hx hb hB hown hK hA hk ce_w944 dX8_publishes_23 ?_
        refine lv_iconst (v := 2) hx hb dX8_publishes_26 (by decide) ?_
        obtain ⟨i9, h⟩ := ce_gi_e h
        obtain ⟨x8, e10, h⟩ := ce_nm_e h
        refine ce_iald hx hb hK hA 816 (ce_kf_8_0 hk) i9 e10 dX8_publishes_27 ?_
        refine lv_bipush (v := 60) hx hb dX8_publishes_28 (by decide) ?_
        refine lv_icmp_eq (tgt := 41) hx hb dX8_publishes_30 (by decide) (fun c11 => ?_) (fun c11 => ?_)
        · have h := ce_it c11 h
          refine lv_iconst (v := 3) hx hb dX8_publishes_41 (by decide) ?_
          cases h
          exact ce_iret hx hb hr hlocks hA hS dX8_publishes_42
        · have h := ce_ie c11 h
          refine lv_aload_n hx hb dX8_publishes_33 rfl (lv_at hl 0 rfl) ?_
          refine lv_iload_n hx hb dX8_publishes_34 rfl (lv_at hl 3 rfl) ?_
          obtain ⟨x12, g13, h⟩ := ce_b1_e h
          refine ce_callVi (As := [.int a3]) (rest := []) hx hb hml hown hB (c_X8_isTooLate l X G b hk g13) ce_v_X8_isTooLate ce_w1093 ⟨Nat.le_of_ble_eq_true rfl, Nat.le_of_ble_eq_true rfl⟩ hF hA hS (ce_rc_8 hK hA hk) hl rfl rfl (Nat.le_of_ble_eq_true rfl) dX8_publishes_35 ⟨Nat.le_of_ble_eq_true rfl, Nat.le_of_ble_eq_true rfl⟩ (fun H locs hA hS => ?_)
          refine lv_if_eq (tgt := 43) hx hb dX8_publishes_38 (by decide) (fun c14 => ?_) (fun c14 => ?_)
          · have h := ce_it c14 h
            refine lv_aload_n hx hb dX8_publishes_43 rfl (lv_at hl 0 rfl) ?_
            refine ce_g_8_0 hx hb hB hown hK hA hk ce_w944 dX8_publishes_44 ?_
            refine lv_iconst (v := 2) hx hb dX8_publishes_47 (by decide) ?_
            obtain ⟨i16, h⟩ := ce_gi_e h
            obtain ⟨x15, e17, h⟩ := ce_nm_e h
            refine ce_iald hx hb hK hA 816 (ce_kf_8_0 hk) i16 e17 dX8_publishes_48 ?_
            refine lv_istore (lv' := [(4, .int x15), (0, .ref (b + k)), (1, .int a1), (2, .int a2), (3, .int a3)]) hx hb dX8_publishes_49 hl (by decide) rfl (fun ls hl => ?_)
            refine lv_sipush (v := 456) hx hb dX8_publishes_51 (by decide) ?_
            refine lv_bipush (v := 6) hx hb dX8_publishes_54 (by decide) ?_
            refine lv_iload hx hb dX8_publishes_56 (lv_at hl 0 rfl) ?_
            refine lv_imul hx hb dX8_publishes_58 ?_
            refine lv_iadd hx hb dX8_publishes_59 ?_
            obtain ⟨x18, e19, h⟩ := ce_nm_e h
            refine ce_top e19 ?_
            refine lv_istore (lv' := [(5, .int x18), (4, .int x15), (0, .ref (b + k)), (1, .int a1), (2, .int a2), (3, .int a3)]) hx hb dX8_publishes_60 hl (by decide) rfl (fun ls hl => ?_)
            refine lv_aload_n hx hb dX8_publishes_62 rfl (lv_at hl 2 rfl) ?_
            refine ce_g_8_0 hx hb hB hown hK hA hk ce_w944 dX8_publishes_63 ?_
            refine lv_iconst (v := 2) hx hb dX8_publishes_66 (by decide) ?_
            refine lv_dup2_11 hx hb dX8_publishes_67 rfl rfl ?_
            obtain ⟨i21, h⟩ := ce_gi_e h
            obtain ⟨x20, e22, h⟩ := ce_nm_e h
            refine ce_iald hx hb hK hA 816 (ce_kf_8_0 hk) i21 e22 dX8_publishes_68 ?_
            refine lv_iconst (v := 1) hx hb dX8_publishes_69 (by decide) ?_
            refine lv_iadd hx hb dX8_publishes_70 ?_
            obtain ⟨i24, h⟩ := ce_gi_e h
            obtain ⟨M23, e25, h⟩ := ce_nm_e h
            refine ce_iast hx hb hK hA hS 816 (ce_kf_8_0 hk) i24 dX8_publishes_71 e25 (fun H locs hA hS => ?_)
            refine lv_aload_n hx hb dX8_publishes_72 rfl (lv_at hl 2 rfl) ?_
            refine ce_g_8_0 hx hb hB hown hK hA hk ce_w944 dX8_publishes_73 ?_
            refine lv_iload hx hb dX8_publishes_76 (lv_at hl 0 rfl) ?_
            refine lv_iconst (v := 0) hx hb dX8_publishes_78 (by decide) ?_
            refine lv_iadd hx hb dX8_publishes_79 ?_
            refine lv_iload_n hx hb dX8_publishes_80 rfl (lv_at hl 3 rfl) ?_
            obtain ⟨i27, h⟩ := ce_gi_e h
            obtain ⟨M26, e28, h⟩ := ce_nm_e h
            refine ce_iast hx hb hK hA hS 816 (ce_kf_8_0 hk) i27 dX8_publishes_81 e28 (fun H locs hA hS => ?_)
            refine lv_aload_n hx hb dX8_publishes_82 rfl (lv_at hl 2 rfl) ?_
            refine ce_g_8_0 hx hb hB hown hK hA hk ce_w944 dX8_publishes_83 ?_
            refine lv_iload hx hb dX8_publishes_86 (lv_at hl 0 rfl) ?_
            refine lv_iconst (v := 1) hx hb dX8_publishes_88 (by decide) ?_
            refine lv_iadd hx hb dX8_publishes_89 ?_
            refine lv_iload_n hx hb dX8_publishes_90 rfl (lv_at hl 4 rfl) ?_
            obtain ⟨i30, h⟩ := ce_gi_e h
            obtain ⟨M29, e31, h⟩ := ce_nm_e h
            refine ce_iast hx hb hK hA hS 816 (ce_kf_8_0 hk) i30 dX8_publishes_91 e31 (fun H locs hA hS => ?_)
            refine lv_aload_n hx hb dX8_publishes_92 rfl (lv_at hl 2 rfl) ?_
            refine ce_g_8_0 hx hb hB hown hK hA hk ce_w944 dX8_publishes_93 ?_
            refine lv_iload hx hb dX8_publishes_96 (lv_at hl 0 rfl) ?_
            refine lv_iconst (v := 2) hx hb dX8_publishes_98 (by decide) ?_
            refine lv_iadd hx hb dX8_publishes_99 ?_
            refine lv_aload_n hx hb dX8_publishes_100 rfl (lv_at hl 2 rfl) ?_
            refine ce_g_8_0 hx hb hB hown hK hA hk ce_w944 dX8_publishes_101 ?_
            refine lv_iconst (v := 0) hx hb dX8_publishes_104 (by decide) ?_
            obtain ⟨i33, h⟩ := ce_gi_e h
            obtain ⟨x32, e34, h⟩ := ce_nm_e h
            refine ce_iald hx hb hK hA 816 (ce_kf_8_0 hk) i33 e34 dX8_publishes_105 ?_
            refine lv_iload_n hx hb dX8_publishes_106 rfl (lv_at hl 5 rfl) ?_
            refine lv_isub hx hb dX8_publishes_107 ?_
            obtain ⟨i36, h⟩ := ce_gi_e h
            obtain ⟨M35, e37, h⟩ := ce_nm_e h
            refine ce_iast hx hb hK hA hS 816 (ce_kf_8_0 hk) i36 dX8_publishes_108 e37 (fun H locs hA hS => ?_)
            refine lv_aload_n hx hb dX8_publishes_109 rfl (lv_at hl 2 rfl) ?_
            refine ce_g_8_0 hx hb hB hown hK hA hk ce_w944 dX8_publishes_110 ?_
            refine lv_iload hx hb dX8_publishes_113 (lv_at hl 0 rfl) ?_
            refine lv_iconst (v := 3) hx hb dX8_publishes_115 (by decide) ?_
            refine lv_iadd hx hb dX8_publishes_116 ?_
            refine lv_aload_n hx hb dX8_publishes_117 rfl (lv_at hl 2 rfl) ?_
            refine ce_g_8_0 hx hb hB hown hK hA hk ce_w944 dX8_publishes_118 ?_
            refine lv_iconst (v := 0) hx hb dX8_publishes_121 (by decide) ?_
            obtain ⟨i39, h⟩ := ce_gi_e h
            obtain ⟨x38, e40, h⟩ := ce_nm_e h
            refine ce_iald hx hb hK hA 816 (ce_kf_8_0 hk) i39 e40 dX8_publishes_122 ?_
            obtain ⟨i42, h⟩ := ce_gi_e h
            obtain ⟨M41, e43, h⟩ := ce_nm_e h
            refine ce_iast hx hb hK hA hS 816 (ce_kf_8_0 hk) i42 dX8_publishes_123 e43 (fun H locs hA hS => ?_)
            refine lv_aload_n hx hb dX8_publishes_124 rfl (lv_at hl 2 rfl) ?_
            refine ce_g_8_0 hx hb hB hown hK hA hk ce_w944 dX8_publishes_125 ?_
            refine lv_iload hx hb dX8_publishes_128 (lv_at hl 0 rfl) ?_
            refine lv_iconst (v := 4) hx hb dX8_publishes_130 (by decide) ?_
            refine lv_iadd hx hb dX8_publishes_131 ?_
            refine lv_aload_n hx hb dX8_publishes_132 rfl (lv_at hl 2 rfl) ?_
            refine lv_iload_n hx hb dX8_publishes_133 rfl (lv_at hl 3 rfl) ?_
            refine lv_iload_n hx hb dX8_publishes_134 rfl (lv_at hl 4 rfl) ?_
            refine lv_aload_n hx hb dX8_publishes_135 rfl (lv_at hl 2 rfl) ?_
            refine ce_g_8_0 hx hb hB hown hK hA hk ce_w944 dX8_publishes_136 ?_
            refine lv_iconst (v := 0) hx hb dX8_publishes_139 (by decide) ?_
            obtain ⟨i45, h⟩ := ce_gi_e h
            obtain ⟨x44, e46, h⟩ := ce_nm_e h
            refine ce_iald hx hb hK hA 816 (ce_kf_8_0 hk) i45 e46 dX8_publishes_140 ?_
            refine lv_iload_n hx hb dX8_publishes_141 rfl (lv_at hl 5 rfl) ?_
            refine lv_isub hx hb dX8_publishes_142 ?_
            obtain ⟨x47, g48, h⟩ := ce_b1_e h
            refine ce_callVi (As := [.int a1, .int a2, .int (x44 - a3)]) (rest := [.int (x18 + 4), .ref (b + (k + 1))]) hx hb hml hown hB (c_X8_reachedBy l X G b hk g48) ce_v_X8_reachedBy ce_w1097 ⟨Nat.le_of_ble_eq_true rfl, Nat.le_of_ble_eq_true rfl⟩ hF hA hS (ce_rc_8 hK hA hk) hl rfl rfl (Nat.le_of_ble_eq_true rfl) dX8_publishes_143 ⟨Nat.le_of_ble_eq_true rfl, Nat.le_of_ble_eq_true rfl⟩ (fun H locs hA hS => ?_)
            obtain ⟨i50, h⟩ := ce_gi_e h
            obtain ⟨M49, e51, h⟩ := ce_nm_e h
            refine ce_iast hx hb hK hA hS 816 (ce_kf_8_0 hk) i50 dX8_publishes_146 e51 (fun H locs hA hS => ?_)
            refine lv_aload_n hx hb dX8_publishes_147 rfl (lv_at hl 2 rfl) ?_
            refine ce_g_8_0 hx hb hB hown hK hA hk ce_w944 dX8_publishes_148 ?_
            refine lv_iload hx hb dX8_publishes_151 (lv_at hl 0 rfl) ?_
            refine lv_iconst (v := 5) hx hb dX8_publishes_153 (by decide) ?_
            refine lv_iadd hx hb dX8_publishes_154 ?_
            refine lv_iconst (v := 0) hx hb dX8_publishes_155 (by decide) ?_
            obtain ⟨i53, h⟩ := ce_gi_e h
            obtain ⟨M52, e54, h⟩ := ce_nm_e h
            refine ce_iast hx hb hK hA hS 816 (ce_kf_8_0 hk) i53 dX8_publishes_156 e54 (fun H locs hA hS => ?_)
            refine lv_iconst (v := 0) hx hb dX8_publishes_157 (by decide) ?_
            refine lv_istore (lv' := [(6, .int 0), (5, .int x18), (4, .int x15), (0, .ref (b + k)), (1, .int a1), (2, .int a2), (3, .int a3)]) hx hb dX8_publishes_158 hl (by decide) rfl (fun ls hl => ?_)
            obtain ⟨u60, e63, h⟩ := ce_nm_e h
            have Ju60 : ∀ (M59 : ce_M), u60 M59 = some (M', r) → ce_Wg p l e (ce_R 5 120 0 0) s m (([.ref (b + k), .int a1, .int a2, .int a3] : List Value).toArray) below meth c 0 0 (MQ below (ce_Q X b M' (some (.int r))) ([.ref (b + k), .int a1, .int a2, .int a3] : List Value).toArray s 0 0 (ce_Ab b)) X b M59 7 [(0, .ref (b + k)), (4, .int x15)] 203 [] := by
              intro M59 h  H locs ls hA hS hl
              subst e63
              refine lv_aload_n hx hb dX8_publishes_203 rfl (lv_at hl 0 rfl) ?_
              refine lv_iload hx hb dX8_publishes_204 (lv_at hl 1 rfl) ?_
              obtain ⟨M61, e62, h⟩ := ce_nm_e h
              refine ce_p_8_5 hx hb hB hown hK hA hS hk ce_w949 dX8_publishes_206 e62 (fun H locs hA hS => ?_)
              refine lv_iconst (v := 0) hx hb dX8_publishes_209 (by decide) ?_
              cases h
              exact ce_iret hx hb hr hlocks hA hS dX8_publishes_210
            refine ce_lp2_i (y := (M', r)) (P := fun (M55 : ce_M) (x56 : Int32) => ce_Wg p l e (ce_R 5 120 0 0) s m (([.ref (b + k), .int a1, .int a2, .int a3] : List Value).toArray) below meth c 0 0 (MQ below (ce_Q X b M' (some (.int r))) ([.ref (b + k), .int a1, .int a2, .int a3] : List Value).toArray s 0 0 (ce_Ab b)) X b M55 7 [(0, .ref (b + k)), (4, .int x15), (5, .int x18), (6, .int x56)] 160 []) (fun rec57 ih58 M55 x56 h => ?_) _ _ _ h _ _ _ hA hS (lv_sub hl [3, 2, 1, 0] rfl)
            intro H locs ls hA hS hl
            unfold f_X8_publishes_L160 at h
            refine lv_iload hx hb dX8_publishes_160 (lv_at hl 3 rfl) ?_
            refine lv_aload_n hx hb dX8_publishes_162 rfl (lv_at hl 0 rfl) ?_
            refine ce_g_8_0 hx hb hB hown hK hA hk ce_w944 dX8_publishes_163 ?_
            refine lv_iconst (v := 1) hx hb dX8_publishes_166 (by decide) ?_
            obtain ⟨i65, h⟩ := ce_gi_e h
            obtain ⟨x64, e66, h⟩ := ce_nm_e h
            refine ce_iald hx hb hK hA 816 (ce_kf_8_0 hk) i65 e66 dX8_publishes_167 ?_
            refine lv_icmp_ge (tgt := 203) hx hb dX8_publishes_168 (by decide) (fun c67 => ?_) (fun c67 => ?_)
            · have h := ce_it c67 h
              exact Ju60 M55 h  _ _ _ hA hS (lv_sub hl [0, 1] rfl)
            · have h := ce_ie c67 h
              refine lv_aload_n hx hb dX8_publishes_171 rfl (lv_at hl 0 rfl) ?_
              refine ce_g_8_0 hx hb hB hown hK hA hk ce_w944 dX8_publishes_172 ?_
              refine lv_iload hx hb dX8_publishes_175 (lv_at hl 2 rfl) ?_
              refine lv_iconst (v := 4) hx hb dX8_publishes_177 (by decide) ?_
              refine lv_iadd hx hb dX8_publishes_178 ?_
              obtain ⟨i69, h⟩ := ce_gi_e h
              obtain ⟨x68, e70, h⟩ := ce_nm_e h
              refine ce_iald hx hb hK hA 816 (ce_kf_8_0 hk) i69 e70 dX8_publishes_179 ?_
              refine lv_iload hx hb dX8_publishes_180 (lv_at hl 3 rfl) ?_
              refine lv_ishr hx hb dX8_publishes_182 ?_
              refine lv_iconst (v := 1) hx hb dX8_publishes_183 (by decide) ?_
              refine lv_iand hx hb dX8_publishes_184 ?_
              refine lv_iconst (v := 1) hx hb dX8_publishes_185 (by decide) ?_
              refine lv_icmp_ne (tgt := 197) hx hb dX8_publishes_186 (by decide) (fun c71 => ?_) (fun c71 => ?_)
              · have h := ce_ie c71 h
                obtain ⟨x72, e73, h⟩ := ce_nm_e h
                refine lv_iinc (v := x72) (lv' := [(6, .int x72), (0, .ref (b + k)), (4, .int x15), (5, .int x18)]) hx hb dX8_publishes_197 hl (k := 3) rfl (by rw [← e73]; rfl) (by decide) rfl (fun ls hl => ?_)
                refine lv_goto (tgt := 160) hx hb dX8_publishes_200 (by decide) ?_
                exact ih58 M55 x72 h  _ _ _ hA hS (lv_sub hl [1, 2, 3, 0] rfl)
              · have h := ce_it c71 h
                refine lv_aload_n hx hb dX8_publishes_189 rfl (lv_at hl 0 rfl) ?_
                refine lv_iload hx hb dX8_publishes_190 (lv_at hl 3 rfl) ?_
                refine lv_iload hx hb dX8_publishes_192 (lv_at hl 1 rfl) ?_
                obtain ⟨M74, g75, h⟩ := ce_b1_e h
                refine ce_callVv (As := [.int x56, .int x15]) (rest := []) hx hb hml hown hB (c_X8_arrives l X G b hk g75) ce_v_X8_arrives ce_w1119 ⟨Nat.le_of_ble_eq_true rfl, Nat.le_of_ble_eq_true rfl⟩ hF hA hS (ce_rc_8 hK hA hk) hl rfl rfl (Nat.le_of_ble_eq_true rfl) dX8_publishes_194 ⟨Nat.le_of_ble_eq_true rfl, Nat.le_of_ble_eq_true rfl⟩ (fun H locs hA hS => ?_)
                obtain ⟨x76, e77, h⟩ := ce_nm_e h
                refine lv_iinc (v := x76) (lv' := [(6, .int x76), (0, .ref (b + k)), (4, .int x15), (5, .int x18)]) hx hb dX8_publishes_197 hl (k := 3) rfl (by rw [← e77]; rfl) (by decide) rfl (fun ls hl => ?_)
                refine lv_goto (tgt := 160) hx hb dX8_publishes_200 (by decide) ?_
                exact ih58 M74 x76 h  _ _ _ hA hS (lv_sub hl [1, 2, 3, 0] rfl)
          · have h := ce_ie c14 h
            refine lv_iconst (v := 3) hx hb dX8_publishes_41 (by decide) ?_
            cases h
            exact ce_iret hx hb hr hlocks hA hS dX8_publishes_42
      · have h := ce_ie c7 h
        refine lv_iconst (v := 2) hx hb dX8_publishes_20 (by decide) ?_
        cases h
        exact ce_iret hx hb hr hlocks hA hS dX8_publishes_21
  · have h := ce_it c3 h
    refine lv_iconst (v := 1) hx hb dX8_publishes_7 (by decide) ?_
    cases h
    exact ce_iret hx hb hr hlocks hA hS dX8_publishes_8
def f_X8_dwellOf (k : Nat) (M : ce_M) (a1 : Int32) : Option Int32 :=
  ce_b1 (f_X8_of k M a1 0) (fun (x1 : Int32) =>
  if x1 = 1 then
    ce_b1 (f_X8_setting k M 0) (fun (x6 : Int32) =>
    some (x6 / 2))
  else
    ce_b1 (f_X8_setting k M 0) (fun (x4 : Int32) =>
    some x4))
set_option maxRecDepth 100000 in
set_option maxHeartbeats 4000000 in
theorem c_X8_dwellOf (l : Launch) (X : ce_X) (G : ce_G) (b : Nat) {k : Nat} {a1 : Int32} {M : ce_M} (hk : ce_kd k = 8) {r : Int32} (h : f_X8_dwellOf k M a1 = some r) : ce_Ct l yX8_dwellOf cX8_dwellOf 2 (some .int) 1 22 X G b [.ref (b + k), .int a1] M (some (.int r)) M := by
  refine ce_ofW (own := RX8) (by decide) rfl (Nat.le_of_ble_eq_true rfl) (fun p e s m below meth c ls hx hb hr hlocks hml hown hB hF hA hl hS => ?_)
  have hK := hF.1
  have hl : lv_has ls 2 [(0, .ref (b + k)), (1, .int a1)] := hl
  unfold f_X8_dwellOf at h
  refine lv_aload_n hx hb dX8_dwellOf_0 rfl (lv_at hl 0 rfl) ?_
  refine lv_iload_n hx hb dX8_dwellOf_1 rfl (lv_at hl 1 rfl) ?_
  refine lv_iconst (v := 0) hx hb dX8_dwellOf_2 (by decide) ?_
  obtain ⟨x1, g2, h⟩ := ce_b1_e h
  refine ce_callVi (As := [.int a1, .int 0]) (rest := []) hx hb hml hown hB (c_X8_of l X G b hk g2) ce_v_X8_of ce_w1017 ⟨Nat.le_of_ble_eq_true rfl, Nat.le_of_ble_eq_true rfl⟩ hF hA hS (ce_rc_8 hK hA hk) hl rfl rfl (Nat.le_of_ble_eq_true rfl) dX8_dwellOf_3 ⟨Nat.le_of_ble_eq_true rfl, Nat.le_of_ble_eq_true rfl⟩ (fun H locs hA hS => ?_)
  refine lv_iconst (v := 1) hx hb dX8_dwellOf_6 (by decide) ?_
  refine lv_icmp_ne (tgt := 20) hx hb dX8_dwellOf_7 (by decide) (fun c3 => ?_) (fun c3 => ?_)
  · have h := ce_ie c3 h
    refine lv_aload_n hx hb dX8_dwellOf_20 rfl (lv_at hl 0 rfl) ?_
    refine lv_iconst (v := 0) hx hb dX8_dwellOf_21 (by decide) ?_
    obtain ⟨x4, g5, h⟩ := ce_b1_e h
    refine ce_callVi (As := [.int 0]) (rest := []) hx hb hml hown hB (c_X8_setting l X G b hk g5) ce_v_X8_setting ce_w1081 ⟨Nat.le_of_ble_eq_true rfl, Nat.le_of_ble_eq_true rfl⟩ hF hA hS (ce_rc_8 hK hA hk) hl rfl rfl (Nat.le_of_ble_eq_true rfl) dX8_dwellOf_22 ⟨Nat.le_of_ble_eq_true rfl, Nat.le_of_ble_eq_true rfl⟩ (fun H locs hA hS => ?_)
    cases h
    exact ce_iret hx hb hr hlocks hA hS dX8_dwellOf_25
  · have h := ce_it c3 h
    refine lv_aload_n hx hb dX8_dwellOf_10 rfl (lv_at hl 0 rfl) ?_
    refine lv_iconst (v := 0) hx hb dX8_dwellOf_11 (by decide) ?_
    obtain ⟨x6, g7, h⟩ := ce_b1_e h
    refine ce_callVi (As := [.int 0]) (rest := []) hx hb hml hown hB (c_X8_setting l X G b hk g7) ce_v_X8_setting ce_w1081 ⟨Nat.le_of_ble_eq_true rfl, Nat.le_of_ble_eq_true rfl⟩ hF hA hS (ce_rc_8 hK hA hk) hl rfl rfl (Nat.le_of_ble_eq_true rfl) dX8_dwellOf_12 ⟨Nat.le_of_ble_eq_true rfl, Nat.le_of_ble_eq_true rfl⟩ (fun H locs hA hS => ?_)
    refine lv_iconst (v := 2) hx hb dX8_dwellOf_15 (by decide) ?_
    refine lv_idiv hx hb dX8_dwellOf_16 (by decide) ?_
    refine lv_goto (tgt := 25) hx hb dX8_dwellOf_17 (by decide) ?_
    cases h
    exact ce_iret hx hb hr hlocks hA hS dX8_dwellOf_25
def f_X8_mayChange (k : Nat) (M : ce_M) (a1 : Int32) : Option Int32 :=
  ce_b1 (f_X8_of k M a1 5) (fun (x1 : Int32) =>
  if x1 = 1 then
    ce_b1 (f_X8_of k M a1 2) (fun (x4 : Int32) =>
    ce_b1 (f_X8_of k M a1 4) (fun (x6 : Int32) =>
    if x4 = x6 then
      some 0
    else
      ce_gi 0 816 (ce_nm (ce_rd M (k + 1) (Int32.toNatClampNeg 0)) (fun (x9 : Int32) =>
      ce_b1 (f_X8_of k M a1 3) (fun (x12 : Int32) =>
      ce_b1 (f_X8_dwellOf k M a1) (fun (x14 : Int32) =>
      if (x9 - x12) < x14 then
        some 0
      else
        some 1))))))
  else
    some 0)
set_option maxRecDepth 100000 in
set_option maxHeartbeats 4000000 in
theorem c_X8_mayChange (l : Launch) (X : ce_X) (G : ce_G) (b : Nat) {k : Nat} {a1 : Int32} {M : ce_M} (hk : ce_kd k = 8) {r : Int32} (h : f_X8_mayChange k M a1 = some r) : ce_Ct l yX8_mayChange cX8_mayChange 2 (some .boolean) 2 43 X G b [.ref (b + k), .int a1] M (some (.int r)) M := by
  refine ce_ofW (own := RX8) (by decide) rfl (Nat.le_of_ble_eq_true rfl) (fun p e s m below meth c ls hx hb hr hlocks hml hown hB hF hA hl hS => ?_)
  have hK := hF.1
  have hl : lv_has ls 2 [(0, .ref (b + k)), (1, .int a1)] := hl
  unfold f_X8_mayChange at h
  refine lv_aload_n hx hb dX8_mayChange_0 rfl (lv_at hl 0 rfl) ?_
  refine lv_iload_n hx hb dX8_mayChange_1 rfl (lv_at hl 1 rfl) ?_
  refine lv_iconst (v := 5) hx hb dX8_mayChange_2 (by decide) ?_
  obtain ⟨x1, g2, h⟩ := ce_b1_e h
  refine ce_callVi (As := [.int a1, .int 5]) (rest := []) hx hb hml hown hB (c_X8_of l X G b hk g2) ce_v_X8_of ce_w1017 ⟨Nat.le_of_ble_eq_true rfl, Nat.le_of_ble_eq_true rfl⟩ hF hA hS (ce_rc_8 hK hA hk) hl rfl rfl (Nat.le_of_ble_eq_true rfl) dX8_mayChange_3 ⟨Nat.le_of_ble_eq_true rfl, Nat.le_of_ble_eq_true rfl⟩ (fun H locs hA hS => ?_)
  refine lv_iconst (v := 1) hx hb dX8_mayChange_6 (by decide) ?_
  refine lv_icmp_ne (tgt := 50) hx hb dX8_mayChange_7 (by decide) (fun c3 => ?_) (fun c3 => ?_)
  · have h := ce_ie c3 h
    refine lv_iconst (v := 0) hx hb dX8_mayChange_50 (by decide) ?_
    cases h
    exact ce_zret hx hb hr hlocks (Or.inl rfl) hA hS dX8_mayChange_51
  · have h := ce_it c3 h
    refine lv_aload_n hx hb dX8_mayChange_10 rfl (lv_at hl 0 rfl) ?_
    refine lv_iload_n hx hb dX8_mayChange_11 rfl (lv_at hl 1 rfl) ?_
    refine lv_iconst (v := 2) hx hb dX8_mayChange_12 (by decide) ?_
    obtain ⟨x4, g5, h⟩ := ce_b1_e h
    refine ce_callVi (As := [.int a1, .int 2]) (rest := []) hx hb hml hown hB (c_X8_of l X G b hk g5) ce_v_X8_of ce_w1017 ⟨Nat.le_of_ble_eq_true rfl, Nat.le_of_ble_eq_true rfl⟩ hF hA hS (ce_rc_8 hK hA hk) hl rfl rfl (Nat.le_of_ble_eq_true rfl) dX8_mayChange_13 ⟨Nat.le_of_ble_eq_true rfl, Nat.le_of_ble_eq_true rfl⟩ (fun H locs hA hS => ?_)
    refine lv_aload_n hx hb dX8_mayChange_16 rfl (lv_at hl 0 rfl) ?_
    refine lv_iload_n hx hb dX8_mayChange_17 rfl (lv_at hl 1 rfl) ?_
    refine lv_iconst (v := 4) hx hb dX8_mayChange_18 (by decide) ?_
    obtain ⟨x6, g7, h⟩ := ce_b1_e h
    refine ce_callVi (As := [.int a1, .int 4]) (rest := [.int x4]) hx hb hml hown hB (c_X8_of l X G b hk g7) ce_v_X8_of ce_w1017 ⟨Nat.le_of_ble_eq_true rfl, Nat.le_of_ble_eq_true rfl⟩ hF hA hS (ce_rc_8 hK hA hk) hl rfl rfl (Nat.le_of_ble_eq_true rfl) dX8_mayChange_19 ⟨Nat.le_of_ble_eq_true rfl, Nat.le_of_ble_eq_true rfl⟩ (fun H locs hA hS => ?_)
    refine lv_icmp_eq (tgt := 50) hx hb dX8_mayChange_22 (by decide) (fun c8 => ?_) (fun c8 => ?_)
    · have h := ce_it c8 h
      refine lv_iconst (v := 0) hx hb dX8_mayChange_50 (by decide) ?_
      cases h
      exact ce_zret hx hb hr hlocks (Or.inl rfl) hA hS dX8_mayChange_51
    · have h := ce_ie c8 h
      refine lv_aload_n hx hb dX8_mayChange_25 rfl (lv_at hl 0 rfl) ?_
      refine ce_g_8_0 hx hb hB hown hK hA hk ce_w944 dX8_mayChange_26 ?_
      refine lv_iconst (v := 0) hx hb dX8_mayChange_29 (by decide) ?_
      obtain ⟨i10, h⟩ := ce_gi_e h
      obtain ⟨x9, e11, h⟩ := ce_nm_e h
      refine ce_iald hx hb hK hA 816 (ce_kf_8_0 hk) i10 e11 dX8_mayChange_30 ?_
      refine lv_aload_n hx hb dX8_mayChange_31 rfl (lv_at hl 0 rfl) ?_
      refine lv_iload_n hx hb dX8_mayChange_32 rfl (lv_at hl 1 rfl) ?_
      refine lv_iconst (v := 3) hx hb dX8_mayChange_33 (by decide) ?_
      obtain ⟨x12, g13, h⟩ := ce_b1_e h
      refine ce_callVi (As := [.int a1, .int 3]) (rest := [.int x9]) hx hb hml hown hB (c_X8_of l X G b hk g13) ce_v_X8_of ce_w1017 ⟨Nat.le_of_ble_eq_true rfl, Nat.le_of_ble_eq_true rfl⟩ hF hA hS (ce_rc_8 hK hA hk) hl rfl rfl (Nat.le_of_ble_eq_true rfl) dX8_mayChange_34 ⟨Nat.le_of_ble_eq_true rfl, Nat.le_of_ble_eq_true rfl⟩ (fun H locs hA hS => ?_)
      refine lv_isub hx hb dX8_mayChange_37 ?_
      refine lv_aload_n hx hb dX8_mayChange_38 rfl (lv_at hl 0 rfl) ?_
      refine lv_iload_n hx hb dX8_mayChange_39 rfl (lv_at hl 1 rfl) ?_
      obtain ⟨x14, g15, h⟩ := ce_b1_e h
      refine ce_callVi (As := [.int a1]) (rest := [.int (x9 - x12)]) hx hb hml hown hB (c_X8_dwellOf l X G b hk g15) ce_v_X8_dwellOf ce_w1139 ⟨Nat.le_of_ble_eq_true rfl, Nat.le_of_ble_eq_true rfl⟩ hF hA hS (ce_rc_8 hK hA hk) hl rfl rfl (Nat.le_of_ble_eq_true rfl) dX8_mayChange_40 ⟨Nat.le_of_ble_eq_true rfl, Nat.le_of_ble_eq_true rfl⟩ (fun H locs hA hS => ?_)
      refine lv_icmp_lt (tgt := 50) hx hb dX8_mayChange_43 (by decide) (fun c16 => ?_) (fun c16 => ?_)
      · have h := ce_it c16 h
        refine lv_iconst (v := 0) hx hb dX8_mayChange_50 (by decide) ?_
        cases h
        exact ce_zret hx hb hr hlocks (Or.inl rfl) hA hS dX8_mayChange_51
      · have h := ce_ie c16 h
        refine lv_iconst (v := 1) hx hb dX8_mayChange_46 (by decide) ?_
        refine lv_goto (tgt := 51) hx hb dX8_mayChange_47 (by decide) ?_
        cases h
        exact ce_zret hx hb hr hlocks (Or.inr rfl) hA hS dX8_mayChange_51
def f_X8_delivers_L11 (k : Nat) (a1 : Int32) (u8 : ce_M → Option ce_M) (rec5 : ce_M → Int32 → Option ce_M) (M3 : ce_M) (x4 : Int32) : Option ce_M :=
  ce_b1 (f_X8_of k M3 a1 6) (fun (x28 : Int32) =>
  if ((12 + x28) - 1) ≤ x4 then
    u8 M3
  else
    ce_b1 (f_X8_of k M3 a1 (x4 + 1)) (fun (x31 : Int32) =>
    ce_b1 (f_X8_put k M3 a1 x4 x31) (fun (M33 : ce_M) =>
    ce_nm (x4 + 1) (fun (x35 : Int32) =>
    rec5 M33 x35))))
def f_X8_delivers (k : Nat) (M : ce_M) (a1 : Int32) : Option ce_M :=
  ce_b1 (f_X8_of k M a1 12) (fun (x1 : Int32) =>
  ce_nm (fun (M7 : ce_M) =>
      ce_b1 (f_X8_adds k M7 a1 6 (-1)) (fun (M9 : ce_M) =>
      ce_b1 (f_X8_adds k M9 a1 7 1) (fun (M11 : ce_M) =>
      ce_b1 (f_X8_of k M11 a1 4) (fun (x13 : Int32) =>
      ce_gi (8 + x13) 816 (ce_nm (ce_rd M11 (k + 1) (Int32.toNatClampNeg (8 + x13))) (fun (x15 : Int32) =>
      ce_gi (8 + x13) 816 (ce_nm (ce_wr M11 (k + 1) (Int32.toNatClampNeg (8 + x13)) (x15 + 1)) (fun (M18 : ce_M) =>
      ce_gi ((456 + (6 * x1)) + 5) 816 (ce_nm (ce_rd M18 (k + 1) (Int32.toNatClampNeg ((456 + (6 * x1)) + 5))) (fun (x21 : Int32) =>
      ce_gi ((456 + (6 * x1)) + 5) 816 (ce_nm (ce_wr M18 (k + 1) (Int32.toNatClampNeg ((456 + (6 * x1)) + 5)) (x21 ||| (1 <<< (a1 &&& 31)))) (fun (M24 : ce_M) =>
      some M24)))))))))))) (fun (u8 : ce_M → Option ce_M) =>
  ce_lp2 (f_X8_delivers_L11 k a1 u8) ce_FU M 12))
set_option maxRecDepth 100000 in
set_option maxHeartbeats 4000000 in
theorem c_X8_delivers (l : Launch) (X : ce_X) (G : ce_G) (b : Nat) {k : Nat} {a1 : Int32} {M : ce_M} (hk : ce_kd k = 8) {M' : ce_M} (h : f_X8_delivers k M a1 = some M') : ce_Ct l yX8_delivers cX8_delivers 4 none 1 23 X G b [.ref (b + k), .int a1] M none M' := by
  refine ce_ofW (own := RX8) (by decide) rfl (Nat.le_of_ble_eq_true rfl) (fun p e s m below meth c ls hx hb hr hlocks hml hown hB hF hA hl hS => ?_)
  have hK := hF.1
  have hl : lv_has ls 4 [(0, .ref (b + k)), (1, .int a1)] := hl
  unfold f_X8_delivers at h
  refine lv_aload_n hx hb dX8_delivers_0 rfl (lv_at hl 0 rfl) ?_
  refine lv_iload_n hx hb dX8_delivers_1 rfl (lv_at hl 1 rfl) ?_
  refine lv_bipush (v := 12) hx hb dX8_delivers_2 (by decide) ?_
  obtain ⟨x1, g2, h⟩ := ce_b1_e h
  refine ce_callVi (As := [.int a1, .int 12]) (rest := []) hx hb hml hown hB (c_X8_of l X G b hk g2) ce_v_X8_of ce_w1017 ⟨Nat.le_of_ble_eq_true rfl, Nat.le_of_ble_eq_true rfl⟩ hF hA hS (ce_rc_8 hK hA hk) hl rfl rfl (Nat.le_of_ble_eq_true rfl) dX8_delivers_4 ⟨Nat.le_of_ble_eq_true rfl, Nat.le_of_ble_eq_true rfl⟩ (fun H locs hA hS => ?_)
  refine lv_istore_n (lv' := [(2, .int x1), (0, .ref (b + k)), (1, .int a1)]) hx hb dX8_delivers_7 rfl hl (by decide) rfl (fun ls hl => ?_)
  refine lv_bipush (v := 12) hx hb dX8_delivers_8 (by decide) ?_
  refine lv_istore_n (lv' := [(3, .int 12), (2, .int x1), (0, .ref (b + k)), (1, .int a1)]) hx hb dX8_delivers_10 rfl hl (by decide) rfl (fun ls hl => ?_)
  obtain ⟨u8, e27, h⟩ := ce_nm_e h
  have Ju8 : ∀ (M7 : ce_M), u8 M7 = some M' → ce_Wg p l e (ce_R 1 23 0 0) s m (([.ref (b + k), .int a1] : List Value).toArray) below meth c 0 0 (MQ below (ce_Q X b M' none) ([.ref (b + k), .int a1] : List Value).toArray s 0 0 (ce_Ab b)) X b M7 4 [(0, .ref (b + k)), (1, .int a1), (2, .int x1)] 47 [] := by
    intro M7 h  H locs ls hA hS hl
    subst e27
    refine lv_aload_n hx hb dX8_delivers_47 rfl (lv_at hl 0 rfl) ?_
    refine lv_iload_n hx hb dX8_delivers_48 rfl (lv_at hl 1 rfl) ?_
    refine lv_bipush (v := 6) hx hb dX8_delivers_49 (by decide) ?_
    refine lv_iconst (v := (-1)) hx hb dX8_delivers_51 (by decide) ?_
    obtain ⟨M9, g10, h⟩ := ce_b1_e h
    refine ce_callVv (As := [.int a1, .int 6, .int (-1)]) (rest := []) hx hb hml hown hB (c_X8_adds l X G b hk g10) ce_v_X8_adds ce_w1021 ⟨Nat.le_of_ble_eq_true rfl, Nat.le_of_ble_eq_true rfl⟩ hF hA hS (ce_rc_8 hK hA hk) hl rfl rfl (Nat.le_of_ble_eq_true rfl) dX8_delivers_52 ⟨Nat.le_of_ble_eq_true rfl, Nat.le_of_ble_eq_true rfl⟩ (fun H locs hA hS => ?_)
    refine lv_aload_n hx hb dX8_delivers_55 rfl (lv_at hl 0 rfl) ?_
    refine lv_iload_n hx hb dX8_delivers_56 rfl (lv_at hl 1 rfl) ?_
    refine lv_bipush (v := 7) hx hb dX8_delivers_57 (by decide) ?_
    refine lv_iconst (v := 1) hx hb dX8_delivers_59 (by decide) ?_
    obtain ⟨M11, g12, h⟩ := ce_b1_e h
    refine ce_callVv (As := [.int a1, .int 7, .int 1]) (rest := []) hx hb hml hown hB (c_X8_adds l X G b hk g12) ce_v_X8_adds ce_w1021 ⟨Nat.le_of_ble_eq_true rfl, Nat.le_of_ble_eq_true rfl⟩ hF hA hS (ce_rc_8 hK hA hk) hl rfl rfl (Nat.le_of_ble_eq_true rfl) dX8_delivers_60 ⟨Nat.le_of_ble_eq_true rfl, Nat.le_of_ble_eq_true rfl⟩ (fun H locs hA hS => ?_)
    refine lv_aload_n hx hb dX8_delivers_63 rfl (lv_at hl 0 rfl) ?_
    refine ce_g_8_0 hx hb hB hown hK hA hk ce_w944 dX8_delivers_64 ?_
    refine lv_bipush (v := 8) hx hb dX8_delivers_67 (by decide) ?_
    refine lv_aload_n hx hb dX8_delivers_69 rfl (lv_at hl 0 rfl) ?_
    refine lv_iload_n hx hb dX8_delivers_70 rfl (lv_at hl 1 rfl) ?_
    refine lv_iconst (v := 4) hx hb dX8_delivers_71 (by decide) ?_
    obtain ⟨x13, g14, h⟩ := ce_b1_e h
    refine ce_callVi (As := [.int a1, .int 4]) (rest := [.int 8, .ref (b + (k + 1))]) hx hb hml hown hB (c_X8_of l X G b hk g14) ce_v_X8_of ce_w1017 ⟨Nat.le_of_ble_eq_true rfl, Nat.le_of_ble_eq_true rfl⟩ hF hA hS (ce_rc_8 hK hA hk) hl rfl rfl (Nat.le_of_ble_eq_true rfl) dX8_delivers_72 ⟨Nat.le_of_ble_eq_true rfl, Nat.le_of_ble_eq_true rfl⟩ (fun H locs hA hS => ?_)
    refine lv_iadd hx hb dX8_delivers_75 ?_
    refine lv_dup2_11 hx hb dX8_delivers_76 rfl rfl ?_
    obtain ⟨i16, h⟩ := ce_gi_e h
    obtain ⟨x15, e17, h⟩ := ce_nm_e h
    refine ce_iald hx hb hK hA 816 (ce_kf_8_0 hk) i16 e17 dX8_delivers_77 ?_
    refine lv_iconst (v := 1) hx hb dX8_delivers_78 (by decide) ?_
    refine lv_iadd hx hb dX8_delivers_79 ?_
    obtain ⟨i19, h⟩ := ce_gi_e h
    obtain ⟨M18, e20, h⟩ := ce_nm_e h
    refine ce_iast hx hb hK hA hS 816 (ce_kf_8_0 hk) i19 dX8_delivers_80 e20 (fun H locs hA hS => ?_)
    refine lv_aload_n hx hb dX8_delivers_81 rfl (lv_at hl 0 rfl) ?_
    refine ce_g_8_0 hx hb hB hown hK hA hk ce_w944 dX8_delivers_82 ?_
    refine lv_sipush (v := 456) hx hb dX8_delivers_85 (by decide) ?_
    refine lv_bipush (v := 6) hx hb dX8_delivers_88 (by decide) ?_
    refine lv_iload_n hx hb dX8_delivers_90 rfl (lv_at hl 2 rfl) ?_
    refine lv_imul hx hb dX8_delivers_91 ?_
    refine lv_iadd hx hb dX8_delivers_92 ?_
    refine lv_iconst (v := 5) hx hb dX8_delivers_93 (by decide) ?_
    refine lv_iadd hx hb dX8_delivers_94 ?_
    refine lv_dup2_11 hx hb dX8_delivers_95 rfl rfl ?_
    obtain ⟨i22, h⟩ := ce_gi_e h
    obtain ⟨x21, e23, h⟩ := ce_nm_e h
    refine ce_iald hx hb hK hA 816 (ce_kf_8_0 hk) i22 e23 dX8_delivers_96 ?_
    refine lv_iconst (v := 1) hx hb dX8_delivers_97 (by decide) ?_
    refine lv_iload_n hx hb dX8_delivers_98 rfl (lv_at hl 1 rfl) ?_
    refine lv_ishl hx hb dX8_delivers_99 ?_
    refine lv_ior hx hb dX8_delivers_100 ?_
    obtain ⟨i25, h⟩ := ce_gi_e h
    obtain ⟨M24, e26, h⟩ := ce_nm_e h
    refine ce_iast hx hb hK hA hS 816 (ce_kf_8_0 hk) i25 dX8_delivers_101 e26 (fun H locs hA hS => ?_)
    cases h
    exact ce_vret hx hb hr hlocks hA hS dX8_delivers_102
  refine ce_lp2_i (y := M') (P := fun (M3 : ce_M) (x4 : Int32) => ce_Wg p l e (ce_R 1 23 0 0) s m (([.ref (b + k), .int a1] : List Value).toArray) below meth c 0 0 (MQ below (ce_Q X b M' none) ([.ref (b + k), .int a1] : List Value).toArray s 0 0 (ce_Ab b)) X b M3 4 [(0, .ref (b + k)), (1, .int a1), (2, .int x1), (3, .int x4)] 11 []) (fun rec5 ih6 M3 x4 h => ?_) _ _ _ h _ _ _ hA hS (lv_sub hl [2, 3, 1, 0] rfl)
  intro H locs ls hA hS hl
  unfold f_X8_delivers_L11 at h
  refine lv_iload_n hx hb dX8_delivers_11 rfl (lv_at hl 3 rfl) ?_
  refine lv_bipush (v := 12) hx hb dX8_delivers_12 (by decide) ?_
  refine lv_aload_n hx hb dX8_delivers_14 rfl (lv_at hl 0 rfl) ?_
  refine lv_iload_n hx hb dX8_delivers_15 rfl (lv_at hl 1 rfl) ?_
  refine lv_bipush (v := 6) hx hb dX8_delivers_16 (by decide) ?_
  obtain ⟨x28, g29, h⟩ := ce_b1_e h
  refine ce_callVi (As := [.int a1, .int 6]) (rest := [.int 12, .int x4]) hx hb hml hown hB (c_X8_of l X G b hk g29) ce_v_X8_of ce_w1017 ⟨Nat.le_of_ble_eq_true rfl, Nat.le_of_ble_eq_true rfl⟩ hF hA hS (ce_rc_8 hK hA hk) hl rfl rfl (Nat.le_of_ble_eq_true rfl) dX8_delivers_18 ⟨Nat.le_of_ble_eq_true rfl, Nat.le_of_ble_eq_true rfl⟩ (fun H locs hA hS => ?_)
  refine lv_iadd hx hb dX8_delivers_21 ?_
  refine lv_iconst (v := 1) hx hb dX8_delivers_22 (by decide) ?_
  refine lv_isub hx hb dX8_delivers_23 ?_
  refine lv_icmp_ge (tgt := 47) hx hb dX8_delivers_24 (by decide) (fun c30 => ?_) (fun c30 => ?_)
  · have h := ce_it c30 h
    exact Ju8 M3 h  _ _ _ hA hS (lv_sub hl [0, 1, 2] rfl)
  · have h := ce_ie c30 h
    refine lv_aload_n hx hb dX8_delivers_27 rfl (lv_at hl 0 rfl) ?_
    refine lv_iload_n hx hb dX8_delivers_28 rfl (lv_at hl 1 rfl) ?_
    refine lv_iload_n hx hb dX8_delivers_29 rfl (lv_at hl 3 rfl) ?_
    refine lv_aload_n hx hb dX8_delivers_30 rfl (lv_at hl 0 rfl) ?_
    refine lv_iload_n hx hb dX8_delivers_31 rfl (lv_at hl 1 rfl) ?_
    refine lv_iload_n hx hb dX8_delivers_32 rfl (lv_at hl 3 rfl) ?_
    refine lv_iconst (v := 1) hx hb dX8_delivers_33 (by decide) ?_
    refine lv_iadd hx hb dX8_delivers_34 ?_
    obtain ⟨x31, g32, h⟩ := ce_b1_e h
    refine ce_callVi (As := [.int a1, .int (x4 + 1)]) (rest := [.int x4, .int a1, .ref (b + k)]) hx hb hml hown hB (c_X8_of l X G b hk g32) ce_v_X8_of ce_w1017 ⟨Nat.le_of_ble_eq_true rfl, Nat.le_of_ble_eq_true rfl⟩ hF hA hS (ce_rc_8 hK hA hk) hl rfl rfl (Nat.le_of_ble_eq_true rfl) dX8_delivers_35 ⟨Nat.le_of_ble_eq_true rfl, Nat.le_of_ble_eq_true rfl⟩ (fun H locs hA hS => ?_)
    obtain ⟨M33, g34, h⟩ := ce_b1_e h
    refine ce_callVv (As := [.int a1, .int x4, .int x31]) (rest := []) hx hb hml hown hB (c_X8_put l X G b hk g34) ce_v_X8_put ce_w1009 ⟨Nat.le_of_ble_eq_true rfl, Nat.le_of_ble_eq_true rfl⟩ hF hA hS (ce_rc_8 hK hA hk) hl rfl rfl (Nat.le_of_ble_eq_true rfl) dX8_delivers_38 ⟨Nat.le_of_ble_eq_true rfl, Nat.le_of_ble_eq_true rfl⟩ (fun H locs hA hS => ?_)
    obtain ⟨x35, e36, h⟩ := ce_nm_e h
    refine lv_iinc (v := x35) (lv' := [(3, .int x35), (0, .ref (b + k)), (1, .int a1), (2, .int x1)]) hx hb dX8_delivers_41 hl (k := 3) rfl (by rw [← e36]; rfl) (by decide) rfl (fun ls hl => ?_)
    refine lv_goto (tgt := 11) hx hb dX8_delivers_44 (by decide) ?_
    exact ih6 M33 x35 h  _ _ _ hA hS (lv_sub hl [1, 2, 3, 0] rfl)
def f_X8_ticks_L156 (x36 : Int32) (k : Nat) (x15 : Int32) (u44 : ce_M → Int32 → Option (ce_M × Int32)) (rec40 : ce_M → Int32 → Option (ce_M × Int32)) (M38 : ce_M) (x39 : Int32) : Option (ce_M × Int32) :=
  if x36 = 0 then
    u44 M38 x39
  else
    ce_b1 (f_X8_of k M38 x15 6) (fun (x49 : Int32) =>
    if x49 ≤ 0 then
      u44 M38 x39
    else
      ce_b1 (f_X8_of k M38 x15 4) (fun (x52 : Int32) =>
      ce_gi x52 16 (ce_nm (ce_rd M38 (k + 4) (Int32.toNatClampNeg x52)) (fun (x54 : Int32) =>
      ce_b1 (f_X8_setting k M38 1) (fun (x57 : Int32) =>
      if x57 ≤ x54 then
        u44 M38 x39
      else
        ce_b1 (f_X8_of k M38 x15 4) (fun (x60 : Int32) =>
        ce_gi x60 16 (ce_nm (ce_rd M38 (k + 4) (Int32.toNatClampNeg x60)) (fun (x62 : Int32) =>
        ce_gi x60 16 (ce_nm (ce_wr M38 (k + 4) (Int32.toNatClampNeg x60) (x62 + 1)) (fun (M65 : ce_M) =>
        ce_b1 (f_X8_delivers k M65 x15) (fun (M68 : ce_M) =>
        ce_nm (x39 + 1) (fun (x70 : Int32) =>
        rec40 M68 x70))))))))))))
def f_X8_ticks_L114 (k : Nat) (u20 : ce_M → Int32 → Option (ce_M × Int32)) (rec16 : ce_M → Int32 → Int32 → Option (ce_M × Int32)) (M13 : ce_M) (x14 : Int32) (x15 : Int32) : Option (ce_M × Int32) :=
  ce_gi 1 816 (ce_nm (ce_rd M13 (k + 1) (Int32.toNatClampNeg 1)) (fun (x28 : Int32) =>
  if x28 ≤ x15 then
    u20 M13 x14
  else
    ce_b1 (f_X8_of k M13 x15 5) (fun (x32 : Int32) =>
    ce_nm (fun (x36 : Int32) =>
      ce_nm (fun (M42 : ce_M) (x43 : Int32) =>
          ce_nm (x15 + 1) (fun (x45 : Int32) =>
          rec16 M42 x43 x45)) (fun (u44 : ce_M → Int32 → Option (ce_M × Int32)) =>
      ce_lp2 (f_X8_ticks_L156 x36 k x15 u44) ce_FU M13 x14)) (fun (u37 : Int32 → Option (ce_M × Int32)) =>
    ce_nm (fun (z35 : Unit) =>
      u37 0) (fun (u34 : Unit → Option (ce_M × Int32)) =>
    if x32 = 1 then
      ce_gi 0 816 (ce_nm (ce_rd M13 (k + 1) (Int32.toNatClampNeg 0)) (fun (x75 : Int32) =>
      ce_b1 (f_X8_of k M13 x15 10) (fun (x78 : Int32) =>
      if x75 < x78 then
        u34 ()
      else
        u37 1)))
    else
      u34 ())))))
def f_X8_ticks_L25 (k : Nat) (u12 : ce_M → Option (ce_M × Int32)) (rec9 : ce_M → Int32 → Option (ce_M × Int32)) (M7 : ce_M) (x8 : Int32) : Option (ce_M × Int32) :=
  ce_gi 1 816 (ce_nm (ce_rd M7 (k + 1) (Int32.toNatClampNeg 1)) (fun (x82 : Int32) =>
  if x82 ≤ x8 then
    u12 M7
  else
    ce_b1 (f_X8_mayChange k M7 x8) (fun (x86 : Int32) =>
    if x86 = 0 then
      ce_nm (x8 + 1) (fun (x89 : Int32) =>
      rec9 M7 x89)
    else
      ce_b1 (f_X8_endsStay k M7 x8) (fun (M91 : ce_M) =>
      ce_b1 (f_X8_of k M91 x8 2) (fun (x93 : Int32) =>
      ce_b1 (f_X8_beginsStay k M91 x8 x93) (fun (M95 : ce_M) =>
      ce_b1 (f_X8_adds k M95 x8 9 1) (fun (M97 : ce_M) =>
      ce_b1 (f_X8_of k M97 x8 6) (fun (x99 : Int32) =>
      ce_nm (fun (x101 : Int32) =>
      ce_b1 (f_X8_put k M97 x8 10 x101) (fun (M103 : ce_M) =>
      ce_nm (x8 + 1) (fun (x105 : Int32) =>
      rec9 M103 x105))) (fun (u102 : Int32 → Option (ce_M × Int32)) =>
      if x99 ≤ 0 then
        ce_b1 (f_X8_of k M97 x8 10) (fun (x109 : Int32) =>
        u102 x109)
      else
        ce_gi 0 816 (ce_nm (ce_rd M97 (k + 1) (Int32.toNatClampNeg 0)) (fun (x111 : Int32) =>
        ce_b1 (f_X8_setting k M97 2) (fun (x114 : Int32) =>
        u102 (x111 + x114)))))))))))))
def f_X8_ticks_L4 (k : Nat) (u6 : ce_M → Option (ce_M × Int32)) (rec3 : ce_M → Int32 → Option (ce_M × Int32)) (M1 : ce_M) (x2 : Int32) : Option (ce_M × Int32) :=
  if 16 ≤ x2 then
    u6 M1
  else
    ce_gi x2 16 (ce_nm (ce_wr M1 (k + 4) (Int32.toNatClampNeg x2) 0) (fun (M118 : ce_M) =>
    ce_nm (x2 + 1) (fun (x121 : Int32) =>
    rec3 M118 x121)))
def f_X8_ticks (k : Nat) (M : ce_M) : Option (ce_M × Int32) :=
  ce_nm (fun (M5 : ce_M) =>
      ce_nm (fun (M11 : ce_M) =>
          ce_nm (fun (M18 : ce_M) (x19 : Int32) =>
              ce_gi 0 816 (ce_nm (ce_rd M18 (k + 1) (Int32.toNatClampNeg 0)) (fun (x21 : Int32) =>
              ce_gi 0 816 (ce_nm (ce_wr M18 (k + 1) (Int32.toNatClampNeg 0) (x21 + 1)) (fun (M24 : ce_M) =>
              some (M24, x19)))))) (fun (u20 : ce_M → Int32 → Option (ce_M × Int32)) =>
          ce_lp3 (f_X8_ticks_L114 k u20) ce_FU M11 0 0)) (fun (u12 : ce_M → Option (ce_M × Int32)) =>
      ce_lp2 (f_X8_ticks_L25 k u12) ce_FU M5 0)) (fun (u6 : ce_M → Option (ce_M × Int32)) =>
  ce_lp2 (f_X8_ticks_L4 k u6) ce_FU M 0)
set_option maxRecDepth 100000 in
set_option maxHeartbeats 4000000 in
theorem c_X8_ticks (l : Launch) (X : ce_X) (G : ce_G) (b : Nat) {k : Nat} {M : ce_M} (hk : ce_kd k = 8) {M' : ce_M} {r : Int32} (h : f_X8_ticks k M = some (M', r)) : ce_Ct l yX8_ticks cX8_ticks 4 (some .int) 3 64 X G b [.ref (b + k)] M (some (.int r)) M' := by
  refine ce_ofW (own := RX8) (by decide) rfl (Nat.le_of_ble_eq_true rfl) (fun p e s m below meth c ls hx hb hr hlocks hml hown hB hF hA hl hS => ?_)
  have hK := hF.1
  have hl : lv_has ls 4 [(0, .ref (b + k))] := hl
  unfold f_X8_ticks at h
  refine lv_iconst (v := 0) hx hb dX8_ticks_0 (by decide) ?_
  refine lv_istore_n (lv' := [(1, .int 0), (0, .ref (b + k))]) hx hb dX8_ticks_1 rfl hl (by decide) rfl (fun ls hl => ?_)
  refine lv_iconst (v := 0) hx hb dX8_ticks_2 (by decide) ?_
  refine lv_istore_n (lv' := [(2, .int 0), (1, .int 0), (0, .ref (b + k))]) hx hb dX8_ticks_3 rfl hl (by decide) rfl (fun ls hl => ?_)
  obtain ⟨u6, e116, h⟩ := ce_nm_e h
  have Ju6 : ∀ (M5 : ce_M), u6 M5 = some (M', r) → ce_Wg p l e (ce_R 3 64 0 0) s m (([.ref (b + k)] : List Value).toArray) below meth c 0 0 (MQ below (ce_Q X b M' (some (.int r))) ([.ref (b + k)] : List Value).toArray s 0 0 (ce_Ab b)) X b M5 4 [(0, .ref (b + k)), (1, .int 0)] 23 [] := by
    intro M5 h  H locs ls hA hS hl
    subst e116
    refine lv_iconst (v := 0) hx hb dX8_ticks_23 (by decide) ?_
    refine lv_istore_n (lv' := [(2, .int 0), (0, .ref (b + k)), (1, .int 0)]) hx hb dX8_ticks_24 rfl hl (by decide) rfl (fun ls hl => ?_)
    obtain ⟨u12, e81, h⟩ := ce_nm_e h
    have Ju12 : ∀ (M11 : ce_M), u12 M11 = some (M', r) → ce_Wg p l e (ce_R 3 64 0 0) s m (([.ref (b + k)] : List Value).toArray) below meth c 0 0 (MQ below (ce_Q X b M' (some (.int r))) ([.ref (b + k)] : List Value).toArray s 0 0 (ce_Ab b)) X b M11 4 [(0, .ref (b + k)), (1, .int 0)] 112 [] := by
      intro M11 h  H locs ls hA hS hl
      subst e81
      refine lv_iconst (v := 0) hx hb dX8_ticks_112 (by decide) ?_
      refine lv_istore_n (lv' := [(2, .int 0), (0, .ref (b + k)), (1, .int 0)]) hx hb dX8_ticks_113 rfl hl (by decide) rfl (fun ls hl => ?_)
      obtain ⟨u20, e27, h⟩ := ce_nm_e h
      have Ju20 : ∀ (M18 : ce_M) (x19 : Int32), u20 M18 x19 = some (M', r) → ce_Wg p l e (ce_R 3 64 0 0) s m (([.ref (b + k)] : List Value).toArray) below meth c 0 0 (MQ below (ce_Q X b M' (some (.int r))) ([.ref (b + k)] : List Value).toArray s 0 0 (ce_Ab b)) X b M18 4 [(0, .ref (b + k)), (1, .int x19)] 221 [] := by
        intro M18 x19 h  H locs ls hA hS hl
        subst e27
        refine lv_aload_n hx hb dX8_ticks_221 rfl (lv_at hl 0 rfl) ?_
        refine ce_g_8_0 hx hb hB hown hK hA hk ce_w944 dX8_ticks_222 ?_
        refine lv_iconst (v := 0) hx hb dX8_ticks_225 (by decide) ?_
        refine lv_dup2_11 hx hb dX8_ticks_226 rfl rfl ?_
        obtain ⟨i22, h⟩ := ce_gi_e h
        obtain ⟨x21, e23, h⟩ := ce_nm_e h
        refine ce_iald hx hb hK hA 816 (ce_kf_8_0 hk) i22 e23 dX8_ticks_227 ?_
        refine lv_iconst (v := 1) hx hb dX8_ticks_228 (by decide) ?_
        refine lv_iadd hx hb dX8_ticks_229 ?_
        obtain ⟨i25, h⟩ := ce_gi_e h
        obtain ⟨M24, e26, h⟩ := ce_nm_e h
        refine ce_iast hx hb hK hA hS 816 (ce_kf_8_0 hk) i25 dX8_ticks_230 e26 (fun H locs hA hS => ?_)
        refine lv_iload_n hx hb dX8_ticks_231 rfl (lv_at hl 1 rfl) ?_
        cases h
        exact ce_iret hx hb hr hlocks hA hS dX8_ticks_232
      refine ce_lp3_i (y := (M', r)) (P := fun (M13 : ce_M) (x14 : Int32) (x15 : Int32) => ce_Wg p l e (ce_R 3 64 0 0) s m (([.ref (b + k)] : List Value).toArray) below meth c 0 0 (MQ below (ce_Q X b M' (some (.int r))) ([.ref (b + k)] : List Value).toArray s 0 0 (ce_Ab b)) X b M13 4 [(0, .ref (b + k)), (1, .int x14), (2, .int x15)] 114 []) (fun rec16 ih17 M13 x14 x15 h => ?_) _ _ _ _ h _ _ _ hA hS (lv_sub hl [1, 2, 0] rfl)
      intro H locs ls hA hS hl
      unfold f_X8_ticks_L114 at h
      refine lv_iload_n hx hb dX8_ticks_114 rfl (lv_at hl 2 rfl) ?_
      refine lv_aload_n hx hb dX8_ticks_115 rfl (lv_at hl 0 rfl) ?_
      refine ce_g_8_0 hx hb hB hown hK hA hk ce_w944 dX8_ticks_116 ?_
      refine lv_iconst (v := 1) hx hb dX8_ticks_119 (by decide) ?_
      obtain ⟨i29, h⟩ := ce_gi_e h
      obtain ⟨x28, e30, h⟩ := ce_nm_e h
      refine ce_iald hx hb hK hA 816 (ce_kf_8_0 hk) i29 e30 dX8_ticks_120 ?_
      refine lv_icmp_ge (tgt := 221) hx hb dX8_ticks_121 (by decide) (fun c31 => ?_) (fun c31 => ?_)
      · have h := ce_it c31 h
        exact Ju20 M13 x14 h  _ _ _ hA hS (lv_sub hl [0, 1] rfl)
      · have h := ce_ie c31 h
        refine lv_aload_n hx hb dX8_ticks_124 rfl (lv_at hl 0 rfl) ?_
        refine lv_iload_n hx hb dX8_ticks_125 rfl (lv_at hl 2 rfl) ?_
        refine lv_iconst (v := 5) hx hb dX8_ticks_126 (by decide) ?_
        obtain ⟨x32, g33, h⟩ := ce_b1_e h
        refine ce_callVi (As := [.int x15, .int 5]) (rest := []) hx hb hml hown hB (c_X8_of l X G b hk g33) ce_v_X8_of ce_w1017 ⟨Nat.le_of_ble_eq_true rfl, Nat.le_of_ble_eq_true rfl⟩ hF hA hS (ce_rc_8 hK hA hk) hl rfl rfl (Nat.le_of_ble_eq_true rfl) dX8_ticks_127 ⟨Nat.le_of_ble_eq_true rfl, Nat.le_of_ble_eq_true rfl⟩ (fun H locs hA hS => ?_)
        refine lv_iconst (v := 1) hx hb dX8_ticks_130 (by decide) ?_
        obtain ⟨u37, e72, h⟩ := ce_nm_e h
        have Ju37 : ∀ (x36 : Int32), u37 x36 = some (M', r) → ce_Wg p l e (ce_R 3 64 0 0) s m (([.ref (b + k)] : List Value).toArray) below meth c 0 0 (MQ below (ce_Q X b M' (some (.int r))) ([.ref (b + k)] : List Value).toArray s 0 0 (ce_Ab b)) X b M13 4 [(0, .ref (b + k)), (1, .int x14), (2, .int x15)] 155 [.int x36] := by
          intro x36 h  H locs ls hA hS hl
          subst e72
          refine lv_istore_n (lv' := [(3, .int x36), (0, .ref (b + k)), (1, .int x14), (2, .int x15)]) hx hb dX8_ticks_155 rfl hl (by decide) rfl (fun ls hl => ?_)
          obtain ⟨u44, e47, h⟩ := ce_nm_e h
          have Ju44 : ∀ (M42 : ce_M) (x43 : Int32), u44 M42 x43 = some (M', r) → ce_Wg p l e (ce_R 3 64 0 0) s m (([.ref (b + k)] : List Value).toArray) below meth c 0 0 (MQ below (ce_Q X b M' (some (.int r))) ([.ref (b + k)] : List Value).toArray s 0 0 (ce_Ab b)) X b M42 4 [(0, .ref (b + k)), (1, .int x43), (2, .int x15)] 215 [] := by
            intro M42 x43 h  H locs ls hA hS hl
            subst e47
            obtain ⟨x45, e46, h⟩ := ce_nm_e h
            refine lv_iinc (v := x45) (lv' := [(2, .int x45), (0, .ref (b + k)), (1, .int x43)]) hx hb dX8_ticks_215 hl (k := 2) rfl (by rw [← e46]; rfl) (by decide) rfl (fun ls hl => ?_)
            refine lv_goto (tgt := 114) hx hb dX8_ticks_218 (by decide) ?_
            exact ih17 M42 x43 x45 h  _ _ _ hA hS (lv_sub hl [1, 2, 0] rfl)
          refine ce_lp2_i (y := (M', r)) (P := fun (M38 : ce_M) (x39 : Int32) => ce_Wg p l e (ce_R 3 64 0 0) s m (([.ref (b + k)] : List Value).toArray) below meth c 0 0 (MQ below (ce_Q X b M' (some (.int r))) ([.ref (b + k)] : List Value).toArray s 0 0 (ce_Ab b)) X b M38 4 [(0, .ref (b + k)), (1, .int x39), (2, .int x15), (3, .int x36)] 156 []) (fun rec40 ih41 M38 x39 h => ?_) _ _ _ h _ _ _ hA hS (lv_sub hl [1, 2, 3, 0] rfl)
          intro H locs ls hA hS hl
          unfold f_X8_ticks_L156 at h
          refine lv_iload_n hx hb dX8_ticks_156 rfl (lv_at hl 3 rfl) ?_
          refine lv_if_eq (tgt := 215) hx hb dX8_ticks_157 (by decide) (fun c48 => ?_) (fun c48 => ?_)
          · have h := ce_it c48 h
            exact Ju44 M38 x39 h  _ _ _ hA hS (lv_sub hl [0, 1, 2] rfl)
          · have h := ce_ie c48 h
            refine lv_aload_n hx hb dX8_ticks_160 rfl (lv_at hl 0 rfl) ?_
            refine lv_iload_n hx hb dX8_ticks_161 rfl (lv_at hl 2 rfl) ?_
            refine lv_bipush (v := 6) hx hb dX8_ticks_162 (by decide) ?_
            obtain ⟨x49, g50, h⟩ := ce_b1_e h
            refine ce_callVi (As := [.int x15, .int 6]) (rest := []) hx hb hml hown hB (c_X8_of l X G b hk g50) ce_v_X8_of ce_w1017 ⟨Nat.le_of_ble_eq_true rfl, Nat.le_of_ble_eq_true rfl⟩ hF hA hS (ce_rc_8 hK hA hk) hl rfl rfl (Nat.le_of_ble_eq_true rfl) dX8_ticks_164 ⟨Nat.le_of_ble_eq_true rfl, Nat.le_of_ble_eq_true rfl⟩ (fun H locs hA hS => ?_)
            refine lv_if_le (tgt := 215) hx hb dX8_ticks_167 (by decide) (fun c51 => ?_) (fun c51 => ?_)
            · have h := ce_it c51 h
              exact Ju44 M38 x39 h  _ _ _ hA hS (lv_sub hl [0, 1, 2] rfl)
            · have h := ce_ie c51 h
              refine lv_aload_n hx hb dX8_ticks_170 rfl (lv_at hl 0 rfl) ?_
              refine ce_g_8_6 hx hb hB hown hK hA hk ce_w950 dX8_ticks_171 ?_
              refine lv_aload_n hx hb dX8_ticks_174 rfl (lv_at hl 0 rfl) ?_
              refine lv_iload_n hx hb dX8_ticks_175 rfl (lv_at hl 2 rfl) ?_
              refine lv_iconst (v := 4) hx hb dX8_ticks_176 (by decide) ?_
              obtain ⟨x52, g53, h⟩ := ce_b1_e h
              refine ce_callVi (As := [.int x15, .int 4]) (rest := [.ref (b + (k + 4))]) hx hb hml hown hB (c_X8_of l X G b hk g53) ce_v_X8_of ce_w1017 ⟨Nat.le_of_ble_eq_true rfl, Nat.le_of_ble_eq_true rfl⟩ hF hA hS (ce_rc_8 hK hA hk) hl rfl rfl (Nat.le_of_ble_eq_true rfl) dX8_ticks_177 ⟨Nat.le_of_ble_eq_true rfl, Nat.le_of_ble_eq_true rfl⟩ (fun H locs hA hS => ?_)
              obtain ⟨i55, h⟩ := ce_gi_e h
              obtain ⟨x54, e56, h⟩ := ce_nm_e h
              refine ce_iald hx hb hK hA 16 (ce_kf_8_6 hk) i55 e56 dX8_ticks_180 ?_
              refine lv_aload_n hx hb dX8_ticks_181 rfl (lv_at hl 0 rfl) ?_
              refine lv_iconst (v := 1) hx hb dX8_ticks_182 (by decide) ?_
              obtain ⟨x57, g58, h⟩ := ce_b1_e h
              refine ce_callVi (As := [.int 1]) (rest := [.int x54]) hx hb hml hown hB (c_X8_setting l X G b hk g58) ce_v_X8_setting ce_w1081 ⟨Nat.le_of_ble_eq_true rfl, Nat.le_of_ble_eq_true rfl⟩ hF hA hS (ce_rc_8 hK hA hk) hl rfl rfl (Nat.le_of_ble_eq_true rfl) dX8_ticks_183 ⟨Nat.le_of_ble_eq_true rfl, Nat.le_of_ble_eq_true rfl⟩ (fun H locs hA hS => ?_)
              refine lv_icmp_ge (tgt := 215) hx hb dX8_ticks_186 (by decide) (fun c59 => ?_) (fun c59 => ?_)
              · have h := ce_it c59 h
                exact Ju44 M38 x39 h  _ _ _ hA hS (lv_sub hl [0, 1, 2] rfl)
              · have h := ce_ie c59 h
                refine lv_aload_n hx hb dX8_ticks_189 rfl (lv_at hl 0 rfl) ?_
                refine ce_g_8_6 hx hb hB hown hK hA hk ce_w950 dX8_ticks_190 ?_
                refine lv_aload_n hx hb dX8_ticks_193 rfl (lv_at hl 0 rfl) ?_
                refine lv_iload_n hx hb dX8_ticks_194 rfl (lv_at hl 2 rfl) ?_
                refine lv_iconst (v := 4) hx hb dX8_ticks_195 (by decide) ?_
                obtain ⟨x60, g61, h⟩ := ce_b1_e h
                refine ce_callVi (As := [.int x15, .int 4]) (rest := [.ref (b + (k + 4))]) hx hb hml hown hB (c_X8_of l X G b hk g61) ce_v_X8_of ce_w1017 ⟨Nat.le_of_ble_eq_true rfl, Nat.le_of_ble_eq_true rfl⟩ hF hA hS (ce_rc_8 hK hA hk) hl rfl rfl (Nat.le_of_ble_eq_true rfl) dX8_ticks_196 ⟨Nat.le_of_ble_eq_true rfl, Nat.le_of_ble_eq_true rfl⟩ (fun H locs hA hS => ?_)
                refine lv_dup2_11 hx hb dX8_ticks_199 rfl rfl ?_
                obtain ⟨i63, h⟩ := ce_gi_e h
                obtain ⟨x62, e64, h⟩ := ce_nm_e h
                refine ce_iald hx hb hK hA 16 (ce_kf_8_6 hk) i63 e64 dX8_ticks_200 ?_
                refine lv_iconst (v := 1) hx hb dX8_ticks_201 (by decide) ?_
                refine lv_iadd hx hb dX8_ticks_202 ?_
                obtain ⟨i66, h⟩ := ce_gi_e h
                obtain ⟨M65, e67, h⟩ := ce_nm_e h
                refine ce_iast hx hb hK hA hS 16 (ce_kf_8_6 hk) i66 dX8_ticks_203 e67 (fun H locs hA hS => ?_)
                refine lv_aload_n hx hb dX8_ticks_204 rfl (lv_at hl 0 rfl) ?_
                refine lv_iload_n hx hb dX8_ticks_205 rfl (lv_at hl 2 rfl) ?_
                obtain ⟨M68, g69, h⟩ := ce_b1_e h
                refine ce_callVv (As := [.int x15]) (rest := []) hx hb hml hown hB (c_X8_delivers l X G b hk g69) ce_v_X8_delivers ce_w1143 ⟨Nat.le_of_ble_eq_true rfl, Nat.le_of_ble_eq_true rfl⟩ hF hA hS (ce_rc_8 hK hA hk) hl rfl rfl (Nat.le_of_ble_eq_true rfl) dX8_ticks_206 ⟨Nat.le_of_ble_eq_true rfl, Nat.le_of_ble_eq_true rfl⟩ (fun H locs hA hS => ?_)
                obtain ⟨x70, e71, h⟩ := ce_nm_e h
                refine lv_iinc (v := x70) (lv' := [(1, .int x70), (0, .ref (b + k)), (2, .int x15), (3, .int x36)]) hx hb dX8_ticks_209 hl (k := 1) rfl (by rw [← e71]; rfl) (by decide) rfl (fun ls hl => ?_)
                refine lv_goto (tgt := 156) hx hb dX8_ticks_212 (by decide) ?_
                exact ih41 M68 x70 h  _ _ _ hA hS (lv_sub hl [1, 0, 2, 3] rfl)
        obtain ⟨u34, e73, h⟩ := ce_nm_e h
        have Ju34 : ∀ (z35 : Unit), u34 z35 = some (M', r) → ce_Wg p l e (ce_R 3 64 0 0) s m (([.ref (b + k)] : List Value).toArray) below meth c 0 0 (MQ below (ce_Q X b M' (some (.int r))) ([.ref (b + k)] : List Value).toArray s 0 0 (ce_Ab b)) X b M13 4 [(0, .ref (b + k)), (1, .int x14), (2, .int x15)] 154 [] := by
          intro z35 h  H locs ls hA hS hl
          subst e73
          refine lv_iconst (v := 0) hx hb dX8_ticks_154 (by decide) ?_
          exact Ju37 0 h  _ _ _ hA hS (lv_sub hl [0, 1, 2] rfl)
        refine lv_icmp_ne (tgt := 154) hx hb dX8_ticks_131 (by decide) (fun c74 => ?_) (fun c74 => ?_)
        · have h := ce_ie c74 h
          exact Ju34 () h  _ _ _ hA hS (lv_sub hl [0, 1, 2] rfl)
        · have h := ce_it c74 h
          refine lv_aload_n hx hb dX8_ticks_134 rfl (lv_at hl 0 rfl) ?_
          refine ce_g_8_0 hx hb hB hown hK hA hk ce_w944 dX8_ticks_135 ?_
          refine lv_iconst (v := 0) hx hb dX8_ticks_138 (by decide) ?_
          obtain ⟨i76, h⟩ := ce_gi_e h
          obtain ⟨x75, e77, h⟩ := ce_nm_e h
          refine ce_iald hx hb hK hA 816 (ce_kf_8_0 hk) i76 e77 dX8_ticks_139 ?_
          refine lv_aload_n hx hb dX8_ticks_140 rfl (lv_at hl 0 rfl) ?_
          refine lv_iload_n hx hb dX8_ticks_141 rfl (lv_at hl 2 rfl) ?_
          refine lv_bipush (v := 10) hx hb dX8_ticks_142 (by decide) ?_
          obtain ⟨x78, g79, h⟩ := ce_b1_e h
          refine ce_callVi (As := [.int x15, .int 10]) (rest := [.int x75]) hx hb hml hown hB (c_X8_of l X G b hk g79) ce_v_X8_of ce_w1017 ⟨Nat.le_of_ble_eq_true rfl, Nat.le_of_ble_eq_true rfl⟩ hF hA hS (ce_rc_8 hK hA hk) hl rfl rfl (Nat.le_of_ble_eq_true rfl) dX8_ticks_144 ⟨Nat.le_of_ble_eq_true rfl, Nat.le_of_ble_eq_true rfl⟩ (fun H locs hA hS => ?_)
          refine lv_icmp_lt (tgt := 154) hx hb dX8_ticks_147 (by decide) (fun c80 => ?_) (fun c80 => ?_)
          · have h := ce_it c80 h
            exact Ju34 () h  _ _ _ hA hS (lv_sub hl [0, 1, 2] rfl)
          · have h := ce_ie c80 h
            refine lv_iconst (v := 1) hx hb dX8_ticks_150 (by decide) ?_
            refine lv_goto (tgt := 155) hx hb dX8_ticks_151 (by decide) ?_
            exact Ju37 1 h  _ _ _ hA hS (lv_sub hl [0, 1, 2] rfl)
    refine ce_lp2_i (y := (M', r)) (P := fun (M7 : ce_M) (x8 : Int32) => ce_Wg p l e (ce_R 3 64 0 0) s m (([.ref (b + k)] : List Value).toArray) below meth c 0 0 (MQ below (ce_Q X b M' (some (.int r))) ([.ref (b + k)] : List Value).toArray s 0 0 (ce_Ab b)) X b M7 4 [(0, .ref (b + k)), (1, .int 0), (2, .int x8)] 25 []) (fun rec9 ih10 M7 x8 h => ?_) _ _ _ h _ _ _ hA hS (lv_sub hl [1, 2, 0] rfl)
    intro H locs ls hA hS hl
    unfold f_X8_ticks_L25 at h
    refine lv_iload_n hx hb dX8_ticks_25 rfl (lv_at hl 2 rfl) ?_
    refine lv_aload_n hx hb dX8_ticks_26 rfl (lv_at hl 0 rfl) ?_
    refine ce_g_8_0 hx hb hB hown hK hA hk ce_w944 dX8_ticks_27 ?_
    refine lv_iconst (v := 1) hx hb dX8_ticks_30 (by decide) ?_
    obtain ⟨i83, h⟩ := ce_gi_e h
    obtain ⟨x82, e84, h⟩ := ce_nm_e h
    refine ce_iald hx hb hK hA 816 (ce_kf_8_0 hk) i83 e84 dX8_ticks_31 ?_
    refine lv_icmp_ge (tgt := 112) hx hb dX8_ticks_32 (by decide) (fun c85 => ?_) (fun c85 => ?_)
    · have h := ce_it c85 h
      exact Ju12 M7 h  _ _ _ hA hS (lv_sub hl [0, 1] rfl)
    · have h := ce_ie c85 h
      refine lv_aload_n hx hb dX8_ticks_35 rfl (lv_at hl 0 rfl) ?_
      refine lv_iload_n hx hb dX8_ticks_36 rfl (lv_at hl 2 rfl) ?_
      obtain ⟨x86, g87, h⟩ := ce_b1_e h
      refine ce_callVi (As := [.int x8]) (rest := []) hx hb hml hown hB (c_X8_mayChange l X G b hk g87) ce_v_X8_mayChange ce_w1135 ⟨Nat.le_of_ble_eq_true rfl, Nat.le_of_ble_eq_true rfl⟩ hF hA hS (ce_rc_8 hK hA hk) hl rfl rfl (Nat.le_of_ble_eq_true rfl) dX8_ticks_37 ⟨Nat.le_of_ble_eq_true rfl, Nat.le_of_ble_eq_true rfl⟩ (fun H locs hA hS => ?_)
      refine lv_if_eq (tgt := 106) hx hb dX8_ticks_40 (by decide) (fun c88 => ?_) (fun c88 => ?_)
      · have h := ce_it c88 h
        obtain ⟨x89, e90, h⟩ := ce_nm_e h
        refine lv_iinc (v := x89) (lv' := [(2, .int x89), (0, .ref (b + k)), (1, .int 0)]) hx hb dX8_ticks_106 hl (k := 2) rfl (by rw [← e90]; rfl) (by decide) rfl (fun ls hl => ?_)
        refine lv_goto (tgt := 25) hx hb dX8_ticks_109 (by decide) ?_
        exact ih10 M7 x89 h  _ _ _ hA hS (lv_sub hl [1, 2, 0] rfl)
      · have h := ce_ie c88 h
        refine lv_aload_n hx hb dX8_ticks_43 rfl (lv_at hl 0 rfl) ?_
        refine lv_iload_n hx hb dX8_ticks_44 rfl (lv_at hl 2 rfl) ?_
        obtain ⟨M91, g92, h⟩ := ce_b1_e h
        refine ce_callVv (As := [.int x8]) (rest := []) hx hb hml hown hB (c_X8_endsStay l X G b hk g92) ce_v_X8_endsStay ce_w1065 ⟨Nat.le_of_ble_eq_true rfl, Nat.le_of_ble_eq_true rfl⟩ hF hA hS (ce_rc_8 hK hA hk) hl rfl rfl (Nat.le_of_ble_eq_true rfl) dX8_ticks_45 ⟨Nat.le_of_ble_eq_true rfl, Nat.le_of_ble_eq_true rfl⟩ (fun H locs hA hS => ?_)
        refine lv_aload_n hx hb dX8_ticks_48 rfl (lv_at hl 0 rfl) ?_
        refine lv_iload_n hx hb dX8_ticks_49 rfl (lv_at hl 2 rfl) ?_
        refine lv_aload_n hx hb dX8_ticks_50 rfl (lv_at hl 0 rfl) ?_
        refine lv_iload_n hx hb dX8_ticks_51 rfl (lv_at hl 2 rfl) ?_
        refine lv_iconst (v := 2) hx hb dX8_ticks_52 (by decide) ?_
        obtain ⟨x93, g94, h⟩ := ce_b1_e h
        refine ce_callVi (As := [.int x8, .int 2]) (rest := [.int x8, .ref (b + k)]) hx hb hml hown hB (c_X8_of l X G b hk g94) ce_v_X8_of ce_w1017 ⟨Nat.le_of_ble_eq_true rfl, Nat.le_of_ble_eq_true rfl⟩ hF hA hS (ce_rc_8 hK hA hk) hl rfl rfl (Nat.le_of_ble_eq_true rfl) dX8_ticks_53 ⟨Nat.le_of_ble_eq_true rfl, Nat.le_of_ble_eq_true rfl⟩ (fun H locs hA hS => ?_)
        obtain ⟨M95, g96, h⟩ := ce_b1_e h
        refine ce_callVv (As := [.int x8, .int x93]) (rest := []) hx hb hml hown hB (c_X8_beginsStay l X G b hk g96) ce_v_X8_beginsStay ce_w1013 ⟨Nat.le_of_ble_eq_true rfl, Nat.le_of_ble_eq_true rfl⟩ hF hA hS (ce_rc_8 hK hA hk) hl rfl rfl (Nat.le_of_ble_eq_true rfl) dX8_ticks_56 ⟨Nat.le_of_ble_eq_true rfl, Nat.le_of_ble_eq_true rfl⟩ (fun H locs hA hS => ?_)
        refine lv_aload_n hx hb dX8_ticks_59 rfl (lv_at hl 0 rfl) ?_
        refine lv_iload_n hx hb dX8_ticks_60 rfl (lv_at hl 2 rfl) ?_
        refine lv_bipush (v := 9) hx hb dX8_ticks_61 (by decide) ?_
        refine lv_iconst (v := 1) hx hb dX8_ticks_63 (by decide) ?_
        obtain ⟨M97, g98, h⟩ := ce_b1_e h
        refine ce_callVv (As := [.int x8, .int 9, .int 1]) (rest := []) hx hb hml hown hB (c_X8_adds l X G b hk g98) ce_v_X8_adds ce_w1021 ⟨Nat.le_of_ble_eq_true rfl, Nat.le_of_ble_eq_true rfl⟩ hF hA hS (ce_rc_8 hK hA hk) hl rfl rfl (Nat.le_of_ble_eq_true rfl) dX8_ticks_64 ⟨Nat.le_of_ble_eq_true rfl, Nat.le_of_ble_eq_true rfl⟩ (fun H locs hA hS => ?_)
        refine lv_aload_n hx hb dX8_ticks_67 rfl (lv_at hl 0 rfl) ?_
        refine lv_iload_n hx hb dX8_ticks_68 rfl (lv_at hl 2 rfl) ?_
        refine lv_bipush (v := 10) hx hb dX8_ticks_69 (by decide) ?_
        refine lv_aload_n hx hb dX8_ticks_71 rfl (lv_at hl 0 rfl) ?_
        refine lv_iload_n hx hb dX8_ticks_72 rfl (lv_at hl 2 rfl) ?_
        refine lv_bipush (v := 6) hx hb dX8_ticks_73 (by decide) ?_
        obtain ⟨x99, g100, h⟩ := ce_b1_e h
        refine ce_callVi (As := [.int x8, .int 6]) (rest := [.int 10, .int x8, .ref (b + k)]) hx hb hml hown hB (c_X8_of l X G b hk g100) ce_v_X8_of ce_w1017 ⟨Nat.le_of_ble_eq_true rfl, Nat.le_of_ble_eq_true rfl⟩ hF hA hS (ce_rc_8 hK hA hk) hl rfl rfl (Nat.le_of_ble_eq_true rfl) dX8_ticks_75 ⟨Nat.le_of_ble_eq_true rfl, Nat.le_of_ble_eq_true rfl⟩ (fun H locs hA hS => ?_)
        obtain ⟨u102, e107, h⟩ := ce_nm_e h
        have Ju102 : ∀ (x101 : Int32), u102 x101 = some (M', r) → ce_Wg p l e (ce_R 3 64 0 0) s m (([.ref (b + k)] : List Value).toArray) below meth c 0 0 (MQ below (ce_Q X b M' (some (.int r))) ([.ref (b + k)] : List Value).toArray s 0 0 (ce_Ab b)) X b M97 4 [(0, .ref (b + k)), (1, .int 0), (2, .int x8)] 103 [.int x101, .int 10, .int x8, .ref (b + k)] := by
          intro x101 h  H locs ls hA hS hl
          subst e107
          obtain ⟨M103, g104, h⟩ := ce_b1_e h
          refine ce_callVv (As := [.int x8, .int 10, .int x101]) (rest := []) hx hb hml hown hB (c_X8_put l X G b hk g104) ce_v_X8_put ce_w1009 ⟨Nat.le_of_ble_eq_true rfl, Nat.le_of_ble_eq_true rfl⟩ hF hA hS (ce_rc_8 hK hA hk) hl rfl rfl (Nat.le_of_ble_eq_true rfl) dX8_ticks_103 ⟨Nat.le_of_ble_eq_true rfl, Nat.le_of_ble_eq_true rfl⟩ (fun H locs hA hS => ?_)
          obtain ⟨x105, e106, h⟩ := ce_nm_e h
          refine lv_iinc (v := x105) (lv' := [(2, .int x105), (0, .ref (b + k)), (1, .int 0)]) hx hb dX8_ticks_106 hl (k := 2) rfl (by rw [← e106]; rfl) (by decide) rfl (fun ls hl => ?_)
          refine lv_goto (tgt := 25) hx hb dX8_ticks_109 (by decide) ?_
          exact ih10 M103 x105 h  _ _ _ hA hS (lv_sub hl [1, 2, 0] rfl)
        refine lv_if_le (tgt := 96) hx hb dX8_ticks_78 (by decide) (fun c108 => ?_) (fun c108 => ?_)
        · have h := ce_it c108 h
          refine lv_aload_n hx hb dX8_ticks_96 rfl (lv_at hl 0 rfl) ?_
          refine lv_iload_n hx hb dX8_ticks_97 rfl (lv_at hl 2 rfl) ?_
          refine lv_bipush (v := 10) hx hb dX8_ticks_98 (by decide) ?_
          obtain ⟨x109, g110, h⟩ := ce_b1_e h
          refine ce_callVi (As := [.int x8, .int 10]) (rest := [.int 10, .int x8, .ref (b + k)]) hx hb hml hown hB (c_X8_of l X G b hk g110) ce_v_X8_of ce_w1017 ⟨Nat.le_of_ble_eq_true rfl, Nat.le_of_ble_eq_true rfl⟩ hF hA hS (ce_rc_8 hK hA hk) hl rfl rfl (Nat.le_of_ble_eq_true rfl) dX8_ticks_100 ⟨Nat.le_of_ble_eq_true rfl, Nat.le_of_ble_eq_true rfl⟩ (fun H locs hA hS => ?_)
          exact Ju102 x109 h  _ _ _ hA hS (lv_sub hl [0, 1, 2] rfl)
        · have h := ce_ie c108 h
          refine lv_aload_n hx hb dX8_ticks_81 rfl (lv_at hl 0 rfl) ?_
          refine ce_g_8_0 hx hb hB hown hK hA hk ce_w944 dX8_ticks_82 ?_
          refine lv_iconst (v := 0) hx hb dX8_ticks_85 (by decide) ?_
          obtain ⟨i112, h⟩ := ce_gi_e h
          obtain ⟨x111, e113, h⟩ := ce_nm_e h
          refine ce_iald hx hb hK hA 816 (ce_kf_8_0 hk) i112 e113 dX8_ticks_86 ?_
          refine lv_aload_n hx hb dX8_ticks_87 rfl (lv_at hl 0 rfl) ?_
          refine lv_iconst (v := 2) hx hb dX8_ticks_88 (by decide) ?_
          obtain ⟨x114, g115, h⟩ := ce_b1_e h
          refine ce_callVi (As := [.int 2]) (rest := [.int x111, .int 10, .int x8, .ref (b + k)]) hx hb hml hown hB (c_X8_setting l X G b hk g115) ce_v_X8_setting ce_w1081 ⟨Nat.le_of_ble_eq_true rfl, Nat.le_of_ble_eq_true rfl⟩ hF hA hS (ce_rc_8 hK hA hk) hl rfl rfl (Nat.le_of_ble_eq_true rfl) dX8_ticks_89 ⟨Nat.le_of_ble_eq_true rfl, Nat.le_of_ble_eq_true rfl⟩ (fun H locs hA hS => ?_)
          refine lv_iadd hx hb dX8_ticks_92 ?_
          refine lv_goto (tgt := 103) hx hb dX8_ticks_93 (by decide) ?_
          exact Ju102 (x111 + x114) h  _ _ _ hA hS (lv_sub hl [0, 1, 2] rfl)
  refine ce_lp2_i (y := (M', r)) (P := fun (M1 : ce_M) (x2 : Int32) => ce_Wg p l e (ce_R 3 64 0 0) s m (([.ref (b + k)] : List Value).toArray) below meth c 0 0 (MQ below (ce_Q X b M' (some (.int r))) ([.ref (b + k)] : List Value).toArray s 0 0 (ce_Ab b)) X b M1 4 [(0, .ref (b + k)), (1, .int 0), (2, .int x2)] 4 []) (fun rec3 ih4 M1 x2 h => ?_) _ _ _ h _ _ _ hA hS (lv_sub hl [2, 1, 0] rfl)
  intro H locs ls hA hS hl
  unfold f_X8_ticks_L4 at h
  refine lv_iload_n hx hb dX8_ticks_4 rfl (lv_at hl 2 rfl) ?_
  refine lv_bipush (v := 16) hx hb dX8_ticks_5 (by decide) ?_
  refine lv_icmp_ge (tgt := 23) hx hb dX8_ticks_7 (by decide) (fun c117 => ?_) (fun c117 => ?_)
  · have h := ce_it c117 h
    exact Ju6 M1 h  _ _ _ hA hS (lv_sub hl [0, 1] rfl)
  · have h := ce_ie c117 h
    refine lv_aload_n hx hb dX8_ticks_10 rfl (lv_at hl 0 rfl) ?_
    refine ce_g_8_6 hx hb hB hown hK hA hk ce_w950 dX8_ticks_11 ?_
    refine lv_iload_n hx hb dX8_ticks_14 rfl (lv_at hl 2 rfl) ?_
    refine lv_iconst (v := 0) hx hb dX8_ticks_15 (by decide) ?_
    obtain ⟨i119, h⟩ := ce_gi_e h
    obtain ⟨M118, e120, h⟩ := ce_nm_e h
    refine ce_iast hx hb hK hA hS 16 (ce_kf_8_6 hk) i119 dX8_ticks_16 e120 (fun H locs hA hS => ?_)
    obtain ⟨x121, e122, h⟩ := ce_nm_e h
    refine lv_iinc (v := x121) (lv' := [(2, .int x121), (0, .ref (b + k)), (1, .int 0)]) hx hb dX8_ticks_17 hl (k := 2) rfl (by rw [← e122]; rfl) (by decide) rfl (fun ls hl => ?_)
    refine lv_goto (tgt := 4) hx hb dX8_ticks_20 (by decide) ?_
    exact ih4 M118 x121 h  _ _ _ hA hS (lv_sub hl [1, 2, 0] rfl)
def f_X8_passes_L32 (a1 : Int32) (k : Nat) (u15 : ce_M → Int32 → Option (ce_M × Int32)) (rec11 : ce_M → Int32 → Int32 → Option (ce_M × Int32)) (M8 : ce_M) (x9 : Int32) (x10 : Int32) : Option (ce_M × Int32) :=
  if a1 ≤ x10 then
    u15 M8 x9
  else
    ce_b2 (f_X8_ticks k M8) (fun (M20 : ce_M) (x21 : Int32) =>
    ce_nm (x9 + x21) (fun (x23 : Int32) =>
    ce_nm (x10 + 1) (fun (x25 : Int32) =>
    rec11 M20 x23 x25)))
def f_X8_passes (k : Nat) (M : ce_M) (a1 : Int32) : Option (ce_M × Int32) :=
  ce_b1 (f_X8_in M a1 1 50) (fun (x1 : Int32) =>
  if x1 = 0 then
    some (M, 1)
  else
    ce_gi 0 816 (ce_nm (ce_rd M (k + 1) (Int32.toNatClampNeg 0)) (fun (x4 : Int32) =>
    if (x4 + a1) ≤ 9999 then
      ce_nm (fun (M13 : ce_M) (x14 : Int32) =>
      ce_nm (ce_wr M13 k 5 x14) (fun (M16 : ce_M) =>
      some (M16, 0))) (fun (u15 : ce_M → Int32 → Option (ce_M × Int32)) =>
      ce_lp3 (f_X8_passes_L32 a1 k u15) ce_FU M 0 0)
    else
      some (M, 2))))
set_option maxRecDepth 100000 in
set_option maxHeartbeats 4000000 in
theorem c_X8_passes (l : Launch) (X : ce_X) (G : ce_G) (b : Nat) {k : Nat} {a1 : Int32} {M : ce_M} (hk : ce_kd k = 8) {M' : ce_M} {r : Int32} (h : f_X8_passes k M a1 = some (M', r)) : ce_Ct l yX8_passes cX8_passes 4 (some .int) 4 87 X G b [.ref (b + k), .int a1] M (some (.int r)) M' := by
  refine ce_ofW (own := RX8) (by decide) rfl (Nat.le_of_ble_eq_true rfl) (fun p e s m below meth c ls hx hb hr hlocks hml hown hB hF hA hl hS => ?_)
  have hK := hF.1
  have hl : lv_has ls 4 [(0, .ref (b + k)), (1, .int a1)] := hl
  unfold f_X8_passes at h
  refine lv_iload_n hx hb dX8_passes_0 rfl (lv_at hl 1 rfl) ?_
  refine lv_iconst (v := 1) hx hb dX8_passes_1 (by decide) ?_
  refine lv_bipush (v := 50) hx hb dX8_passes_2 (by decide) ?_
  obtain ⟨x1, g2, h⟩ := ce_b1_e h
  refine ce_callSi (As := [.int a1, .int 1, .int 50]) (rest := []) hx hb hml hown hB (c_X8_in l X G b  g2) ce_s_X8_in ce_w1003 ⟨Nat.le_of_ble_eq_true rfl, Nat.le_of_ble_eq_true rfl⟩ hF hA hS hl rfl rfl (Nat.le_of_ble_eq_true rfl) dX8_passes_4 ⟨Nat.le_of_ble_eq_true rfl, Nat.le_of_ble_eq_true rfl⟩ (fun H locs hA hS => ?_)
  refine lv_if_ne (tgt := 12) hx hb dX8_passes_7 (by decide) (fun c3 => ?_) (fun c3 => ?_)
  · have h := ce_ie c3 h
    refine lv_aload_n hx hb dX8_passes_12 rfl (lv_at hl 0 rfl) ?_
    refine ce_g_8_0 hx hb hB hown hK hA hk ce_w944 dX8_passes_13 ?_
    refine lv_iconst (v := 0) hx hb dX8_passes_16 (by decide) ?_
    obtain ⟨i5, h⟩ := ce_gi_e h
    obtain ⟨x4, e6, h⟩ := ce_nm_e h
    refine ce_iald hx hb hK hA 816 (ce_kf_8_0 hk) i5 e6 dX8_passes_17 ?_
    refine lv_iload_n hx hb dX8_passes_18 rfl (lv_at hl 1 rfl) ?_
    refine lv_iadd hx hb dX8_passes_19 ?_
    refine lv_sipush (v := 9999) hx hb dX8_passes_20 (by decide) ?_
    refine lv_icmp_le (tgt := 28) hx hb dX8_passes_23 (by decide) (fun c7 => ?_) (fun c7 => ?_)
    · have h := ce_it c7 h
      refine lv_iconst (v := 0) hx hb dX8_passes_28 (by decide) ?_
      refine lv_istore_n (lv' := [(2, .int 0), (0, .ref (b + k)), (1, .int a1)]) hx hb dX8_passes_29 rfl hl (by decide) rfl (fun ls hl => ?_)
      refine lv_iconst (v := 0) hx hb dX8_passes_30 (by decide) ?_
      refine lv_istore_n (lv' := [(3, .int 0), (2, .int 0), (0, .ref (b + k)), (1, .int a1)]) hx hb dX8_passes_31 rfl hl (by decide) rfl (fun ls hl => ?_)
      obtain ⟨u15, e18, h⟩ := ce_nm_e h
      have Ju15 : ∀ (M13 : ce_M) (x14 : Int32), u15 M13 x14 = some (M', r) → ce_Wg p l e (ce_R 4 87 0 0) s m (([.ref (b + k), .int a1] : List Value).toArray) below meth c 0 0 (MQ below (ce_Q X b M' (some (.int r))) ([.ref (b + k), .int a1] : List Value).toArray s 0 0 (ce_Ab b)) X b M13 4 [(0, .ref (b + k)), (2, .int x14)] 50 [] := by
        intro M13 x14 h  H locs ls hA hS hl
        subst e18
        refine lv_aload_n hx hb dX8_passes_50 rfl (lv_at hl 0 rfl) ?_
        refine lv_iload_n hx hb dX8_passes_51 rfl (lv_at hl 1 rfl) ?_
        obtain ⟨M16, e17, h⟩ := ce_nm_e h
        refine ce_p_8_5 hx hb hB hown hK hA hS hk ce_w949 dX8_passes_52 e17 (fun H locs hA hS => ?_)
        refine lv_iconst (v := 0) hx hb dX8_passes_55 (by decide) ?_
        cases h
        exact ce_iret hx hb hr hlocks hA hS dX8_passes_56
      refine ce_lp3_i (y := (M', r)) (P := fun (M8 : ce_M) (x9 : Int32) (x10 : Int32) => ce_Wg p l e (ce_R 4 87 0 0) s m (([.ref (b + k), .int a1] : List Value).toArray) below meth c 0 0 (MQ below (ce_Q X b M' (some (.int r))) ([.ref (b + k), .int a1] : List Value).toArray s 0 0 (ce_Ab b)) X b M8 4 [(0, .ref (b + k)), (1, .int a1), (2, .int x9), (3, .int x10)] 32 []) (fun rec11 ih12 M8 x9 x10 h => ?_) _ _ _ _ h _ _ _ hA hS (lv_sub hl [2, 3, 1, 0] rfl)
      intro H locs ls hA hS hl
      unfold f_X8_passes_L32 at h
      refine lv_iload_n hx hb dX8_passes_32 rfl (lv_at hl 3 rfl) ?_
      refine lv_iload_n hx hb dX8_passes_33 rfl (lv_at hl 1 rfl) ?_
      refine lv_icmp_ge (tgt := 50) hx hb dX8_passes_34 (by decide) (fun c19 => ?_) (fun c19 => ?_)
      · have h := ce_it c19 h
        exact Ju15 M8 x9 h  _ _ _ hA hS (lv_sub hl [0, 2] rfl)
      · have h := ce_ie c19 h
        refine lv_iload_n hx hb dX8_passes_37 rfl (lv_at hl 2 rfl) ?_
        refine lv_aload_n hx hb dX8_passes_38 rfl (lv_at hl 0 rfl) ?_
        obtain ⟨M20, x21, g22, h⟩ := ce_b2_e h
        refine ce_callVi (As := []) (rest := [.int x9]) hx hb hml hown hB (c_X8_ticks l X G b hk g22) ce_v_X8_ticks ce_w1131 ⟨Nat.le_of_ble_eq_true rfl, Nat.le_of_ble_eq_true rfl⟩ hF hA hS (ce_rc_8 hK hA hk) hl rfl rfl (Nat.le_of_ble_eq_true rfl) dX8_passes_39 ⟨Nat.le_of_ble_eq_true rfl, Nat.le_of_ble_eq_true rfl⟩ (fun H locs hA hS => ?_)
        refine lv_iadd hx hb dX8_passes_42 ?_
        obtain ⟨x23, e24, h⟩ := ce_nm_e h
        refine ce_top e24 ?_
        refine lv_istore_n (lv' := [(2, .int x23), (0, .ref (b + k)), (1, .int a1), (3, .int x10)]) hx hb dX8_passes_43 rfl hl (by decide) rfl (fun ls hl => ?_)
        obtain ⟨x25, e26, h⟩ := ce_nm_e h
        refine lv_iinc (v := x25) (lv' := [(3, .int x25), (2, .int x23), (0, .ref (b + k)), (1, .int a1)]) hx hb dX8_passes_44 hl (k := 3) rfl (by rw [← e26]; rfl) (by decide) rfl (fun ls hl => ?_)
        refine lv_goto (tgt := 32) hx hb dX8_passes_47 (by decide) ?_
        exact ih12 M20 x23 x25 h  _ _ _ hA hS (lv_sub hl [2, 3, 1, 0] rfl)
    · have h := ce_ie c7 h
      refine lv_iconst (v := 2) hx hb dX8_passes_26 (by decide) ?_
      cases h
      exact ce_iret hx hb hr hlocks hA hS dX8_passes_27
  · have h := ce_it c3 h
    refine lv_iconst (v := 1) hx hb dX8_passes_10 (by decide) ?_
    cases h
    exact ce_iret hx hb hr hlocks hA hS dX8_passes_11
def f_X8_subscribe (k : Nat) (M : ce_M) (a1 : Int32) (a2 : Int32) (a3 : Int32) : Option (ce_M × Int32) :=
  ce_b1 (f_X8_laysAside k M) (fun (M1 : ce_M) =>
  ce_b2 (f_X8_subscribes k M1 a1 a2 a3) (fun (M3 : ce_M) (x4 : Int32) =>
  ce_b2 (f_X8_ends k M3 (ce_rd M3 k 5) x4) (fun (M6 : ce_M) (x7 : Int32) =>
  some (M6, x7))))
set_option maxRecDepth 100000 in
set_option maxHeartbeats 4000000 in
theorem c_X8_subscribe (l : Launch) (X : ce_X) (G : ce_G) (b : Nat) {k : Nat} {a1 : Int32} {a2 : Int32} {a3 : Int32} {M : ce_M} (hk : ce_kd k = 8) {M' : ce_M} {r : Int32} (h : f_X8_subscribe k M a1 a2 a3 = some (M', r)) : ce_Ct l yX8_subscribe cX8_subscribe 5 (some .int) 3 71 X G b [.ref (b + k), .int a1, .int a2, .int a3] M (some (.int r)) M' := by
  refine ce_ofW (own := RX8) (by decide) rfl (Nat.le_of_ble_eq_true rfl) (fun p e s m below meth c ls hx hb hr hlocks hml hown hB hF hA hl hS => ?_)
  have hK := hF.1
  have hl : lv_has ls 5 [(0, .ref (b + k)), (1, .int a1), (2, .int a2), (3, .int a3)] := hl
  unfold f_X8_subscribe at h
  refine lv_aload_n hx hb dX8_subscribe_0 rfl (lv_at hl 0 rfl) ?_
  obtain ⟨M1, g2, h⟩ := ce_b1_e h
  refine ce_callVv (As := []) (rest := []) hx hb hml hown hB (c_X8_laysAside l X G b hk g2) ce_v_X8_laysAside ce_w992 ⟨Nat.le_of_ble_eq_true rfl, Nat.le_of_ble_eq_true rfl⟩ hF hA hS (ce_rc_8 hK hA hk) hl rfl rfl (Nat.le_of_ble_eq_true rfl) dX8_subscribe_1 ⟨Nat.le_of_ble_eq_true rfl, Nat.le_of_ble_eq_true rfl⟩ (fun H locs hA hS => ?_)
  refine lv_aload_n hx hb dX8_subscribe_4 rfl (lv_at hl 0 rfl) ?_
  refine lv_iload_n hx hb dX8_subscribe_5 rfl (lv_at hl 1 rfl) ?_
  refine lv_iload_n hx hb dX8_subscribe_6 rfl (lv_at hl 2 rfl) ?_
  refine lv_iload_n hx hb dX8_subscribe_7 rfl (lv_at hl 3 rfl) ?_
  obtain ⟨M3, x4, g5, h⟩ := ce_b2_e h
  refine ce_callVi (As := [.int a1, .int a2, .int a3]) (rest := []) hx hb hml hown hB (c_X8_subscribes l X G b hk g5) ce_v_X8_subscribes ce_w996 ⟨Nat.le_of_ble_eq_true rfl, Nat.le_of_ble_eq_true rfl⟩ hF hA hS (ce_rc_8 hK hA hk) hl rfl rfl (Nat.le_of_ble_eq_true rfl) dX8_subscribe_8 ⟨Nat.le_of_ble_eq_true rfl, Nat.le_of_ble_eq_true rfl⟩ (fun H locs hA hS => ?_)
  refine lv_istore (lv' := [(4, .int x4), (0, .ref (b + k)), (1, .int a1), (2, .int a2), (3, .int a3)]) hx hb dX8_subscribe_11 hl (by decide) rfl (fun ls hl => ?_)
  refine lv_aload_n hx hb dX8_subscribe_13 rfl (lv_at hl 1 rfl) ?_
  refine lv_aload_n hx hb dX8_subscribe_14 rfl (lv_at hl 1 rfl) ?_
  refine ce_g_8_5 hx hb hB hown hK hA hk ce_w949 dX8_subscribe_15 ?_
  refine lv_iload hx hb dX8_subscribe_18 (lv_at hl 0 rfl) ?_
  obtain ⟨M6, x7, g8, h⟩ := ce_b2_e h
  refine ce_callVi (As := [.int (ce_rd M3 k 5), .int x4]) (rest := []) hx hb hml hown hB (c_X8_ends l X G b hk g8) ce_v_X8_ends ce_w1025 ⟨Nat.le_of_ble_eq_true rfl, Nat.le_of_ble_eq_true rfl⟩ hF hA hS (ce_rc_8 hK hA hk) hl rfl rfl (Nat.le_of_ble_eq_true rfl) dX8_subscribe_20 ⟨Nat.le_of_ble_eq_true rfl, Nat.le_of_ble_eq_true rfl⟩ (fun H locs hA hS => ?_)
  cases h
  exact ce_iret hx hb hr hlocks hA hS dX8_subscribe_23
def f_X8_move (k : Nat) (M : ce_M) (a1 : Int32) (a2 : Int32) : Option (ce_M × Int32) :=
  ce_b1 (f_X8_laysAside k M) (fun (M1 : ce_M) =>
  ce_b2 (f_X8_goes k M1 a1 a2) (fun (M3 : ce_M) (x4 : Int32) =>
  ce_b2 (f_X8_ends k M3 (ce_rd M3 k 5) x4) (fun (M6 : ce_M) (x7 : Int32) =>
  some (M6, x7))))
set_option maxRecDepth 100000 in
set_option maxHeartbeats 4000000 in
theorem c_X8_move (l : Launch) (X : ce_X) (G : ce_G) (b : Nat) {k : Nat} {a1 : Int32} {a2 : Int32} {M : ce_M} (hk : ce_kd k = 8) {M' : ce_M} {r : Int32} (h : f_X8_move k M a1 a2 = some (M', r)) : ce_Ct l yX8_move cX8_move 4 (some .int) 3 65 X G b [.ref (b + k), .int a1, .int a2] M (some (.int r)) M' := by
  refine ce_ofW (own := RX8) (by decide) rfl (Nat.le_of_ble_eq_true rfl) (fun p e s m below meth c ls hx hb hr hlocks hml hown hB hF hA hl hS => ?_)
  have hK := hF.1
  have hl : lv_has ls 4 [(0, .ref (b + k)), (1, .int a1), (2, .int a2)] := hl
  unfold f_X8_move at h
  refine lv_aload_n hx hb dX8_move_0 rfl (lv_at hl 0 rfl) ?_
  obtain ⟨M1, g2, h⟩ := ce_b1_e h
  refine ce_callVv (As := []) (rest := []) hx hb hml hown hB (c_X8_laysAside l X G b hk g2) ce_v_X8_laysAside ce_w992 ⟨Nat.le_of_ble_eq_true rfl, Nat.le_of_ble_eq_true rfl⟩ hF hA hS (ce_rc_8 hK hA hk) hl rfl rfl (Nat.le_of_ble_eq_true rfl) dX8_move_1 ⟨Nat.le_of_ble_eq_true rfl, Nat.le_of_ble_eq_true rfl⟩ (fun H locs hA hS => ?_)
  refine lv_aload_n hx hb dX8_move_4 rfl (lv_at hl 0 rfl) ?_
  refine lv_iload_n hx hb dX8_move_5 rfl (lv_at hl 1 rfl) ?_
  refine lv_iload_n hx hb dX8_move_6 rfl (lv_at hl 2 rfl) ?_
  obtain ⟨M3, x4, g5, h⟩ := ce_b2_e h
  refine ce_callVi (As := [.int a1, .int a2]) (rest := []) hx hb hml hown hB (c_X8_goes l X G b hk g5) ce_v_X8_goes ce_w1049 ⟨Nat.le_of_ble_eq_true rfl, Nat.le_of_ble_eq_true rfl⟩ hF hA hS (ce_rc_8 hK hA hk) hl rfl rfl (Nat.le_of_ble_eq_true rfl) dX8_move_7 ⟨Nat.le_of_ble_eq_true rfl, Nat.le_of_ble_eq_true rfl⟩ (fun H locs hA hS => ?_)
  refine lv_istore_n (lv' := [(3, .int x4), (0, .ref (b + k)), (1, .int a1), (2, .int a2)]) hx hb dX8_move_10 rfl hl (by decide) rfl (fun ls hl => ?_)
  refine lv_aload_n hx hb dX8_move_11 rfl (lv_at hl 1 rfl) ?_
  refine lv_aload_n hx hb dX8_move_12 rfl (lv_at hl 1 rfl) ?_
  refine ce_g_8_5 hx hb hB hown hK hA hk ce_w949 dX8_move_13 ?_
  refine lv_iload_n hx hb dX8_move_16 rfl (lv_at hl 0 rfl) ?_
  obtain ⟨M6, x7, g8, h⟩ := ce_b2_e h
  refine ce_callVi (As := [.int (ce_rd M3 k 5), .int x4]) (rest := []) hx hb hml hown hB (c_X8_ends l X G b hk g8) ce_v_X8_ends ce_w1025 ⟨Nat.le_of_ble_eq_true rfl, Nat.le_of_ble_eq_true rfl⟩ hF hA hS (ce_rc_8 hK hA hk) hl rfl rfl (Nat.le_of_ble_eq_true rfl) dX8_move_17 ⟨Nat.le_of_ble_eq_true rfl, Nat.le_of_ble_eq_true rfl⟩ (fun H locs hA hS => ?_)
  cases h
  exact ce_iret hx hb hr hlocks hA hS dX8_move_20
def f_X8_leave (k : Nat) (M : ce_M) (a1 : Int32) : Option (ce_M × Int32) :=
  ce_b1 (f_X8_laysAside k M) (fun (M1 : ce_M) =>
  ce_b2 (f_X8_quits k M1 a1) (fun (M3 : ce_M) (x4 : Int32) =>
  ce_b2 (f_X8_ends k M3 (ce_rd M3 k 5) x4) (fun (M6 : ce_M) (x7 : Int32) =>
  some (M6, x7))))
set_option maxRecDepth 100000 in
set_option maxHeartbeats 4000000 in
theorem c_X8_leave (l : Launch) (X : ce_X) (G : ce_G) (b : Nat) {k : Nat} {a1 : Int32} {M : ce_M} (hk : ce_kd k = 8) {M' : ce_M} {r : Int32} (h : f_X8_leave k M a1 = some (M', r)) : ce_Ct l yX8_leave cX8_leave 3 (some .int) 3 65 X G b [.ref (b + k), .int a1] M (some (.int r)) M' := by
  refine ce_ofW (own := RX8) (by decide) rfl (Nat.le_of_ble_eq_true rfl) (fun p e s m below meth c ls hx hb hr hlocks hml hown hB hF hA hl hS => ?_)
  have hK := hF.1
  have hl : lv_has ls 3 [(0, .ref (b + k)), (1, .int a1)] := hl
  unfold f_X8_leave at h
  refine lv_aload_n hx hb dX8_leave_0 rfl (lv_at hl 0 rfl) ?_
  obtain ⟨M1, g2, h⟩ := ce_b1_e h
  refine ce_callVv (As := []) (rest := []) hx hb hml hown hB (c_X8_laysAside l X G b hk g2) ce_v_X8_laysAside ce_w992 ⟨Nat.le_of_ble_eq_true rfl, Nat.le_of_ble_eq_true rfl⟩ hF hA hS (ce_rc_8 hK hA hk) hl rfl rfl (Nat.le_of_ble_eq_true rfl) dX8_leave_1 ⟨Nat.le_of_ble_eq_true rfl, Nat.le_of_ble_eq_true rfl⟩ (fun H locs hA hS => ?_)
  refine lv_aload_n hx hb dX8_leave_4 rfl (lv_at hl 0 rfl) ?_
  refine lv_iload_n hx hb dX8_leave_5 rfl (lv_at hl 1 rfl) ?_
  obtain ⟨M3, x4, g5, h⟩ := ce_b2_e h
  refine ce_callVi (As := [.int a1]) (rest := []) hx hb hml hown hB (c_X8_quits l X G b hk g5) ce_v_X8_quits ce_w1061 ⟨Nat.le_of_ble_eq_true rfl, Nat.le_of_ble_eq_true rfl⟩ hF hA hS (ce_rc_8 hK hA hk) hl rfl rfl (Nat.le_of_ble_eq_true rfl) dX8_leave_6 ⟨Nat.le_of_ble_eq_true rfl, Nat.le_of_ble_eq_true rfl⟩ (fun H locs hA hS => ?_)
  refine lv_istore_n (lv' := [(2, .int x4), (0, .ref (b + k)), (1, .int a1)]) hx hb dX8_leave_9 rfl hl (by decide) rfl (fun ls hl => ?_)
  refine lv_aload_n hx hb dX8_leave_10 rfl (lv_at hl 1 rfl) ?_
  refine lv_aload_n hx hb dX8_leave_11 rfl (lv_at hl 1 rfl) ?_
  refine ce_g_8_5 hx hb hB hown hK hA hk ce_w949 dX8_leave_12 ?_
  refine lv_iload_n hx hb dX8_leave_15 rfl (lv_at hl 0 rfl) ?_
  obtain ⟨M6, x7, g8, h⟩ := ce_b2_e h
  refine ce_callVi (As := [.int (ce_rd M3 k 5), .int x4]) (rest := []) hx hb hml hown hB (c_X8_ends l X G b hk g8) ce_v_X8_ends ce_w1025 ⟨Nat.le_of_ble_eq_true rfl, Nat.le_of_ble_eq_true rfl⟩ hF hA hS (ce_rc_8 hK hA hk) hl rfl rfl (Nat.le_of_ble_eq_true rfl) dX8_leave_16 ⟨Nat.le_of_ble_eq_true rfl, Nat.le_of_ble_eq_true rfl⟩ (fun H locs hA hS => ?_)
  cases h
  exact ce_iret hx hb hr hlocks hA hS dX8_leave_19
def f_X8_setLevel (k : Nat) (M : ce_M) (a1 : Int32) (a2 : Int32) : Option (ce_M × Int32) :=
  ce_b1 (f_X8_isOne k M a1) (fun (x1 : Int32) =>
  if x1 = 0 then
    ce_b2 (f_X8_fails k M 1) (fun (M19 : ce_M) (x20 : Int32) =>
    some (M19, x20))
  else
    ce_b1 (f_X8_isLevel M a2) (fun (x4 : Int32) =>
    if x4 = 0 then
      ce_b2 (f_X8_fails k M 2) (fun (M16 : ce_M) (x17 : Int32) =>
      some (M16, x17))
    else
      ce_b1 (f_X8_laysAside k M) (fun (M7 : ce_M) =>
      ce_b1 (f_X8_of k M7 a1 1) (fun (x9 : Int32) =>
      ce_b1 (f_X8_put k M7 a1 1 a2) (fun (M11 : ce_M) =>
      ce_b2 (f_X8_ends k M11 x9 0) (fun (M13 : ce_M) (x14 : Int32) =>
      some (M13, x14)))))))
set_option maxRecDepth 100000 in
set_option maxHeartbeats 4000000 in
theorem c_X8_setLevel (l : Launch) (X : ce_X) (G : ce_G) (b : Nat) {k : Nat} {a1 : Int32} {a2 : Int32} {M : ce_M} (hk : ce_kd k = 8) {M' : ce_M} {r : Int32} (h : f_X8_setLevel k M a1 a2 = some (M', r)) : ce_Ct l yX8_setLevel cX8_setLevel 4 (some .int) 2 43 X G b [.ref (b + k), .int a1, .int a2] M (some (.int r)) M' := by
  refine ce_ofW (own := RX8) (by decide) rfl (Nat.le_of_ble_eq_true rfl) (fun p e s m below meth c ls hx hb hr hlocks hml hown hB hF hA hl hS => ?_)
  have hK := hF.1
  have hl : lv_has ls 4 [(0, .ref (b + k)), (1, .int a1), (2, .int a2)] := hl
  unfold f_X8_setLevel at h
  refine lv_aload_n hx hb dX8_setLevel_0 rfl (lv_at hl 0 rfl) ?_
  refine lv_iload_n hx hb dX8_setLevel_1 rfl (lv_at hl 1 rfl) ?_
  obtain ⟨x1, g2, h⟩ := ce_b1_e h
  refine ce_callVi (As := [.int a1]) (rest := []) hx hb hml hown hB (c_X8_isOne l X G b hk g2) ce_v_X8_isOne ce_w1053 ⟨Nat.le_of_ble_eq_true rfl, Nat.le_of_ble_eq_true rfl⟩ hF hA hS (ce_rc_8 hK hA hk) hl rfl rfl (Nat.le_of_ble_eq_true rfl) dX8_setLevel_2 ⟨Nat.le_of_ble_eq_true rfl, Nat.le_of_ble_eq_true rfl⟩ (fun H locs hA hS => ?_)
  refine lv_if_ne (tgt := 14) hx hb dX8_setLevel_5 (by decide) (fun c3 => ?_) (fun c3 => ?_)
  · have h := ce_ie c3 h
    refine lv_iload_n hx hb dX8_setLevel_14 rfl (lv_at hl 2 rfl) ?_
    obtain ⟨x4, g5, h⟩ := ce_b1_e h
    refine ce_callSi (As := [.int a2]) (rest := []) hx hb hml hown hB (c_X8_isLevel l X G b  g5) ce_s_X8_isLevel ce_w1006 ⟨Nat.le_of_ble_eq_true rfl, Nat.le_of_ble_eq_true rfl⟩ hF hA hS hl rfl rfl (Nat.le_of_ble_eq_true rfl) dX8_setLevel_15 ⟨Nat.le_of_ble_eq_true rfl, Nat.le_of_ble_eq_true rfl⟩ (fun H locs hA hS => ?_)
    refine lv_if_ne (tgt := 27) hx hb dX8_setLevel_18 (by decide) (fun c6 => ?_) (fun c6 => ?_)
    · have h := ce_ie c6 h
      refine lv_aload_n hx hb dX8_setLevel_27 rfl (lv_at hl 0 rfl) ?_
      obtain ⟨M7, g8, h⟩ := ce_b1_e h
      refine ce_callVv (As := []) (rest := []) hx hb hml hown hB (c_X8_laysAside l X G b hk g8) ce_v_X8_laysAside ce_w992 ⟨Nat.le_of_ble_eq_true rfl, Nat.le_of_ble_eq_true rfl⟩ hF hA hS (ce_rc_8 hK hA hk) hl rfl rfl (Nat.le_of_ble_eq_true rfl) dX8_setLevel_28 ⟨Nat.le_of_ble_eq_true rfl, Nat.le_of_ble_eq_true rfl⟩ (fun H locs hA hS => ?_)
      refine lv_aload_n hx hb dX8_setLevel_31 rfl (lv_at hl 0 rfl) ?_
      refine lv_iload_n hx hb dX8_setLevel_32 rfl (lv_at hl 1 rfl) ?_
      refine lv_iconst (v := 1) hx hb dX8_setLevel_33 (by decide) ?_
      obtain ⟨x9, g10, h⟩ := ce_b1_e h
      refine ce_callVi (As := [.int a1, .int 1]) (rest := []) hx hb hml hown hB (c_X8_of l X G b hk g10) ce_v_X8_of ce_w1017 ⟨Nat.le_of_ble_eq_true rfl, Nat.le_of_ble_eq_true rfl⟩ hF hA hS (ce_rc_8 hK hA hk) hl rfl rfl (Nat.le_of_ble_eq_true rfl) dX8_setLevel_34 ⟨Nat.le_of_ble_eq_true rfl, Nat.le_of_ble_eq_true rfl⟩ (fun H locs hA hS => ?_)
      refine lv_istore_n (lv' := [(3, .int x9), (0, .ref (b + k)), (1, .int a1), (2, .int a2)]) hx hb dX8_setLevel_37 rfl hl (by decide) rfl (fun ls hl => ?_)
      refine lv_aload_n hx hb dX8_setLevel_38 rfl (lv_at hl 1 rfl) ?_
      refine lv_iload_n hx hb dX8_setLevel_39 rfl (lv_at hl 2 rfl) ?_
      refine lv_iconst (v := 1) hx hb dX8_setLevel_40 (by decide) ?_
      refine lv_iload_n hx hb dX8_setLevel_41 rfl (lv_at hl 3 rfl) ?_
      obtain ⟨M11, g12, h⟩ := ce_b1_e h
      refine ce_callVv (As := [.int a1, .int 1, .int a2]) (rest := []) hx hb hml hown hB (c_X8_put l X G b hk g12) ce_v_X8_put ce_w1009 ⟨Nat.le_of_ble_eq_true rfl, Nat.le_of_ble_eq_true rfl⟩ hF hA hS (ce_rc_8 hK hA hk) hl rfl rfl (Nat.le_of_ble_eq_true rfl) dX8_setLevel_42 ⟨Nat.le_of_ble_eq_true rfl, Nat.le_of_ble_eq_true rfl⟩ (fun H locs hA hS => ?_)
      refine lv_aload_n hx hb dX8_setLevel_45 rfl (lv_at hl 1 rfl) ?_
      refine lv_iload_n hx hb dX8_setLevel_46 rfl (lv_at hl 0 rfl) ?_
      refine lv_iconst (v := 0) hx hb dX8_setLevel_47 (by decide) ?_
      obtain ⟨M13, x14, g15, h⟩ := ce_b2_e h
      refine ce_callVi (As := [.int x9, .int 0]) (rest := []) hx hb hml hown hB (c_X8_ends l X G b hk g15) ce_v_X8_ends ce_w1025 ⟨Nat.le_of_ble_eq_true rfl, Nat.le_of_ble_eq_true rfl⟩ hF hA hS (ce_rc_8 hK hA hk) hl rfl rfl (Nat.le_of_ble_eq_true rfl) dX8_setLevel_48 ⟨Nat.le_of_ble_eq_true rfl, Nat.le_of_ble_eq_true rfl⟩ (fun H locs hA hS => ?_)
      cases h
      exact ce_iret hx hb hr hlocks hA hS dX8_setLevel_51
    · have h := ce_it c6 h
      refine lv_aload_n hx hb dX8_setLevel_21 rfl (lv_at hl 0 rfl) ?_
      refine lv_iconst (v := 2) hx hb dX8_setLevel_22 (by decide) ?_
      obtain ⟨M16, x17, g18, h⟩ := ce_b2_e h
      refine ce_callVi (As := [.int 2]) (rest := []) hx hb hml hown hB (c_X8_fails l X G b hk g18) ce_v_X8_fails ce_w1033 ⟨Nat.le_of_ble_eq_true rfl, Nat.le_of_ble_eq_true rfl⟩ hF hA hS (ce_rc_8 hK hA hk) hl rfl rfl (Nat.le_of_ble_eq_true rfl) dX8_setLevel_23 ⟨Nat.le_of_ble_eq_true rfl, Nat.le_of_ble_eq_true rfl⟩ (fun H locs hA hS => ?_)
      cases h
      exact ce_iret hx hb hr hlocks hA hS dX8_setLevel_26
  · have h := ce_it c3 h
    refine lv_aload_n hx hb dX8_setLevel_8 rfl (lv_at hl 0 rfl) ?_
    refine lv_iconst (v := 1) hx hb dX8_setLevel_9 (by decide) ?_
    obtain ⟨M19, x20, g21, h⟩ := ce_b2_e h
    refine ce_callVi (As := [.int 1]) (rest := []) hx hb hml hown hB (c_X8_fails l X G b hk g21) ce_v_X8_fails ce_w1033 ⟨Nat.le_of_ble_eq_true rfl, Nat.le_of_ble_eq_true rfl⟩ hF hA hS (ce_rc_8 hK hA hk) hl rfl rfl (Nat.le_of_ble_eq_true rfl) dX8_setLevel_10 ⟨Nat.le_of_ble_eq_true rfl, Nat.le_of_ble_eq_true rfl⟩ (fun H locs hA hS => ?_)
    cases h
    exact ce_iret hx hb hr hlocks hA hS dX8_setLevel_13
def f_X8_set (k : Nat) (M : ce_M) (a1 : Int32) (a2 : Int32) : Option (ce_M × Int32) :=
  ce_b1 (f_X8_laysAside k M) (fun (M1 : ce_M) =>
  ce_b2 (f_X8_sets k M1 a1 a2) (fun (M3 : ce_M) (x4 : Int32) =>
  ce_b2 (f_X8_ends k M3 (ce_rd M3 k 5) x4) (fun (M6 : ce_M) (x7 : Int32) =>
  some (M6, x7))))
set_option maxRecDepth 100000 in
set_option maxHeartbeats 4000000 in
theorem c_X8_set (l : Launch) (X : ce_X) (G : ce_G) (b : Nat) {k : Nat} {a1 : Int32} {a2 : Int32} {M : ce_M} (hk : ce_kd k = 8) {M' : ce_M} {r : Int32} (h : f_X8_set k M a1 a2 = some (M', r)) : ce_Ct l yX8_set cX8_set 4 (some .int) 2 45 X G b [.ref (b + k), .int a1, .int a2] M (some (.int r)) M' := by
  refine ce_ofW (own := RX8) (by decide) rfl (Nat.le_of_ble_eq_true rfl) (fun p e s m below meth c ls hx hb hr hlocks hml hown hB hF hA hl hS => ?_)
  have hK := hF.1
  have hl : lv_has ls 4 [(0, .ref (b + k)), (1, .int a1), (2, .int a2)] := hl
  unfold f_X8_set at h
  refine lv_aload_n hx hb dX8_set_0 rfl (lv_at hl 0 rfl) ?_
  obtain ⟨M1, g2, h⟩ := ce_b1_e h
  refine ce_callVv (As := []) (rest := []) hx hb hml hown hB (c_X8_laysAside l X G b hk g2) ce_v_X8_laysAside ce_w992 ⟨Nat.le_of_ble_eq_true rfl, Nat.le_of_ble_eq_true rfl⟩ hF hA hS (ce_rc_8 hK hA hk) hl rfl rfl (Nat.le_of_ble_eq_true rfl) dX8_set_1 ⟨Nat.le_of_ble_eq_true rfl, Nat.le_of_ble_eq_true rfl⟩ (fun H locs hA hS => ?_)
  refine lv_aload_n hx hb dX8_set_4 rfl (lv_at hl 0 rfl) ?_
  refine lv_iload_n hx hb dX8_set_5 rfl (lv_at hl 1 rfl) ?_
  refine lv_iload_n hx hb dX8_set_6 rfl (lv_at hl 2 rfl) ?_
  obtain ⟨M3, x4, g5, h⟩ := ce_b2_e h
  refine ce_callVi (As := [.int a1, .int a2]) (rest := []) hx hb hml hown hB (c_X8_sets l X G b hk g5) ce_v_X8_sets ce_w1077 ⟨Nat.le_of_ble_eq_true rfl, Nat.le_of_ble_eq_true rfl⟩ hF hA hS (ce_rc_8 hK hA hk) hl rfl rfl (Nat.le_of_ble_eq_true rfl) dX8_set_7 ⟨Nat.le_of_ble_eq_true rfl, Nat.le_of_ble_eq_true rfl⟩ (fun H locs hA hS => ?_)
  refine lv_istore_n (lv' := [(3, .int x4), (0, .ref (b + k)), (1, .int a1), (2, .int a2)]) hx hb dX8_set_10 rfl hl (by decide) rfl (fun ls hl => ?_)
  refine lv_aload_n hx hb dX8_set_11 rfl (lv_at hl 1 rfl) ?_
  refine lv_aload_n hx hb dX8_set_12 rfl (lv_at hl 1 rfl) ?_
  refine ce_g_8_5 hx hb hB hown hK hA hk ce_w949 dX8_set_13 ?_
  refine lv_iload_n hx hb dX8_set_16 rfl (lv_at hl 0 rfl) ?_
  obtain ⟨M6, x7, g8, h⟩ := ce_b2_e h
  refine ce_callVi (As := [.int (ce_rd M3 k 5), .int x4]) (rest := []) hx hb hml hown hB (c_X8_ends l X G b hk g8) ce_v_X8_ends ce_w1025 ⟨Nat.le_of_ble_eq_true rfl, Nat.le_of_ble_eq_true rfl⟩ hF hA hS (ce_rc_8 hK hA hk) hl rfl rfl (Nat.le_of_ble_eq_true rfl) dX8_set_17 ⟨Nat.le_of_ble_eq_true rfl, Nat.le_of_ble_eq_true rfl⟩ (fun H locs hA hS => ?_)
  cases h
  exact ce_iret hx hb hr hlocks hA hS dX8_set_20
def f_X8_publish (k : Nat) (M : ce_M) (a1 : Int32) (a2 : Int32) (a3 : Int32) : Option (ce_M × Int32) :=
  ce_b1 (f_X8_laysAside k M) (fun (M1 : ce_M) =>
  ce_b2 (f_X8_publishes k M1 a1 a2 a3) (fun (M3 : ce_M) (x4 : Int32) =>
  ce_b2 (f_X8_ends k M3 (ce_rd M3 k 5) x4) (fun (M6 : ce_M) (x7 : Int32) =>
  some (M6, x7))))
set_option maxRecDepth 100000 in
set_option maxHeartbeats 4000000 in
theorem c_X8_publish (l : Launch) (X : ce_X) (G : ce_G) (b : Nat) {k : Nat} {a1 : Int32} {a2 : Int32} {a3 : Int32} {M : ce_M} (hk : ce_kd k = 8) {M' : ce_M} {r : Int32} (h : f_X8_publish k M a1 a2 a3 = some (M', r)) : ce_Ct l yX8_publish cX8_publish 5 (some .int) 6 146 X G b [.ref (b + k), .int a1, .int a2, .int a3] M (some (.int r)) M' := by
  refine ce_ofW (own := RX8) (by decide) rfl (Nat.le_of_ble_eq_true rfl) (fun p e s m below meth c ls hx hb hr hlocks hml hown hB hF hA hl hS => ?_)
  have hK := hF.1
  have hl : lv_has ls 5 [(0, .ref (b + k)), (1, .int a1), (2, .int a2), (3, .int a3)] := hl
  unfold f_X8_publish at h
  refine lv_aload_n hx hb dX8_publish_0 rfl (lv_at hl 0 rfl) ?_
  obtain ⟨M1, g2, h⟩ := ce_b1_e h
  refine ce_callVv (As := []) (rest := []) hx hb hml hown hB (c_X8_laysAside l X G b hk g2) ce_v_X8_laysAside ce_w992 ⟨Nat.le_of_ble_eq_true rfl, Nat.le_of_ble_eq_true rfl⟩ hF hA hS (ce_rc_8 hK hA hk) hl rfl rfl (Nat.le_of_ble_eq_true rfl) dX8_publish_1 ⟨Nat.le_of_ble_eq_true rfl, Nat.le_of_ble_eq_true rfl⟩ (fun H locs hA hS => ?_)
  refine lv_aload_n hx hb dX8_publish_4 rfl (lv_at hl 0 rfl) ?_
  refine lv_iload_n hx hb dX8_publish_5 rfl (lv_at hl 1 rfl) ?_
  refine lv_iload_n hx hb dX8_publish_6 rfl (lv_at hl 2 rfl) ?_
  refine lv_iload_n hx hb dX8_publish_7 rfl (lv_at hl 3 rfl) ?_
  obtain ⟨M3, x4, g5, h⟩ := ce_b2_e h
  refine ce_callVi (As := [.int a1, .int a2, .int a3]) (rest := []) hx hb hml hown hB (c_X8_publishes l X G b hk g5) ce_v_X8_publishes ce_w1089 ⟨Nat.le_of_ble_eq_true rfl, Nat.le_of_ble_eq_true rfl⟩ hF hA hS (ce_rc_8 hK hA hk) hl rfl rfl (Nat.le_of_ble_eq_true rfl) dX8_publish_8 ⟨Nat.le_of_ble_eq_true rfl, Nat.le_of_ble_eq_true rfl⟩ (fun H locs hA hS => ?_)
  refine lv_istore (lv' := [(4, .int x4), (0, .ref (b + k)), (1, .int a1), (2, .int a2), (3, .int a3)]) hx hb dX8_publish_11 hl (by decide) rfl (fun ls hl => ?_)
  refine lv_aload_n hx hb dX8_publish_13 rfl (lv_at hl 1 rfl) ?_
  refine lv_aload_n hx hb dX8_publish_14 rfl (lv_at hl 1 rfl) ?_
  refine ce_g_8_5 hx hb hB hown hK hA hk ce_w949 dX8_publish_15 ?_
  refine lv_iload hx hb dX8_publish_18 (lv_at hl 0 rfl) ?_
  obtain ⟨M6, x7, g8, h⟩ := ce_b2_e h
  refine ce_callVi (As := [.int (ce_rd M3 k 5), .int x4]) (rest := []) hx hb hml hown hB (c_X8_ends l X G b hk g8) ce_v_X8_ends ce_w1025 ⟨Nat.le_of_ble_eq_true rfl, Nat.le_of_ble_eq_true rfl⟩ hF hA hS (ce_rc_8 hK hA hk) hl rfl rfl (Nat.le_of_ble_eq_true rfl) dX8_publish_20 ⟨Nat.le_of_ble_eq_true rfl, Nat.le_of_ble_eq_true rfl⟩ (fun H locs hA hS => ?_)
  cases h
  exact ce_iret hx hb hr hlocks hA hS dX8_publish_23
def f_X8_pass (k : Nat) (M : ce_M) (a1 : Int32) : Option (ce_M × Int32) :=
  ce_b1 (f_X8_laysAside k M) (fun (M1 : ce_M) =>
  ce_b2 (f_X8_passes k M1 a1) (fun (M3 : ce_M) (x4 : Int32) =>
  ce_b2 (f_X8_ends k M3 (ce_rd M3 k 5) x4) (fun (M6 : ce_M) (x7 : Int32) =>
  some (M6, x7))))
set_option maxRecDepth 100000 in
set_option maxHeartbeats 4000000 in
theorem c_X8_pass (l : Launch) (X : ce_X) (G : ce_G) (b : Nat) {k : Nat} {a1 : Int32} {M : ce_M} (hk : ce_kd k = 8) {M' : ce_M} {r : Int32} (h : f_X8_pass k M a1 = some (M', r)) : ce_Ct l yX8_pass cX8_pass 3 (some .int) 5 110 X G b [.ref (b + k), .int a1] M (some (.int r)) M' := by
  refine ce_ofW (own := RX8) (by decide) rfl (Nat.le_of_ble_eq_true rfl) (fun p e s m below meth c ls hx hb hr hlocks hml hown hB hF hA hl hS => ?_)
  have hK := hF.1
  have hl : lv_has ls 3 [(0, .ref (b + k)), (1, .int a1)] := hl
  unfold f_X8_pass at h
  refine lv_aload_n hx hb dX8_pass_0 rfl (lv_at hl 0 rfl) ?_
  obtain ⟨M1, g2, h⟩ := ce_b1_e h
  refine ce_callVv (As := []) (rest := []) hx hb hml hown hB (c_X8_laysAside l X G b hk g2) ce_v_X8_laysAside ce_w992 ⟨Nat.le_of_ble_eq_true rfl, Nat.le_of_ble_eq_true rfl⟩ hF hA hS (ce_rc_8 hK hA hk) hl rfl rfl (Nat.le_of_ble_eq_true rfl) dX8_pass_1 ⟨Nat.le_of_ble_eq_true rfl, Nat.le_of_ble_eq_true rfl⟩ (fun H locs hA hS => ?_)
  refine lv_aload_n hx hb dX8_pass_4 rfl (lv_at hl 0 rfl) ?_
  refine lv_iload_n hx hb dX8_pass_5 rfl (lv_at hl 1 rfl) ?_
  obtain ⟨M3, x4, g5, h⟩ := ce_b2_e h
  refine ce_callVi (As := [.int a1]) (rest := []) hx hb hml hown hB (c_X8_passes l X G b hk g5) ce_v_X8_passes ce_w1127 ⟨Nat.le_of_ble_eq_true rfl, Nat.le_of_ble_eq_true rfl⟩ hF hA hS (ce_rc_8 hK hA hk) hl rfl rfl (Nat.le_of_ble_eq_true rfl) dX8_pass_6 ⟨Nat.le_of_ble_eq_true rfl, Nat.le_of_ble_eq_true rfl⟩ (fun H locs hA hS => ?_)
  refine lv_istore_n (lv' := [(2, .int x4), (0, .ref (b + k)), (1, .int a1)]) hx hb dX8_pass_9 rfl hl (by decide) rfl (fun ls hl => ?_)
  refine lv_aload_n hx hb dX8_pass_10 rfl (lv_at hl 1 rfl) ?_
  refine lv_aload_n hx hb dX8_pass_11 rfl (lv_at hl 1 rfl) ?_
  refine ce_g_8_5 hx hb hB hown hK hA hk ce_w949 dX8_pass_12 ?_
  refine lv_iload_n hx hb dX8_pass_15 rfl (lv_at hl 0 rfl) ?_
  obtain ⟨M6, x7, g8, h⟩ := ce_b2_e h
  refine ce_callVi (As := [.int (ce_rd M3 k 5), .int x4]) (rest := []) hx hb hml hown hB (c_X8_ends l X G b hk g8) ce_v_X8_ends ce_w1025 ⟨Nat.le_of_ble_eq_true rfl, Nat.le_of_ble_eq_true rfl⟩ hF hA hS (ce_rc_8 hK hA hk) hl rfl rfl (Nat.le_of_ble_eq_true rfl) dX8_pass_16 ⟨Nat.le_of_ble_eq_true rfl, Nat.le_of_ble_eq_true rfl⟩ (fun H locs hA hS => ?_)
  cases h
  exact ce_iret hx hb hr hlocks hA hS dX8_pass_19
def f_X8_routedTo_L4 (M : ce_M) (k : Nat) (a1 : Int32) (rec3 : Int32 → Int32 → Option Int32) (x1 : Int32) (x2 : Int32) : Option Int32 :=
  ce_gi 2 816 (ce_nm (ce_rd M (k + 1) (Int32.toNatClampNeg 2)) (fun (x5 : Int32) =>
  if x5 ≤ x2 then
    some x1
  else
    ce_b1 (f_X8_ofEvent k M x2 4) (fun (x9 : Int32) =>
    ce_nm (x1 + ((x9 >>> (a1 &&& 31)) &&& 1)) (fun (x11 : Int32) =>
    ce_nm (x2 + 1) (fun (x13 : Int32) =>
    rec3 x11 x13)))))
def f_X8_routedTo (k : Nat) (M : ce_M) (a1 : Int32) : Option Int32 :=
  ce_lp2 (f_X8_routedTo_L4 M k a1) ce_FU 0 0
set_option maxRecDepth 100000 in
set_option maxHeartbeats 4000000 in
theorem c_X8_routedTo (l : Launch) (X : ce_X) (G : ce_G) (b : Nat) {k : Nat} {a1 : Int32} {M : ce_M} (hk : ce_kd k = 8) {r : Int32} (h : f_X8_routedTo k M a1 = some r) : ce_Ct l yX8_routedTo cX8_routedTo 4 (some .int) 1 22 X G b [.ref (b + k), .int a1] M (some (.int r)) M := by
  refine ce_ofW (own := RX8) (by decide) rfl (Nat.le_of_ble_eq_true rfl) (fun p e s m below meth c ls hx hb hr hlocks hml hown hB hF hA hl hS => ?_)
  have hK := hF.1
  have hl : lv_has ls 4 [(0, .ref (b + k)), (1, .int a1)] := hl
  unfold f_X8_routedTo at h
  refine lv_iconst (v := 0) hx hb dX8_routedTo_0 (by decide) ?_
  refine lv_istore_n (lv' := [(2, .int 0), (0, .ref (b + k)), (1, .int a1)]) hx hb dX8_routedTo_1 rfl hl (by decide) rfl (fun ls hl => ?_)
  refine lv_iconst (v := 0) hx hb dX8_routedTo_2 (by decide) ?_
  refine lv_istore_n (lv' := [(3, .int 0), (2, .int 0), (0, .ref (b + k)), (1, .int a1)]) hx hb dX8_routedTo_3 rfl hl (by decide) rfl (fun ls hl => ?_)
  refine ce_lp2_i (y := r) (P := fun (x1 : Int32) (x2 : Int32) => ce_Wg p l e (ce_R 1 22 0 0) s m (([.ref (b + k), .int a1] : List Value).toArray) below meth c 0 0 (MQ below (ce_Q X b M (some (.int r))) ([.ref (b + k), .int a1] : List Value).toArray s 0 0 (ce_Ab b)) X b M 4 [(0, .ref (b + k)), (1, .int a1), (2, .int x1), (3, .int x2)] 4 []) (fun rec3 ih4 x1 x2 h => ?_) _ _ _ h _ _ _ hA hS (lv_sub hl [2, 3, 1, 0] rfl)
  intro H locs ls hA hS hl
  unfold f_X8_routedTo_L4 at h
  refine lv_iload_n hx hb dX8_routedTo_4 rfl (lv_at hl 3 rfl) ?_
  refine lv_aload_n hx hb dX8_routedTo_5 rfl (lv_at hl 0 rfl) ?_
  refine ce_g_8_0 hx hb hB hown hK hA hk ce_w944 dX8_routedTo_6 ?_
  refine lv_iconst (v := 2) hx hb dX8_routedTo_9 (by decide) ?_
  obtain ⟨i6, h⟩ := ce_gi_e h
  obtain ⟨x5, e7, h⟩ := ce_nm_e h
  refine ce_iald hx hb hK hA 816 (ce_kf_8_0 hk) i6 e7 dX8_routedTo_10 ?_
  refine lv_icmp_ge (tgt := 33) hx hb dX8_routedTo_11 (by decide) (fun c8 => ?_) (fun c8 => ?_)
  · have h := ce_it c8 h
    refine lv_iload_n hx hb dX8_routedTo_33 rfl (lv_at hl 2 rfl) ?_
    cases h
    exact ce_iret hx hb hr hlocks hA hS dX8_routedTo_34
  · have h := ce_ie c8 h
    refine lv_iload_n hx hb dX8_routedTo_14 rfl (lv_at hl 2 rfl) ?_
    refine lv_aload_n hx hb dX8_routedTo_15 rfl (lv_at hl 0 rfl) ?_
    refine lv_iload_n hx hb dX8_routedTo_16 rfl (lv_at hl 3 rfl) ?_
    refine lv_iconst (v := 4) hx hb dX8_routedTo_17 (by decide) ?_
    obtain ⟨x9, g10, h⟩ := ce_b1_e h
    refine ce_callVi (As := [.int x2, .int 4]) (rest := [.int x1]) hx hb hml hown hB (c_X8_ofEvent l X G b hk g10) ce_v_X8_ofEvent ce_w1159 ⟨Nat.le_of_ble_eq_true rfl, Nat.le_of_ble_eq_true rfl⟩ hF hA hS (ce_rc_8 hK hA hk) hl rfl rfl (Nat.le_of_ble_eq_true rfl) dX8_routedTo_18 ⟨Nat.le_of_ble_eq_true rfl, Nat.le_of_ble_eq_true rfl⟩ (fun H locs hA hS => ?_)
    refine lv_iload_n hx hb dX8_routedTo_21 rfl (lv_at hl 1 rfl) ?_
    refine lv_ishr hx hb dX8_routedTo_22 ?_
    refine lv_iconst (v := 1) hx hb dX8_routedTo_23 (by decide) ?_
    refine lv_iand hx hb dX8_routedTo_24 ?_
    refine lv_iadd hx hb dX8_routedTo_25 ?_
    obtain ⟨x11, e12, h⟩ := ce_nm_e h
    refine ce_top e12 ?_
    refine lv_istore_n (lv' := [(2, .int x11), (0, .ref (b + k)), (1, .int a1), (3, .int x2)]) hx hb dX8_routedTo_26 rfl hl (by decide) rfl (fun ls hl => ?_)
    obtain ⟨x13, e14, h⟩ := ce_nm_e h
    refine lv_iinc (v := x13) (lv' := [(3, .int x13), (2, .int x11), (0, .ref (b + k)), (1, .int a1)]) hx hb dX8_routedTo_27 hl (k := 3) rfl (by rw [← e14]; rfl) (by decide) rfl (fun ls hl => ?_)
    refine lv_goto (tgt := 4) hx hb dX8_routedTo_30 (by decide) ?_
    exact ih4 x11 x13 h  _ _ _ hA hS (lv_sub hl [2, 3, 1, 0] rfl)
def f_X8_told (k : Nat) (M : ce_M) (a1 : Int32) (a2 : Int32) : Option Int32 :=
  if 7 ≤ a2 then
    if a2 = 7 then
      ce_b1 (f_X8_routedTo k M a1) (fun (x5 : Int32) =>
      some x5)
    else
      ce_b1 (f_X8_of k M a1 (a2 - 1)) (fun (x3 : Int32) =>
      some x3)
  else
    ce_b1 (f_X8_of k M a1 a2) (fun (x7 : Int32) =>
    some x7)
set_option maxRecDepth 100000 in
set_option maxHeartbeats 4000000 in
theorem c_X8_told (l : Launch) (X : ce_X) (G : ce_G) (b : Nat) {k : Nat} {a1 : Int32} {a2 : Int32} {M : ce_M} (hk : ce_kd k = 8) {r : Int32} (h : f_X8_told k M a1 a2 = some r) : ce_Ct l yX8_told cX8_told 3 (some .int) 2 45 X G b [.ref (b + k), .int a1, .int a2] M (some (.int r)) M := by
  refine ce_ofW (own := RX8) (by decide) rfl (Nat.le_of_ble_eq_true rfl) (fun p e s m below meth c ls hx hb hr hlocks hml hown hB hF hA hl hS => ?_)
  have hK := hF.1
  have hl : lv_has ls 3 [(0, .ref (b + k)), (1, .int a1), (2, .int a2)] := hl
  unfold f_X8_told at h
  refine lv_iload_n hx hb dX8_told_0 rfl (lv_at hl 2 rfl) ?_
  refine lv_bipush (v := 7) hx hb dX8_told_1 (by decide) ?_
  refine lv_icmp_ge (tgt := 13) hx hb dX8_told_3 (by decide) (fun c1 => ?_) (fun c1 => ?_)
  · have h := ce_it c1 h
    refine lv_iload_n hx hb dX8_told_13 rfl (lv_at hl 2 rfl) ?_
    refine lv_bipush (v := 7) hx hb dX8_told_14 (by decide) ?_
    refine lv_icmp_ne (tgt := 27) hx hb dX8_told_16 (by decide) (fun c2 => ?_) (fun c2 => ?_)
    · have h := ce_ie c2 h
      refine lv_aload_n hx hb dX8_told_27 rfl (lv_at hl 0 rfl) ?_
      refine lv_iload_n hx hb dX8_told_28 rfl (lv_at hl 1 rfl) ?_
      refine lv_iload_n hx hb dX8_told_29 rfl (lv_at hl 2 rfl) ?_
      refine lv_iconst (v := 1) hx hb dX8_told_30 (by decide) ?_
      refine lv_isub hx hb dX8_told_31 ?_
      obtain ⟨x3, g4, h⟩ := ce_b1_e h
      refine ce_callVi (As := [.int a1, .int (a2 - 1)]) (rest := []) hx hb hml hown hB (c_X8_of l X G b hk g4) ce_v_X8_of ce_w1017 ⟨Nat.le_of_ble_eq_true rfl, Nat.le_of_ble_eq_true rfl⟩ hF hA hS (ce_rc_8 hK hA hk) hl rfl rfl (Nat.le_of_ble_eq_true rfl) dX8_told_32 ⟨Nat.le_of_ble_eq_true rfl, Nat.le_of_ble_eq_true rfl⟩ (fun H locs hA hS => ?_)
      cases h
      exact ce_iret hx hb hr hlocks hA hS dX8_told_35
    · have h := ce_it c2 h
      refine lv_aload_n hx hb dX8_told_19 rfl (lv_at hl 0 rfl) ?_
      refine lv_iload_n hx hb dX8_told_20 rfl (lv_at hl 1 rfl) ?_
      obtain ⟨x5, g6, h⟩ := ce_b1_e h
      refine ce_callVi (As := [.int a1]) (rest := []) hx hb hml hown hB (c_X8_routedTo l X G b hk g6) ce_v_X8_routedTo ce_w1155 ⟨Nat.le_of_ble_eq_true rfl, Nat.le_of_ble_eq_true rfl⟩ hF hA hS (ce_rc_8 hK hA hk) hl rfl rfl (Nat.le_of_ble_eq_true rfl) dX8_told_21 ⟨Nat.le_of_ble_eq_true rfl, Nat.le_of_ble_eq_true rfl⟩ (fun H locs hA hS => ?_)
      refine lv_goto (tgt := 35) hx hb dX8_told_24 (by decide) ?_
      cases h
      exact ce_iret hx hb hr hlocks hA hS dX8_told_35
  · have h := ce_ie c1 h
    refine lv_aload_n hx hb dX8_told_6 rfl (lv_at hl 0 rfl) ?_
    refine lv_iload_n hx hb dX8_told_7 rfl (lv_at hl 1 rfl) ?_
    refine lv_iload_n hx hb dX8_told_8 rfl (lv_at hl 2 rfl) ?_
    obtain ⟨x7, g8, h⟩ := ce_b1_e h
    refine ce_callVi (As := [.int a1, .int a2]) (rest := []) hx hb hml hown hB (c_X8_of l X G b hk g8) ce_v_X8_of ce_w1017 ⟨Nat.le_of_ble_eq_true rfl, Nat.le_of_ble_eq_true rfl⟩ hF hA hS (ce_rc_8 hK hA hk) hl rfl rfl (Nat.le_of_ble_eq_true rfl) dX8_told_9 ⟨Nat.le_of_ble_eq_true rfl, Nat.le_of_ble_eq_true rfl⟩ (fun H locs hA hS => ?_)
    cases h
    exact ce_iret hx hb hr hlocks hA hS dX8_told_12
def f_X8_subscriber (k : Nat) (M : ce_M) (a1 : Int32) (a2 : Int32) : Option (ce_M × Int32) :=
  ce_b1 (f_X8_isOne k M a1) (fun (x1 : Int32) =>
  if x1 = 0 then
    ce_b2 (f_X8_fails k M 1) (fun (M15 : ce_M) (x16 : Int32) =>
    some (M15, x16))
  else
    ce_b1 (f_X8_in M a2 0 11) (fun (x4 : Int32) =>
    if x4 = 0 then
      ce_b2 (f_X8_fails k M 2) (fun (M7 : ce_M) (x8 : Int32) =>
      some (M7, x8))
    else
      ce_b1 (f_X8_told k M a1 a2) (fun (x10 : Int32) =>
      ce_b2 (f_X8_tells k M x10) (fun (M12 : ce_M) (x13 : Int32) =>
      some (M12, x13)))))
set_option maxRecDepth 100000 in
set_option maxHeartbeats 4000000 in
theorem c_X8_subscriber (l : Launch) (X : ce_X) (G : ce_G) (b : Nat) {k : Nat} {a1 : Int32} {a2 : Int32} {M : ce_M} (hk : ce_kd k = 8) {M' : ce_M} {r : Int32} (h : f_X8_subscriber k M a1 a2 = some (M', r)) : ce_Ct l yX8_subscriber cX8_subscriber 3 (some .int) 3 67 X G b [.ref (b + k), .int a1, .int a2] M (some (.int r)) M' := by
  refine ce_ofW (own := RX8) (by decide) rfl (Nat.le_of_ble_eq_true rfl) (fun p e s m below meth c ls hx hb hr hlocks hml hown hB hF hA hl hS => ?_)
  have hK := hF.1
  have hl : lv_has ls 3 [(0, .ref (b + k)), (1, .int a1), (2, .int a2)] := hl
  unfold f_X8_subscriber at h
  refine lv_aload_n hx hb dX8_subscriber_0 rfl (lv_at hl 0 rfl) ?_
  refine lv_iload_n hx hb dX8_subscriber_1 rfl (lv_at hl 1 rfl) ?_
  obtain ⟨x1, g2, h⟩ := ce_b1_e h
  refine ce_callVi (As := [.int a1]) (rest := []) hx hb hml hown hB (c_X8_isOne l X G b hk g2) ce_v_X8_isOne ce_w1053 ⟨Nat.le_of_ble_eq_true rfl, Nat.le_of_ble_eq_true rfl⟩ hF hA hS (ce_rc_8 hK hA hk) hl rfl rfl (Nat.le_of_ble_eq_true rfl) dX8_subscriber_2 ⟨Nat.le_of_ble_eq_true rfl, Nat.le_of_ble_eq_true rfl⟩ (fun H locs hA hS => ?_)
  refine lv_if_ne (tgt := 14) hx hb dX8_subscriber_5 (by decide) (fun c3 => ?_) (fun c3 => ?_)
  · have h := ce_ie c3 h
    refine lv_iload_n hx hb dX8_subscriber_14 rfl (lv_at hl 2 rfl) ?_
    refine lv_iconst (v := 0) hx hb dX8_subscriber_15 (by decide) ?_
    refine lv_bipush (v := 11) hx hb dX8_subscriber_16 (by decide) ?_
    obtain ⟨x4, g5, h⟩ := ce_b1_e h
    refine ce_callSi (As := [.int a2, .int 0, .int 11]) (rest := []) hx hb hml hown hB (c_X8_in l X G b  g5) ce_s_X8_in ce_w1003 ⟨Nat.le_of_ble_eq_true rfl, Nat.le_of_ble_eq_true rfl⟩ hF hA hS hl rfl rfl (Nat.le_of_ble_eq_true rfl) dX8_subscriber_18 ⟨Nat.le_of_ble_eq_true rfl, Nat.le_of_ble_eq_true rfl⟩ (fun H locs hA hS => ?_)
    refine lv_if_eq (tgt := 37) hx hb dX8_subscriber_21 (by decide) (fun c6 => ?_) (fun c6 => ?_)
    · have h := ce_it c6 h
      refine lv_aload_n hx hb dX8_subscriber_37 rfl (lv_at hl 0 rfl) ?_
      refine lv_iconst (v := 2) hx hb dX8_subscriber_38 (by decide) ?_
      obtain ⟨M7, x8, g9, h⟩ := ce_b2_e h
      refine ce_callVi (As := [.int 2]) (rest := []) hx hb hml hown hB (c_X8_fails l X G b hk g9) ce_v_X8_fails ce_w1033 ⟨Nat.le_of_ble_eq_true rfl, Nat.le_of_ble_eq_true rfl⟩ hF hA hS (ce_rc_8 hK hA hk) hl rfl rfl (Nat.le_of_ble_eq_true rfl) dX8_subscriber_39 ⟨Nat.le_of_ble_eq_true rfl, Nat.le_of_ble_eq_true rfl⟩ (fun H locs hA hS => ?_)
      cases h
      exact ce_iret hx hb hr hlocks hA hS dX8_subscriber_42
    · have h := ce_ie c6 h
      refine lv_aload_n hx hb dX8_subscriber_24 rfl (lv_at hl 0 rfl) ?_
      refine lv_aload_n hx hb dX8_subscriber_25 rfl (lv_at hl 0 rfl) ?_
      refine lv_iload_n hx hb dX8_subscriber_26 rfl (lv_at hl 1 rfl) ?_
      refine lv_iload_n hx hb dX8_subscriber_27 rfl (lv_at hl 2 rfl) ?_
      obtain ⟨x10, g11, h⟩ := ce_b1_e h
      refine ce_callVi (As := [.int a1, .int a2]) (rest := [.ref (b + k)]) hx hb hml hown hB (c_X8_told l X G b hk g11) ce_v_X8_told ce_w1151 ⟨Nat.le_of_ble_eq_true rfl, Nat.le_of_ble_eq_true rfl⟩ hF hA hS (ce_rc_8 hK hA hk) hl rfl rfl (Nat.le_of_ble_eq_true rfl) dX8_subscriber_28 ⟨Nat.le_of_ble_eq_true rfl, Nat.le_of_ble_eq_true rfl⟩ (fun H locs hA hS => ?_)
      obtain ⟨M12, x13, g14, h⟩ := ce_b2_e h
      refine ce_callVi (As := [.int x10]) (rest := []) hx hb hml hown hB (c_X8_tells l X G b hk g14) ce_v_X8_tells ce_w1041 ⟨Nat.le_of_ble_eq_true rfl, Nat.le_of_ble_eq_true rfl⟩ hF hA hS (ce_rc_8 hK hA hk) hl rfl rfl (Nat.le_of_ble_eq_true rfl) dX8_subscriber_31 ⟨Nat.le_of_ble_eq_true rfl, Nat.le_of_ble_eq_true rfl⟩ (fun H locs hA hS => ?_)
      refine lv_goto (tgt := 42) hx hb dX8_subscriber_34 (by decide) ?_
      cases h
      exact ce_iret hx hb hr hlocks hA hS dX8_subscriber_42
  · have h := ce_it c3 h
    refine lv_aload_n hx hb dX8_subscriber_8 rfl (lv_at hl 0 rfl) ?_
    refine lv_iconst (v := 1) hx hb dX8_subscriber_9 (by decide) ?_
    obtain ⟨M15, x16, g17, h⟩ := ce_b2_e h
    refine ce_callVi (As := [.int 1]) (rest := []) hx hb hml hown hB (c_X8_fails l X G b hk g17) ce_v_X8_fails ce_w1033 ⟨Nat.le_of_ble_eq_true rfl, Nat.le_of_ble_eq_true rfl⟩ hF hA hS (ce_rc_8 hK hA hk) hl rfl rfl (Nat.le_of_ble_eq_true rfl) dX8_subscriber_10 ⟨Nat.le_of_ble_eq_true rfl, Nat.le_of_ble_eq_true rfl⟩ (fun H locs hA hS => ?_)
    cases h
    exact ce_iret hx hb hr hlocks hA hS dX8_subscriber_13
def f_X8_stay (k : Nat) (M : ce_M) (a1 : Int32) (a2 : Int32) (a3 : Int32) : Option (ce_M × Int32) :=
  ce_b1 (f_X8_isOne k M a1) (fun (x1 : Int32) =>
  if x1 = 0 then
    ce_b2 (f_X8_fails k M 1) (fun (M25 : ce_M) (x26 : Int32) =>
    some (M25, x26))
  else
    ce_nm (fun (z5 : Unit) =>
      ce_b2 (f_X8_fails k M 2) (fun (M6 : ce_M) (x7 : Int32) =>
      some (M6, x7))) (fun (u4 : Unit → Option (ce_M × Int32)) =>
    if a2 < 0 then
      u4 ()
    else
      ce_b1 (f_X8_in M a3 0 2) (fun (x11 : Int32) =>
      if x11 = 0 then
        u4 ()
      else
        ce_b1 (f_X8_of k M a1 11) (fun (x14 : Int32) =>
        ce_nm (fun (x16 : Int32) =>
      ce_b2 (f_X8_tells k M x16) (fun (M18 : ce_M) (x19 : Int32) =>
      some (M18, x19))) (fun (u17 : Int32 → Option (ce_M × Int32)) =>
        if x14 ≤ a2 then
          u17 (-1)
        else
          ce_b1 (f_X8_stayAt k M a1 ((x14 - 1) - a2) a3) (fun (x23 : Int32) =>
          u17 x23))))))
set_option maxRecDepth 100000 in
set_option maxHeartbeats 4000000 in
theorem c_X8_stay (l : Launch) (X : ce_X) (G : ce_G) (b : Nat) {k : Nat} {a1 : Int32} {a2 : Int32} {a3 : Int32} {M : ce_M} (hk : ce_kd k = 8) {M' : ce_M} {r : Int32} (h : f_X8_stay k M a1 a2 a3 = some (M', r)) : ce_Ct l yX8_stay cX8_stay 5 (some .int) 2 45 X G b [.ref (b + k), .int a1, .int a2, .int a3] M (some (.int r)) M' := by
  refine ce_ofW (own := RX8) (by decide) rfl (Nat.le_of_ble_eq_true rfl) (fun p e s m below meth c ls hx hb hr hlocks hml hown hB hF hA hl hS => ?_)
  have hK := hF.1
  have hl : lv_has ls 5 [(0, .ref (b + k)), (1, .int a1), (2, .int a2), (3, .int a3)] := hl
  unfold f_X8_stay at h
  refine lv_aload_n hx hb dX8_stay_0 rfl (lv_at hl 0 rfl) ?_
  refine lv_iload_n hx hb dX8_stay_1 rfl (lv_at hl 1 rfl) ?_
  obtain ⟨x1, g2, h⟩ := ce_b1_e h
  refine ce_callVi (As := [.int a1]) (rest := []) hx hb hml hown hB (c_X8_isOne l X G b hk g2) ce_v_X8_isOne ce_w1053 ⟨Nat.le_of_ble_eq_true rfl, Nat.le_of_ble_eq_true rfl⟩ hF hA hS (ce_rc_8 hK hA hk) hl rfl rfl (Nat.le_of_ble_eq_true rfl) dX8_stay_2 ⟨Nat.le_of_ble_eq_true rfl, Nat.le_of_ble_eq_true rfl⟩ (fun H locs hA hS => ?_)
  refine lv_if_ne (tgt := 14) hx hb dX8_stay_5 (by decide) (fun c3 => ?_) (fun c3 => ?_)
  · have h := ce_ie c3 h
    refine lv_iload_n hx hb dX8_stay_14 rfl (lv_at hl 2 rfl) ?_
    obtain ⟨u4, e9, h⟩ := ce_nm_e h
    have Ju4 : ∀ (z5 : Unit), u4 z5 = some (M', r) → ce_Wg p l e (ce_R 2 45 0 0) s m (([.ref (b + k), .int a1, .int a2, .int a3] : List Value).toArray) below meth c 0 0 (MQ below (ce_Q X b M' (some (.int r))) ([.ref (b + k), .int a1, .int a2, .int a3] : List Value).toArray s 0 0 (ce_Ab b)) X b M 5 [(0, .ref (b + k))] 27 [] := by
      intro z5 h  H locs ls hA hS hl
      subst e9
      refine lv_aload_n hx hb dX8_stay_27 rfl (lv_at hl 0 rfl) ?_
      refine lv_iconst (v := 2) hx hb dX8_stay_28 (by decide) ?_
      obtain ⟨M6, x7, g8, h⟩ := ce_b2_e h
      refine ce_callVi (As := [.int 2]) (rest := []) hx hb hml hown hB (c_X8_fails l X G b hk g8) ce_v_X8_fails ce_w1033 ⟨Nat.le_of_ble_eq_true rfl, Nat.le_of_ble_eq_true rfl⟩ hF hA hS (ce_rc_8 hK hA hk) hl rfl rfl (Nat.le_of_ble_eq_true rfl) dX8_stay_29 ⟨Nat.le_of_ble_eq_true rfl, Nat.le_of_ble_eq_true rfl⟩ (fun H locs hA hS => ?_)
      cases h
      exact ce_iret hx hb hr hlocks hA hS dX8_stay_32
    refine lv_if_lt (tgt := 27) hx hb dX8_stay_15 (by decide) (fun c10 => ?_) (fun c10 => ?_)
    · have h := ce_it c10 h
      exact Ju4 () h  _ _ _ hA hS (lv_sub hl [0] rfl)
    · have h := ce_ie c10 h
      refine lv_iload_n hx hb dX8_stay_18 rfl (lv_at hl 3 rfl) ?_
      refine lv_iconst (v := 0) hx hb dX8_stay_19 (by decide) ?_
      refine lv_iconst (v := 2) hx hb dX8_stay_20 (by decide) ?_
      obtain ⟨x11, g12, h⟩ := ce_b1_e h
      refine ce_callSi (As := [.int a3, .int 0, .int 2]) (rest := []) hx hb hml hown hB (c_X8_in l X G b  g12) ce_s_X8_in ce_w1003 ⟨Nat.le_of_ble_eq_true rfl, Nat.le_of_ble_eq_true rfl⟩ hF hA hS hl rfl rfl (Nat.le_of_ble_eq_true rfl) dX8_stay_21 ⟨Nat.le_of_ble_eq_true rfl, Nat.le_of_ble_eq_true rfl⟩ (fun H locs hA hS => ?_)
      refine lv_if_ne (tgt := 33) hx hb dX8_stay_24 (by decide) (fun c13 => ?_) (fun c13 => ?_)
      · have h := ce_ie c13 h
        refine lv_aload_n hx hb dX8_stay_33 rfl (lv_at hl 0 rfl) ?_
        refine lv_iload_n hx hb dX8_stay_34 rfl (lv_at hl 1 rfl) ?_
        refine lv_bipush (v := 11) hx hb dX8_stay_35 (by decide) ?_
        obtain ⟨x14, g15, h⟩ := ce_b1_e h
        refine ce_callVi (As := [.int a1, .int 11]) (rest := []) hx hb hml hown hB (c_X8_of l X G b hk g15) ce_v_X8_of ce_w1017 ⟨Nat.le_of_ble_eq_true rfl, Nat.le_of_ble_eq_true rfl⟩ hF hA hS (ce_rc_8 hK hA hk) hl rfl rfl (Nat.le_of_ble_eq_true rfl) dX8_stay_37 ⟨Nat.le_of_ble_eq_true rfl, Nat.le_of_ble_eq_true rfl⟩ (fun H locs hA hS => ?_)
        refine lv_istore (lv' := [(4, .int x14), (0, .ref (b + k)), (1, .int a1), (2, .int a2), (3, .int a3)]) hx hb dX8_stay_40 hl (by decide) rfl (fun ls hl => ?_)
        refine lv_aload_n hx hb dX8_stay_42 rfl (lv_at hl 1 rfl) ?_
        refine lv_iload_n hx hb dX8_stay_43 rfl (lv_at hl 3 rfl) ?_
        refine lv_iload hx hb dX8_stay_44 (lv_at hl 0 rfl) ?_
        obtain ⟨u17, e21, h⟩ := ce_nm_e h
        have Ju17 : ∀ (x16 : Int32), u17 x16 = some (M', r) → ce_Wg p l e (ce_R 2 45 0 0) s m (([.ref (b + k), .int a1, .int a2, .int a3] : List Value).toArray) below meth c 0 0 (MQ below (ce_Q X b M' (some (.int r))) ([.ref (b + k), .int a1, .int a2, .int a3] : List Value).toArray s 0 0 (ce_Ab b)) X b M 5 [] 65 [.int x16, .ref (b + k)] := by
          intro x16 h  H locs ls hA hS hl
          subst e21
          obtain ⟨M18, x19, g20, h⟩ := ce_b2_e h
          refine ce_callVi (As := [.int x16]) (rest := []) hx hb hml hown hB (c_X8_tells l X G b hk g20) ce_v_X8_tells ce_w1041 ⟨Nat.le_of_ble_eq_true rfl, Nat.le_of_ble_eq_true rfl⟩ hF hA hS (ce_rc_8 hK hA hk) hl rfl rfl (Nat.le_of_ble_eq_true rfl) dX8_stay_65 ⟨Nat.le_of_ble_eq_true rfl, Nat.le_of_ble_eq_true rfl⟩ (fun H locs hA hS => ?_)
          cases h
          exact ce_iret hx hb hr hlocks hA hS dX8_stay_68
        refine lv_icmp_ge (tgt := 64) hx hb dX8_stay_46 (by decide) (fun c22 => ?_) (fun c22 => ?_)
        · have h := ce_it c22 h
          refine lv_iconst (v := (-1)) hx hb dX8_stay_64 (by decide) ?_
          exact Ju17 (-1) h  _ _ _ hA hS (lv_sub hl [] rfl)
        · have h := ce_ie c22 h
          refine lv_aload_n hx hb dX8_stay_49 rfl (lv_at hl 1 rfl) ?_
          refine lv_iload_n hx hb dX8_stay_50 rfl (lv_at hl 2 rfl) ?_
          refine lv_iload hx hb dX8_stay_51 (lv_at hl 0 rfl) ?_
          refine lv_iconst (v := 1) hx hb dX8_stay_53 (by decide) ?_
          refine lv_isub hx hb dX8_stay_54 ?_
          refine lv_iload_n hx hb dX8_stay_55 rfl (lv_at hl 3 rfl) ?_
          refine lv_isub hx hb dX8_stay_56 ?_
          refine lv_iload_n hx hb dX8_stay_57 rfl (lv_at hl 4 rfl) ?_
          obtain ⟨x23, g24, h⟩ := ce_b1_e h
          refine ce_callVi (As := [.int a1, .int ((x14 - 1) - a2), .int a3]) (rest := [.ref (b + k)]) hx hb hml hown hB (c_X8_stayAt l X G b hk g24) ce_v_X8_stayAt ce_w1109 ⟨Nat.le_of_ble_eq_true rfl, Nat.le_of_ble_eq_true rfl⟩ hF hA hS (ce_rc_8 hK hA hk) hl rfl rfl (Nat.le_of_ble_eq_true rfl) dX8_stay_58 ⟨Nat.le_of_ble_eq_true rfl, Nat.le_of_ble_eq_true rfl⟩ (fun H locs hA hS => ?_)
          refine lv_goto (tgt := 65) hx hb dX8_stay_61 (by decide) ?_
          exact Ju17 x23 h  _ _ _ hA hS (lv_sub hl [] rfl)
      · have h := ce_it c13 h
        exact Ju4 () h  _ _ _ hA hS (lv_sub hl [0] rfl)
  · have h := ce_it c3 h
    refine lv_aload_n hx hb dX8_stay_8 rfl (lv_at hl 0 rfl) ?_
    refine lv_iconst (v := 1) hx hb dX8_stay_9 (by decide) ?_
    obtain ⟨M25, x26, g27, h⟩ := ce_b2_e h
    refine ce_callVi (As := [.int 1]) (rest := []) hx hb hml hown hB (c_X8_fails l X G b hk g27) ce_v_X8_fails ce_w1033 ⟨Nat.le_of_ble_eq_true rfl, Nat.le_of_ble_eq_true rfl⟩ hF hA hS (ce_rc_8 hK hA hk) hl rfl rfl (Nat.le_of_ble_eq_true rfl) dX8_stay_10 ⟨Nat.le_of_ble_eq_true rfl, Nat.le_of_ble_eq_true rfl⟩ (fun H locs hA hS => ?_)
    cases h
    exact ce_iret hx hb hr hlocks hA hS dX8_stay_13
def f_X8_waiting (k : Nat) (M : ce_M) (a1 : Int32) (a2 : Int32) : Option (ce_M × Int32) :=
  ce_b1 (f_X8_isOne k M a1) (fun (x1 : Int32) =>
  if x1 = 0 then
    ce_b2 (f_X8_fails k M 1) (fun (M19 : ce_M) (x20 : Int32) =>
    some (M19, x20))
  else
    if 0 ≤ a2 then
      ce_b1 (f_X8_of k M a1 6) (fun (x5 : Int32) =>
      ce_nm (fun (x7 : Int32) =>
      ce_b2 (f_X8_tells k M x7) (fun (M9 : ce_M) (x10 : Int32) =>
      some (M9, x10))) (fun (u8 : Int32 → Option (ce_M × Int32)) =>
      if x5 ≤ a2 then
        u8 (-1)
      else
        ce_b1 (f_X8_of k M a1 (12 + a2)) (fun (x14 : Int32) =>
        u8 x14)))
    else
      ce_b2 (f_X8_fails k M 2) (fun (M16 : ce_M) (x17 : Int32) =>
      some (M16, x17)))
set_option maxRecDepth 100000 in
set_option maxHeartbeats 4000000 in
theorem c_X8_waiting (l : Launch) (X : ce_X) (G : ce_G) (b : Nat) {k : Nat} {a1 : Int32} {a2 : Int32} {M : ce_M} (hk : ce_kd k = 8) {M' : ce_M} {r : Int32} (h : f_X8_waiting k M a1 a2 = some (M', r)) : ce_Ct l yX8_waiting cX8_waiting 3 (some .int) 2 43 X G b [.ref (b + k), .int a1, .int a2] M (some (.int r)) M' := by
  refine ce_ofW (own := RX8) (by decide) rfl (Nat.le_of_ble_eq_true rfl) (fun p e s m below meth c ls hx hb hr hlocks hml hown hB hF hA hl hS => ?_)
  have hK := hF.1
  have hl : lv_has ls 3 [(0, .ref (b + k)), (1, .int a1), (2, .int a2)] := hl
  unfold f_X8_waiting at h
  refine lv_aload_n hx hb dX8_waiting_0 rfl (lv_at hl 0 rfl) ?_
  refine lv_iload_n hx hb dX8_waiting_1 rfl (lv_at hl 1 rfl) ?_
  obtain ⟨x1, g2, h⟩ := ce_b1_e h
  refine ce_callVi (As := [.int a1]) (rest := []) hx hb hml hown hB (c_X8_isOne l X G b hk g2) ce_v_X8_isOne ce_w1053 ⟨Nat.le_of_ble_eq_true rfl, Nat.le_of_ble_eq_true rfl⟩ hF hA hS (ce_rc_8 hK hA hk) hl rfl rfl (Nat.le_of_ble_eq_true rfl) dX8_waiting_2 ⟨Nat.le_of_ble_eq_true rfl, Nat.le_of_ble_eq_true rfl⟩ (fun H locs hA hS => ?_)
  refine lv_if_ne (tgt := 14) hx hb dX8_waiting_5 (by decide) (fun c3 => ?_) (fun c3 => ?_)
  · have h := ce_ie c3 h
    refine lv_iload_n hx hb dX8_waiting_14 rfl (lv_at hl 2 rfl) ?_
    refine lv_if_ge (tgt := 24) hx hb dX8_waiting_15 (by decide) (fun c4 => ?_) (fun c4 => ?_)
    · have h := ce_it c4 h
      refine lv_aload_n hx hb dX8_waiting_24 rfl (lv_at hl 0 rfl) ?_
      refine lv_iload_n hx hb dX8_waiting_25 rfl (lv_at hl 2 rfl) ?_
      refine lv_aload_n hx hb dX8_waiting_26 rfl (lv_at hl 0 rfl) ?_
      refine lv_iload_n hx hb dX8_waiting_27 rfl (lv_at hl 1 rfl) ?_
      refine lv_bipush (v := 6) hx hb dX8_waiting_28 (by decide) ?_
      obtain ⟨x5, g6, h⟩ := ce_b1_e h
      refine ce_callVi (As := [.int a1, .int 6]) (rest := [.int a2, .ref (b + k)]) hx hb hml hown hB (c_X8_of l X G b hk g6) ce_v_X8_of ce_w1017 ⟨Nat.le_of_ble_eq_true rfl, Nat.le_of_ble_eq_true rfl⟩ hF hA hS (ce_rc_8 hK hA hk) hl rfl rfl (Nat.le_of_ble_eq_true rfl) dX8_waiting_30 ⟨Nat.le_of_ble_eq_true rfl, Nat.le_of_ble_eq_true rfl⟩ (fun H locs hA hS => ?_)
      obtain ⟨u8, e12, h⟩ := ce_nm_e h
      have Ju8 : ∀ (x7 : Int32), u8 x7 = some (M', r) → ce_Wg p l e (ce_R 2 43 0 0) s m (([.ref (b + k), .int a1, .int a2] : List Value).toArray) below meth c 0 0 (MQ below (ce_Q X b M' (some (.int r))) ([.ref (b + k), .int a1, .int a2] : List Value).toArray s 0 0 (ce_Ab b)) X b M 3 [] 49 [.int x7, .ref (b + k)] := by
        intro x7 h  H locs ls hA hS hl
        subst e12
        obtain ⟨M9, x10, g11, h⟩ := ce_b2_e h
        refine ce_callVi (As := [.int x7]) (rest := []) hx hb hml hown hB (c_X8_tells l X G b hk g11) ce_v_X8_tells ce_w1041 ⟨Nat.le_of_ble_eq_true rfl, Nat.le_of_ble_eq_true rfl⟩ hF hA hS (ce_rc_8 hK hA hk) hl rfl rfl (Nat.le_of_ble_eq_true rfl) dX8_waiting_49 ⟨Nat.le_of_ble_eq_true rfl, Nat.le_of_ble_eq_true rfl⟩ (fun H locs hA hS => ?_)
        cases h
        exact ce_iret hx hb hr hlocks hA hS dX8_waiting_52
      refine lv_icmp_ge (tgt := 48) hx hb dX8_waiting_33 (by decide) (fun c13 => ?_) (fun c13 => ?_)
      · have h := ce_it c13 h
        refine lv_iconst (v := (-1)) hx hb dX8_waiting_48 (by decide) ?_
        exact Ju8 (-1) h  _ _ _ hA hS (lv_sub hl [] rfl)
      · have h := ce_ie c13 h
        refine lv_aload_n hx hb dX8_waiting_36 rfl (lv_at hl 0 rfl) ?_
        refine lv_iload_n hx hb dX8_waiting_37 rfl (lv_at hl 1 rfl) ?_
        refine lv_bipush (v := 12) hx hb dX8_waiting_38 (by decide) ?_
        refine lv_iload_n hx hb dX8_waiting_40 rfl (lv_at hl 2 rfl) ?_
        refine lv_iadd hx hb dX8_waiting_41 ?_
        obtain ⟨x14, g15, h⟩ := ce_b1_e h
        refine ce_callVi (As := [.int a1, .int (12 + a2)]) (rest := [.ref (b + k)]) hx hb hml hown hB (c_X8_of l X G b hk g15) ce_v_X8_of ce_w1017 ⟨Nat.le_of_ble_eq_true rfl, Nat.le_of_ble_eq_true rfl⟩ hF hA hS (ce_rc_8 hK hA hk) hl rfl rfl (Nat.le_of_ble_eq_true rfl) dX8_waiting_42 ⟨Nat.le_of_ble_eq_true rfl, Nat.le_of_ble_eq_true rfl⟩ (fun H locs hA hS => ?_)
        refine lv_goto (tgt := 49) hx hb dX8_waiting_45 (by decide) ?_
        exact Ju8 x14 h  _ _ _ hA hS (lv_sub hl [] rfl)
    · have h := ce_ie c4 h
      refine lv_aload_n hx hb dX8_waiting_18 rfl (lv_at hl 0 rfl) ?_
      refine lv_iconst (v := 2) hx hb dX8_waiting_19 (by decide) ?_
      obtain ⟨M16, x17, g18, h⟩ := ce_b2_e h
      refine ce_callVi (As := [.int 2]) (rest := []) hx hb hml hown hB (c_X8_fails l X G b hk g18) ce_v_X8_fails ce_w1033 ⟨Nat.le_of_ble_eq_true rfl, Nat.le_of_ble_eq_true rfl⟩ hF hA hS (ce_rc_8 hK hA hk) hl rfl rfl (Nat.le_of_ble_eq_true rfl) dX8_waiting_20 ⟨Nat.le_of_ble_eq_true rfl, Nat.le_of_ble_eq_true rfl⟩ (fun H locs hA hS => ?_)
      cases h
      exact ce_iret hx hb hr hlocks hA hS dX8_waiting_23
  · have h := ce_it c3 h
    refine lv_aload_n hx hb dX8_waiting_8 rfl (lv_at hl 0 rfl) ?_
    refine lv_iconst (v := 1) hx hb dX8_waiting_9 (by decide) ?_
    obtain ⟨M19, x20, g21, h⟩ := ce_b2_e h
    refine ce_callVi (As := [.int 1]) (rest := []) hx hb hml hown hB (c_X8_fails l X G b hk g21) ce_v_X8_fails ce_w1033 ⟨Nat.le_of_ble_eq_true rfl, Nat.le_of_ble_eq_true rfl⟩ hF hA hS (ce_rc_8 hK hA hk) hl rfl rfl (Nat.le_of_ble_eq_true rfl) dX8_waiting_10 ⟨Nat.le_of_ble_eq_true rfl, Nat.le_of_ble_eq_true rfl⟩ (fun H locs hA hS => ?_)
    cases h
    exact ce_iret hx hb hr hlocks hA hS dX8_waiting_13
def f_X8_inBoxes_L17 (k : Nat) (M : ce_M) (x2 : Int32) (a1 : Int32) (u14 : Int32 → Option Int32) (rec11 : Int32 → Int32 → Option Int32) (x9 : Int32) (x10 : Int32) : Option Int32 :=
  ce_b1 (f_X8_of k M x2 6) (fun (x18 : Int32) =>
  if x18 ≤ x10 then
    u14 x9
  else
    ce_b1 (f_X8_of k M x2 (12 + x10)) (fun (x21 : Int32) =>
    if x21 = a1 then
      ce_nm (x9 + 1) (fun (x28 : Int32) =>
      ce_nm (x10 + 1) (fun (x30 : Int32) =>
      rec11 x28 x30))
    else
      ce_nm (x9 + 0) (fun (x24 : Int32) =>
      ce_nm (x10 + 1) (fun (x26 : Int32) =>
      rec11 x24 x26))))
def f_X8_inBoxes_L4 (M : ce_M) (k : Nat) (a1 : Int32) (rec3 : Int32 → Int32 → Option Int32) (x1 : Int32) (x2 : Int32) : Option Int32 :=
  ce_gi 1 816 (ce_nm (ce_rd M (k + 1) (Int32.toNatClampNeg 1)) (fun (x5 : Int32) =>
  if x5 ≤ x2 then
    some x1
  else
    ce_nm (fun (x13 : Int32) =>
      ce_nm (x2 + 1) (fun (x15 : Int32) =>
      rec3 x13 x15)) (fun (u14 : Int32 → Option Int32) =>
    ce_lp2 (f_X8_inBoxes_L17 k M x2 a1 u14) ce_FU x1 0)))
def f_X8_inBoxes (k : Nat) (M : ce_M) (a1 : Int32) : Option Int32 :=
  ce_lp2 (f_X8_inBoxes_L4 M k a1) ce_FU 0 0
set_option maxRecDepth 100000 in
set_option maxHeartbeats 4000000 in
theorem c_X8_inBoxes (l : Launch) (X : ce_X) (G : ce_G) (b : Nat) {k : Nat} {a1 : Int32} {M : ce_M} (hk : ce_kd k = 8) {r : Int32} (h : f_X8_inBoxes k M a1 = some r) : ce_Ct l yX8_inBoxes cX8_inBoxes 5 (some .int) 1 22 X G b [.ref (b + k), .int a1] M (some (.int r)) M := by
  refine ce_ofW (own := RX8) (by decide) rfl (Nat.le_of_ble_eq_true rfl) (fun p e s m below meth c ls hx hb hr hlocks hml hown hB hF hA hl hS => ?_)
  have hK := hF.1
  have hl : lv_has ls 5 [(0, .ref (b + k)), (1, .int a1)] := hl
  unfold f_X8_inBoxes at h
  refine lv_iconst (v := 0) hx hb dX8_inBoxes_0 (by decide) ?_
  refine lv_istore_n (lv' := [(2, .int 0), (0, .ref (b + k)), (1, .int a1)]) hx hb dX8_inBoxes_1 rfl hl (by decide) rfl (fun ls hl => ?_)
  refine lv_iconst (v := 0) hx hb dX8_inBoxes_2 (by decide) ?_
  refine lv_istore_n (lv' := [(3, .int 0), (2, .int 0), (0, .ref (b + k)), (1, .int a1)]) hx hb dX8_inBoxes_3 rfl hl (by decide) rfl (fun ls hl => ?_)
  refine ce_lp2_i (y := r) (P := fun (x1 : Int32) (x2 : Int32) => ce_Wg p l e (ce_R 1 22 0 0) s m (([.ref (b + k), .int a1] : List Value).toArray) below meth c 0 0 (MQ below (ce_Q X b M (some (.int r))) ([.ref (b + k), .int a1] : List Value).toArray s 0 0 (ce_Ab b)) X b M 5 [(0, .ref (b + k)), (1, .int a1), (2, .int x1), (3, .int x2)] 4 []) (fun rec3 ih4 x1 x2 h => ?_) _ _ _ h _ _ _ hA hS (lv_sub hl [2, 3, 1, 0] rfl)
  intro H locs ls hA hS hl
  unfold f_X8_inBoxes_L4 at h
  refine lv_iload_n hx hb dX8_inBoxes_4 rfl (lv_at hl 3 rfl) ?_
  refine lv_aload_n hx hb dX8_inBoxes_5 rfl (lv_at hl 0 rfl) ?_
  refine ce_g_8_0 hx hb hB hown hK hA hk ce_w944 dX8_inBoxes_6 ?_
  refine lv_iconst (v := 1) hx hb dX8_inBoxes_9 (by decide) ?_
  obtain ⟨i6, h⟩ := ce_gi_e h
  obtain ⟨x5, e7, h⟩ := ce_nm_e h
  refine ce_iald hx hb hK hA 816 (ce_kf_8_0 hk) i6 e7 dX8_inBoxes_10 ?_
  refine lv_icmp_ge (tgt := 63) hx hb dX8_inBoxes_11 (by decide) (fun c8 => ?_) (fun c8 => ?_)
  · have h := ce_it c8 h
    refine lv_iload_n hx hb dX8_inBoxes_63 rfl (lv_at hl 2 rfl) ?_
    cases h
    exact ce_iret hx hb hr hlocks hA hS dX8_inBoxes_64
  · have h := ce_ie c8 h
    refine lv_iconst (v := 0) hx hb dX8_inBoxes_14 (by decide) ?_
    refine lv_istore (lv' := [(4, .int 0), (0, .ref (b + k)), (1, .int a1), (2, .int x1), (3, .int x2)]) hx hb dX8_inBoxes_15 hl (by decide) rfl (fun ls hl => ?_)
    obtain ⟨u14, e17, h⟩ := ce_nm_e h
    have Ju14 : ∀ (x13 : Int32), u14 x13 = some r → ce_Wg p l e (ce_R 1 22 0 0) s m (([.ref (b + k), .int a1] : List Value).toArray) below meth c 0 0 (MQ below (ce_Q X b M (some (.int r))) ([.ref (b + k), .int a1] : List Value).toArray s 0 0 (ce_Ab b)) X b M 5 [(0, .ref (b + k)), (1, .int a1), (2, .int x13), (3, .int x2)] 57 [] := by
      intro x13 h  H locs ls hA hS hl
      subst e17
      obtain ⟨x15, e16, h⟩ := ce_nm_e h
      refine lv_iinc (v := x15) (lv' := [(3, .int x15), (0, .ref (b + k)), (1, .int a1), (2, .int x13)]) hx hb dX8_inBoxes_57 hl (k := 3) rfl (by rw [← e16]; rfl) (by decide) rfl (fun ls hl => ?_)
      refine lv_goto (tgt := 4) hx hb dX8_inBoxes_60 (by decide) ?_
      exact ih4 x13 x15 h  _ _ _ hA hS (lv_sub hl [1, 2, 3, 0] rfl)
    refine ce_lp2_i (y := r) (P := fun (x9 : Int32) (x10 : Int32) => ce_Wg p l e (ce_R 1 22 0 0) s m (([.ref (b + k), .int a1] : List Value).toArray) below meth c 0 0 (MQ below (ce_Q X b M (some (.int r))) ([.ref (b + k), .int a1] : List Value).toArray s 0 0 (ce_Ab b)) X b M 5 [(0, .ref (b + k)), (1, .int a1), (2, .int x9), (3, .int x2), (4, .int x10)] 17 []) (fun rec11 ih12 x9 x10 h => ?_) _ _ _ h _ _ _ hA hS (lv_sub hl [1, 2, 3, 4, 0] rfl)
    intro H locs ls hA hS hl
    unfold f_X8_inBoxes_L17 at h
    refine lv_iload hx hb dX8_inBoxes_17 (lv_at hl 4 rfl) ?_
    refine lv_aload_n hx hb dX8_inBoxes_19 rfl (lv_at hl 0 rfl) ?_
    refine lv_iload_n hx hb dX8_inBoxes_20 rfl (lv_at hl 3 rfl) ?_
    refine lv_bipush (v := 6) hx hb dX8_inBoxes_21 (by decide) ?_
    obtain ⟨x18, g19, h⟩ := ce_b1_e h
    refine ce_callVi (As := [.int x2, .int 6]) (rest := [.int x10]) hx hb hml hown hB (c_X8_of l X G b hk g19) ce_v_X8_of ce_w1017 ⟨Nat.le_of_ble_eq_true rfl, Nat.le_of_ble_eq_true rfl⟩ hF hA hS (ce_rc_8 hK hA hk) hl rfl rfl (Nat.le_of_ble_eq_true rfl) dX8_inBoxes_23 ⟨Nat.le_of_ble_eq_true rfl, Nat.le_of_ble_eq_true rfl⟩ (fun H locs hA hS => ?_)
    refine lv_icmp_ge (tgt := 57) hx hb dX8_inBoxes_26 (by decide) (fun c20 => ?_) (fun c20 => ?_)
    · have h := ce_it c20 h
      exact Ju14 x9 h  _ _ _ hA hS (lv_sub hl [0, 1, 2, 3] rfl)
    · have h := ce_ie c20 h
      refine lv_iload_n hx hb dX8_inBoxes_29 rfl (lv_at hl 2 rfl) ?_
      refine lv_aload_n hx hb dX8_inBoxes_30 rfl (lv_at hl 0 rfl) ?_
      refine lv_iload_n hx hb dX8_inBoxes_31 rfl (lv_at hl 3 rfl) ?_
      refine lv_bipush (v := 12) hx hb dX8_inBoxes_32 (by decide) ?_
      refine lv_iload hx hb dX8_inBoxes_34 (lv_at hl 4 rfl) ?_
      refine lv_iadd hx hb dX8_inBoxes_36 ?_
      obtain ⟨x21, g22, h⟩ := ce_b1_e h
      refine ce_callVi (As := [.int x2, .int (12 + x10)]) (rest := [.int x9]) hx hb hml hown hB (c_X8_of l X G b hk g22) ce_v_X8_of ce_w1017 ⟨Nat.le_of_ble_eq_true rfl, Nat.le_of_ble_eq_true rfl⟩ hF hA hS (ce_rc_8 hK hA hk) hl rfl rfl (Nat.le_of_ble_eq_true rfl) dX8_inBoxes_37 ⟨Nat.le_of_ble_eq_true rfl, Nat.le_of_ble_eq_true rfl⟩ (fun H locs hA hS => ?_)
      refine lv_iload_n hx hb dX8_inBoxes_40 rfl (lv_at hl 1 rfl) ?_
      refine lv_icmp_ne (tgt := 48) hx hb dX8_inBoxes_41 (by decide) (fun c23 => ?_) (fun c23 => ?_)
      · have h := ce_ie c23 h
        refine lv_iconst (v := 0) hx hb dX8_inBoxes_48 (by decide) ?_
        refine lv_iadd hx hb dX8_inBoxes_49 ?_
        obtain ⟨x24, e25, h⟩ := ce_nm_e h
        refine ce_top e25 ?_
        refine lv_istore_n (lv' := [(2, .int x24), (0, .ref (b + k)), (1, .int a1), (3, .int x2), (4, .int x10)]) hx hb dX8_inBoxes_50 rfl hl (by decide) rfl (fun ls hl => ?_)
        obtain ⟨x26, e27, h⟩ := ce_nm_e h
        refine lv_iinc (v := x26) (lv' := [(4, .int x26), (2, .int x24), (0, .ref (b + k)), (1, .int a1), (3, .int x2)]) hx hb dX8_inBoxes_51 hl (k := 4) rfl (by rw [← e27]; rfl) (by decide) rfl (fun ls hl => ?_)
        refine lv_goto (tgt := 17) hx hb dX8_inBoxes_54 (by decide) ?_
        exact ih12 x24 x26 h  _ _ _ hA hS (lv_sub hl [2, 3, 1, 4, 0] rfl)
      · have h := ce_it c23 h
        refine lv_iconst (v := 1) hx hb dX8_inBoxes_44 (by decide) ?_
        refine lv_goto (tgt := 49) hx hb dX8_inBoxes_45 (by decide) ?_
        refine lv_iadd hx hb dX8_inBoxes_49 ?_
        obtain ⟨x28, e29, h⟩ := ce_nm_e h
        refine ce_top e29 ?_
        refine lv_istore_n (lv' := [(2, .int x28), (0, .ref (b + k)), (1, .int a1), (3, .int x2), (4, .int x10)]) hx hb dX8_inBoxes_50 rfl hl (by decide) rfl (fun ls hl => ?_)
        obtain ⟨x30, e31, h⟩ := ce_nm_e h
        refine lv_iinc (v := x30) (lv' := [(4, .int x30), (2, .int x28), (0, .ref (b + k)), (1, .int a1), (3, .int x2)]) hx hb dX8_inBoxes_51 hl (k := 4) rfl (by rw [← e31]; rfl) (by decide) rfl (fun ls hl => ?_)
        refine lv_goto (tgt := 17) hx hb dX8_inBoxes_54 (by decide) ?_
        exact ih12 x28 x30 h  _ _ _ hA hS (lv_sub hl [2, 3, 1, 4, 0] rfl)
def f_X8_eventTold (k : Nat) (M : ce_M) (a1 : Int32) (a2 : Int32) : Option Int32 :=
  if a2 = 6 then
    ce_b1 (f_X8_inBoxes k M a1) (fun (x4 : Int32) =>
    some x4)
  else
    ce_b1 (f_X8_ofEvent k M a1 a2) (fun (x2 : Int32) =>
    some x2)
set_option maxRecDepth 100000 in
set_option maxHeartbeats 4000000 in
theorem c_X8_eventTold (l : Launch) (X : ce_X) (G : ce_G) (b : Nat) {k : Nat} {a1 : Int32} {a2 : Int32} {M : ce_M} (hk : ce_kd k = 8) {r : Int32} (h : f_X8_eventTold k M a1 a2 = some r) : ce_Ct l yX8_eventTold cX8_eventTold 3 (some .int) 2 46 X G b [.ref (b + k), .int a1, .int a2] M (some (.int r)) M := by
  refine ce_ofW (own := RX8) (by decide) rfl (Nat.le_of_ble_eq_true rfl) (fun p e s m below meth c ls hx hb hr hlocks hml hown hB hF hA hl hS => ?_)
  have hK := hF.1
  have hl : lv_has ls 3 [(0, .ref (b + k)), (1, .int a1), (2, .int a2)] := hl
  unfold f_X8_eventTold at h
  refine lv_iload_n hx hb dX8_eventTold_0 rfl (lv_at hl 2 rfl) ?_
  refine lv_bipush (v := 6) hx hb dX8_eventTold_1 (by decide) ?_
  refine lv_icmp_ne (tgt := 14) hx hb dX8_eventTold_3 (by decide) (fun c1 => ?_) (fun c1 => ?_)
  · have h := ce_ie c1 h
    refine lv_aload_n hx hb dX8_eventTold_14 rfl (lv_at hl 0 rfl) ?_
    refine lv_iload_n hx hb dX8_eventTold_15 rfl (lv_at hl 1 rfl) ?_
    refine lv_iload_n hx hb dX8_eventTold_16 rfl (lv_at hl 2 rfl) ?_
    obtain ⟨x2, g3, h⟩ := ce_b1_e h
    refine ce_callVi (As := [.int a1, .int a2]) (rest := []) hx hb hml hown hB (c_X8_ofEvent l X G b hk g3) ce_v_X8_ofEvent ce_w1159 ⟨Nat.le_of_ble_eq_true rfl, Nat.le_of_ble_eq_true rfl⟩ hF hA hS (ce_rc_8 hK hA hk) hl rfl rfl (Nat.le_of_ble_eq_true rfl) dX8_eventTold_17 ⟨Nat.le_of_ble_eq_true rfl, Nat.le_of_ble_eq_true rfl⟩ (fun H locs hA hS => ?_)
    cases h
    exact ce_iret hx hb hr hlocks hA hS dX8_eventTold_20
  · have h := ce_it c1 h
    refine lv_aload_n hx hb dX8_eventTold_6 rfl (lv_at hl 0 rfl) ?_
    refine lv_iload_n hx hb dX8_eventTold_7 rfl (lv_at hl 1 rfl) ?_
    obtain ⟨x4, g5, h⟩ := ce_b1_e h
    refine ce_callVi (As := [.int a1]) (rest := []) hx hb hml hown hB (c_X8_inBoxes l X G b hk g5) ce_v_X8_inBoxes ce_w1179 ⟨Nat.le_of_ble_eq_true rfl, Nat.le_of_ble_eq_true rfl⟩ hF hA hS (ce_rc_8 hK hA hk) hl rfl rfl (Nat.le_of_ble_eq_true rfl) dX8_eventTold_8 ⟨Nat.le_of_ble_eq_true rfl, Nat.le_of_ble_eq_true rfl⟩ (fun H locs hA hS => ?_)
    refine lv_goto (tgt := 20) hx hb dX8_eventTold_11 (by decide) ?_
    cases h
    exact ce_iret hx hb hr hlocks hA hS dX8_eventTold_20
def f_X8_event (k : Nat) (M : ce_M) (a1 : Int32) (a2 : Int32) : Option (ce_M × Int32) :=
  ce_gi 2 816 (ce_nm (ce_rd M (k + 1) (Int32.toNatClampNeg 2)) (fun (x1 : Int32) =>
  ce_b1 (f_X8_in M a1 0 (x1 - 1)) (fun (x4 : Int32) =>
  if x4 = 0 then
    ce_b2 (f_X8_fails k M 1) (fun (M18 : ce_M) (x19 : Int32) =>
    some (M18, x19))
  else
    ce_b1 (f_X8_in M a2 0 6) (fun (x7 : Int32) =>
    if x7 = 0 then
      ce_b2 (f_X8_fails k M 2) (fun (M10 : ce_M) (x11 : Int32) =>
      some (M10, x11))
    else
      ce_b1 (f_X8_eventTold k M a1 a2) (fun (x13 : Int32) =>
      ce_b2 (f_X8_tells k M x13) (fun (M15 : ce_M) (x16 : Int32) =>
      some (M15, x16)))))))
set_option maxRecDepth 100000 in
set_option maxHeartbeats 4000000 in
theorem c_X8_event (l : Launch) (X : ce_X) (G : ce_G) (b : Nat) {k : Nat} {a1 : Int32} {a2 : Int32} {M : ce_M} (hk : ce_kd k = 8) {M' : ce_M} {r : Int32} (h : f_X8_event k M a1 a2 = some (M', r)) : ce_Ct l yX8_event cX8_event 3 (some .int) 3 68 X G b [.ref (b + k), .int a1, .int a2] M (some (.int r)) M' := by
  refine ce_ofW (own := RX8) (by decide) rfl (Nat.le_of_ble_eq_true rfl) (fun p e s m below meth c ls hx hb hr hlocks hml hown hB hF hA hl hS => ?_)
  have hK := hF.1
  have hl : lv_has ls 3 [(0, .ref (b + k)), (1, .int a1), (2, .int a2)] := hl
  unfold f_X8_event at h
  refine lv_iload_n hx hb dX8_event_0 rfl (lv_at hl 1 rfl) ?_
  refine lv_iconst (v := 0) hx hb dX8_event_1 (by decide) ?_
  refine lv_aload_n hx hb dX8_event_2 rfl (lv_at hl 0 rfl) ?_
  refine ce_g_8_0 hx hb hB hown hK hA hk ce_w944 dX8_event_3 ?_
  refine lv_iconst (v := 2) hx hb dX8_event_6 (by decide) ?_
  obtain ⟨i2, h⟩ := ce_gi_e h
  obtain ⟨x1, e3, h⟩ := ce_nm_e h
  refine ce_iald hx hb hK hA 816 (ce_kf_8_0 hk) i2 e3 dX8_event_7 ?_
  refine lv_iconst (v := 1) hx hb dX8_event_8 (by decide) ?_
  refine lv_isub hx hb dX8_event_9 ?_
  obtain ⟨x4, g5, h⟩ := ce_b1_e h
  refine ce_callSi (As := [.int a1, .int 0, .int (x1 - 1)]) (rest := []) hx hb hml hown hB (c_X8_in l X G b  g5) ce_s_X8_in ce_w1003 ⟨Nat.le_of_ble_eq_true rfl, Nat.le_of_ble_eq_true rfl⟩ hF hA hS hl rfl rfl (Nat.le_of_ble_eq_true rfl) dX8_event_10 ⟨Nat.le_of_ble_eq_true rfl, Nat.le_of_ble_eq_true rfl⟩ (fun H locs hA hS => ?_)
  refine lv_if_ne (tgt := 22) hx hb dX8_event_13 (by decide) (fun c6 => ?_) (fun c6 => ?_)
  · have h := ce_ie c6 h
    refine lv_iload_n hx hb dX8_event_22 rfl (lv_at hl 2 rfl) ?_
    refine lv_iconst (v := 0) hx hb dX8_event_23 (by decide) ?_
    refine lv_bipush (v := 6) hx hb dX8_event_24 (by decide) ?_
    obtain ⟨x7, g8, h⟩ := ce_b1_e h
    refine ce_callSi (As := [.int a2, .int 0, .int 6]) (rest := []) hx hb hml hown hB (c_X8_in l X G b  g8) ce_s_X8_in ce_w1003 ⟨Nat.le_of_ble_eq_true rfl, Nat.le_of_ble_eq_true rfl⟩ hF hA hS hl rfl rfl (Nat.le_of_ble_eq_true rfl) dX8_event_26 ⟨Nat.le_of_ble_eq_true rfl, Nat.le_of_ble_eq_true rfl⟩ (fun H locs hA hS => ?_)
    refine lv_if_eq (tgt := 45) hx hb dX8_event_29 (by decide) (fun c9 => ?_) (fun c9 => ?_)
    · have h := ce_it c9 h
      refine lv_aload_n hx hb dX8_event_45 rfl (lv_at hl 0 rfl) ?_
      refine lv_iconst (v := 2) hx hb dX8_event_46 (by decide) ?_
      obtain ⟨M10, x11, g12, h⟩ := ce_b2_e h
      refine ce_callVi (As := [.int 2]) (rest := []) hx hb hml hown hB (c_X8_fails l X G b hk g12) ce_v_X8_fails ce_w1033 ⟨Nat.le_of_ble_eq_true rfl, Nat.le_of_ble_eq_true rfl⟩ hF hA hS (ce_rc_8 hK hA hk) hl rfl rfl (Nat.le_of_ble_eq_true rfl) dX8_event_47 ⟨Nat.le_of_ble_eq_true rfl, Nat.le_of_ble_eq_true rfl⟩ (fun H locs hA hS => ?_)
      cases h
      exact ce_iret hx hb hr hlocks hA hS dX8_event_50
    · have h := ce_ie c9 h
      refine lv_aload_n hx hb dX8_event_32 rfl (lv_at hl 0 rfl) ?_
      refine lv_aload_n hx hb dX8_event_33 rfl (lv_at hl 0 rfl) ?_
      refine lv_iload_n hx hb dX8_event_34 rfl (lv_at hl 1 rfl) ?_
      refine lv_iload_n hx hb dX8_event_35 rfl (lv_at hl 2 rfl) ?_
      obtain ⟨x13, g14, h⟩ := ce_b1_e h
      refine ce_callVi (As := [.int a1, .int a2]) (rest := [.ref (b + k)]) hx hb hml hown hB (c_X8_eventTold l X G b hk g14) ce_v_X8_eventTold ce_w1175 ⟨Nat.le_of_ble_eq_true rfl, Nat.le_of_ble_eq_true rfl⟩ hF hA hS (ce_rc_8 hK hA hk) hl rfl rfl (Nat.le_of_ble_eq_true rfl) dX8_event_36 ⟨Nat.le_of_ble_eq_true rfl, Nat.le_of_ble_eq_true rfl⟩ (fun H locs hA hS => ?_)
      obtain ⟨M15, x16, g17, h⟩ := ce_b2_e h
      refine ce_callVi (As := [.int x13]) (rest := []) hx hb hml hown hB (c_X8_tells l X G b hk g17) ce_v_X8_tells ce_w1041 ⟨Nat.le_of_ble_eq_true rfl, Nat.le_of_ble_eq_true rfl⟩ hF hA hS (ce_rc_8 hK hA hk) hl rfl rfl (Nat.le_of_ble_eq_true rfl) dX8_event_39 ⟨Nat.le_of_ble_eq_true rfl, Nat.le_of_ble_eq_true rfl⟩ (fun H locs hA hS => ?_)
      refine lv_goto (tgt := 50) hx hb dX8_event_42 (by decide) ?_
      cases h
      exact ce_iret hx hb hr hlocks hA hS dX8_event_50
  · have h := ce_it c6 h
    refine lv_aload_n hx hb dX8_event_16 rfl (lv_at hl 0 rfl) ?_
    refine lv_iconst (v := 1) hx hb dX8_event_17 (by decide) ?_
    obtain ⟨M18, x19, g20, h⟩ := ce_b2_e h
    refine ce_callVi (As := [.int 1]) (rest := []) hx hb hml hown hB (c_X8_fails l X G b hk g20) ce_v_X8_fails ce_w1033 ⟨Nat.le_of_ble_eq_true rfl, Nat.le_of_ble_eq_true rfl⟩ hF hA hS (ce_rc_8 hK hA hk) hl rfl rfl (Nat.le_of_ble_eq_true rfl) dX8_event_18 ⟨Nat.le_of_ble_eq_true rfl, Nat.le_of_ble_eq_true rfl⟩ (fun H locs hA hS => ?_)
    cases h
    exact ce_iret hx hb hr hlocks hA hS dX8_event_21
def f_X8_leafTold_L20 (M : ce_M) (k : Nat) (a2 : Int32) (a1 : Int32) (rec4 : Int32 → Int32 → Option Int32) (x2 : Int32) (x3 : Int32) : Option Int32 :=
  ce_gi 1 816 (ce_nm (ce_rd M (k + 1) (Int32.toNatClampNeg 1)) (fun (x6 : Int32) =>
  if x6 ≤ x3 then
    some x2
  else
    ce_b1 (f_X8_of k M x3 5) (fun (x10 : Int32) =>
    ce_nm (fun (x12 : Int32) =>
      ce_nm (fun (x16 : Int32) =>
          if x16 = 0 then
            ce_nm (x2 + 0) (fun (x30 : Int32) =>
            ce_nm (x3 + 1) (fun (x32 : Int32) =>
            rec4 x30 x32))
          else
            if a2 = 2 then
              ce_b1 (f_X8_of k M x3 6) (fun (x24 : Int32) =>
              ce_nm (x2 + x24) (fun (x26 : Int32) =>
              ce_nm (x3 + 1) (fun (x28 : Int32) =>
              rec4 x26 x28)))
            else
              ce_nm (x2 + 1) (fun (x20 : Int32) =>
              ce_nm (x3 + 1) (fun (x22 : Int32) =>
              rec4 x20 x22))) (fun (u17 : Int32 → Option Int32) =>
      ce_nm (fun (z15 : Unit) =>
          u17 0) (fun (u14 : Unit → Option Int32) =>
      if x12 = 0 then
        u14 ()
      else
        ce_nm (fun (x37 : Int32) =>
          ce_b1 (f_X8_of k M x3 x37) (fun (x39 : Int32) =>
          if x39 = a1 then
            u17 1
          else
            u14 ())) (fun (u38 : Int32 → Option Int32) =>
        if a2 = 3 then
          u38 2
        else
          u38 4)))) (fun (u13 : Int32 → Option Int32) =>
    if x10 = 1 then
      u13 1
    else
      u13 0))))
def f_X8_leafTold (k : Nat) (M : ce_M) (a1 : Int32) (a2 : Int32) : Option Int32 :=
  if a2 = 1 then
    ce_gi (8 + a1) 816 (ce_nm (ce_rd M (k + 1) (Int32.toNatClampNeg (8 + a1))) (fun (x46 : Int32) =>
    some x46))
  else
    ce_lp2 (f_X8_leafTold_L20 M k a2 a1) ce_FU 0 0
set_option maxRecDepth 100000 in
set_option maxHeartbeats 4000000 in
theorem c_X8_leafTold (l : Launch) (X : ce_X) (G : ce_G) (b : Nat) {k : Nat} {a1 : Int32} {a2 : Int32} {M : ce_M} (hk : ce_kd k = 8) {r : Int32} (h : f_X8_leafTold k M a1 a2 = some r) : ce_Ct l yX8_leafTold cX8_leafTold 7 (some .int) 1 22 X G b [.ref (b + k), .int a1, .int a2] M (some (.int r)) M := by
  refine ce_ofW (own := RX8) (by decide) rfl (Nat.le_of_ble_eq_true rfl) (fun p e s m below meth c ls hx hb hr hlocks hml hown hB hF hA hl hS => ?_)
  have hK := hF.1
  have hl : lv_has ls 7 [(0, .ref (b + k)), (1, .int a1), (2, .int a2)] := hl
  unfold f_X8_leafTold at h
  refine lv_iload_n hx hb dX8_leafTold_0 rfl (lv_at hl 2 rfl) ?_
  refine lv_iconst (v := 1) hx hb dX8_leafTold_1 (by decide) ?_
  refine lv_icmp_ne (tgt := 15) hx hb dX8_leafTold_2 (by decide) (fun c1 => ?_) (fun c1 => ?_)
  · have h := ce_ie c1 h
    refine lv_iconst (v := 0) hx hb dX8_leafTold_15 (by decide) ?_
    refine lv_istore_n (lv' := [(3, .int 0), (0, .ref (b + k)), (1, .int a1), (2, .int a2)]) hx hb dX8_leafTold_16 rfl hl (by decide) rfl (fun ls hl => ?_)
    refine lv_iconst (v := 0) hx hb dX8_leafTold_17 (by decide) ?_
    refine lv_istore (lv' := [(4, .int 0), (3, .int 0), (0, .ref (b + k)), (1, .int a1), (2, .int a2)]) hx hb dX8_leafTold_18 hl (by decide) rfl (fun ls hl => ?_)
    refine ce_lp2_i (y := r) (P := fun (x2 : Int32) (x3 : Int32) => ce_Wg p l e (ce_R 1 22 0 0) s m (([.ref (b + k), .int a1, .int a2] : List Value).toArray) below meth c 0 0 (MQ below (ce_Q X b M (some (.int r))) ([.ref (b + k), .int a1, .int a2] : List Value).toArray s 0 0 (ce_Ab b)) X b M 7 [(0, .ref (b + k)), (1, .int a1), (2, .int a2), (3, .int x2), (4, .int x3)] 20 []) (fun rec4 ih5 x2 x3 h => ?_) _ _ _ h _ _ _ hA hS (lv_sub hl [2, 3, 4, 1, 0] rfl)
    intro H locs ls hA hS hl
    unfold f_X8_leafTold_L20 at h
    refine lv_iload hx hb dX8_leafTold_20 (lv_at hl 4 rfl) ?_
    refine lv_aload_n hx hb dX8_leafTold_22 rfl (lv_at hl 0 rfl) ?_
    refine ce_g_8_0 hx hb hB hown hK hA hk ce_w944 dX8_leafTold_23 ?_
    refine lv_iconst (v := 1) hx hb dX8_leafTold_26 (by decide) ?_
    obtain ⟨i7, h⟩ := ce_gi_e h
    obtain ⟨x6, e8, h⟩ := ce_nm_e h
    refine ce_iald hx hb hK hA 816 (ce_kf_8_0 hk) i7 e8 dX8_leafTold_27 ?_
    refine lv_icmp_ge (tgt := 116) hx hb dX8_leafTold_28 (by decide) (fun c9 => ?_) (fun c9 => ?_)
    · have h := ce_it c9 h
      refine lv_iload_n hx hb dX8_leafTold_116 rfl (lv_at hl 3 rfl) ?_
      cases h
      exact ce_iret hx hb hr hlocks hA hS dX8_leafTold_117
    · have h := ce_ie c9 h
      refine lv_aload_n hx hb dX8_leafTold_31 rfl (lv_at hl 0 rfl) ?_
      refine lv_iload hx hb dX8_leafTold_32 (lv_at hl 4 rfl) ?_
      refine lv_iconst (v := 5) hx hb dX8_leafTold_34 (by decide) ?_
      obtain ⟨x10, g11, h⟩ := ce_b1_e h
      refine ce_callVi (As := [.int x3, .int 5]) (rest := []) hx hb hml hown hB (c_X8_of l X G b hk g11) ce_v_X8_of ce_w1017 ⟨Nat.le_of_ble_eq_true rfl, Nat.le_of_ble_eq_true rfl⟩ hF hA hS (ce_rc_8 hK hA hk) hl rfl rfl (Nat.le_of_ble_eq_true rfl) dX8_leafTold_35 ⟨Nat.le_of_ble_eq_true rfl, Nat.le_of_ble_eq_true rfl⟩ (fun H locs hA hS => ?_)
      refine lv_iconst (v := 1) hx hb dX8_leafTold_38 (by decide) ?_
      obtain ⟨u13, e44, h⟩ := ce_nm_e h
      have Ju13 : ∀ (x12 : Int32), u13 x12 = some r → ce_Wg p l e (ce_R 1 22 0 0) s m (([.ref (b + k), .int a1, .int a2] : List Value).toArray) below meth c 0 0 (MQ below (ce_Q X b M (some (.int r))) ([.ref (b + k), .int a1, .int a2] : List Value).toArray s 0 0 (ce_Ab b)) X b M 7 [(0, .ref (b + k)), (1, .int a1), (2, .int a2), (3, .int x2), (4, .int x3)] 47 [.int x12] := by
        intro x12 h  H locs ls hA hS hl
        subst e44
        refine lv_istore (lv' := [(5, .int x12), (0, .ref (b + k)), (1, .int a1), (2, .int a2), (3, .int x2), (4, .int x3)]) hx hb dX8_leafTold_47 hl (by decide) rfl (fun ls hl => ?_)
        refine lv_iload hx hb dX8_leafTold_49 (lv_at hl 0 rfl) ?_
        obtain ⟨u17, e34, h⟩ := ce_nm_e h
        have Ju17 : ∀ (x16 : Int32), u17 x16 = some r → ce_Wg p l e (ce_R 1 22 0 0) s m (([.ref (b + k), .int a1, .int a2] : List Value).toArray) below meth c 0 0 (MQ below (ce_Q X b M (some (.int r))) ([.ref (b + k), .int a1, .int a2] : List Value).toArray s 0 0 (ce_Ab b)) X b M 7 [(0, .ref (b + k)), (1, .int a1), (2, .int a2), (3, .int x2), (4, .int x3)] 79 [.int x16] := by
          intro x16 h  H locs ls hA hS hl
          subst e34
          refine lv_istore (lv' := [(6, .int x16), (0, .ref (b + k)), (1, .int a1), (2, .int a2), (3, .int x2), (4, .int x3)]) hx hb dX8_leafTold_79 hl (by decide) rfl (fun ls hl => ?_)
          refine lv_iload_n hx hb dX8_leafTold_81 rfl (lv_at hl 4 rfl) ?_
          refine lv_iload hx hb dX8_leafTold_82 (lv_at hl 0 rfl) ?_
          refine lv_if_ne (tgt := 91) hx hb dX8_leafTold_84 (by decide) (fun c18 => ?_) (fun c18 => ?_)
          · have h := ce_ie c18 h
            refine lv_iload_n hx hb dX8_leafTold_91 rfl (lv_at hl 3 rfl) ?_
            refine lv_iconst (v := 2) hx hb dX8_leafTold_92 (by decide) ?_
            refine lv_icmp_ne (tgt := 107) hx hb dX8_leafTold_93 (by decide) (fun c19 => ?_) (fun c19 => ?_)
            · have h := ce_ie c19 h
              refine lv_iconst (v := 1) hx hb dX8_leafTold_107 (by decide) ?_
              refine lv_iadd hx hb dX8_leafTold_108 ?_
              obtain ⟨x20, e21, h⟩ := ce_nm_e h
              refine ce_top e21 ?_
              refine lv_istore_n (lv' := [(3, .int x20), (6, .int x16), (0, .ref (b + k)), (1, .int a1), (2, .int a2), (4, .int x3)]) hx hb dX8_leafTold_109 rfl hl (by decide) rfl (fun ls hl => ?_)
              obtain ⟨x22, e23, h⟩ := ce_nm_e h
              refine lv_iinc (v := x22) (lv' := [(4, .int x22), (3, .int x20), (6, .int x16), (0, .ref (b + k)), (1, .int a1), (2, .int a2)]) hx hb dX8_leafTold_110 hl (k := 5) rfl (by rw [← e23]; rfl) (by decide) rfl (fun ls hl => ?_)
              refine lv_goto (tgt := 20) hx hb dX8_leafTold_113 (by decide) ?_
              exact ih5 x20 x22 h  _ _ _ hA hS (lv_sub hl [3, 4, 5, 1, 0] rfl)
            · have h := ce_it c19 h
              refine lv_aload_n hx hb dX8_leafTold_96 rfl (lv_at hl 1 rfl) ?_
              refine lv_iload hx hb dX8_leafTold_97 (lv_at hl 5 rfl) ?_
              refine lv_bipush (v := 6) hx hb dX8_leafTold_99 (by decide) ?_
              obtain ⟨x24, g25, h⟩ := ce_b1_e h
              refine ce_callVi (As := [.int x3, .int 6]) (rest := [.int x2]) hx hb hml hown hB (c_X8_of l X G b hk g25) ce_v_X8_of ce_w1017 ⟨Nat.le_of_ble_eq_true rfl, Nat.le_of_ble_eq_true rfl⟩ hF hA hS (ce_rc_8 hK hA hk) hl rfl rfl (Nat.le_of_ble_eq_true rfl) dX8_leafTold_101 ⟨Nat.le_of_ble_eq_true rfl, Nat.le_of_ble_eq_true rfl⟩ (fun H locs hA hS => ?_)
              refine lv_goto (tgt := 108) hx hb dX8_leafTold_104 (by decide) ?_
              refine lv_iadd hx hb dX8_leafTold_108 ?_
              obtain ⟨x26, e27, h⟩ := ce_nm_e h
              refine ce_top e27 ?_
              refine lv_istore_n (lv' := [(3, .int x26), (6, .int x16), (0, .ref (b + k)), (1, .int a1), (2, .int a2), (4, .int x3)]) hx hb dX8_leafTold_109 rfl hl (by decide) rfl (fun ls hl => ?_)
              obtain ⟨x28, e29, h⟩ := ce_nm_e h
              refine lv_iinc (v := x28) (lv' := [(4, .int x28), (3, .int x26), (6, .int x16), (0, .ref (b + k)), (1, .int a1), (2, .int a2)]) hx hb dX8_leafTold_110 hl (k := 5) rfl (by rw [← e29]; rfl) (by decide) rfl (fun ls hl => ?_)
              refine lv_goto (tgt := 20) hx hb dX8_leafTold_113 (by decide) ?_
              exact ih5 x26 x28 h  _ _ _ hA hS (lv_sub hl [3, 4, 5, 1, 0] rfl)
          · have h := ce_it c18 h
            refine lv_iconst (v := 0) hx hb dX8_leafTold_87 (by decide) ?_
            refine lv_goto (tgt := 108) hx hb dX8_leafTold_88 (by decide) ?_
            refine lv_iadd hx hb dX8_leafTold_108 ?_
            obtain ⟨x30, e31, h⟩ := ce_nm_e h
            refine ce_top e31 ?_
            refine lv_istore_n (lv' := [(3, .int x30), (6, .int x16), (0, .ref (b + k)), (1, .int a1), (2, .int a2), (4, .int x3)]) hx hb dX8_leafTold_109 rfl hl (by decide) rfl (fun ls hl => ?_)
            obtain ⟨x32, e33, h⟩ := ce_nm_e h
            refine lv_iinc (v := x32) (lv' := [(4, .int x32), (3, .int x30), (6, .int x16), (0, .ref (b + k)), (1, .int a1), (2, .int a2)]) hx hb dX8_leafTold_110 hl (k := 5) rfl (by rw [← e33]; rfl) (by decide) rfl (fun ls hl => ?_)
            refine lv_goto (tgt := 20) hx hb dX8_leafTold_113 (by decide) ?_
            exact ih5 x30 x32 h  _ _ _ hA hS (lv_sub hl [3, 4, 5, 1, 0] rfl)
        obtain ⟨u14, e35, h⟩ := ce_nm_e h
        have Ju14 : ∀ (z15 : Unit), u14 z15 = some r → ce_Wg p l e (ce_R 1 22 0 0) s m (([.ref (b + k), .int a1, .int a2] : List Value).toArray) below meth c 0 0 (MQ below (ce_Q X b M (some (.int r))) ([.ref (b + k), .int a1, .int a2] : List Value).toArray s 0 0 (ce_Ab b)) X b M 7 [(0, .ref (b + k)), (1, .int a1), (2, .int a2), (3, .int x2), (4, .int x3)] 78 [] := by
          intro z15 h  H locs ls hA hS hl
          subst e35
          refine lv_iconst (v := 0) hx hb dX8_leafTold_78 (by decide) ?_
          exact Ju17 0 h  _ _ _ hA hS (lv_sub hl [0, 1, 2, 3, 4] rfl)
        refine lv_if_eq (tgt := 78) hx hb dX8_leafTold_51 (by decide) (fun c36 => ?_) (fun c36 => ?_)
        · have h := ce_it c36 h
          exact Ju14 () h  _ _ _ hA hS (lv_sub hl [1, 2, 3, 4, 5] rfl)
        · have h := ce_ie c36 h
          refine lv_aload_n hx hb dX8_leafTold_54 rfl (lv_at hl 1 rfl) ?_
          refine lv_iload hx hb dX8_leafTold_55 (lv_at hl 5 rfl) ?_
          refine lv_iload_n hx hb dX8_leafTold_57 rfl (lv_at hl 3 rfl) ?_
          refine lv_iconst (v := 3) hx hb dX8_leafTold_58 (by decide) ?_
          obtain ⟨u38, e42, h⟩ := ce_nm_e h
          have Ju38 : ∀ (x37 : Int32), u38 x37 = some r → ce_Wg p l e (ce_R 1 22 0 0) s m (([.ref (b + k), .int a1, .int a2] : List Value).toArray) below meth c 0 0 (MQ below (ce_Q X b M (some (.int r))) ([.ref (b + k), .int a1, .int a2] : List Value).toArray s 0 0 (ce_Ab b)) X b M 7 [(0, .ref (b + k)), (1, .int a1), (2, .int a2), (3, .int x2), (4, .int x3)] 67 [.int x37, .int x3, .ref (b + k)] := by
            intro x37 h  H locs ls hA hS hl
            subst e42
            obtain ⟨x39, g40, h⟩ := ce_b1_e h
            refine ce_callVi (As := [.int x3, .int x37]) (rest := []) hx hb hml hown hB (c_X8_of l X G b hk g40) ce_v_X8_of ce_w1017 ⟨Nat.le_of_ble_eq_true rfl, Nat.le_of_ble_eq_true rfl⟩ hF hA hS (ce_rc_8 hK hA hk) hl rfl rfl (Nat.le_of_ble_eq_true rfl) dX8_leafTold_67 ⟨Nat.le_of_ble_eq_true rfl, Nat.le_of_ble_eq_true rfl⟩ (fun H locs hA hS => ?_)
            refine lv_iload_n hx hb dX8_leafTold_70 rfl (lv_at hl 1 rfl) ?_
            refine lv_icmp_ne (tgt := 78) hx hb dX8_leafTold_71 (by decide) (fun c41 => ?_) (fun c41 => ?_)
            · have h := ce_ie c41 h
              exact Ju14 () h  _ _ _ hA hS (lv_sub hl [0, 1, 2, 3, 4] rfl)
            · have h := ce_it c41 h
              refine lv_iconst (v := 1) hx hb dX8_leafTold_74 (by decide) ?_
              refine lv_goto (tgt := 79) hx hb dX8_leafTold_75 (by decide) ?_
              exact Ju17 1 h  _ _ _ hA hS (lv_sub hl [0, 1, 2, 3, 4] rfl)
          refine lv_icmp_ne (tgt := 66) hx hb dX8_leafTold_59 (by decide) (fun c43 => ?_) (fun c43 => ?_)
          · have h := ce_ie c43 h
            refine lv_iconst (v := 4) hx hb dX8_leafTold_66 (by decide) ?_
            exact Ju38 4 h  _ _ _ hA hS (lv_sub hl [1, 2, 3, 4, 5] rfl)
          · have h := ce_it c43 h
            refine lv_iconst (v := 2) hx hb dX8_leafTold_62 (by decide) ?_
            refine lv_goto (tgt := 67) hx hb dX8_leafTold_63 (by decide) ?_
            exact Ju38 2 h  _ _ _ hA hS (lv_sub hl [1, 2, 3, 4, 5] rfl)
      refine lv_icmp_ne (tgt := 46) hx hb dX8_leafTold_39 (by decide) (fun c45 => ?_) (fun c45 => ?_)
      · have h := ce_ie c45 h
        refine lv_iconst (v := 0) hx hb dX8_leafTold_46 (by decide) ?_
        exact Ju13 0 h  _ _ _ hA hS (lv_sub hl [0, 1, 2, 3, 4] rfl)
      · have h := ce_it c45 h
        refine lv_iconst (v := 1) hx hb dX8_leafTold_42 (by decide) ?_
        refine lv_goto (tgt := 47) hx hb dX8_leafTold_43 (by decide) ?_
        exact Ju13 1 h  _ _ _ hA hS (lv_sub hl [0, 1, 2, 3, 4] rfl)
  · have h := ce_it c1 h
    refine lv_aload_n hx hb dX8_leafTold_5 rfl (lv_at hl 0 rfl) ?_
    refine ce_g_8_0 hx hb hB hown hK hA hk ce_w944 dX8_leafTold_6 ?_
    refine lv_bipush (v := 8) hx hb dX8_leafTold_9 (by decide) ?_
    refine lv_iload_n hx hb dX8_leafTold_11 rfl (lv_at hl 1 rfl) ?_
    refine lv_iadd hx hb dX8_leafTold_12 ?_
    obtain ⟨i47, h⟩ := ce_gi_e h
    obtain ⟨x46, e48, h⟩ := ce_nm_e h
    refine ce_iald hx hb hK hA 816 (ce_kf_8_0 hk) i47 e48 dX8_leafTold_13 ?_
    cases h
    exact ce_iret hx hb hr hlocks hA hS dX8_leafTold_14
