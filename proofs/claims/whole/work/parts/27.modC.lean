def f_X8_leaf (k : Nat) (M : ce_M) (a1 : Int32) (a2 : Int32) : Option (ce_M × Int32) :=
  ce_b1 (f_X8_isLeaf M a1) (fun (x1 : Int32) =>
  if x1 = 0 then
    ce_b2 (f_X8_fails k M 1) (fun (M15 : ce_M) (x16 : Int32) =>
    some (M15, x16))
  else
    ce_b1 (f_X8_in M a2 0 3) (fun (x4 : Int32) =>
    if x4 = 0 then
      ce_b2 (f_X8_fails k M 2) (fun (M7 : ce_M) (x8 : Int32) =>
      some (M7, x8))
    else
      ce_b1 (f_X8_leafTold k M a1 a2) (fun (x10 : Int32) =>
      ce_b2 (f_X8_tells k M x10) (fun (M12 : ce_M) (x13 : Int32) =>
      some (M12, x13)))))
set_option maxRecDepth 100000 in
set_option maxHeartbeats 4000000 in
theorem c_X8_leaf (l : Launch) (X : ce_X) (G : ce_G) (b : Nat) {k : Nat} {a1 : Int32} {a2 : Int32} {M : ce_M} (hk : ce_kd k = 8) {M' : ce_M} {r : Int32} (h : f_X8_leaf k M a1 a2 = some (M', r)) : ce_Ct l yX8_leaf cX8_leaf 3 (some .int) 2 48 X G b [.ref (b + k), .int a1, .int a2] M (some (.int r)) M' := by
  refine ce_ofW (own := RX8) (by decide) rfl (Nat.le_of_ble_eq_true rfl) (fun p e s m below meth c ls hx hb hr hlocks hml hown hB hF hA hl hS => ?_)
  have hK := hF.1
  have hl : lv_has ls 3 [(0, .ref (b + k)), (1, .int a1), (2, .int a2)] := hl
  unfold f_X8_leaf at h
  refine lv_iload_n hx hb dX8_leaf_0 rfl (lv_at hl 1 rfl) ?_
  obtain ⟨x1, g2, h⟩ := ce_b1_e h
  refine ce_callSi (As := [.int a1]) (rest := []) hx hb hml hown hB (c_X8_isLeaf l X G b  g2) ce_s_X8_isLeaf ce_w1000 ⟨Nat.le_of_ble_eq_true rfl, Nat.le_of_ble_eq_true rfl⟩ hF hA hS hl rfl rfl (Nat.le_of_ble_eq_true rfl) dX8_leaf_1 ⟨Nat.le_of_ble_eq_true rfl, Nat.le_of_ble_eq_true rfl⟩ (fun H locs hA hS => ?_)
  refine lv_if_ne (tgt := 13) hx hb dX8_leaf_4 (by decide) (fun c3 => ?_) (fun c3 => ?_)
  · have h := ce_ie c3 h
    refine lv_iload_n hx hb dX8_leaf_13 rfl (lv_at hl 2 rfl) ?_
    refine lv_iconst (v := 0) hx hb dX8_leaf_14 (by decide) ?_
    refine lv_iconst (v := 3) hx hb dX8_leaf_15 (by decide) ?_
    obtain ⟨x4, g5, h⟩ := ce_b1_e h
    refine ce_callSi (As := [.int a2, .int 0, .int 3]) (rest := []) hx hb hml hown hB (c_X8_in l X G b  g5) ce_s_X8_in ce_w1003 ⟨Nat.le_of_ble_eq_true rfl, Nat.le_of_ble_eq_true rfl⟩ hF hA hS hl rfl rfl (Nat.le_of_ble_eq_true rfl) dX8_leaf_16 ⟨Nat.le_of_ble_eq_true rfl, Nat.le_of_ble_eq_true rfl⟩ (fun H locs hA hS => ?_)
    refine lv_if_eq (tgt := 35) hx hb dX8_leaf_19 (by decide) (fun c6 => ?_) (fun c6 => ?_)
    · have h := ce_it c6 h
      refine lv_aload_n hx hb dX8_leaf_35 rfl (lv_at hl 0 rfl) ?_
      refine lv_iconst (v := 2) hx hb dX8_leaf_36 (by decide) ?_
      obtain ⟨M7, x8, g9, h⟩ := ce_b2_e h
      refine ce_callVi (As := [.int 2]) (rest := []) hx hb hml hown hB (c_X8_fails l X G b hk g9) ce_v_X8_fails ce_w1033 ⟨Nat.le_of_ble_eq_true rfl, Nat.le_of_ble_eq_true rfl⟩ hF hA hS (ce_rc_8 hK hA hk) hl rfl rfl (Nat.le_of_ble_eq_true rfl) dX8_leaf_37 ⟨Nat.le_of_ble_eq_true rfl, Nat.le_of_ble_eq_true rfl⟩ (fun H locs hA hS => ?_)
      cases h
      exact ce_iret hx hb hr hlocks hA hS dX8_leaf_40
    · have h := ce_ie c6 h
      refine lv_aload_n hx hb dX8_leaf_22 rfl (lv_at hl 0 rfl) ?_
      refine lv_aload_n hx hb dX8_leaf_23 rfl (lv_at hl 0 rfl) ?_
      refine lv_iload_n hx hb dX8_leaf_24 rfl (lv_at hl 1 rfl) ?_
      refine lv_iload_n hx hb dX8_leaf_25 rfl (lv_at hl 2 rfl) ?_
      obtain ⟨x10, g11, h⟩ := ce_b1_e h
      refine ce_callVi (As := [.int a1, .int a2]) (rest := [.ref (b + k)]) hx hb hml hown hB (c_X8_leafTold l X G b hk g11) ce_v_X8_leafTold ce_w1187 ⟨Nat.le_of_ble_eq_true rfl, Nat.le_of_ble_eq_true rfl⟩ hF hA hS (ce_rc_8 hK hA hk) hl rfl rfl (Nat.le_of_ble_eq_true rfl) dX8_leaf_26 ⟨Nat.le_of_ble_eq_true rfl, Nat.le_of_ble_eq_true rfl⟩ (fun H locs hA hS => ?_)
      obtain ⟨M12, x13, g14, h⟩ := ce_b2_e h
      refine ce_callVi (As := [.int x10]) (rest := []) hx hb hml hown hB (c_X8_tells l X G b hk g14) ce_v_X8_tells ce_w1041 ⟨Nat.le_of_ble_eq_true rfl, Nat.le_of_ble_eq_true rfl⟩ hF hA hS (ce_rc_8 hK hA hk) hl rfl rfl (Nat.le_of_ble_eq_true rfl) dX8_leaf_29 ⟨Nat.le_of_ble_eq_true rfl, Nat.le_of_ble_eq_true rfl⟩ (fun H locs hA hS => ?_)
      refine lv_goto (tgt := 40) hx hb dX8_leaf_32 (by decide) ?_
      cases h
      exact ce_iret hx hb hr hlocks hA hS dX8_leaf_40
  · have h := ce_it c3 h
    refine lv_aload_n hx hb dX8_leaf_7 rfl (lv_at hl 0 rfl) ?_
    refine lv_iconst (v := 1) hx hb dX8_leaf_8 (by decide) ?_
    obtain ⟨M15, x16, g17, h⟩ := ce_b2_e h
    refine ce_callVi (As := [.int 1]) (rest := []) hx hb hml hown hB (c_X8_fails l X G b hk g17) ce_v_X8_fails ce_w1033 ⟨Nat.le_of_ble_eq_true rfl, Nat.le_of_ble_eq_true rfl⟩ hF hA hS (ce_rc_8 hK hA hk) hl rfl rfl (Nat.le_of_ble_eq_true rfl) dX8_leaf_9 ⟨Nat.le_of_ble_eq_true rfl, Nat.le_of_ble_eq_true rfl⟩ (fun H locs hA hS => ?_)
    cases h
    exact ce_iret hx hb hr hlocks hA hS dX8_leaf_12
def f_X8_sumOf_L4 (M : ce_M) (k : Nat) (a1 : Int32) (rec3 : Int32 → Int32 → Option Int32) (x1 : Int32) (x2 : Int32) : Option Int32 :=
  ce_gi 1 816 (ce_nm (ce_rd M (k + 1) (Int32.toNatClampNeg 1)) (fun (x5 : Int32) =>
  if x5 ≤ x2 then
    some x1
  else
    ce_b1 (f_X8_of k M x2 a1) (fun (x9 : Int32) =>
    ce_nm (x1 + x9) (fun (x11 : Int32) =>
    ce_nm (x2 + 1) (fun (x13 : Int32) =>
    rec3 x11 x13)))))
def f_X8_sumOf (k : Nat) (M : ce_M) (a1 : Int32) : Option Int32 :=
  ce_lp2 (f_X8_sumOf_L4 M k a1) ce_FU 0 0
set_option maxRecDepth 100000 in
set_option maxHeartbeats 4000000 in
theorem c_X8_sumOf (l : Launch) (X : ce_X) (G : ce_G) (b : Nat) {k : Nat} {a1 : Int32} {M : ce_M} (hk : ce_kd k = 8) {r : Int32} (h : f_X8_sumOf k M a1 = some r) : ce_Ct l yX8_sumOf cX8_sumOf 4 (some .int) 1 22 X G b [.ref (b + k), .int a1] M (some (.int r)) M := by
  refine ce_ofW (own := RX8) (by decide) rfl (Nat.le_of_ble_eq_true rfl) (fun p e s m below meth c ls hx hb hr hlocks hml hown hB hF hA hl hS => ?_)
  have hK := hF.1
  have hl : lv_has ls 4 [(0, .ref (b + k)), (1, .int a1)] := hl
  unfold f_X8_sumOf at h
  refine lv_iconst (v := 0) hx hb dX8_sumOf_0 (by decide) ?_
  refine lv_istore_n (lv' := [(2, .int 0), (0, .ref (b + k)), (1, .int a1)]) hx hb dX8_sumOf_1 rfl hl (by decide) rfl (fun ls hl => ?_)
  refine lv_iconst (v := 0) hx hb dX8_sumOf_2 (by decide) ?_
  refine lv_istore_n (lv' := [(3, .int 0), (2, .int 0), (0, .ref (b + k)), (1, .int a1)]) hx hb dX8_sumOf_3 rfl hl (by decide) rfl (fun ls hl => ?_)
  refine ce_lp2_i (y := r) (P := fun (x1 : Int32) (x2 : Int32) => ce_Wg p l e (ce_R 1 22 0 0) s m (([.ref (b + k), .int a1] : List Value).toArray) below meth c 0 0 (MQ below (ce_Q X b M (some (.int r))) ([.ref (b + k), .int a1] : List Value).toArray s 0 0 (ce_Ab b)) X b M 4 [(0, .ref (b + k)), (1, .int a1), (2, .int x1), (3, .int x2)] 4 []) (fun rec3 ih4 x1 x2 h => ?_) _ _ _ h _ _ _ hA hS (lv_sub hl [2, 3, 1, 0] rfl)
  intro H locs ls hA hS hl
  unfold f_X8_sumOf_L4 at h
  refine lv_iload_n hx hb dX8_sumOf_4 rfl (lv_at hl 3 rfl) ?_
  refine lv_aload_n hx hb dX8_sumOf_5 rfl (lv_at hl 0 rfl) ?_
  refine ce_g_8_0 hx hb hB hown hK hA hk ce_w944 dX8_sumOf_6 ?_
  refine lv_iconst (v := 1) hx hb dX8_sumOf_9 (by decide) ?_
  obtain ⟨i6, h⟩ := ce_gi_e h
  obtain ⟨x5, e7, h⟩ := ce_nm_e h
  refine ce_iald hx hb hK hA 816 (ce_kf_8_0 hk) i6 e7 dX8_sumOf_10 ?_
  refine lv_icmp_ge (tgt := 29) hx hb dX8_sumOf_11 (by decide) (fun c8 => ?_) (fun c8 => ?_)
  · have h := ce_it c8 h
    refine lv_iload_n hx hb dX8_sumOf_29 rfl (lv_at hl 2 rfl) ?_
    cases h
    exact ce_iret hx hb hr hlocks hA hS dX8_sumOf_30
  · have h := ce_ie c8 h
    refine lv_iload_n hx hb dX8_sumOf_14 rfl (lv_at hl 2 rfl) ?_
    refine lv_aload_n hx hb dX8_sumOf_15 rfl (lv_at hl 0 rfl) ?_
    refine lv_iload_n hx hb dX8_sumOf_16 rfl (lv_at hl 3 rfl) ?_
    refine lv_iload_n hx hb dX8_sumOf_17 rfl (lv_at hl 1 rfl) ?_
    obtain ⟨x9, g10, h⟩ := ce_b1_e h
    refine ce_callVi (As := [.int x2, .int a1]) (rest := [.int x1]) hx hb hml hown hB (c_X8_of l X G b hk g10) ce_v_X8_of ce_w1017 ⟨Nat.le_of_ble_eq_true rfl, Nat.le_of_ble_eq_true rfl⟩ hF hA hS (ce_rc_8 hK hA hk) hl rfl rfl (Nat.le_of_ble_eq_true rfl) dX8_sumOf_18 ⟨Nat.le_of_ble_eq_true rfl, Nat.le_of_ble_eq_true rfl⟩ (fun H locs hA hS => ?_)
    refine lv_iadd hx hb dX8_sumOf_21 ?_
    obtain ⟨x11, e12, h⟩ := ce_nm_e h
    refine ce_top e12 ?_
    refine lv_istore_n (lv' := [(2, .int x11), (0, .ref (b + k)), (1, .int a1), (3, .int x2)]) hx hb dX8_sumOf_22 rfl hl (by decide) rfl (fun ls hl => ?_)
    obtain ⟨x13, e14, h⟩ := ce_nm_e h
    refine lv_iinc (v := x13) (lv' := [(3, .int x13), (2, .int x11), (0, .ref (b + k)), (1, .int a1)]) hx hb dX8_sumOf_23 hl (k := 3) rfl (by rw [← e14]; rfl) (by decide) rfl (fun ls hl => ?_)
    refine lv_goto (tgt := 4) hx hb dX8_sumOf_26 (by decide) ?_
    exact ih4 x11 x13 h  _ _ _ hA hS (lv_sub hl [2, 3, 1, 0] rfl)
def f_X8_wholeTold (k : Nat) (M : ce_M) (a1 : Int32) : Option Int32 :=
  if a1 = 0 then
    ce_gi 1 816 (ce_nm (ce_rd M (k + 1) (Int32.toNatClampNeg 1)) (fun (x2 : Int32) =>
    some x2))
  else
  if a1 = 1 then
    ce_b1 (f_X8_sumOf k M 5) (fun (x6 : Int32) =>
    some x6)
  else
  if a1 = 2 then
    ce_gi 2 816 (ce_nm (ce_rd M (k + 1) (Int32.toNatClampNeg 2)) (fun (x9 : Int32) =>
    some x9))
  else
  if a1 = 3 then
    ce_gi 0 816 (ce_nm (ce_rd M (k + 1) (Int32.toNatClampNeg 0)) (fun (x13 : Int32) =>
    some x13))
  else
  if a1 = 4 then
    ce_b1 (f_X8_setting k M (a1 - 4)) (fun (x17 : Int32) =>
    some x17)
  else
  if a1 = 5 then
    ce_b1 (f_X8_setting k M (a1 - 4)) (fun (x20 : Int32) =>
    some x20)
  else
  if a1 = 6 then
    ce_b1 (f_X8_setting k M (a1 - 4)) (fun (x23 : Int32) =>
    some x23)
  else
  if a1 = 7 then
    ce_b1 (f_X8_setting k M (a1 - 4)) (fun (x26 : Int32) =>
    some x26)
  else
  if a1 = 8 then
    ce_b1 (f_X8_sumOf k M 6) (fun (x29 : Int32) =>
    some x29)
  else
  if a1 = 9 then
    ce_b1 (f_X8_sumOf k M 7) (fun (x32 : Int32) =>
    some x32)
  else
  if a1 = 10 then
    ce_b1 (f_X8_sumOf k M 8) (fun (x35 : Int32) =>
    some x35)
  else
  if a1 = 11 then
    ce_gi 7 816 (ce_nm (ce_rd M (k + 1) (Int32.toNatClampNeg 7)) (fun (x38 : Int32) =>
    some x38))
  else
  if a1 = 12 then
    ce_b1 (f_X8_sumOf k M 9) (fun (x42 : Int32) =>
    some x42)
  else
  if a1 = 13 then
    some (ce_rd M k 8)
  else
  ce_b1 (f_X8_setting k M (a1 - 4)) (fun (x45 : Int32) =>
  some x45)
set_option maxRecDepth 100000 in
set_option maxHeartbeats 4000000 in
theorem c_X8_wholeTold (l : Launch) (X : ce_X) (G : ce_G) (b : Nat) {k : Nat} {a1 : Int32} {M : ce_M} (hk : ce_kd k = 8) {r : Int32} (h : f_X8_wholeTold k M a1 = some r) : ce_Ct l yX8_wholeTold cX8_wholeTold 2 (some .int) 2 45 X G b [.ref (b + k), .int a1] M (some (.int r)) M := by
  refine ce_ofW (own := RX8) (by decide) rfl (Nat.le_of_ble_eq_true rfl) (fun p e s m below meth c ls hx hb hr hlocks hml hown hB hF hA hl hS => ?_)
  have hK := hF.1
  have hl : lv_has ls 2 [(0, .ref (b + k)), (1, .int a1)] := hl
  unfold f_X8_wholeTold at h
  refine lv_iload_n hx hb dX8_wholeTold_0 rfl (lv_at hl 1 rfl) ?_
  by_cases c1 : a1 = 0
  · have h := ce_it c1 h
    refine lv_tableIn (off := 71) (tgt := 72) hx hb dX8_wholeTold_1 (by rw [c1]; decide) (by rw [c1]; decide) (by rw [c1]; rfl) (by decide) ?_
    refine lv_aload_n hx hb dX8_wholeTold_72 rfl (lv_at hl 0 rfl) ?_
    refine ce_g_8_0 hx hb hB hown hK hA hk ce_w944 dX8_wholeTold_73 ?_
    refine lv_iconst (v := 1) hx hb dX8_wholeTold_76 (by decide) ?_
    obtain ⟨i3, h⟩ := ce_gi_e h
    obtain ⟨x2, e4, h⟩ := ce_nm_e h
    refine ce_iald hx hb hK hA 816 (ce_kf_8_0 hk) i3 e4 dX8_wholeTold_77 ?_
    cases h
    exact ce_iret hx hb hr hlocks hA hS dX8_wholeTold_78
  have h := ce_ie c1 h
  by_cases c5 : a1 = 1
  · have h := ce_it c5 h
    refine lv_tableIn (off := 78) (tgt := 79) hx hb dX8_wholeTold_1 (by rw [c5]; decide) (by rw [c5]; decide) (by rw [c5]; rfl) (by decide) ?_
    refine lv_aload_n hx hb dX8_wholeTold_79 rfl (lv_at hl 0 rfl) ?_
    refine lv_iconst (v := 5) hx hb dX8_wholeTold_80 (by decide) ?_
    obtain ⟨x6, g7, h⟩ := ce_b1_e h
    refine ce_callVi (As := [.int 5]) (rest := []) hx hb hml hown hB (c_X8_sumOf l X G b hk g7) ce_v_X8_sumOf ce_w1199 ⟨Nat.le_of_ble_eq_true rfl, Nat.le_of_ble_eq_true rfl⟩ hF hA hS (ce_rc_8 hK hA hk) hl rfl rfl (Nat.le_of_ble_eq_true rfl) dX8_wholeTold_81 ⟨Nat.le_of_ble_eq_true rfl, Nat.le_of_ble_eq_true rfl⟩ (fun H locs hA hS => ?_)
    cases h
    exact ce_iret hx hb hr hlocks hA hS dX8_wholeTold_84
  have h := ce_ie c5 h
  by_cases c8 : a1 = 2
  · have h := ce_it c8 h
    refine lv_tableIn (off := 84) (tgt := 85) hx hb dX8_wholeTold_1 (by rw [c8]; decide) (by rw [c8]; decide) (by rw [c8]; rfl) (by decide) ?_
    refine lv_aload_n hx hb dX8_wholeTold_85 rfl (lv_at hl 0 rfl) ?_
    refine ce_g_8_0 hx hb hB hown hK hA hk ce_w944 dX8_wholeTold_86 ?_
    refine lv_iconst (v := 2) hx hb dX8_wholeTold_89 (by decide) ?_
    obtain ⟨i10, h⟩ := ce_gi_e h
    obtain ⟨x9, e11, h⟩ := ce_nm_e h
    refine ce_iald hx hb hK hA 816 (ce_kf_8_0 hk) i10 e11 dX8_wholeTold_90 ?_
    cases h
    exact ce_iret hx hb hr hlocks hA hS dX8_wholeTold_91
  have h := ce_ie c8 h
  by_cases c12 : a1 = 3
  · have h := ce_it c12 h
    refine lv_tableIn (off := 91) (tgt := 92) hx hb dX8_wholeTold_1 (by rw [c12]; decide) (by rw [c12]; decide) (by rw [c12]; rfl) (by decide) ?_
    refine lv_aload_n hx hb dX8_wholeTold_92 rfl (lv_at hl 0 rfl) ?_
    refine ce_g_8_0 hx hb hB hown hK hA hk ce_w944 dX8_wholeTold_93 ?_
    refine lv_iconst (v := 0) hx hb dX8_wholeTold_96 (by decide) ?_
    obtain ⟨i14, h⟩ := ce_gi_e h
    obtain ⟨x13, e15, h⟩ := ce_nm_e h
    refine ce_iald hx hb hK hA 816 (ce_kf_8_0 hk) i14 e15 dX8_wholeTold_97 ?_
    cases h
    exact ce_iret hx hb hr hlocks hA hS dX8_wholeTold_98
  have h := ce_ie c12 h
  by_cases c16 : a1 = 4
  · have h := ce_it c16 h
    refine lv_tableIn (off := 139) (tgt := 140) hx hb dX8_wholeTold_1 (by rw [c16]; decide) (by rw [c16]; decide) (by rw [c16]; rfl) (by decide) ?_
    refine lv_aload_n hx hb dX8_wholeTold_140 rfl (lv_at hl 0 rfl) ?_
    refine lv_iload_n hx hb dX8_wholeTold_141 rfl (lv_at hl 1 rfl) ?_
    refine lv_iconst (v := 4) hx hb dX8_wholeTold_142 (by decide) ?_
    refine lv_isub hx hb dX8_wholeTold_143 ?_
    obtain ⟨x17, g18, h⟩ := ce_b1_e h
    refine ce_callVi (As := [.int (a1 - 4)]) (rest := []) hx hb hml hown hB (c_X8_setting l X G b hk g18) ce_v_X8_setting ce_w1081 ⟨Nat.le_of_ble_eq_true rfl, Nat.le_of_ble_eq_true rfl⟩ hF hA hS (ce_rc_8 hK hA hk) hl rfl rfl (Nat.le_of_ble_eq_true rfl) dX8_wholeTold_144 ⟨Nat.le_of_ble_eq_true rfl, Nat.le_of_ble_eq_true rfl⟩ (fun H locs hA hS => ?_)
    cases h
    exact ce_iret hx hb hr hlocks hA hS dX8_wholeTold_147
  have h := ce_ie c16 h
  by_cases c19 : a1 = 5
  · have h := ce_it c19 h
    refine lv_tableIn (off := 139) (tgt := 140) hx hb dX8_wholeTold_1 (by rw [c19]; decide) (by rw [c19]; decide) (by rw [c19]; rfl) (by decide) ?_
    refine lv_aload_n hx hb dX8_wholeTold_140 rfl (lv_at hl 0 rfl) ?_
    refine lv_iload_n hx hb dX8_wholeTold_141 rfl (lv_at hl 1 rfl) ?_
    refine lv_iconst (v := 4) hx hb dX8_wholeTold_142 (by decide) ?_
    refine lv_isub hx hb dX8_wholeTold_143 ?_
    obtain ⟨x20, g21, h⟩ := ce_b1_e h
    refine ce_callVi (As := [.int (a1 - 4)]) (rest := []) hx hb hml hown hB (c_X8_setting l X G b hk g21) ce_v_X8_setting ce_w1081 ⟨Nat.le_of_ble_eq_true rfl, Nat.le_of_ble_eq_true rfl⟩ hF hA hS (ce_rc_8 hK hA hk) hl rfl rfl (Nat.le_of_ble_eq_true rfl) dX8_wholeTold_144 ⟨Nat.le_of_ble_eq_true rfl, Nat.le_of_ble_eq_true rfl⟩ (fun H locs hA hS => ?_)
    cases h
    exact ce_iret hx hb hr hlocks hA hS dX8_wholeTold_147
  have h := ce_ie c19 h
  by_cases c22 : a1 = 6
  · have h := ce_it c22 h
    refine lv_tableIn (off := 139) (tgt := 140) hx hb dX8_wholeTold_1 (by rw [c22]; decide) (by rw [c22]; decide) (by rw [c22]; rfl) (by decide) ?_
    refine lv_aload_n hx hb dX8_wholeTold_140 rfl (lv_at hl 0 rfl) ?_
    refine lv_iload_n hx hb dX8_wholeTold_141 rfl (lv_at hl 1 rfl) ?_
    refine lv_iconst (v := 4) hx hb dX8_wholeTold_142 (by decide) ?_
    refine lv_isub hx hb dX8_wholeTold_143 ?_
    obtain ⟨x23, g24, h⟩ := ce_b1_e h
    refine ce_callVi (As := [.int (a1 - 4)]) (rest := []) hx hb hml hown hB (c_X8_setting l X G b hk g24) ce_v_X8_setting ce_w1081 ⟨Nat.le_of_ble_eq_true rfl, Nat.le_of_ble_eq_true rfl⟩ hF hA hS (ce_rc_8 hK hA hk) hl rfl rfl (Nat.le_of_ble_eq_true rfl) dX8_wholeTold_144 ⟨Nat.le_of_ble_eq_true rfl, Nat.le_of_ble_eq_true rfl⟩ (fun H locs hA hS => ?_)
    cases h
    exact ce_iret hx hb hr hlocks hA hS dX8_wholeTold_147
  have h := ce_ie c22 h
  by_cases c25 : a1 = 7
  · have h := ce_it c25 h
    refine lv_tableIn (off := 139) (tgt := 140) hx hb dX8_wholeTold_1 (by rw [c25]; decide) (by rw [c25]; decide) (by rw [c25]; rfl) (by decide) ?_
    refine lv_aload_n hx hb dX8_wholeTold_140 rfl (lv_at hl 0 rfl) ?_
    refine lv_iload_n hx hb dX8_wholeTold_141 rfl (lv_at hl 1 rfl) ?_
    refine lv_iconst (v := 4) hx hb dX8_wholeTold_142 (by decide) ?_
    refine lv_isub hx hb dX8_wholeTold_143 ?_
    obtain ⟨x26, g27, h⟩ := ce_b1_e h
    refine ce_callVi (As := [.int (a1 - 4)]) (rest := []) hx hb hml hown hB (c_X8_setting l X G b hk g27) ce_v_X8_setting ce_w1081 ⟨Nat.le_of_ble_eq_true rfl, Nat.le_of_ble_eq_true rfl⟩ hF hA hS (ce_rc_8 hK hA hk) hl rfl rfl (Nat.le_of_ble_eq_true rfl) dX8_wholeTold_144 ⟨Nat.le_of_ble_eq_true rfl, Nat.le_of_ble_eq_true rfl⟩ (fun H locs hA hS => ?_)
    cases h
    exact ce_iret hx hb hr hlocks hA hS dX8_wholeTold_147
  have h := ce_ie c25 h
  by_cases c28 : a1 = 8
  · have h := ce_it c28 h
    refine lv_tableIn (off := 98) (tgt := 99) hx hb dX8_wholeTold_1 (by rw [c28]; decide) (by rw [c28]; decide) (by rw [c28]; rfl) (by decide) ?_
    refine lv_aload_n hx hb dX8_wholeTold_99 rfl (lv_at hl 0 rfl) ?_
    refine lv_bipush (v := 6) hx hb dX8_wholeTold_100 (by decide) ?_
    obtain ⟨x29, g30, h⟩ := ce_b1_e h
    refine ce_callVi (As := [.int 6]) (rest := []) hx hb hml hown hB (c_X8_sumOf l X G b hk g30) ce_v_X8_sumOf ce_w1199 ⟨Nat.le_of_ble_eq_true rfl, Nat.le_of_ble_eq_true rfl⟩ hF hA hS (ce_rc_8 hK hA hk) hl rfl rfl (Nat.le_of_ble_eq_true rfl) dX8_wholeTold_102 ⟨Nat.le_of_ble_eq_true rfl, Nat.le_of_ble_eq_true rfl⟩ (fun H locs hA hS => ?_)
    cases h
    exact ce_iret hx hb hr hlocks hA hS dX8_wholeTold_105
  have h := ce_ie c28 h
  by_cases c31 : a1 = 9
  · have h := ce_it c31 h
    refine lv_tableIn (off := 105) (tgt := 106) hx hb dX8_wholeTold_1 (by rw [c31]; decide) (by rw [c31]; decide) (by rw [c31]; rfl) (by decide) ?_
    refine lv_aload_n hx hb dX8_wholeTold_106 rfl (lv_at hl 0 rfl) ?_
    refine lv_bipush (v := 7) hx hb dX8_wholeTold_107 (by decide) ?_
    obtain ⟨x32, g33, h⟩ := ce_b1_e h
    refine ce_callVi (As := [.int 7]) (rest := []) hx hb hml hown hB (c_X8_sumOf l X G b hk g33) ce_v_X8_sumOf ce_w1199 ⟨Nat.le_of_ble_eq_true rfl, Nat.le_of_ble_eq_true rfl⟩ hF hA hS (ce_rc_8 hK hA hk) hl rfl rfl (Nat.le_of_ble_eq_true rfl) dX8_wholeTold_109 ⟨Nat.le_of_ble_eq_true rfl, Nat.le_of_ble_eq_true rfl⟩ (fun H locs hA hS => ?_)
    cases h
    exact ce_iret hx hb hr hlocks hA hS dX8_wholeTold_112
  have h := ce_ie c31 h
  by_cases c34 : a1 = 10
  · have h := ce_it c34 h
    refine lv_tableIn (off := 112) (tgt := 113) hx hb dX8_wholeTold_1 (by rw [c34]; decide) (by rw [c34]; decide) (by rw [c34]; rfl) (by decide) ?_
    refine lv_aload_n hx hb dX8_wholeTold_113 rfl (lv_at hl 0 rfl) ?_
    refine lv_bipush (v := 8) hx hb dX8_wholeTold_114 (by decide) ?_
    obtain ⟨x35, g36, h⟩ := ce_b1_e h
    refine ce_callVi (As := [.int 8]) (rest := []) hx hb hml hown hB (c_X8_sumOf l X G b hk g36) ce_v_X8_sumOf ce_w1199 ⟨Nat.le_of_ble_eq_true rfl, Nat.le_of_ble_eq_true rfl⟩ hF hA hS (ce_rc_8 hK hA hk) hl rfl rfl (Nat.le_of_ble_eq_true rfl) dX8_wholeTold_116 ⟨Nat.le_of_ble_eq_true rfl, Nat.le_of_ble_eq_true rfl⟩ (fun H locs hA hS => ?_)
    cases h
    exact ce_iret hx hb hr hlocks hA hS dX8_wholeTold_119
  have h := ce_ie c34 h
  by_cases c37 : a1 = 11
  · have h := ce_it c37 h
    refine lv_tableIn (off := 119) (tgt := 120) hx hb dX8_wholeTold_1 (by rw [c37]; decide) (by rw [c37]; decide) (by rw [c37]; rfl) (by decide) ?_
    refine lv_aload_n hx hb dX8_wholeTold_120 rfl (lv_at hl 0 rfl) ?_
    refine ce_g_8_0 hx hb hB hown hK hA hk ce_w944 dX8_wholeTold_121 ?_
    refine lv_bipush (v := 7) hx hb dX8_wholeTold_124 (by decide) ?_
    obtain ⟨i39, h⟩ := ce_gi_e h
    obtain ⟨x38, e40, h⟩ := ce_nm_e h
    refine ce_iald hx hb hK hA 816 (ce_kf_8_0 hk) i39 e40 dX8_wholeTold_126 ?_
    cases h
    exact ce_iret hx hb hr hlocks hA hS dX8_wholeTold_127
  have h := ce_ie c37 h
  by_cases c41 : a1 = 12
  · have h := ce_it c41 h
    refine lv_tableIn (off := 127) (tgt := 128) hx hb dX8_wholeTold_1 (by rw [c41]; decide) (by rw [c41]; decide) (by rw [c41]; rfl) (by decide) ?_
    refine lv_aload_n hx hb dX8_wholeTold_128 rfl (lv_at hl 0 rfl) ?_
    refine lv_bipush (v := 9) hx hb dX8_wholeTold_129 (by decide) ?_
    obtain ⟨x42, g43, h⟩ := ce_b1_e h
    refine ce_callVi (As := [.int 9]) (rest := []) hx hb hml hown hB (c_X8_sumOf l X G b hk g43) ce_v_X8_sumOf ce_w1199 ⟨Nat.le_of_ble_eq_true rfl, Nat.le_of_ble_eq_true rfl⟩ hF hA hS (ce_rc_8 hK hA hk) hl rfl rfl (Nat.le_of_ble_eq_true rfl) dX8_wholeTold_131 ⟨Nat.le_of_ble_eq_true rfl, Nat.le_of_ble_eq_true rfl⟩ (fun H locs hA hS => ?_)
    cases h
    exact ce_iret hx hb hr hlocks hA hS dX8_wholeTold_134
  have h := ce_ie c41 h
  by_cases c44 : a1 = 13
  · have h := ce_it c44 h
    refine lv_tableIn (off := 134) (tgt := 135) hx hb dX8_wholeTold_1 (by rw [c44]; decide) (by rw [c44]; decide) (by rw [c44]; rfl) (by decide) ?_
    refine lv_aload_n hx hb dX8_wholeTold_135 rfl (lv_at hl 0 rfl) ?_
    refine ce_g_8_8 hx hb hB hown hK hA hk ce_w952 dX8_wholeTold_136 ?_
    cases h
    exact ce_iret hx hb hr hlocks hA hS dX8_wholeTold_139
  have h := ce_ie c44 h
  have nc1 : (a1).toInt ≠ 0 := fun q => c1 (Int32.toInt_inj.mp (q.trans (by decide)))
  have nc5 : (a1).toInt ≠ 1 := fun q => c5 (Int32.toInt_inj.mp (q.trans (by decide)))
  have nc8 : (a1).toInt ≠ 2 := fun q => c8 (Int32.toInt_inj.mp (q.trans (by decide)))
  have nc12 : (a1).toInt ≠ 3 := fun q => c12 (Int32.toInt_inj.mp (q.trans (by decide)))
  have nc16 : (a1).toInt ≠ 4 := fun q => c16 (Int32.toInt_inj.mp (q.trans (by decide)))
  have nc19 : (a1).toInt ≠ 5 := fun q => c19 (Int32.toInt_inj.mp (q.trans (by decide)))
  have nc22 : (a1).toInt ≠ 6 := fun q => c22 (Int32.toInt_inj.mp (q.trans (by decide)))
  have nc25 : (a1).toInt ≠ 7 := fun q => c25 (Int32.toInt_inj.mp (q.trans (by decide)))
  have nc28 : (a1).toInt ≠ 8 := fun q => c28 (Int32.toInt_inj.mp (q.trans (by decide)))
  have nc31 : (a1).toInt ≠ 9 := fun q => c31 (Int32.toInt_inj.mp (q.trans (by decide)))
  have nc34 : (a1).toInt ≠ 10 := fun q => c34 (Int32.toInt_inj.mp (q.trans (by decide)))
  have nc37 : (a1).toInt ≠ 11 := fun q => c37 (Int32.toInt_inj.mp (q.trans (by decide)))
  have nc41 : (a1).toInt ≠ 12 := fun q => c41 (Int32.toInt_inj.mp (q.trans (by decide)))
  have nc44 : (a1).toInt ≠ 13 := fun q => c44 (Int32.toInt_inj.mp (q.trans (by decide)))
  refine lv_tableOut (tgt := 140) hx hb dX8_wholeTold_1 (by omega) (by decide) ?_
  refine lv_aload_n hx hb dX8_wholeTold_140 rfl (lv_at hl 0 rfl) ?_
  refine lv_iload_n hx hb dX8_wholeTold_141 rfl (lv_at hl 1 rfl) ?_
  refine lv_iconst (v := 4) hx hb dX8_wholeTold_142 (by decide) ?_
  refine lv_isub hx hb dX8_wholeTold_143 ?_
  obtain ⟨x45, g46, h⟩ := ce_b1_e h
  refine ce_callVi (As := [.int (a1 - 4)]) (rest := []) hx hb hml hown hB (c_X8_setting l X G b hk g46) ce_v_X8_setting ce_w1081 ⟨Nat.le_of_ble_eq_true rfl, Nat.le_of_ble_eq_true rfl⟩ hF hA hS (ce_rc_8 hK hA hk) hl rfl rfl (Nat.le_of_ble_eq_true rfl) dX8_wholeTold_144 ⟨Nat.le_of_ble_eq_true rfl, Nat.le_of_ble_eq_true rfl⟩ (fun H locs hA hS => ?_)
  cases h
  exact ce_iret hx hb hr hlocks hA hS dX8_wholeTold_147
def f_X8_whole (k : Nat) (M : ce_M) (a1 : Int32) : Option (ce_M × Int32) :=
  ce_b1 (f_X8_in M a1 0 13) (fun (x1 : Int32) =>
  if x1 = 0 then
    ce_b2 (f_X8_fails k M 1) (fun (M4 : ce_M) (x5 : Int32) =>
    some (M4, x5))
  else
    ce_b1 (f_X8_wholeTold k M a1) (fun (x7 : Int32) =>
    ce_b2 (f_X8_tells k M x7) (fun (M9 : ce_M) (x10 : Int32) =>
    some (M9, x10))))
set_option maxRecDepth 100000 in
set_option maxHeartbeats 4000000 in
theorem c_X8_whole (l : Launch) (X : ce_X) (G : ce_G) (b : Nat) {k : Nat} {a1 : Int32} {M : ce_M} (hk : ce_kd k = 8) {M' : ce_M} {r : Int32} (h : f_X8_whole k M a1 = some (M', r)) : ce_Ct l yX8_whole cX8_whole 2 (some .int) 3 66 X G b [.ref (b + k), .int a1] M (some (.int r)) M' := by
  refine ce_ofW (own := RX8) (by decide) rfl (Nat.le_of_ble_eq_true rfl) (fun p e s m below meth c ls hx hb hr hlocks hml hown hB hF hA hl hS => ?_)
  have hK := hF.1
  have hl : lv_has ls 2 [(0, .ref (b + k)), (1, .int a1)] := hl
  unfold f_X8_whole at h
  refine lv_iload_n hx hb dX8_whole_0 rfl (lv_at hl 1 rfl) ?_
  refine lv_iconst (v := 0) hx hb dX8_whole_1 (by decide) ?_
  refine lv_bipush (v := 13) hx hb dX8_whole_2 (by decide) ?_
  obtain ⟨x1, g2, h⟩ := ce_b1_e h
  refine ce_callSi (As := [.int a1, .int 0, .int 13]) (rest := []) hx hb hml hown hB (c_X8_in l X G b  g2) ce_s_X8_in ce_w1003 ⟨Nat.le_of_ble_eq_true rfl, Nat.le_of_ble_eq_true rfl⟩ hF hA hS hl rfl rfl (Nat.le_of_ble_eq_true rfl) dX8_whole_4 ⟨Nat.le_of_ble_eq_true rfl, Nat.le_of_ble_eq_true rfl⟩ (fun H locs hA hS => ?_)
  refine lv_if_eq (tgt := 22) hx hb dX8_whole_7 (by decide) (fun c3 => ?_) (fun c3 => ?_)
  · have h := ce_it c3 h
    refine lv_aload_n hx hb dX8_whole_22 rfl (lv_at hl 0 rfl) ?_
    refine lv_iconst (v := 1) hx hb dX8_whole_23 (by decide) ?_
    obtain ⟨M4, x5, g6, h⟩ := ce_b2_e h
    refine ce_callVi (As := [.int 1]) (rest := []) hx hb hml hown hB (c_X8_fails l X G b hk g6) ce_v_X8_fails ce_w1033 ⟨Nat.le_of_ble_eq_true rfl, Nat.le_of_ble_eq_true rfl⟩ hF hA hS (ce_rc_8 hK hA hk) hl rfl rfl (Nat.le_of_ble_eq_true rfl) dX8_whole_24 ⟨Nat.le_of_ble_eq_true rfl, Nat.le_of_ble_eq_true rfl⟩ (fun H locs hA hS => ?_)
    cases h
    exact ce_iret hx hb hr hlocks hA hS dX8_whole_27
  · have h := ce_ie c3 h
    refine lv_aload_n hx hb dX8_whole_10 rfl (lv_at hl 0 rfl) ?_
    refine lv_aload_n hx hb dX8_whole_11 rfl (lv_at hl 0 rfl) ?_
    refine lv_iload_n hx hb dX8_whole_12 rfl (lv_at hl 1 rfl) ?_
    obtain ⟨x7, g8, h⟩ := ce_b1_e h
    refine ce_callVi (As := [.int a1]) (rest := [.ref (b + k)]) hx hb hml hown hB (c_X8_wholeTold l X G b hk g8) ce_v_X8_wholeTold ce_w1195 ⟨Nat.le_of_ble_eq_true rfl, Nat.le_of_ble_eq_true rfl⟩ hF hA hS (ce_rc_8 hK hA hk) hl rfl rfl (Nat.le_of_ble_eq_true rfl) dX8_whole_13 ⟨Nat.le_of_ble_eq_true rfl, Nat.le_of_ble_eq_true rfl⟩ (fun H locs hA hS => ?_)
    obtain ⟨M9, x10, g11, h⟩ := ce_b2_e h
    refine ce_callVi (As := [.int x7]) (rest := []) hx hb hml hown hB (c_X8_tells l X G b hk g11) ce_v_X8_tells ce_w1041 ⟨Nat.le_of_ble_eq_true rfl, Nat.le_of_ble_eq_true rfl⟩ hF hA hS (ce_rc_8 hK hA hk) hl rfl rfl (Nat.le_of_ble_eq_true rfl) dX8_whole_16 ⟨Nat.le_of_ble_eq_true rfl, Nat.le_of_ble_eq_true rfl⟩ (fun H locs hA hS => ?_)
    refine lv_goto (tgt := 27) hx hb dX8_whole_19 (by decide) ?_
    cases h
    exact ce_iret hx hb hr hlocks hA hS dX8_whole_27
def f_X8_wouldReach (k : Nat) (M : ce_M) (a1 : Int32) (a2 : Int32) (a3 : Int32) : Option (ce_M × Int32) :=
  ce_b1 (f_X8_isLeaf M a1) (fun (x1 : Int32) =>
  if x1 = 0 then
    ce_b2 (f_X8_fails k M 1) (fun (M28 : ce_M) (x29 : Int32) =>
    some (M28, x29))
  else
    ce_b1 (f_X8_isLevel M a2) (fun (x4 : Int32) =>
    ce_nm (fun (z7 : Unit) =>
      ce_b2 (f_X8_fails k M 2) (fun (M8 : ce_M) (x9 : Int32) =>
      some (M8, x9))) (fun (u6 : Unit → Option (ce_M × Int32)) =>
    if x4 = 0 then
      u6 ()
    else
      if 0 ≤ a3 then
        ce_b1 (f_X8_isTooLate k M a3) (fun (x14 : Int32) =>
        ce_nm (fun (x16 : Int32) =>
      ce_b2 (f_X8_tells k M x16) (fun (M18 : ce_M) (x19 : Int32) =>
      some (M18, x19))) (fun (u17 : Int32 → Option (ce_M × Int32)) =>
        if x14 = 0 then
          ce_gi 0 816 (ce_nm (ce_rd M (k + 1) (Int32.toNatClampNeg 0)) (fun (x23 : Int32) =>
          ce_b1 (f_X8_reachedBy k M a1 a2 (x23 - a3)) (fun (x26 : Int32) =>
          u17 x26)))
        else
          u17 (-1)))
      else
        u6 ())))
set_option maxRecDepth 100000 in
set_option maxHeartbeats 4000000 in
theorem c_X8_wouldReach (l : Launch) (X : ce_X) (G : ce_G) (b : Nat) {k : Nat} {a1 : Int32} {a2 : Int32} {a3 : Int32} {M : ce_M} (hk : ce_kd k = 8) {M' : ce_M} {r : Int32} (h : f_X8_wouldReach k M a1 a2 a3 = some (M', r)) : ce_Ct l yX8_wouldReach cX8_wouldReach 4 (some .int) 5 120 X G b [.ref (b + k), .int a1, .int a2, .int a3] M (some (.int r)) M' := by
  refine ce_ofW (own := RX8) (by decide) rfl (Nat.le_of_ble_eq_true rfl) (fun p e s m below meth c ls hx hb hr hlocks hml hown hB hF hA hl hS => ?_)
  have hK := hF.1
  have hl : lv_has ls 4 [(0, .ref (b + k)), (1, .int a1), (2, .int a2), (3, .int a3)] := hl
  unfold f_X8_wouldReach at h
  refine lv_iload_n hx hb dX8_wouldReach_0 rfl (lv_at hl 1 rfl) ?_
  obtain ⟨x1, g2, h⟩ := ce_b1_e h
  refine ce_callSi (As := [.int a1]) (rest := []) hx hb hml hown hB (c_X8_isLeaf l X G b  g2) ce_s_X8_isLeaf ce_w1000 ⟨Nat.le_of_ble_eq_true rfl, Nat.le_of_ble_eq_true rfl⟩ hF hA hS hl rfl rfl (Nat.le_of_ble_eq_true rfl) dX8_wouldReach_1 ⟨Nat.le_of_ble_eq_true rfl, Nat.le_of_ble_eq_true rfl⟩ (fun H locs hA hS => ?_)
  refine lv_if_ne (tgt := 13) hx hb dX8_wouldReach_4 (by decide) (fun c3 => ?_) (fun c3 => ?_)
  · have h := ce_ie c3 h
    refine lv_iload_n hx hb dX8_wouldReach_13 rfl (lv_at hl 2 rfl) ?_
    obtain ⟨x4, g5, h⟩ := ce_b1_e h
    refine ce_callSi (As := [.int a2]) (rest := []) hx hb hml hown hB (c_X8_isLevel l X G b  g5) ce_s_X8_isLevel ce_w1006 ⟨Nat.le_of_ble_eq_true rfl, Nat.le_of_ble_eq_true rfl⟩ hF hA hS hl rfl rfl (Nat.le_of_ble_eq_true rfl) dX8_wouldReach_14 ⟨Nat.le_of_ble_eq_true rfl, Nat.le_of_ble_eq_true rfl⟩ (fun H locs hA hS => ?_)
    obtain ⟨u6, e11, h⟩ := ce_nm_e h
    have Ju6 : ∀ (z7 : Unit), u6 z7 = some (M', r) → ce_Wg p l e (ce_R 5 120 0 0) s m (([.ref (b + k), .int a1, .int a2, .int a3] : List Value).toArray) below meth c 0 0 (MQ below (ce_Q X b M' (some (.int r))) ([.ref (b + k), .int a1, .int a2, .int a3] : List Value).toArray s 0 0 (ce_Ab b)) X b M 4 [(0, .ref (b + k))] 24 [] := by
      intro z7 h  H locs ls hA hS hl
      subst e11
      refine lv_aload_n hx hb dX8_wouldReach_24 rfl (lv_at hl 0 rfl) ?_
      refine lv_iconst (v := 2) hx hb dX8_wouldReach_25 (by decide) ?_
      obtain ⟨M8, x9, g10, h⟩ := ce_b2_e h
      refine ce_callVi (As := [.int 2]) (rest := []) hx hb hml hown hB (c_X8_fails l X G b hk g10) ce_v_X8_fails ce_w1033 ⟨Nat.le_of_ble_eq_true rfl, Nat.le_of_ble_eq_true rfl⟩ hF hA hS (ce_rc_8 hK hA hk) hl rfl rfl (Nat.le_of_ble_eq_true rfl) dX8_wouldReach_26 ⟨Nat.le_of_ble_eq_true rfl, Nat.le_of_ble_eq_true rfl⟩ (fun H locs hA hS => ?_)
      cases h
      exact ce_iret hx hb hr hlocks hA hS dX8_wouldReach_29
    refine lv_if_eq (tgt := 24) hx hb dX8_wouldReach_17 (by decide) (fun c12 => ?_) (fun c12 => ?_)
    · have h := ce_it c12 h
      exact Ju6 () h  _ _ _ hA hS (lv_sub hl [0] rfl)
    · have h := ce_ie c12 h
      refine lv_iload_n hx hb dX8_wouldReach_20 rfl (lv_at hl 3 rfl) ?_
      refine lv_if_ge (tgt := 30) hx hb dX8_wouldReach_21 (by decide) (fun c13 => ?_) (fun c13 => ?_)
      · have h := ce_it c13 h
        refine lv_aload_n hx hb dX8_wouldReach_30 rfl (lv_at hl 0 rfl) ?_
        refine lv_aload_n hx hb dX8_wouldReach_31 rfl (lv_at hl 0 rfl) ?_
        refine lv_iload_n hx hb dX8_wouldReach_32 rfl (lv_at hl 3 rfl) ?_
        obtain ⟨x14, g15, h⟩ := ce_b1_e h
        refine ce_callVi (As := [.int a3]) (rest := [.ref (b + k)]) hx hb hml hown hB (c_X8_isTooLate l X G b hk g15) ce_v_X8_isTooLate ce_w1093 ⟨Nat.le_of_ble_eq_true rfl, Nat.le_of_ble_eq_true rfl⟩ hF hA hS (ce_rc_8 hK hA hk) hl rfl rfl (Nat.le_of_ble_eq_true rfl) dX8_wouldReach_33 ⟨Nat.le_of_ble_eq_true rfl, Nat.le_of_ble_eq_true rfl⟩ (fun H locs hA hS => ?_)
        obtain ⟨u17, e21, h⟩ := ce_nm_e h
        have Ju17 : ∀ (x16 : Int32), u17 x16 = some (M', r) → ce_Wg p l e (ce_R 5 120 0 0) s m (([.ref (b + k), .int a1, .int a2, .int a3] : List Value).toArray) below meth c 0 0 (MQ below (ce_Q X b M' (some (.int r))) ([.ref (b + k), .int a1, .int a2, .int a3] : List Value).toArray s 0 0 (ce_Ab b)) X b M 4 [] 57 [.int x16, .ref (b + k)] := by
          intro x16 h  H locs ls hA hS hl
          subst e21
          obtain ⟨M18, x19, g20, h⟩ := ce_b2_e h
          refine ce_callVi (As := [.int x16]) (rest := []) hx hb hml hown hB (c_X8_tells l X G b hk g20) ce_v_X8_tells ce_w1041 ⟨Nat.le_of_ble_eq_true rfl, Nat.le_of_ble_eq_true rfl⟩ hF hA hS (ce_rc_8 hK hA hk) hl rfl rfl (Nat.le_of_ble_eq_true rfl) dX8_wouldReach_57 ⟨Nat.le_of_ble_eq_true rfl, Nat.le_of_ble_eq_true rfl⟩ (fun H locs hA hS => ?_)
          cases h
          exact ce_iret hx hb hr hlocks hA hS dX8_wouldReach_60
        refine lv_if_eq (tgt := 43) hx hb dX8_wouldReach_36 (by decide) (fun c22 => ?_) (fun c22 => ?_)
        · have h := ce_it c22 h
          refine lv_aload_n hx hb dX8_wouldReach_43 rfl (lv_at hl 0 rfl) ?_
          refine lv_iload_n hx hb dX8_wouldReach_44 rfl (lv_at hl 1 rfl) ?_
          refine lv_iload_n hx hb dX8_wouldReach_45 rfl (lv_at hl 2 rfl) ?_
          refine lv_aload_n hx hb dX8_wouldReach_46 rfl (lv_at hl 0 rfl) ?_
          refine ce_g_8_0 hx hb hB hown hK hA hk ce_w944 dX8_wouldReach_47 ?_
          refine lv_iconst (v := 0) hx hb dX8_wouldReach_50 (by decide) ?_
          obtain ⟨i24, h⟩ := ce_gi_e h
          obtain ⟨x23, e25, h⟩ := ce_nm_e h
          refine ce_iald hx hb hK hA 816 (ce_kf_8_0 hk) i24 e25 dX8_wouldReach_51 ?_
          refine lv_iload_n hx hb dX8_wouldReach_52 rfl (lv_at hl 3 rfl) ?_
          refine lv_isub hx hb dX8_wouldReach_53 ?_
          obtain ⟨x26, g27, h⟩ := ce_b1_e h
          refine ce_callVi (As := [.int a1, .int a2, .int (x23 - a3)]) (rest := [.ref (b + k)]) hx hb hml hown hB (c_X8_reachedBy l X G b hk g27) ce_v_X8_reachedBy ce_w1097 ⟨Nat.le_of_ble_eq_true rfl, Nat.le_of_ble_eq_true rfl⟩ hF hA hS (ce_rc_8 hK hA hk) hl rfl rfl (Nat.le_of_ble_eq_true rfl) dX8_wouldReach_54 ⟨Nat.le_of_ble_eq_true rfl, Nat.le_of_ble_eq_true rfl⟩ (fun H locs hA hS => ?_)
          exact Ju17 x26 h  _ _ _ hA hS (lv_sub hl [] rfl)
        · have h := ce_ie c22 h
          refine lv_iconst (v := (-1)) hx hb dX8_wouldReach_39 (by decide) ?_
          refine lv_goto (tgt := 57) hx hb dX8_wouldReach_40 (by decide) ?_
          exact Ju17 (-1) h  _ _ _ hA hS (lv_sub hl [] rfl)
      · have h := ce_ie c13 h
        exact Ju6 () h  _ _ _ hA hS (lv_sub hl [0] rfl)
  · have h := ce_it c3 h
    refine lv_aload_n hx hb dX8_wouldReach_7 rfl (lv_at hl 0 rfl) ?_
    refine lv_iconst (v := 1) hx hb dX8_wouldReach_8 (by decide) ?_
    obtain ⟨M28, x29, g30, h⟩ := ce_b2_e h
    refine ce_callVi (As := [.int 1]) (rest := []) hx hb hml hown hB (c_X8_fails l X G b hk g30) ce_v_X8_fails ce_w1033 ⟨Nat.le_of_ble_eq_true rfl, Nat.le_of_ble_eq_true rfl⟩ hF hA hS (ce_rc_8 hK hA hk) hl rfl rfl (Nat.le_of_ble_eq_true rfl) dX8_wouldReach_9 ⟨Nat.le_of_ble_eq_true rfl, Nat.le_of_ble_eq_true rfl⟩ (fun H locs hA hS => ?_)
    cases h
    exact ce_iret hx hb hr hlocks hA hS dX8_wouldReach_12
def f_X8_why (k : Nat) (M : ce_M) (a1 : Int32) (a2 : Int32) (a3 : Int32) : Option Int32 :=
  ce_b1 (f_X8_of k M a1 5) (fun (x1 : Int32) =>
  if x1 = 0 then
    some 1
  else
    ce_b1 (f_X8_of k M a1 4) (fun (x4 : Int32) =>
    ce_b1 (f_X8_of k M a1 1) (fun (x6 : Int32) =>
    ce_b1 (f_X8_overlap M x4 x6 a2 a3) (fun (x8 : Int32) =>
    if x8 = 0 then
      ce_b1 (f_X8_of k M a1 2) (fun (x11 : Int32) =>
      ce_b1 (f_X8_of k M a1 1) (fun (x13 : Int32) =>
      ce_b1 (f_X8_overlap M x11 x13 a2 a3) (fun (x15 : Int32) =>
      if x15 = 0 then
        some 3
      else
        some 2)))
    else
      ce_b1 (f_X8_of k M a1 6) (fun (x18 : Int32) =>
      if x18 = 12 then
        some 4
      else
        some 0)))))
set_option maxRecDepth 100000 in
set_option maxHeartbeats 4000000 in
theorem c_X8_why (l : Launch) (X : ce_X) (G : ce_G) (b : Nat) {k : Nat} {a1 : Int32} {a2 : Int32} {a3 : Int32} {M : ce_M} (hk : ce_kd k = 8) {r : Int32} (h : f_X8_why k M a1 a2 a3 = some r) : ce_Ct l yX8_why cX8_why 4 (some .int) 2 45 X G b [.ref (b + k), .int a1, .int a2, .int a3] M (some (.int r)) M := by
  refine ce_ofW (own := RX8) (by decide) rfl (Nat.le_of_ble_eq_true rfl) (fun p e s m below meth c ls hx hb hr hlocks hml hown hB hF hA hl hS => ?_)
  have hK := hF.1
  have hl : lv_has ls 4 [(0, .ref (b + k)), (1, .int a1), (2, .int a2), (3, .int a3)] := hl
  unfold f_X8_why at h
  refine lv_aload_n hx hb dX8_why_0 rfl (lv_at hl 0 rfl) ?_
  refine lv_iload_n hx hb dX8_why_1 rfl (lv_at hl 1 rfl) ?_
  refine lv_iconst (v := 5) hx hb dX8_why_2 (by decide) ?_
  obtain ⟨x1, g2, h⟩ := ce_b1_e h
  refine ce_callVi (As := [.int a1, .int 5]) (rest := []) hx hb hml hown hB (c_X8_of l X G b hk g2) ce_v_X8_of ce_w1017 ⟨Nat.le_of_ble_eq_true rfl, Nat.le_of_ble_eq_true rfl⟩ hF hA hS (ce_rc_8 hK hA hk) hl rfl rfl (Nat.le_of_ble_eq_true rfl) dX8_why_3 ⟨Nat.le_of_ble_eq_true rfl, Nat.le_of_ble_eq_true rfl⟩ (fun H locs hA hS => ?_)
  refine lv_if_ne (tgt := 11) hx hb dX8_why_6 (by decide) (fun c3 => ?_) (fun c3 => ?_)
  · have h := ce_ie c3 h
    refine lv_aload_n hx hb dX8_why_11 rfl (lv_at hl 0 rfl) ?_
    refine lv_iload_n hx hb dX8_why_12 rfl (lv_at hl 1 rfl) ?_
    refine lv_iconst (v := 4) hx hb dX8_why_13 (by decide) ?_
    obtain ⟨x4, g5, h⟩ := ce_b1_e h
    refine ce_callVi (As := [.int a1, .int 4]) (rest := []) hx hb hml hown hB (c_X8_of l X G b hk g5) ce_v_X8_of ce_w1017 ⟨Nat.le_of_ble_eq_true rfl, Nat.le_of_ble_eq_true rfl⟩ hF hA hS (ce_rc_8 hK hA hk) hl rfl rfl (Nat.le_of_ble_eq_true rfl) dX8_why_14 ⟨Nat.le_of_ble_eq_true rfl, Nat.le_of_ble_eq_true rfl⟩ (fun H locs hA hS => ?_)
    refine lv_aload_n hx hb dX8_why_17 rfl (lv_at hl 0 rfl) ?_
    refine lv_iload_n hx hb dX8_why_18 rfl (lv_at hl 1 rfl) ?_
    refine lv_iconst (v := 1) hx hb dX8_why_19 (by decide) ?_
    obtain ⟨x6, g7, h⟩ := ce_b1_e h
    refine ce_callVi (As := [.int a1, .int 1]) (rest := [.int x4]) hx hb hml hown hB (c_X8_of l X G b hk g7) ce_v_X8_of ce_w1017 ⟨Nat.le_of_ble_eq_true rfl, Nat.le_of_ble_eq_true rfl⟩ hF hA hS (ce_rc_8 hK hA hk) hl rfl rfl (Nat.le_of_ble_eq_true rfl) dX8_why_20 ⟨Nat.le_of_ble_eq_true rfl, Nat.le_of_ble_eq_true rfl⟩ (fun H locs hA hS => ?_)
    refine lv_iload_n hx hb dX8_why_23 rfl (lv_at hl 2 rfl) ?_
    refine lv_iload_n hx hb dX8_why_24 rfl (lv_at hl 3 rfl) ?_
    obtain ⟨x8, g9, h⟩ := ce_b1_e h
    refine ce_callSi (As := [.int x4, .int x6, .int a2, .int a3]) (rest := []) hx hb hml hown hB (c_X8_overlap l X G b  g9) ce_s_X8_overlap ce_w1113 ⟨Nat.le_of_ble_eq_true rfl, Nat.le_of_ble_eq_true rfl⟩ hF hA hS hl rfl rfl (Nat.le_of_ble_eq_true rfl) dX8_why_25 ⟨Nat.le_of_ble_eq_true rfl, Nat.le_of_ble_eq_true rfl⟩ (fun H locs hA hS => ?_)
    refine lv_if_eq (tgt := 49) hx hb dX8_why_28 (by decide) (fun c10 => ?_) (fun c10 => ?_)
    · have h := ce_it c10 h
      refine lv_aload_n hx hb dX8_why_49 rfl (lv_at hl 0 rfl) ?_
      refine lv_iload_n hx hb dX8_why_50 rfl (lv_at hl 1 rfl) ?_
      refine lv_iconst (v := 2) hx hb dX8_why_51 (by decide) ?_
      obtain ⟨x11, g12, h⟩ := ce_b1_e h
      refine ce_callVi (As := [.int a1, .int 2]) (rest := []) hx hb hml hown hB (c_X8_of l X G b hk g12) ce_v_X8_of ce_w1017 ⟨Nat.le_of_ble_eq_true rfl, Nat.le_of_ble_eq_true rfl⟩ hF hA hS (ce_rc_8 hK hA hk) hl rfl rfl (Nat.le_of_ble_eq_true rfl) dX8_why_52 ⟨Nat.le_of_ble_eq_true rfl, Nat.le_of_ble_eq_true rfl⟩ (fun H locs hA hS => ?_)
      refine lv_aload_n hx hb dX8_why_55 rfl (lv_at hl 0 rfl) ?_
      refine lv_iload_n hx hb dX8_why_56 rfl (lv_at hl 1 rfl) ?_
      refine lv_iconst (v := 1) hx hb dX8_why_57 (by decide) ?_
      obtain ⟨x13, g14, h⟩ := ce_b1_e h
      refine ce_callVi (As := [.int a1, .int 1]) (rest := [.int x11]) hx hb hml hown hB (c_X8_of l X G b hk g14) ce_v_X8_of ce_w1017 ⟨Nat.le_of_ble_eq_true rfl, Nat.le_of_ble_eq_true rfl⟩ hF hA hS (ce_rc_8 hK hA hk) hl rfl rfl (Nat.le_of_ble_eq_true rfl) dX8_why_58 ⟨Nat.le_of_ble_eq_true rfl, Nat.le_of_ble_eq_true rfl⟩ (fun H locs hA hS => ?_)
      refine lv_iload_n hx hb dX8_why_61 rfl (lv_at hl 2 rfl) ?_
      refine lv_iload_n hx hb dX8_why_62 rfl (lv_at hl 3 rfl) ?_
      obtain ⟨x15, g16, h⟩ := ce_b1_e h
      refine ce_callSi (As := [.int x11, .int x13, .int a2, .int a3]) (rest := []) hx hb hml hown hB (c_X8_overlap l X G b  g16) ce_s_X8_overlap ce_w1113 ⟨Nat.le_of_ble_eq_true rfl, Nat.le_of_ble_eq_true rfl⟩ hF hA hS hl rfl rfl (Nat.le_of_ble_eq_true rfl) dX8_why_63 ⟨Nat.le_of_ble_eq_true rfl, Nat.le_of_ble_eq_true rfl⟩ (fun H locs hA hS => ?_)
      refine lv_if_eq (tgt := 73) hx hb dX8_why_66 (by decide) (fun c17 => ?_) (fun c17 => ?_)
      · have h := ce_it c17 h
        refine lv_iconst (v := 3) hx hb dX8_why_73 (by decide) ?_
        cases h
        exact ce_iret hx hb hr hlocks hA hS dX8_why_74
      · have h := ce_ie c17 h
        refine lv_iconst (v := 2) hx hb dX8_why_69 (by decide) ?_
        refine lv_goto (tgt := 74) hx hb dX8_why_70 (by decide) ?_
        cases h
        exact ce_iret hx hb hr hlocks hA hS dX8_why_74
    · have h := ce_ie c10 h
      refine lv_aload_n hx hb dX8_why_31 rfl (lv_at hl 0 rfl) ?_
      refine lv_iload_n hx hb dX8_why_32 rfl (lv_at hl 1 rfl) ?_
      refine lv_bipush (v := 6) hx hb dX8_why_33 (by decide) ?_
      obtain ⟨x18, g19, h⟩ := ce_b1_e h
      refine ce_callVi (As := [.int a1, .int 6]) (rest := []) hx hb hml hown hB (c_X8_of l X G b hk g19) ce_v_X8_of ce_w1017 ⟨Nat.le_of_ble_eq_true rfl, Nat.le_of_ble_eq_true rfl⟩ hF hA hS (ce_rc_8 hK hA hk) hl rfl rfl (Nat.le_of_ble_eq_true rfl) dX8_why_35 ⟨Nat.le_of_ble_eq_true rfl, Nat.le_of_ble_eq_true rfl⟩ (fun H locs hA hS => ?_)
      refine lv_bipush (v := 12) hx hb dX8_why_38 (by decide) ?_
      refine lv_icmp_ne (tgt := 47) hx hb dX8_why_40 (by decide) (fun c20 => ?_) (fun c20 => ?_)
      · have h := ce_ie c20 h
        refine lv_iconst (v := 0) hx hb dX8_why_47 (by decide) ?_
        cases h
        exact ce_iret hx hb hr hlocks hA hS dX8_why_48
      · have h := ce_it c20 h
        refine lv_iconst (v := 4) hx hb dX8_why_43 (by decide) ?_
        refine lv_goto (tgt := 48) hx hb dX8_why_44 (by decide) ?_
        cases h
        exact ce_iret hx hb hr hlocks hA hS dX8_why_48
  · have h := ce_it c3 h
    refine lv_iconst (v := 1) hx hb dX8_why_9 (by decide) ?_
    cases h
    exact ce_iret hx hb hr hlocks hA hS dX8_why_10
def f_X8_reason (k : Nat) (M : ce_M) (a1 : Int32) (a2 : Int32) (a3 : Int32) : Option (ce_M × Int32) :=
  ce_b1 (f_X8_isOne k M a1) (fun (x1 : Int32) =>
  ce_nm (fun (z4 : Unit) =>
      ce_b2 (f_X8_fails k M 1) (fun (M5 : ce_M) (x6 : Int32) =>
      some (M5, x6))) (fun (u3 : Unit → Option (ce_M × Int32)) =>
  if x1 = 0 then
    u3 ()
  else
    ce_b1 (f_X8_isLeaf M a2) (fun (x10 : Int32) =>
    if x10 = 0 then
      u3 ()
    else
      ce_b1 (f_X8_isLevel M a3) (fun (x13 : Int32) =>
      if x13 = 0 then
        ce_b2 (f_X8_fails k M 2) (fun (M16 : ce_M) (x17 : Int32) =>
        some (M16, x17))
      else
        ce_b1 (f_X8_why k M a1 a2 a3) (fun (x19 : Int32) =>
        ce_b2 (f_X8_tells k M x19) (fun (M21 : ce_M) (x22 : Int32) =>
        some (M21, x22)))))))
set_option maxRecDepth 100000 in
set_option maxHeartbeats 4000000 in
theorem c_X8_reason (l : Launch) (X : ce_X) (G : ce_G) (b : Nat) {k : Nat} {a1 : Int32} {a2 : Int32} {a3 : Int32} {M : ce_M} (hk : ce_kd k = 8) {M' : ce_M} {r : Int32} (h : f_X8_reason k M a1 a2 a3 = some (M', r)) : ce_Ct l yX8_reason cX8_reason 4 (some .int) 3 68 X G b [.ref (b + k), .int a1, .int a2, .int a3] M (some (.int r)) M' := by
  refine ce_ofW (own := RX8) (by decide) rfl (Nat.le_of_ble_eq_true rfl) (fun p e s m below meth c ls hx hb hr hlocks hml hown hB hF hA hl hS => ?_)
  have hK := hF.1
  have hl : lv_has ls 4 [(0, .ref (b + k)), (1, .int a1), (2, .int a2), (3, .int a3)] := hl
  unfold f_X8_reason at h
  refine lv_aload_n hx hb dX8_reason_0 rfl (lv_at hl 0 rfl) ?_
  refine lv_iload_n hx hb dX8_reason_1 rfl (lv_at hl 1 rfl) ?_
  obtain ⟨x1, g2, h⟩ := ce_b1_e h
  refine ce_callVi (As := [.int a1]) (rest := []) hx hb hml hown hB (c_X8_isOne l X G b hk g2) ce_v_X8_isOne ce_w1053 ⟨Nat.le_of_ble_eq_true rfl, Nat.le_of_ble_eq_true rfl⟩ hF hA hS (ce_rc_8 hK hA hk) hl rfl rfl (Nat.le_of_ble_eq_true rfl) dX8_reason_2 ⟨Nat.le_of_ble_eq_true rfl, Nat.le_of_ble_eq_true rfl⟩ (fun H locs hA hS => ?_)
  obtain ⟨u3, e8, h⟩ := ce_nm_e h
  have Ju3 : ∀ (z4 : Unit), u3 z4 = some (M', r) → ce_Wg p l e (ce_R 3 68 0 0) s m (([.ref (b + k), .int a1, .int a2, .int a3] : List Value).toArray) below meth c 0 0 (MQ below (ce_Q X b M' (some (.int r))) ([.ref (b + k), .int a1, .int a2, .int a3] : List Value).toArray s 0 0 (ce_Ab b)) X b M 4 [(0, .ref (b + k))] 15 [] := by
    intro z4 h  H locs ls hA hS hl
    subst e8
    refine lv_aload_n hx hb dX8_reason_15 rfl (lv_at hl 0 rfl) ?_
    refine lv_iconst (v := 1) hx hb dX8_reason_16 (by decide) ?_
    obtain ⟨M5, x6, g7, h⟩ := ce_b2_e h
    refine ce_callVi (As := [.int 1]) (rest := []) hx hb hml hown hB (c_X8_fails l X G b hk g7) ce_v_X8_fails ce_w1033 ⟨Nat.le_of_ble_eq_true rfl, Nat.le_of_ble_eq_true rfl⟩ hF hA hS (ce_rc_8 hK hA hk) hl rfl rfl (Nat.le_of_ble_eq_true rfl) dX8_reason_17 ⟨Nat.le_of_ble_eq_true rfl, Nat.le_of_ble_eq_true rfl⟩ (fun H locs hA hS => ?_)
    cases h
    exact ce_iret hx hb hr hlocks hA hS dX8_reason_20
  refine lv_if_eq (tgt := 15) hx hb dX8_reason_5 (by decide) (fun c9 => ?_) (fun c9 => ?_)
  · have h := ce_it c9 h
    exact Ju3 () h  _ _ _ hA hS (lv_sub hl [0] rfl)
  · have h := ce_ie c9 h
    refine lv_iload_n hx hb dX8_reason_8 rfl (lv_at hl 2 rfl) ?_
    obtain ⟨x10, g11, h⟩ := ce_b1_e h
    refine ce_callSi (As := [.int a2]) (rest := []) hx hb hml hown hB (c_X8_isLeaf l X G b  g11) ce_s_X8_isLeaf ce_w1000 ⟨Nat.le_of_ble_eq_true rfl, Nat.le_of_ble_eq_true rfl⟩ hF hA hS hl rfl rfl (Nat.le_of_ble_eq_true rfl) dX8_reason_9 ⟨Nat.le_of_ble_eq_true rfl, Nat.le_of_ble_eq_true rfl⟩ (fun H locs hA hS => ?_)
    refine lv_if_ne (tgt := 21) hx hb dX8_reason_12 (by decide) (fun c12 => ?_) (fun c12 => ?_)
    · have h := ce_ie c12 h
      refine lv_iload_n hx hb dX8_reason_21 rfl (lv_at hl 3 rfl) ?_
      obtain ⟨x13, g14, h⟩ := ce_b1_e h
      refine ce_callSi (As := [.int a3]) (rest := []) hx hb hml hown hB (c_X8_isLevel l X G b  g14) ce_s_X8_isLevel ce_w1006 ⟨Nat.le_of_ble_eq_true rfl, Nat.le_of_ble_eq_true rfl⟩ hF hA hS hl rfl rfl (Nat.le_of_ble_eq_true rfl) dX8_reason_22 ⟨Nat.le_of_ble_eq_true rfl, Nat.le_of_ble_eq_true rfl⟩ (fun H locs hA hS => ?_)
      refine lv_if_eq (tgt := 42) hx hb dX8_reason_25 (by decide) (fun c15 => ?_) (fun c15 => ?_)
      · have h := ce_it c15 h
        refine lv_aload_n hx hb dX8_reason_42 rfl (lv_at hl 0 rfl) ?_
        refine lv_iconst (v := 2) hx hb dX8_reason_43 (by decide) ?_
        obtain ⟨M16, x17, g18, h⟩ := ce_b2_e h
        refine ce_callVi (As := [.int 2]) (rest := []) hx hb hml hown hB (c_X8_fails l X G b hk g18) ce_v_X8_fails ce_w1033 ⟨Nat.le_of_ble_eq_true rfl, Nat.le_of_ble_eq_true rfl⟩ hF hA hS (ce_rc_8 hK hA hk) hl rfl rfl (Nat.le_of_ble_eq_true rfl) dX8_reason_44 ⟨Nat.le_of_ble_eq_true rfl, Nat.le_of_ble_eq_true rfl⟩ (fun H locs hA hS => ?_)
        cases h
        exact ce_iret hx hb hr hlocks hA hS dX8_reason_47
      · have h := ce_ie c15 h
        refine lv_aload_n hx hb dX8_reason_28 rfl (lv_at hl 0 rfl) ?_
        refine lv_aload_n hx hb dX8_reason_29 rfl (lv_at hl 0 rfl) ?_
        refine lv_iload_n hx hb dX8_reason_30 rfl (lv_at hl 1 rfl) ?_
        refine lv_iload_n hx hb dX8_reason_31 rfl (lv_at hl 2 rfl) ?_
        refine lv_iload_n hx hb dX8_reason_32 rfl (lv_at hl 3 rfl) ?_
        obtain ⟨x19, g20, h⟩ := ce_b1_e h
        refine ce_callVi (As := [.int a1, .int a2, .int a3]) (rest := [.ref (b + k)]) hx hb hml hown hB (c_X8_why l X G b hk g20) ce_v_X8_why ce_w1211 ⟨Nat.le_of_ble_eq_true rfl, Nat.le_of_ble_eq_true rfl⟩ hF hA hS (ce_rc_8 hK hA hk) hl rfl rfl (Nat.le_of_ble_eq_true rfl) dX8_reason_33 ⟨Nat.le_of_ble_eq_true rfl, Nat.le_of_ble_eq_true rfl⟩ (fun H locs hA hS => ?_)
        obtain ⟨M21, x22, g23, h⟩ := ce_b2_e h
        refine ce_callVi (As := [.int x19]) (rest := []) hx hb hml hown hB (c_X8_tells l X G b hk g23) ce_v_X8_tells ce_w1041 ⟨Nat.le_of_ble_eq_true rfl, Nat.le_of_ble_eq_true rfl⟩ hF hA hS (ce_rc_8 hK hA hk) hl rfl rfl (Nat.le_of_ble_eq_true rfl) dX8_reason_36 ⟨Nat.le_of_ble_eq_true rfl, Nat.le_of_ble_eq_true rfl⟩ (fun H locs hA hS => ?_)
        refine lv_goto (tgt := 47) hx hb dX8_reason_39 (by decide) ?_
        cases h
        exact ce_iret hx hb hr hlocks hA hS dX8_reason_47
    · have h := ce_it c12 h
      exact Ju3 () h  _ _ _ hA hS (lv_sub hl [0] rfl)
def f_X8_changesIn (k : Nat) (M : ce_M) (a1 : Int32) : Option Int32 :=
  ce_b1 (f_X8_of k M a1 5) (fun (x1 : Int32) =>
  if x1 = 0 then
    some (-1)
  else
    ce_b1 (f_X8_of k M a1 2) (fun (x4 : Int32) =>
    ce_b1 (f_X8_of k M a1 4) (fun (x6 : Int32) =>
    if x4 = x6 then
      some 0
    else
      ce_b1 (f_X8_of k M a1 3) (fun (x9 : Int32) =>
      ce_b1 (f_X8_dwellOf k M a1) (fun (x11 : Int32) =>
      ce_gi 0 816 (ce_nm (ce_rd M (k + 1) (Int32.toNatClampNeg 0)) (fun (x13 : Int32) =>
      ce_nm ((x9 + x11) - x13) (fun (x16 : Int32) =>
      if 0 ≤ x16 then
        some (x16 + 1)
      else
        some 1))))))))
set_option maxRecDepth 100000 in
set_option maxHeartbeats 4000000 in
theorem c_X8_changesIn (l : Launch) (X : ce_X) (G : ce_G) (b : Nat) {k : Nat} {a1 : Int32} {M : ce_M} (hk : ce_kd k = 8) {r : Int32} (h : f_X8_changesIn k M a1 = some r) : ce_Ct l yX8_changesIn cX8_changesIn 3 (some .int) 2 43 X G b [.ref (b + k), .int a1] M (some (.int r)) M := by
  refine ce_ofW (own := RX8) (by decide) rfl (Nat.le_of_ble_eq_true rfl) (fun p e s m below meth c ls hx hb hr hlocks hml hown hB hF hA hl hS => ?_)
  have hK := hF.1
  have hl : lv_has ls 3 [(0, .ref (b + k)), (1, .int a1)] := hl
  unfold f_X8_changesIn at h
  refine lv_aload_n hx hb dX8_changesIn_0 rfl (lv_at hl 0 rfl) ?_
  refine lv_iload_n hx hb dX8_changesIn_1 rfl (lv_at hl 1 rfl) ?_
  refine lv_iconst (v := 5) hx hb dX8_changesIn_2 (by decide) ?_
  obtain ⟨x1, g2, h⟩ := ce_b1_e h
  refine ce_callVi (As := [.int a1, .int 5]) (rest := []) hx hb hml hown hB (c_X8_of l X G b hk g2) ce_v_X8_of ce_w1017 ⟨Nat.le_of_ble_eq_true rfl, Nat.le_of_ble_eq_true rfl⟩ hF hA hS (ce_rc_8 hK hA hk) hl rfl rfl (Nat.le_of_ble_eq_true rfl) dX8_changesIn_3 ⟨Nat.le_of_ble_eq_true rfl, Nat.le_of_ble_eq_true rfl⟩ (fun H locs hA hS => ?_)
  refine lv_if_ne (tgt := 11) hx hb dX8_changesIn_6 (by decide) (fun c3 => ?_) (fun c3 => ?_)
  · have h := ce_ie c3 h
    refine lv_aload_n hx hb dX8_changesIn_11 rfl (lv_at hl 0 rfl) ?_
    refine lv_iload_n hx hb dX8_changesIn_12 rfl (lv_at hl 1 rfl) ?_
    refine lv_iconst (v := 2) hx hb dX8_changesIn_13 (by decide) ?_
    obtain ⟨x4, g5, h⟩ := ce_b1_e h
    refine ce_callVi (As := [.int a1, .int 2]) (rest := []) hx hb hml hown hB (c_X8_of l X G b hk g5) ce_v_X8_of ce_w1017 ⟨Nat.le_of_ble_eq_true rfl, Nat.le_of_ble_eq_true rfl⟩ hF hA hS (ce_rc_8 hK hA hk) hl rfl rfl (Nat.le_of_ble_eq_true rfl) dX8_changesIn_14 ⟨Nat.le_of_ble_eq_true rfl, Nat.le_of_ble_eq_true rfl⟩ (fun H locs hA hS => ?_)
    refine lv_aload_n hx hb dX8_changesIn_17 rfl (lv_at hl 0 rfl) ?_
    refine lv_iload_n hx hb dX8_changesIn_18 rfl (lv_at hl 1 rfl) ?_
    refine lv_iconst (v := 4) hx hb dX8_changesIn_19 (by decide) ?_
    obtain ⟨x6, g7, h⟩ := ce_b1_e h
    refine ce_callVi (As := [.int a1, .int 4]) (rest := [.int x4]) hx hb hml hown hB (c_X8_of l X G b hk g7) ce_v_X8_of ce_w1017 ⟨Nat.le_of_ble_eq_true rfl, Nat.le_of_ble_eq_true rfl⟩ hF hA hS (ce_rc_8 hK hA hk) hl rfl rfl (Nat.le_of_ble_eq_true rfl) dX8_changesIn_20 ⟨Nat.le_of_ble_eq_true rfl, Nat.le_of_ble_eq_true rfl⟩ (fun H locs hA hS => ?_)
    refine lv_icmp_ne (tgt := 28) hx hb dX8_changesIn_23 (by decide) (fun c8 => ?_) (fun c8 => ?_)
    · have h := ce_ie c8 h
      refine lv_aload_n hx hb dX8_changesIn_28 rfl (lv_at hl 0 rfl) ?_
      refine lv_iload_n hx hb dX8_changesIn_29 rfl (lv_at hl 1 rfl) ?_
      refine lv_iconst (v := 3) hx hb dX8_changesIn_30 (by decide) ?_
      obtain ⟨x9, g10, h⟩ := ce_b1_e h
      refine ce_callVi (As := [.int a1, .int 3]) (rest := []) hx hb hml hown hB (c_X8_of l X G b hk g10) ce_v_X8_of ce_w1017 ⟨Nat.le_of_ble_eq_true rfl, Nat.le_of_ble_eq_true rfl⟩ hF hA hS (ce_rc_8 hK hA hk) hl rfl rfl (Nat.le_of_ble_eq_true rfl) dX8_changesIn_31 ⟨Nat.le_of_ble_eq_true rfl, Nat.le_of_ble_eq_true rfl⟩ (fun H locs hA hS => ?_)
      refine lv_aload_n hx hb dX8_changesIn_34 rfl (lv_at hl 0 rfl) ?_
      refine lv_iload_n hx hb dX8_changesIn_35 rfl (lv_at hl 1 rfl) ?_
      obtain ⟨x11, g12, h⟩ := ce_b1_e h
      refine ce_callVi (As := [.int a1]) (rest := [.int x9]) hx hb hml hown hB (c_X8_dwellOf l X G b hk g12) ce_v_X8_dwellOf ce_w1139 ⟨Nat.le_of_ble_eq_true rfl, Nat.le_of_ble_eq_true rfl⟩ hF hA hS (ce_rc_8 hK hA hk) hl rfl rfl (Nat.le_of_ble_eq_true rfl) dX8_changesIn_36 ⟨Nat.le_of_ble_eq_true rfl, Nat.le_of_ble_eq_true rfl⟩ (fun H locs hA hS => ?_)
      refine lv_iadd hx hb dX8_changesIn_39 ?_
      refine lv_aload_n hx hb dX8_changesIn_40 rfl (lv_at hl 0 rfl) ?_
      refine ce_g_8_0 hx hb hB hown hK hA hk ce_w944 dX8_changesIn_41 ?_
      refine lv_iconst (v := 0) hx hb dX8_changesIn_44 (by decide) ?_
      obtain ⟨i14, h⟩ := ce_gi_e h
      obtain ⟨x13, e15, h⟩ := ce_nm_e h
      refine ce_iald hx hb hK hA 816 (ce_kf_8_0 hk) i14 e15 dX8_changesIn_45 ?_
      refine lv_isub hx hb dX8_changesIn_46 ?_
      obtain ⟨x16, e17, h⟩ := ce_nm_e h
      refine ce_top e17 ?_
      refine lv_istore_n (lv' := [(2, .int x16), (0, .ref (b + k)), (1, .int a1)]) hx hb dX8_changesIn_47 rfl hl (by decide) rfl (fun ls hl => ?_)
      refine lv_iload_n hx hb dX8_changesIn_48 rfl (lv_at hl 0 rfl) ?_
      refine lv_if_ge (tgt := 56) hx hb dX8_changesIn_49 (by decide) (fun c18 => ?_) (fun c18 => ?_)
      · have h := ce_it c18 h
        refine lv_iload_n hx hb dX8_changesIn_56 rfl (lv_at hl 0 rfl) ?_
        refine lv_iconst (v := 1) hx hb dX8_changesIn_57 (by decide) ?_
        refine lv_iadd hx hb dX8_changesIn_58 ?_
        cases h
        exact ce_iret hx hb hr hlocks hA hS dX8_changesIn_59
      · have h := ce_ie c18 h
        refine lv_iconst (v := 1) hx hb dX8_changesIn_52 (by decide) ?_
        refine lv_goto (tgt := 59) hx hb dX8_changesIn_53 (by decide) ?_
        cases h
        exact ce_iret hx hb hr hlocks hA hS dX8_changesIn_59
    · have h := ce_it c8 h
      refine lv_iconst (v := 0) hx hb dX8_changesIn_26 (by decide) ?_
      cases h
      exact ce_iret hx hb hr hlocks hA hS dX8_changesIn_27
  · have h := ce_it c3 h
    refine lv_iconst (v := (-1)) hx hb dX8_changesIn_9 (by decide) ?_
    cases h
    exact ce_iret hx hb hr hlocks hA hS dX8_changesIn_10
def f_X8_servedIn (k : Nat) (M : ce_M) (a1 : Int32) : Option (ce_M × Int32) :=
  ce_b1 (f_X8_isOne k M a1) (fun (x1 : Int32) =>
  if x1 = 0 then
    ce_b2 (f_X8_fails k M 1) (fun (M4 : ce_M) (x5 : Int32) =>
    some (M4, x5))
  else
    ce_b1 (f_X8_changesIn k M a1) (fun (x7 : Int32) =>
    ce_b2 (f_X8_tells k M x7) (fun (M9 : ce_M) (x10 : Int32) =>
    some (M9, x10))))
set_option maxRecDepth 100000 in
set_option maxHeartbeats 4000000 in
theorem c_X8_servedIn (l : Launch) (X : ce_X) (G : ce_G) (b : Nat) {k : Nat} {a1 : Int32} {M : ce_M} (hk : ce_kd k = 8) {M' : ce_M} {r : Int32} (h : f_X8_servedIn k M a1 = some (M', r)) : ce_Ct l yX8_servedIn cX8_servedIn 2 (some .int) 3 65 X G b [.ref (b + k), .int a1] M (some (.int r)) M' := by
  refine ce_ofW (own := RX8) (by decide) rfl (Nat.le_of_ble_eq_true rfl) (fun p e s m below meth c ls hx hb hr hlocks hml hown hB hF hA hl hS => ?_)
  have hK := hF.1
  have hl : lv_has ls 2 [(0, .ref (b + k)), (1, .int a1)] := hl
  unfold f_X8_servedIn at h
  refine lv_aload_n hx hb dX8_servedIn_0 rfl (lv_at hl 0 rfl) ?_
  refine lv_iload_n hx hb dX8_servedIn_1 rfl (lv_at hl 1 rfl) ?_
  obtain ⟨x1, g2, h⟩ := ce_b1_e h
  refine ce_callVi (As := [.int a1]) (rest := []) hx hb hml hown hB (c_X8_isOne l X G b hk g2) ce_v_X8_isOne ce_w1053 ⟨Nat.le_of_ble_eq_true rfl, Nat.le_of_ble_eq_true rfl⟩ hF hA hS (ce_rc_8 hK hA hk) hl rfl rfl (Nat.le_of_ble_eq_true rfl) dX8_servedIn_2 ⟨Nat.le_of_ble_eq_true rfl, Nat.le_of_ble_eq_true rfl⟩ (fun H locs hA hS => ?_)
  refine lv_if_eq (tgt := 20) hx hb dX8_servedIn_5 (by decide) (fun c3 => ?_) (fun c3 => ?_)
  · have h := ce_it c3 h
    refine lv_aload_n hx hb dX8_servedIn_20 rfl (lv_at hl 0 rfl) ?_
    refine lv_iconst (v := 1) hx hb dX8_servedIn_21 (by decide) ?_
    obtain ⟨M4, x5, g6, h⟩ := ce_b2_e h
    refine ce_callVi (As := [.int 1]) (rest := []) hx hb hml hown hB (c_X8_fails l X G b hk g6) ce_v_X8_fails ce_w1033 ⟨Nat.le_of_ble_eq_true rfl, Nat.le_of_ble_eq_true rfl⟩ hF hA hS (ce_rc_8 hK hA hk) hl rfl rfl (Nat.le_of_ble_eq_true rfl) dX8_servedIn_22 ⟨Nat.le_of_ble_eq_true rfl, Nat.le_of_ble_eq_true rfl⟩ (fun H locs hA hS => ?_)
    cases h
    exact ce_iret hx hb hr hlocks hA hS dX8_servedIn_25
  · have h := ce_ie c3 h
    refine lv_aload_n hx hb dX8_servedIn_8 rfl (lv_at hl 0 rfl) ?_
    refine lv_aload_n hx hb dX8_servedIn_9 rfl (lv_at hl 0 rfl) ?_
    refine lv_iload_n hx hb dX8_servedIn_10 rfl (lv_at hl 1 rfl) ?_
    obtain ⟨x7, g8, h⟩ := ce_b1_e h
    refine ce_callVi (As := [.int a1]) (rest := [.ref (b + k)]) hx hb hml hown hB (c_X8_changesIn l X G b hk g8) ce_v_X8_changesIn ce_w1219 ⟨Nat.le_of_ble_eq_true rfl, Nat.le_of_ble_eq_true rfl⟩ hF hA hS (ce_rc_8 hK hA hk) hl rfl rfl (Nat.le_of_ble_eq_true rfl) dX8_servedIn_11 ⟨Nat.le_of_ble_eq_true rfl, Nat.le_of_ble_eq_true rfl⟩ (fun H locs hA hS => ?_)
    obtain ⟨M9, x10, g11, h⟩ := ce_b2_e h
    refine ce_callVi (As := [.int x7]) (rest := []) hx hb hml hown hB (c_X8_tells l X G b hk g11) ce_v_X8_tells ce_w1041 ⟨Nat.le_of_ble_eq_true rfl, Nat.le_of_ble_eq_true rfl⟩ hF hA hS (ce_rc_8 hK hA hk) hl rfl rfl (Nat.le_of_ble_eq_true rfl) dX8_servedIn_14 ⟨Nat.le_of_ble_eq_true rfl, Nat.le_of_ble_eq_true rfl⟩ (fun H locs hA hS => ?_)
    refine lv_goto (tgt := 25) hx hb dX8_servedIn_17 (by decide) ?_
    cases h
    exact ce_iret hx hb hr hlocks hA hS dX8_servedIn_25
def f_X8_emptyIn_L20 (k : Nat) (a1 : Int32) (u12 : ce_M → Int32 → Option (ce_M × Int32)) (rec8 : ce_M → Int32 → Option (ce_M × Int32)) (M6 : ce_M) (x7 : Int32) : Option (ce_M × Int32) :=
  if 200 < x7 then
    u12 M6 x7
  else
    ce_b1 (f_X8_of k M6 a1 6) (fun (x24 : Int32) =>
    if x24 ≤ 0 then
      u12 M6 x7
    else
      ce_b2 (f_X8_ticks k M6) (fun (M27 : ce_M) (x28 : Int32) =>
      if 0 ≤ x28 then
        ce_nm (x7 + 1) (fun (x31 : Int32) =>
        rec8 M27 x31)
      else
        ce_nm (x7 + 0) (fun (x33 : Int32) =>
        rec8 M27 x33)))
def f_X8_emptyIn (k : Nat) (M : ce_M) (a1 : Int32) : Option (ce_M × Int32) :=
  ce_b1 (f_X8_isOne k M a1) (fun (x1 : Int32) =>
  if x1 = 0 then
    ce_b2 (f_X8_fails k M 1) (fun (M35 : ce_M) (x36 : Int32) =>
    some (M35, x36))
  else
    ce_b1 (f_X8_laysAside k M) (fun (M4 : ce_M) =>
    ce_nm (fun (M10 : ce_M) (x11 : Int32) =>
      ce_b1 (f_X8_bringsBack k M10) (fun (M13 : ce_M) =>
      ce_nm (fun (x15 : Int32) =>
          ce_b2 (f_X8_tells k M13 x15) (fun (M17 : ce_M) (x18 : Int32) =>
          some (M17, x18))) (fun (u16 : Int32 → Option (ce_M × Int32)) =>
      if x11 ≤ 200 then
        u16 x11
      else
        u16 (-1)))) (fun (u12 : ce_M → Int32 → Option (ce_M × Int32)) =>
    ce_lp2 (f_X8_emptyIn_L20 k a1 u12) ce_FU M4 0)))
set_option maxRecDepth 100000 in
set_option maxHeartbeats 4000000 in
theorem c_X8_emptyIn (l : Launch) (X : ce_X) (G : ce_G) (b : Nat) {k : Nat} {a1 : Int32} {M : ce_M} (hk : ce_kd k = 8) {M' : ce_M} {r : Int32} (h : f_X8_emptyIn k M a1 = some (M', r)) : ce_Ct l yX8_emptyIn cX8_emptyIn 3 (some .int) 4 87 X G b [.ref (b + k), .int a1] M (some (.int r)) M' := by
  refine ce_ofW (own := RX8) (by decide) rfl (Nat.le_of_ble_eq_true rfl) (fun p e s m below meth c ls hx hb hr hlocks hml hown hB hF hA hl hS => ?_)
  have hK := hF.1
  have hl : lv_has ls 3 [(0, .ref (b + k)), (1, .int a1)] := hl
  unfold f_X8_emptyIn at h
  refine lv_aload_n hx hb dX8_emptyIn_0 rfl (lv_at hl 0 rfl) ?_
  refine lv_iload_n hx hb dX8_emptyIn_1 rfl (lv_at hl 1 rfl) ?_
  obtain ⟨x1, g2, h⟩ := ce_b1_e h
  refine ce_callVi (As := [.int a1]) (rest := []) hx hb hml hown hB (c_X8_isOne l X G b hk g2) ce_v_X8_isOne ce_w1053 ⟨Nat.le_of_ble_eq_true rfl, Nat.le_of_ble_eq_true rfl⟩ hF hA hS (ce_rc_8 hK hA hk) hl rfl rfl (Nat.le_of_ble_eq_true rfl) dX8_emptyIn_2 ⟨Nat.le_of_ble_eq_true rfl, Nat.le_of_ble_eq_true rfl⟩ (fun H locs hA hS => ?_)
  refine lv_if_ne (tgt := 14) hx hb dX8_emptyIn_5 (by decide) (fun c3 => ?_) (fun c3 => ?_)
  · have h := ce_ie c3 h
    refine lv_aload_n hx hb dX8_emptyIn_14 rfl (lv_at hl 0 rfl) ?_
    obtain ⟨M4, g5, h⟩ := ce_b1_e h
    refine ce_callVv (As := []) (rest := []) hx hb hml hown hB (c_X8_laysAside l X G b hk g5) ce_v_X8_laysAside ce_w992 ⟨Nat.le_of_ble_eq_true rfl, Nat.le_of_ble_eq_true rfl⟩ hF hA hS (ce_rc_8 hK hA hk) hl rfl rfl (Nat.le_of_ble_eq_true rfl) dX8_emptyIn_15 ⟨Nat.le_of_ble_eq_true rfl, Nat.le_of_ble_eq_true rfl⟩ (fun H locs hA hS => ?_)
    refine lv_iconst (v := 0) hx hb dX8_emptyIn_18 (by decide) ?_
    refine lv_istore_n (lv' := [(2, .int 0), (0, .ref (b + k)), (1, .int a1)]) hx hb dX8_emptyIn_19 rfl hl (by decide) rfl (fun ls hl => ?_)
    obtain ⟨u12, e22, h⟩ := ce_nm_e h
    have Ju12 : ∀ (M10 : ce_M) (x11 : Int32), u12 M10 x11 = some (M', r) → ce_Wg p l e (ce_R 4 87 0 0) s m (([.ref (b + k), .int a1] : List Value).toArray) below meth c 0 0 (MQ below (ce_Q X b M' (some (.int r))) ([.ref (b + k), .int a1] : List Value).toArray s 0 0 (ce_Ab b)) X b M10 3 [(0, .ref (b + k)), (2, .int x11)] 55 [] := by
      intro M10 x11 h  H locs ls hA hS hl
      subst e22
      refine lv_aload_n hx hb dX8_emptyIn_55 rfl (lv_at hl 0 rfl) ?_
      obtain ⟨M13, g14, h⟩ := ce_b1_e h
      refine ce_callVv (As := []) (rest := []) hx hb hml hown hB (c_X8_bringsBack l X G b hk g14) ce_v_X8_bringsBack ce_w1029 ⟨Nat.le_of_ble_eq_true rfl, Nat.le_of_ble_eq_true rfl⟩ hF hA hS (ce_rc_8 hK hA hk) hl rfl rfl (Nat.le_of_ble_eq_true rfl) dX8_emptyIn_56 ⟨Nat.le_of_ble_eq_true rfl, Nat.le_of_ble_eq_true rfl⟩ (fun H locs hA hS => ?_)
      refine lv_aload_n hx hb dX8_emptyIn_59 rfl (lv_at hl 0 rfl) ?_
      refine lv_iload_n hx hb dX8_emptyIn_60 rfl (lv_at hl 1 rfl) ?_
      refine lv_sipush (v := 200) hx hb dX8_emptyIn_61 (by decide) ?_
      obtain ⟨u16, e20, h⟩ := ce_nm_e h
      have Ju16 : ∀ (x15 : Int32), u16 x15 = some (M', r) → ce_Wg p l e (ce_R 4 87 0 0) s m (([.ref (b + k), .int a1] : List Value).toArray) below meth c 0 0 (MQ below (ce_Q X b M' (some (.int r))) ([.ref (b + k), .int a1] : List Value).toArray s 0 0 (ce_Ab b)) X b M13 3 [] 72 [.int x15, .ref (b + k)] := by
        intro x15 h  H locs ls hA hS hl
        subst e20
        obtain ⟨M17, x18, g19, h⟩ := ce_b2_e h
        refine ce_callVi (As := [.int x15]) (rest := []) hx hb hml hown hB (c_X8_tells l X G b hk g19) ce_v_X8_tells ce_w1041 ⟨Nat.le_of_ble_eq_true rfl, Nat.le_of_ble_eq_true rfl⟩ hF hA hS (ce_rc_8 hK hA hk) hl rfl rfl (Nat.le_of_ble_eq_true rfl) dX8_emptyIn_72 ⟨Nat.le_of_ble_eq_true rfl, Nat.le_of_ble_eq_true rfl⟩ (fun H locs hA hS => ?_)
        cases h
        exact ce_iret hx hb hr hlocks hA hS dX8_emptyIn_75
      refine lv_icmp_le (tgt := 71) hx hb dX8_emptyIn_64 (by decide) (fun c21 => ?_) (fun c21 => ?_)
      · have h := ce_it c21 h
        refine lv_iload_n hx hb dX8_emptyIn_71 rfl (lv_at hl 1 rfl) ?_
        exact Ju16 x11 h  _ _ _ hA hS (lv_sub hl [] rfl)
      · have h := ce_ie c21 h
        refine lv_iconst (v := (-1)) hx hb dX8_emptyIn_67 (by decide) ?_
        refine lv_goto (tgt := 72) hx hb dX8_emptyIn_68 (by decide) ?_
        exact Ju16 (-1) h  _ _ _ hA hS (lv_sub hl [] rfl)
    refine ce_lp2_i (y := (M', r)) (P := fun (M6 : ce_M) (x7 : Int32) => ce_Wg p l e (ce_R 4 87 0 0) s m (([.ref (b + k), .int a1] : List Value).toArray) below meth c 0 0 (MQ below (ce_Q X b M' (some (.int r))) ([.ref (b + k), .int a1] : List Value).toArray s 0 0 (ce_Ab b)) X b M6 3 [(0, .ref (b + k)), (1, .int a1), (2, .int x7)] 20 []) (fun rec8 ih9 M6 x7 h => ?_) _ _ _ h _ _ _ hA hS (lv_sub hl [1, 2, 0] rfl)
    intro H locs ls hA hS hl
    unfold f_X8_emptyIn_L20 at h
    refine lv_iload_n hx hb dX8_emptyIn_20 rfl (lv_at hl 2 rfl) ?_
    refine lv_sipush (v := 200) hx hb dX8_emptyIn_21 (by decide) ?_
    refine lv_icmp_gt (tgt := 55) hx hb dX8_emptyIn_24 (by decide) (fun c23 => ?_) (fun c23 => ?_)
    · have h := ce_it c23 h
      exact Ju12 M6 x7 h  _ _ _ hA hS (lv_sub hl [0, 2] rfl)
    · have h := ce_ie c23 h
      refine lv_aload_n hx hb dX8_emptyIn_27 rfl (lv_at hl 0 rfl) ?_
      refine lv_iload_n hx hb dX8_emptyIn_28 rfl (lv_at hl 1 rfl) ?_
      refine lv_bipush (v := 6) hx hb dX8_emptyIn_29 (by decide) ?_
      obtain ⟨x24, g25, h⟩ := ce_b1_e h
      refine ce_callVi (As := [.int a1, .int 6]) (rest := []) hx hb hml hown hB (c_X8_of l X G b hk g25) ce_v_X8_of ce_w1017 ⟨Nat.le_of_ble_eq_true rfl, Nat.le_of_ble_eq_true rfl⟩ hF hA hS (ce_rc_8 hK hA hk) hl rfl rfl (Nat.le_of_ble_eq_true rfl) dX8_emptyIn_31 ⟨Nat.le_of_ble_eq_true rfl, Nat.le_of_ble_eq_true rfl⟩ (fun H locs hA hS => ?_)
      refine lv_if_le (tgt := 55) hx hb dX8_emptyIn_34 (by decide) (fun c26 => ?_) (fun c26 => ?_)
      · have h := ce_it c26 h
        exact Ju12 M6 x7 h  _ _ _ hA hS (lv_sub hl [0, 2] rfl)
      · have h := ce_ie c26 h
        refine lv_iload_n hx hb dX8_emptyIn_37 rfl (lv_at hl 2 rfl) ?_
        refine lv_aload_n hx hb dX8_emptyIn_38 rfl (lv_at hl 0 rfl) ?_
        obtain ⟨M27, x28, g29, h⟩ := ce_b2_e h
        refine ce_callVi (As := []) (rest := [.int x7]) hx hb hml hown hB (c_X8_ticks l X G b hk g29) ce_v_X8_ticks ce_w1131 ⟨Nat.le_of_ble_eq_true rfl, Nat.le_of_ble_eq_true rfl⟩ hF hA hS (ce_rc_8 hK hA hk) hl rfl rfl (Nat.le_of_ble_eq_true rfl) dX8_emptyIn_39 ⟨Nat.le_of_ble_eq_true rfl, Nat.le_of_ble_eq_true rfl⟩ (fun H locs hA hS => ?_)
        refine lv_if_ge (tgt := 49) hx hb dX8_emptyIn_42 (by decide) (fun c30 => ?_) (fun c30 => ?_)
        · have h := ce_it c30 h
          refine lv_iconst (v := 1) hx hb dX8_emptyIn_49 (by decide) ?_
          refine lv_iadd hx hb dX8_emptyIn_50 ?_
          obtain ⟨x31, e32, h⟩ := ce_nm_e h
          refine ce_top e32 ?_
          refine lv_istore_n (lv' := [(2, .int x31), (0, .ref (b + k)), (1, .int a1)]) hx hb dX8_emptyIn_51 rfl hl (by decide) rfl (fun ls hl => ?_)
          refine lv_goto (tgt := 20) hx hb dX8_emptyIn_52 (by decide) ?_
          exact ih9 M27 x31 h  _ _ _ hA hS (lv_sub hl [1, 2, 0] rfl)
        · have h := ce_ie c30 h
          refine lv_iconst (v := 0) hx hb dX8_emptyIn_45 (by decide) ?_
          refine lv_goto (tgt := 50) hx hb dX8_emptyIn_46 (by decide) ?_
          refine lv_iadd hx hb dX8_emptyIn_50 ?_
          obtain ⟨x33, e34, h⟩ := ce_nm_e h
          refine ce_top e34 ?_
          refine lv_istore_n (lv' := [(2, .int x33), (0, .ref (b + k)), (1, .int a1)]) hx hb dX8_emptyIn_51 rfl hl (by decide) rfl (fun ls hl => ?_)
          refine lv_goto (tgt := 20) hx hb dX8_emptyIn_52 (by decide) ?_
          exact ih9 M27 x33 h  _ _ _ hA hS (lv_sub hl [1, 2, 0] rfl)
  · have h := ce_it c3 h
    refine lv_aload_n hx hb dX8_emptyIn_8 rfl (lv_at hl 0 rfl) ?_
    refine lv_iconst (v := 1) hx hb dX8_emptyIn_9 (by decide) ?_
    obtain ⟨M35, x36, g37, h⟩ := ce_b2_e h
    refine ce_callVi (As := [.int 1]) (rest := []) hx hb hml hown hB (c_X8_fails l X G b hk g37) ce_v_X8_fails ce_w1033 ⟨Nat.le_of_ble_eq_true rfl, Nat.le_of_ble_eq_true rfl⟩ hF hA hS (ce_rc_8 hK hA hk) hl rfl rfl (Nat.le_of_ble_eq_true rfl) dX8_emptyIn_10 ⟨Nat.le_of_ble_eq_true rfl, Nat.le_of_ble_eq_true rfl⟩ (fun H locs hA hS => ?_)
    cases h
    exact ce_iret hx hb hr hlocks hA hS dX8_emptyIn_13
def f_X8_coveredBy_L4 (k : Nat) (M : ce_M) (a1 : Int32) (rec3 : Int32 → Int32 → Option Int32) (x1 : Int32) (x2 : Int32) : Option Int32 :=
  if 16 ≤ x2 then
    some x1
  else
    ce_b1 (f_X8_of k M a1 5) (fun (x6 : Int32) =>
    if x6 = 1 then
      ce_b1 (f_X8_of k M a1 4) (fun (x13 : Int32) =>
      ce_b1 (f_X8_of k M a1 1) (fun (x15 : Int32) =>
      ce_b1 (f_X8_overlap M x13 x15 x2 2) (fun (x17 : Int32) =>
      if x17 = 0 then
        ce_nm (x1 ||| 0) (fun (x20 : Int32) =>
        ce_nm (x2 + 1) (fun (x22 : Int32) =>
        rec3 x20 x22))
      else
        ce_nm (x1 ||| (1 <<< (x2 &&& 31))) (fun (x24 : Int32) =>
        ce_nm (x2 + 1) (fun (x26 : Int32) =>
        rec3 x24 x26)))))
    else
      ce_nm (x1 ||| 0) (fun (x9 : Int32) =>
      ce_nm (x2 + 1) (fun (x11 : Int32) =>
      rec3 x9 x11)))
def f_X8_coveredBy (k : Nat) (M : ce_M) (a1 : Int32) : Option Int32 :=
  ce_lp2 (f_X8_coveredBy_L4 k M a1) ce_FU 0 0
set_option maxRecDepth 100000 in
set_option maxHeartbeats 4000000 in
theorem c_X8_coveredBy (l : Launch) (X : ce_X) (G : ce_G) (b : Nat) {k : Nat} {a1 : Int32} {M : ce_M} (hk : ce_kd k = 8) {r : Int32} (h : f_X8_coveredBy k M a1 = some r) : ce_Ct l yX8_coveredBy cX8_coveredBy 4 (some .int) 2 45 X G b [.ref (b + k), .int a1] M (some (.int r)) M := by
  refine ce_ofW (own := RX8) (by decide) rfl (Nat.le_of_ble_eq_true rfl) (fun p e s m below meth c ls hx hb hr hlocks hml hown hB hF hA hl hS => ?_)
  have hK := hF.1
  have hl : lv_has ls 4 [(0, .ref (b + k)), (1, .int a1)] := hl
  unfold f_X8_coveredBy at h
  refine lv_iconst (v := 0) hx hb dX8_coveredBy_0 (by decide) ?_
  refine lv_istore_n (lv' := [(2, .int 0), (0, .ref (b + k)), (1, .int a1)]) hx hb dX8_coveredBy_1 rfl hl (by decide) rfl (fun ls hl => ?_)
  refine lv_iconst (v := 0) hx hb dX8_coveredBy_2 (by decide) ?_
  refine lv_istore_n (lv' := [(3, .int 0), (2, .int 0), (0, .ref (b + k)), (1, .int a1)]) hx hb dX8_coveredBy_3 rfl hl (by decide) rfl (fun ls hl => ?_)
  refine ce_lp2_i (y := r) (P := fun (x1 : Int32) (x2 : Int32) => ce_Wg p l e (ce_R 2 45 0 0) s m (([.ref (b + k), .int a1] : List Value).toArray) below meth c 0 0 (MQ below (ce_Q X b M (some (.int r))) ([.ref (b + k), .int a1] : List Value).toArray s 0 0 (ce_Ab b)) X b M 4 [(0, .ref (b + k)), (1, .int a1), (2, .int x1), (3, .int x2)] 4 []) (fun rec3 ih4 x1 x2 h => ?_) _ _ _ h _ _ _ hA hS (lv_sub hl [2, 3, 1, 0] rfl)
  intro H locs ls hA hS hl
  unfold f_X8_coveredBy_L4 at h
  refine lv_iload_n hx hb dX8_coveredBy_4 rfl (lv_at hl 3 rfl) ?_
  refine lv_bipush (v := 16) hx hb dX8_coveredBy_5 (by decide) ?_
  refine lv_icmp_ge (tgt := 56) hx hb dX8_coveredBy_7 (by decide) (fun c5 => ?_) (fun c5 => ?_)
  · have h := ce_it c5 h
    refine lv_iload_n hx hb dX8_coveredBy_56 rfl (lv_at hl 2 rfl) ?_
    cases h
    exact ce_iret hx hb hr hlocks hA hS dX8_coveredBy_57
  · have h := ce_ie c5 h
    refine lv_iload_n hx hb dX8_coveredBy_10 rfl (lv_at hl 2 rfl) ?_
    refine lv_aload_n hx hb dX8_coveredBy_11 rfl (lv_at hl 0 rfl) ?_
    refine lv_iload_n hx hb dX8_coveredBy_12 rfl (lv_at hl 1 rfl) ?_
    refine lv_iconst (v := 5) hx hb dX8_coveredBy_13 (by decide) ?_
    obtain ⟨x6, g7, h⟩ := ce_b1_e h
    refine ce_callVi (As := [.int a1, .int 5]) (rest := [.int x1]) hx hb hml hown hB (c_X8_of l X G b hk g7) ce_v_X8_of ce_w1017 ⟨Nat.le_of_ble_eq_true rfl, Nat.le_of_ble_eq_true rfl⟩ hF hA hS (ce_rc_8 hK hA hk) hl rfl rfl (Nat.le_of_ble_eq_true rfl) dX8_coveredBy_14 ⟨Nat.le_of_ble_eq_true rfl, Nat.le_of_ble_eq_true rfl⟩ (fun H locs hA hS => ?_)
    refine lv_iconst (v := 1) hx hb dX8_coveredBy_17 (by decide) ?_
    refine lv_icmp_ne (tgt := 47) hx hb dX8_coveredBy_18 (by decide) (fun c8 => ?_) (fun c8 => ?_)
    · have h := ce_ie c8 h
      refine lv_iconst (v := 0) hx hb dX8_coveredBy_47 (by decide) ?_
      refine lv_ior hx hb dX8_coveredBy_48 ?_
      obtain ⟨x9, e10, h⟩ := ce_nm_e h
      refine ce_top e10 ?_
      refine lv_istore_n (lv' := [(2, .int x9), (0, .ref (b + k)), (1, .int a1), (3, .int x2)]) hx hb dX8_coveredBy_49 rfl hl (by decide) rfl (fun ls hl => ?_)
      obtain ⟨x11, e12, h⟩ := ce_nm_e h
      refine lv_iinc (v := x11) (lv' := [(3, .int x11), (2, .int x9), (0, .ref (b + k)), (1, .int a1)]) hx hb dX8_coveredBy_50 hl (k := 3) rfl (by rw [← e12]; rfl) (by decide) rfl (fun ls hl => ?_)
      refine lv_goto (tgt := 4) hx hb dX8_coveredBy_53 (by decide) ?_
      exact ih4 x9 x11 h  _ _ _ hA hS (lv_sub hl [2, 3, 1, 0] rfl)
    · have h := ce_it c8 h
      refine lv_aload_n hx hb dX8_coveredBy_21 rfl (lv_at hl 0 rfl) ?_
      refine lv_iload_n hx hb dX8_coveredBy_22 rfl (lv_at hl 1 rfl) ?_
      refine lv_iconst (v := 4) hx hb dX8_coveredBy_23 (by decide) ?_
      obtain ⟨x13, g14, h⟩ := ce_b1_e h
      refine ce_callVi (As := [.int a1, .int 4]) (rest := [.int x1]) hx hb hml hown hB (c_X8_of l X G b hk g14) ce_v_X8_of ce_w1017 ⟨Nat.le_of_ble_eq_true rfl, Nat.le_of_ble_eq_true rfl⟩ hF hA hS (ce_rc_8 hK hA hk) hl rfl rfl (Nat.le_of_ble_eq_true rfl) dX8_coveredBy_24 ⟨Nat.le_of_ble_eq_true rfl, Nat.le_of_ble_eq_true rfl⟩ (fun H locs hA hS => ?_)
      refine lv_aload_n hx hb dX8_coveredBy_27 rfl (lv_at hl 0 rfl) ?_
      refine lv_iload_n hx hb dX8_coveredBy_28 rfl (lv_at hl 1 rfl) ?_
      refine lv_iconst (v := 1) hx hb dX8_coveredBy_29 (by decide) ?_
      obtain ⟨x15, g16, h⟩ := ce_b1_e h
      refine ce_callVi (As := [.int a1, .int 1]) (rest := [.int x13, .int x1]) hx hb hml hown hB (c_X8_of l X G b hk g16) ce_v_X8_of ce_w1017 ⟨Nat.le_of_ble_eq_true rfl, Nat.le_of_ble_eq_true rfl⟩ hF hA hS (ce_rc_8 hK hA hk) hl rfl rfl (Nat.le_of_ble_eq_true rfl) dX8_coveredBy_30 ⟨Nat.le_of_ble_eq_true rfl, Nat.le_of_ble_eq_true rfl⟩ (fun H locs hA hS => ?_)
      refine lv_iload_n hx hb dX8_coveredBy_33 rfl (lv_at hl 3 rfl) ?_
      refine lv_iconst (v := 2) hx hb dX8_coveredBy_34 (by decide) ?_
      obtain ⟨x17, g18, h⟩ := ce_b1_e h
      refine ce_callSi (As := [.int x13, .int x15, .int x2, .int 2]) (rest := [.int x1]) hx hb hml hown hB (c_X8_overlap l X G b  g18) ce_s_X8_overlap ce_w1113 ⟨Nat.le_of_ble_eq_true rfl, Nat.le_of_ble_eq_true rfl⟩ hF hA hS hl rfl rfl (Nat.le_of_ble_eq_true rfl) dX8_coveredBy_35 ⟨Nat.le_of_ble_eq_true rfl, Nat.le_of_ble_eq_true rfl⟩ (fun H locs hA hS => ?_)
      refine lv_if_eq (tgt := 47) hx hb dX8_coveredBy_38 (by decide) (fun c19 => ?_) (fun c19 => ?_)
      · have h := ce_it c19 h
        refine lv_iconst (v := 0) hx hb dX8_coveredBy_47 (by decide) ?_
        refine lv_ior hx hb dX8_coveredBy_48 ?_
        obtain ⟨x20, e21, h⟩ := ce_nm_e h
        refine ce_top e21 ?_
        refine lv_istore_n (lv' := [(2, .int x20), (0, .ref (b + k)), (1, .int a1), (3, .int x2)]) hx hb dX8_coveredBy_49 rfl hl (by decide) rfl (fun ls hl => ?_)
        obtain ⟨x22, e23, h⟩ := ce_nm_e h
        refine lv_iinc (v := x22) (lv' := [(3, .int x22), (2, .int x20), (0, .ref (b + k)), (1, .int a1)]) hx hb dX8_coveredBy_50 hl (k := 3) rfl (by rw [← e23]; rfl) (by decide) rfl (fun ls hl => ?_)
        refine lv_goto (tgt := 4) hx hb dX8_coveredBy_53 (by decide) ?_
        exact ih4 x20 x22 h  _ _ _ hA hS (lv_sub hl [2, 3, 1, 0] rfl)
      · have h := ce_ie c19 h
        refine lv_iconst (v := 1) hx hb dX8_coveredBy_41 (by decide) ?_
        refine lv_iload_n hx hb dX8_coveredBy_42 rfl (lv_at hl 3 rfl) ?_
        refine lv_ishl hx hb dX8_coveredBy_43 ?_
        refine lv_goto (tgt := 48) hx hb dX8_coveredBy_44 (by decide) ?_
        refine lv_ior hx hb dX8_coveredBy_48 ?_
        obtain ⟨x24, e25, h⟩ := ce_nm_e h
        refine ce_top e25 ?_
        refine lv_istore_n (lv' := [(2, .int x24), (0, .ref (b + k)), (1, .int a1), (3, .int x2)]) hx hb dX8_coveredBy_49 rfl hl (by decide) rfl (fun ls hl => ?_)
        obtain ⟨x26, e27, h⟩ := ce_nm_e h
        refine lv_iinc (v := x26) (lv' := [(3, .int x26), (2, .int x24), (0, .ref (b + k)), (1, .int a1)]) hx hb dX8_coveredBy_50 hl (k := 3) rfl (by rw [← e27]; rfl) (by decide) rfl (fun ls hl => ?_)
        refine lv_goto (tgt := 4) hx hb dX8_coveredBy_53 (by decide) ?_
        exact ih4 x24 x26 h  _ _ _ hA hS (lv_sub hl [2, 3, 1, 0] rfl)
def f_X8_covered (k : Nat) (M : ce_M) (a1 : Int32) : Option (ce_M × Int32) :=
  ce_b1 (f_X8_isOne k M a1) (fun (x1 : Int32) =>
  if x1 = 0 then
    ce_b2 (f_X8_fails k M 1) (fun (M4 : ce_M) (x5 : Int32) =>
    some (M4, x5))
  else
    ce_b1 (f_X8_coveredBy k M a1) (fun (x7 : Int32) =>
    ce_b2 (f_X8_tells k M x7) (fun (M9 : ce_M) (x10 : Int32) =>
    some (M9, x10))))
set_option maxRecDepth 100000 in
set_option maxHeartbeats 4000000 in
theorem c_X8_covered (l : Launch) (X : ce_X) (G : ce_G) (b : Nat) {k : Nat} {a1 : Int32} {M : ce_M} (hk : ce_kd k = 8) {M' : ce_M} {r : Int32} (h : f_X8_covered k M a1 = some (M', r)) : ce_Ct l yX8_covered cX8_covered 2 (some .int) 3 68 X G b [.ref (b + k), .int a1] M (some (.int r)) M' := by
  refine ce_ofW (own := RX8) (by decide) rfl (Nat.le_of_ble_eq_true rfl) (fun p e s m below meth c ls hx hb hr hlocks hml hown hB hF hA hl hS => ?_)
  have hK := hF.1
  have hl : lv_has ls 2 [(0, .ref (b + k)), (1, .int a1)] := hl
  unfold f_X8_covered at h
  refine lv_aload_n hx hb dX8_covered_0 rfl (lv_at hl 0 rfl) ?_
  refine lv_iload_n hx hb dX8_covered_1 rfl (lv_at hl 1 rfl) ?_
  obtain ⟨x1, g2, h⟩ := ce_b1_e h
  refine ce_callVi (As := [.int a1]) (rest := []) hx hb hml hown hB (c_X8_isOne l X G b hk g2) ce_v_X8_isOne ce_w1053 ⟨Nat.le_of_ble_eq_true rfl, Nat.le_of_ble_eq_true rfl⟩ hF hA hS (ce_rc_8 hK hA hk) hl rfl rfl (Nat.le_of_ble_eq_true rfl) dX8_covered_2 ⟨Nat.le_of_ble_eq_true rfl, Nat.le_of_ble_eq_true rfl⟩ (fun H locs hA hS => ?_)
  refine lv_if_eq (tgt := 20) hx hb dX8_covered_5 (by decide) (fun c3 => ?_) (fun c3 => ?_)
  · have h := ce_it c3 h
    refine lv_aload_n hx hb dX8_covered_20 rfl (lv_at hl 0 rfl) ?_
    refine lv_iconst (v := 1) hx hb dX8_covered_21 (by decide) ?_
    obtain ⟨M4, x5, g6, h⟩ := ce_b2_e h
    refine ce_callVi (As := [.int 1]) (rest := []) hx hb hml hown hB (c_X8_fails l X G b hk g6) ce_v_X8_fails ce_w1033 ⟨Nat.le_of_ble_eq_true rfl, Nat.le_of_ble_eq_true rfl⟩ hF hA hS (ce_rc_8 hK hA hk) hl rfl rfl (Nat.le_of_ble_eq_true rfl) dX8_covered_22 ⟨Nat.le_of_ble_eq_true rfl, Nat.le_of_ble_eq_true rfl⟩ (fun H locs hA hS => ?_)
    cases h
    exact ce_iret hx hb hr hlocks hA hS dX8_covered_25
  · have h := ce_ie c3 h
    refine lv_aload_n hx hb dX8_covered_8 rfl (lv_at hl 0 rfl) ?_
    refine lv_aload_n hx hb dX8_covered_9 rfl (lv_at hl 0 rfl) ?_
    refine lv_iload_n hx hb dX8_covered_10 rfl (lv_at hl 1 rfl) ?_
    obtain ⟨x7, g8, h⟩ := ce_b1_e h
    refine ce_callVi (As := [.int a1]) (rest := [.ref (b + k)]) hx hb hml hown hB (c_X8_coveredBy l X G b hk g8) ce_v_X8_coveredBy ce_w1231 ⟨Nat.le_of_ble_eq_true rfl, Nat.le_of_ble_eq_true rfl⟩ hF hA hS (ce_rc_8 hK hA hk) hl rfl rfl (Nat.le_of_ble_eq_true rfl) dX8_covered_11 ⟨Nat.le_of_ble_eq_true rfl, Nat.le_of_ble_eq_true rfl⟩ (fun H locs hA hS => ?_)
    obtain ⟨M9, x10, g11, h⟩ := ce_b2_e h
    refine ce_callVi (As := [.int x7]) (rest := []) hx hb hml hown hB (c_X8_tells l X G b hk g11) ce_v_X8_tells ce_w1041 ⟨Nat.le_of_ble_eq_true rfl, Nat.le_of_ble_eq_true rfl⟩ hF hA hS (ce_rc_8 hK hA hk) hl rfl rfl (Nat.le_of_ble_eq_true rfl) dX8_covered_14 ⟨Nat.le_of_ble_eq_true rfl, Nat.le_of_ble_eq_true rfl⟩ (fun H locs hA hS => ?_)
    refine lv_goto (tgt := 25) hx hb dX8_covered_17 (by decide) ?_
    cases h
    exact ce_iret hx hb hr hlocks hA hS dX8_covered_25
def f_X8_busiestLeaf_L6 (k : Nat) (M : ce_M) (rec4 : Int32 → Int32 → Int32 → Option Int32) (x1 : Int32) (x2 : Int32) (x3 : Int32) : Option Int32 :=
  if 16 ≤ x3 then
    some x1
  else
    ce_b1 (f_X8_leafTold k M x3 2) (fun (x7 : Int32) =>
    ce_nm (fun (x9 : Int32) =>
      if x7 ≤ x2 then
        ce_nm (x3 + 1) (fun (x12 : Int32) =>
        rec4 x9 x2 x12)
      else
        ce_nm (x3 + 1) (fun (x14 : Int32) =>
        rec4 x9 x7 x14)) (fun (u10 : Int32 → Option Int32) =>
    if x7 ≤ x2 then
      u10 x1
    else
      u10 x3))
def f_X8_busiestLeaf (k : Nat) (M : ce_M) : Option Int32 :=
  ce_lp3 (f_X8_busiestLeaf_L6 k M) ce_FU (-1) 0 0
set_option maxRecDepth 100000 in
set_option maxHeartbeats 4000000 in
theorem c_X8_busiestLeaf (l : Launch) (X : ce_X) (G : ce_G) (b : Nat) {k : Nat} {M : ce_M} (hk : ce_kd k = 8) {r : Int32} (h : f_X8_busiestLeaf k M = some r) : ce_Ct l yX8_busiestLeaf cX8_busiestLeaf 5 (some .int) 2 48 X G b [.ref (b + k)] M (some (.int r)) M := by
  refine ce_ofW (own := RX8) (by decide) rfl (Nat.le_of_ble_eq_true rfl) (fun p e s m below meth c ls hx hb hr hlocks hml hown hB hF hA hl hS => ?_)
  have hK := hF.1
  have hl : lv_has ls 5 [(0, .ref (b + k))] := hl
  unfold f_X8_busiestLeaf at h
  refine lv_iconst (v := (-1)) hx hb dX8_busiestLeaf_0 (by decide) ?_
  refine lv_istore_n (lv' := [(1, .int (-1)), (0, .ref (b + k))]) hx hb dX8_busiestLeaf_1 rfl hl (by decide) rfl (fun ls hl => ?_)
  refine lv_iconst (v := 0) hx hb dX8_busiestLeaf_2 (by decide) ?_
  refine lv_istore_n (lv' := [(2, .int 0), (1, .int (-1)), (0, .ref (b + k))]) hx hb dX8_busiestLeaf_3 rfl hl (by decide) rfl (fun ls hl => ?_)
  refine lv_iconst (v := 0) hx hb dX8_busiestLeaf_4 (by decide) ?_
  refine lv_istore_n (lv' := [(3, .int 0), (2, .int 0), (1, .int (-1)), (0, .ref (b + k))]) hx hb dX8_busiestLeaf_5 rfl hl (by decide) rfl (fun ls hl => ?_)
  refine ce_lp3_i (y := r) (P := fun (x1 : Int32) (x2 : Int32) (x3 : Int32) => ce_Wg p l e (ce_R 2 48 0 0) s m (([.ref (b + k)] : List Value).toArray) below meth c 0 0 (MQ below (ce_Q X b M (some (.int r))) ([.ref (b + k)] : List Value).toArray s 0 0 (ce_Ab b)) X b M 5 [(0, .ref (b + k)), (1, .int x1), (2, .int x2), (3, .int x3)] 6 []) (fun rec4 ih5 x1 x2 x3 h => ?_) _ _ _ _ h _ _ _ hA hS (lv_sub hl [3, 2, 1, 0] rfl)
  intro H locs ls hA hS hl
  unfold f_X8_busiestLeaf_L6 at h
  refine lv_iload_n hx hb dX8_busiestLeaf_6 rfl (lv_at hl 3 rfl) ?_
  refine lv_bipush (v := 16) hx hb dX8_busiestLeaf_7 (by decide) ?_
  refine lv_icmp_ge (tgt := 51) hx hb dX8_busiestLeaf_9 (by decide) (fun c6 => ?_) (fun c6 => ?_)
  · have h := ce_it c6 h
    refine lv_iload_n hx hb dX8_busiestLeaf_51 rfl (lv_at hl 1 rfl) ?_
    cases h
    exact ce_iret hx hb hr hlocks hA hS dX8_busiestLeaf_52
  · have h := ce_ie c6 h
    refine lv_aload_n hx hb dX8_busiestLeaf_12 rfl (lv_at hl 0 rfl) ?_
    refine lv_iload_n hx hb dX8_busiestLeaf_13 rfl (lv_at hl 3 rfl) ?_
    refine lv_iconst (v := 2) hx hb dX8_busiestLeaf_14 (by decide) ?_
    obtain ⟨x7, g8, h⟩ := ce_b1_e h
    refine ce_callVi (As := [.int x3, .int 2]) (rest := []) hx hb hml hown hB (c_X8_leafTold l X G b hk g8) ce_v_X8_leafTold ce_w1187 ⟨Nat.le_of_ble_eq_true rfl, Nat.le_of_ble_eq_true rfl⟩ hF hA hS (ce_rc_8 hK hA hk) hl rfl rfl (Nat.le_of_ble_eq_true rfl) dX8_busiestLeaf_15 ⟨Nat.le_of_ble_eq_true rfl, Nat.le_of_ble_eq_true rfl⟩ (fun H locs hA hS => ?_)
    refine lv_istore (lv' := [(4, .int x7), (0, .ref (b + k)), (1, .int x1), (2, .int x2), (3, .int x3)]) hx hb dX8_busiestLeaf_18 hl (by decide) rfl (fun ls hl => ?_)
    refine lv_iload hx hb dX8_busiestLeaf_20 (lv_at hl 0 rfl) ?_
    refine lv_iload_n hx hb dX8_busiestLeaf_22 rfl (lv_at hl 3 rfl) ?_
    obtain ⟨u10, e16, h⟩ := ce_nm_e h
    have Ju10 : ∀ (x9 : Int32), u10 x9 = some r → ce_Wg p l e (ce_R 2 48 0 0) s m (([.ref (b + k)] : List Value).toArray) below meth c 0 0 (MQ below (ce_Q X b M (some (.int r))) ([.ref (b + k)] : List Value).toArray s 0 0 (ce_Ab b)) X b M 5 [(0, .ref (b + k)), (2, .int x2), (3, .int x3), (4, .int x7)] 31 [.int x9] := by
      intro x9 h  H locs ls hA hS hl
      subst e16
      refine lv_istore_n (lv' := [(1, .int x9), (0, .ref (b + k)), (2, .int x2), (3, .int x3), (4, .int x7)]) hx hb dX8_busiestLeaf_31 rfl hl (by decide) rfl (fun ls hl => ?_)
      refine lv_iload hx hb dX8_busiestLeaf_32 (lv_at hl 4 rfl) ?_
      refine lv_iload_n hx hb dX8_busiestLeaf_34 rfl (lv_at hl 2 rfl) ?_
      refine lv_icmp_le (tgt := 43) hx hb dX8_busiestLeaf_35 (by decide) (fun c11 => ?_) (fun c11 => ?_)
      · have h := ce_it c11 h
        refine lv_iload_n hx hb dX8_busiestLeaf_43 rfl (lv_at hl 2 rfl) ?_
        refine lv_istore_n (lv' := [(2, .int x2), (1, .int x9), (0, .ref (b + k)), (3, .int x3), (4, .int x7)]) hx hb dX8_busiestLeaf_44 rfl hl (by decide) rfl (fun ls hl => ?_)
        obtain ⟨x12, e13, h⟩ := ce_nm_e h
        refine lv_iinc (v := x12) (lv' := [(3, .int x12), (2, .int x2), (1, .int x9), (0, .ref (b + k)), (4, .int x7)]) hx hb dX8_busiestLeaf_45 hl (k := 3) rfl (by rw [← e13]; rfl) (by decide) rfl (fun ls hl => ?_)
        refine lv_goto (tgt := 6) hx hb dX8_busiestLeaf_48 (by decide) ?_
        exact ih5 x9 x2 x12 h  _ _ _ hA hS (lv_sub hl [3, 2, 1, 0] rfl)
      · have h := ce_ie c11 h
        refine lv_iload hx hb dX8_busiestLeaf_38 (lv_at hl 4 rfl) ?_
        refine lv_goto (tgt := 44) hx hb dX8_busiestLeaf_40 (by decide) ?_
        refine lv_istore_n (lv' := [(2, .int x7), (1, .int x9), (0, .ref (b + k)), (3, .int x3), (4, .int x7)]) hx hb dX8_busiestLeaf_44 rfl hl (by decide) rfl (fun ls hl => ?_)
        obtain ⟨x14, e15, h⟩ := ce_nm_e h
        refine lv_iinc (v := x14) (lv' := [(3, .int x14), (2, .int x7), (1, .int x9), (0, .ref (b + k)), (4, .int x7)]) hx hb dX8_busiestLeaf_45 hl (k := 3) rfl (by rw [← e15]; rfl) (by decide) rfl (fun ls hl => ?_)
        refine lv_goto (tgt := 6) hx hb dX8_busiestLeaf_48 (by decide) ?_
        exact ih5 x9 x7 x14 h  _ _ _ hA hS (lv_sub hl [3, 2, 1, 0] rfl)
    refine lv_icmp_le (tgt := 30) hx hb dX8_busiestLeaf_23 (by decide) (fun c17 => ?_) (fun c17 => ?_)
    · have h := ce_it c17 h
      refine lv_iload_n hx hb dX8_busiestLeaf_30 rfl (lv_at hl 2 rfl) ?_
      exact Ju10 x1 h  _ _ _ hA hS (lv_sub hl [1, 3, 4, 0] rfl)
    · have h := ce_ie c17 h
      refine lv_iload_n hx hb dX8_busiestLeaf_26 rfl (lv_at hl 4 rfl) ?_
      refine lv_goto (tgt := 31) hx hb dX8_busiestLeaf_27 (by decide) ?_
      exact Ju10 x3 h  _ _ _ hA hS (lv_sub hl [1, 3, 4, 0] rfl)
def f_X8_busiest (k : Nat) (M : ce_M) : Option (ce_M × Int32) :=
  ce_b1 (f_X8_busiestLeaf k M) (fun (x1 : Int32) =>
  ce_b2 (f_X8_tells k M x1) (fun (M3 : ce_M) (x4 : Int32) =>
  some (M3, x4)))
set_option maxRecDepth 100000 in
set_option maxHeartbeats 4000000 in
theorem c_X8_busiest (l : Launch) (X : ce_X) (G : ce_G) (b : Nat) {k : Nat} {M : ce_M} (hk : ce_kd k = 8) {M' : ce_M} {r : Int32} (h : f_X8_busiest k M = some (M', r)) : ce_Ct l yX8_busiest cX8_busiest 1 (some .int) 3 72 X G b [.ref (b + k)] M (some (.int r)) M' := by
  refine ce_ofW (own := RX8) (by decide) rfl (Nat.le_of_ble_eq_true rfl) (fun p e s m below meth c ls hx hb hr hlocks hml hown hB hF hA hl hS => ?_)
  have hK := hF.1
  have hl : lv_has ls 1 [(0, .ref (b + k))] := hl
  unfold f_X8_busiest at h
  refine lv_aload_n hx hb dX8_busiest_0 rfl (lv_at hl 0 rfl) ?_
  refine lv_aload_n hx hb dX8_busiest_1 rfl (lv_at hl 0 rfl) ?_
  obtain ⟨x1, g2, h⟩ := ce_b1_e h
  refine ce_callVi (As := []) (rest := [.ref (b + k)]) hx hb hml hown hB (c_X8_busiestLeaf l X G b hk g2) ce_v_X8_busiestLeaf ce_w1239 ⟨Nat.le_of_ble_eq_true rfl, Nat.le_of_ble_eq_true rfl⟩ hF hA hS (ce_rc_8 hK hA hk) hl rfl rfl (Nat.le_of_ble_eq_true rfl) dX8_busiest_2 ⟨Nat.le_of_ble_eq_true rfl, Nat.le_of_ble_eq_true rfl⟩ (fun H locs hA hS => ?_)
  obtain ⟨M3, x4, g5, h⟩ := ce_b2_e h
  refine ce_callVi (As := [.int x1]) (rest := []) hx hb hml hown hB (c_X8_tells l X G b hk g5) ce_v_X8_tells ce_w1041 ⟨Nat.le_of_ble_eq_true rfl, Nat.le_of_ble_eq_true rfl⟩ hF hA hS (ce_rc_8 hK hA hk) hl rfl rfl (Nat.le_of_ble_eq_true rfl) dX8_busiest_5 ⟨Nat.le_of_ble_eq_true rfl, Nat.le_of_ble_eq_true rfl⟩ (fun H locs hA hS => ?_)
  cases h
  exact ce_iret hx hb hr hlocks hA hS dX8_busiest_8
def f_X8_type (k : Nat) (M : ce_M) (a1 : Int32) : Option (ce_M × Int32) :=
  ce_b1 (f_X8_in M a1 0 127) (fun (x1 : Int32) =>
  if x1 = 0 then
    ce_b2 (f_X8_fails k M 1) (fun (M16 : ce_M) (x17 : Int32) =>
    some (M16, x17))
  else
    if (ce_rd M k 8) = 150 then
      ce_b2 (f_X8_fails k M 2) (fun (M13 : ce_M) (x14 : Int32) =>
      some (M13, x14))
    else
      ce_gi (ce_rd M k 8) 150 (ce_nm (ce_wr M (k + 5) (Int32.toNatClampNeg (ce_rd M k 8)) a1) (fun (M5 : ce_M) =>
      ce_nm (ce_wr M5 k 8 ((ce_rd M5 k 8) + 1)) (fun (M8 : ce_M) =>
      ce_b2 (f_X8_tells k M8 (ce_rd M8 k 8)) (fun (M10 : ce_M) (x11 : Int32) =>
      some (M10, x11))))))
set_option maxRecDepth 100000 in
set_option maxHeartbeats 4000000 in
theorem c_X8_type (l : Launch) (X : ce_X) (G : ce_G) (b : Nat) {k : Nat} {a1 : Int32} {M : ce_M} (hk : ce_kd k = 8) {M' : ce_M} {r : Int32} (h : f_X8_type k M a1 = some (M', r)) : ce_Ct l yX8_type cX8_type 2 (some .int) 1 22 X G b [.ref (b + k), .int a1] M (some (.int r)) M' := by
  refine ce_ofW (own := RX8) (by decide) rfl (Nat.le_of_ble_eq_true rfl) (fun p e s m below meth c ls hx hb hr hlocks hml hown hB hF hA hl hS => ?_)
  have hK := hF.1
  have hl : lv_has ls 2 [(0, .ref (b + k)), (1, .int a1)] := hl
  unfold f_X8_type at h
  refine lv_iload_n hx hb dX8_type_0 rfl (lv_at hl 1 rfl) ?_
  refine lv_iconst (v := 0) hx hb dX8_type_1 (by decide) ?_
  refine lv_bipush (v := 127) hx hb dX8_type_2 (by decide) ?_
  obtain ⟨x1, g2, h⟩ := ce_b1_e h
  refine ce_callSi (As := [.int a1, .int 0, .int 127]) (rest := []) hx hb hml hown hB (c_X8_in l X G b  g2) ce_s_X8_in ce_w1003 ⟨Nat.le_of_ble_eq_true rfl, Nat.le_of_ble_eq_true rfl⟩ hF hA hS hl rfl rfl (Nat.le_of_ble_eq_true rfl) dX8_type_4 ⟨Nat.le_of_ble_eq_true rfl, Nat.le_of_ble_eq_true rfl⟩ (fun H locs hA hS => ?_)
  refine lv_if_ne (tgt := 16) hx hb dX8_type_7 (by decide) (fun c3 => ?_) (fun c3 => ?_)
  · have h := ce_ie c3 h
    refine lv_aload_n hx hb dX8_type_16 rfl (lv_at hl 0 rfl) ?_
    refine ce_g_8_8 hx hb hB hown hK hA hk ce_w952 dX8_type_17 ?_
    refine lv_sipush (v := 150) hx hb dX8_type_20 (by decide) ?_
    refine lv_icmp_ne (tgt := 32) hx hb dX8_type_23 (by decide) (fun c4 => ?_) (fun c4 => ?_)
    · have h := ce_ie c4 h
      refine lv_aload_n hx hb dX8_type_32 rfl (lv_at hl 0 rfl) ?_
      refine ce_g_8_7 hx hb hB hown hK hA hk ce_w951 dX8_type_33 ?_
      refine lv_aload_n hx hb dX8_type_36 rfl (lv_at hl 0 rfl) ?_
      refine ce_g_8_8 hx hb hB hown hK hA hk ce_w952 dX8_type_37 ?_
      refine lv_iload_n hx hb dX8_type_40 rfl (lv_at hl 1 rfl) ?_
      obtain ⟨i6, h⟩ := ce_gi_e h
      obtain ⟨M5, e7, h⟩ := ce_nm_e h
      refine ce_iast hx hb hK hA hS 150 (ce_kf_8_7 hk) i6 dX8_type_41 e7 (fun H locs hA hS => ?_)
      refine lv_aload_n hx hb dX8_type_42 rfl (lv_at hl 0 rfl) ?_
      refine lv_dup hx hb dX8_type_43 rfl ?_
      refine ce_g_8_8 hx hb hB hown hK hA hk ce_w952 dX8_type_44 ?_
      refine lv_iconst (v := 1) hx hb dX8_type_47 (by decide) ?_
      refine lv_iadd hx hb dX8_type_48 ?_
      obtain ⟨M8, e9, h⟩ := ce_nm_e h
      refine ce_p_8_8 hx hb hB hown hK hA hS hk ce_w952 dX8_type_49 e9 (fun H locs hA hS => ?_)
      refine lv_aload_n hx hb dX8_type_52 rfl (lv_at hl 0 rfl) ?_
      refine lv_aload_n hx hb dX8_type_53 rfl (lv_at hl 0 rfl) ?_
      refine ce_g_8_8 hx hb hB hown hK hA hk ce_w952 dX8_type_54 ?_
      obtain ⟨M10, x11, g12, h⟩ := ce_b2_e h
      refine ce_callVi (As := [.int (ce_rd M8 k 8)]) (rest := []) hx hb hml hown hB (c_X8_tells l X G b hk g12) ce_v_X8_tells ce_w1041 ⟨Nat.le_of_ble_eq_true rfl, Nat.le_of_ble_eq_true rfl⟩ hF hA hS (ce_rc_8 hK hA hk) hl rfl rfl (Nat.le_of_ble_eq_true rfl) dX8_type_57 ⟨Nat.le_of_ble_eq_true rfl, Nat.le_of_ble_eq_true rfl⟩ (fun H locs hA hS => ?_)
      cases h
      exact ce_iret hx hb hr hlocks hA hS dX8_type_60
    · have h := ce_it c4 h
      refine lv_aload_n hx hb dX8_type_26 rfl (lv_at hl 0 rfl) ?_
      refine lv_iconst (v := 2) hx hb dX8_type_27 (by decide) ?_
      obtain ⟨M13, x14, g15, h⟩ := ce_b2_e h
      refine ce_callVi (As := [.int 2]) (rest := []) hx hb hml hown hB (c_X8_fails l X G b hk g15) ce_v_X8_fails ce_w1033 ⟨Nat.le_of_ble_eq_true rfl, Nat.le_of_ble_eq_true rfl⟩ hF hA hS (ce_rc_8 hK hA hk) hl rfl rfl (Nat.le_of_ble_eq_true rfl) dX8_type_28 ⟨Nat.le_of_ble_eq_true rfl, Nat.le_of_ble_eq_true rfl⟩ (fun H locs hA hS => ?_)
      cases h
      exact ce_iret hx hb hr hlocks hA hS dX8_type_31
  · have h := ce_it c3 h
    refine lv_aload_n hx hb dX8_type_10 rfl (lv_at hl 0 rfl) ?_
    refine lv_iconst (v := 1) hx hb dX8_type_11 (by decide) ?_
    obtain ⟨M16, x17, g18, h⟩ := ce_b2_e h
    refine ce_callVi (As := [.int 1]) (rest := []) hx hb hml hown hB (c_X8_fails l X G b hk g18) ce_v_X8_fails ce_w1033 ⟨Nat.le_of_ble_eq_true rfl, Nat.le_of_ble_eq_true rfl⟩ hF hA hS (ce_rc_8 hK hA hk) hl rfl rfl (Nat.le_of_ble_eq_true rfl) dX8_type_12 ⟨Nat.le_of_ble_eq_true rfl, Nat.le_of_ble_eq_true rfl⟩ (fun H locs hA hS => ?_)
    cases h
    exact ce_iret hx hb hr hlocks hA hS dX8_type_15
def f_X8_clearCommands (k : Nat) (M : ce_M) : Option (ce_M × Int32) :=
  ce_nm (ce_rd M k 8) (fun (x1 : Int32) =>
  ce_nm (ce_wr M k 8 0) (fun (M3 : ce_M) =>
  ce_b2 (f_X8_tells k M3 x1) (fun (M5 : ce_M) (x6 : Int32) =>
  some (M5, x6))))
set_option maxRecDepth 100000 in
set_option maxHeartbeats 4000000 in
theorem c_X8_clearCommands (l : Launch) (X : ce_X) (G : ce_G) (b : Nat) {k : Nat} {M : ce_M} (hk : ce_kd k = 8) {M' : ce_M} {r : Int32} (h : f_X8_clearCommands k M = some (M', r)) : ce_Ct l yX8_clearCommands cX8_clearCommands 2 (some .int) 1 21 X G b [.ref (b + k)] M (some (.int r)) M' := by
  refine ce_ofW (own := RX8) (by decide) rfl (Nat.le_of_ble_eq_true rfl) (fun p e s m below meth c ls hx hb hr hlocks hml hown hB hF hA hl hS => ?_)
  have hK := hF.1
  have hl : lv_has ls 2 [(0, .ref (b + k))] := hl
  unfold f_X8_clearCommands at h
  refine lv_aload_n hx hb dX8_clearCommands_0 rfl (lv_at hl 0 rfl) ?_
  refine ce_g_8_8 hx hb hB hown hK hA hk ce_w952 dX8_clearCommands_1 ?_
  obtain ⟨x1, e2, h⟩ := ce_nm_e h
  refine ce_top e2 ?_
  refine lv_istore_n (lv' := [(1, .int x1), (0, .ref (b + k))]) hx hb dX8_clearCommands_4 rfl hl (by decide) rfl (fun ls hl => ?_)
  refine lv_aload_n hx hb dX8_clearCommands_5 rfl (lv_at hl 1 rfl) ?_
  refine lv_iconst (v := 0) hx hb dX8_clearCommands_6 (by decide) ?_
  obtain ⟨M3, e4, h⟩ := ce_nm_e h
  refine ce_p_8_8 hx hb hB hown hK hA hS hk ce_w952 dX8_clearCommands_7 e4 (fun H locs hA hS => ?_)
  refine lv_aload_n hx hb dX8_clearCommands_10 rfl (lv_at hl 1 rfl) ?_
  refine lv_iload_n hx hb dX8_clearCommands_11 rfl (lv_at hl 0 rfl) ?_
  obtain ⟨M5, x6, g7, h⟩ := ce_b2_e h
  refine ce_callVi (As := [.int x1]) (rest := []) hx hb hml hown hB (c_X8_tells l X G b hk g7) ce_v_X8_tells ce_w1041 ⟨Nat.le_of_ble_eq_true rfl, Nat.le_of_ble_eq_true rfl⟩ hF hA hS (ce_rc_8 hK hA hk) hl rfl rfl (Nat.le_of_ble_eq_true rfl) dX8_clearCommands_12 ⟨Nat.le_of_ble_eq_true rfl, Nat.le_of_ble_eq_true rfl⟩ (fun H locs hA hS => ?_)
  cases h
  exact ce_iret hx hb hr hlocks hA hS dX8_clearCommands_15
def f_X8_isAt (k : Nat) (M : ce_M) (a1 : Int32) (a2 : Int32) : Option Int32 :=
  if (ce_rd M k 8) ≤ (ce_rd M k 9) then
    some 0
  else
    ce_gi (ce_rd M k 9) 150 (ce_nm (ce_rd M (k + 5) (Int32.toNatClampNeg (ce_rd M k 9))) (fun (x2 : Int32) =>
    ce_b1 (f_X8_in M x2 a1 a2) (fun (x5 : Int32) =>
    if x5 = 0 then
      some 0
    else
      some 1)))
set_option maxRecDepth 100000 in
set_option maxHeartbeats 4000000 in
theorem c_X8_isAt (l : Launch) (X : ce_X) (G : ce_G) (b : Nat) {k : Nat} {a1 : Int32} {a2 : Int32} {M : ce_M} (hk : ce_kd k = 8) {r : Int32} (h : f_X8_isAt k M a1 a2 = some r) : ce_Ct l yX8_isAt cX8_isAt 3 (some .boolean) 1 22 X G b [.ref (b + k), .int a1, .int a2] M (some (.int r)) M := by
  refine ce_ofW (own := RX8) (by decide) rfl (Nat.le_of_ble_eq_true rfl) (fun p e s m below meth c ls hx hb hr hlocks hml hown hB hF hA hl hS => ?_)
  have hK := hF.1
  have hl : lv_has ls 3 [(0, .ref (b + k)), (1, .int a1), (2, .int a2)] := hl
  unfold f_X8_isAt at h
  refine lv_aload_n hx hb dX8_isAt_0 rfl (lv_at hl 0 rfl) ?_
  refine ce_g_8_9 hx hb hB hown hK hA hk ce_w953 dX8_isAt_1 ?_
  refine lv_aload_n hx hb dX8_isAt_4 rfl (lv_at hl 0 rfl) ?_
  refine ce_g_8_8 hx hb hB hown hK hA hk ce_w952 dX8_isAt_5 ?_
  refine lv_icmp_ge (tgt := 32) hx hb dX8_isAt_8 (by decide) (fun c1 => ?_) (fun c1 => ?_)
  · have h := ce_it c1 h
    refine lv_iconst (v := 0) hx hb dX8_isAt_32 (by decide) ?_
    cases h
    exact ce_zret hx hb hr hlocks (Or.inl rfl) hA hS dX8_isAt_33
  · have h := ce_ie c1 h
    refine lv_aload_n hx hb dX8_isAt_11 rfl (lv_at hl 0 rfl) ?_
    refine ce_g_8_7 hx hb hB hown hK hA hk ce_w951 dX8_isAt_12 ?_
    refine lv_aload_n hx hb dX8_isAt_15 rfl (lv_at hl 0 rfl) ?_
    refine ce_g_8_9 hx hb hB hown hK hA hk ce_w953 dX8_isAt_16 ?_
    obtain ⟨i3, h⟩ := ce_gi_e h
    obtain ⟨x2, e4, h⟩ := ce_nm_e h
    refine ce_iald hx hb hK hA 150 (ce_kf_8_7 hk) i3 e4 dX8_isAt_19 ?_
    refine lv_iload_n hx hb dX8_isAt_20 rfl (lv_at hl 1 rfl) ?_
    refine lv_iload_n hx hb dX8_isAt_21 rfl (lv_at hl 2 rfl) ?_
    obtain ⟨x5, g6, h⟩ := ce_b1_e h
    refine ce_callSi (As := [.int x2, .int a1, .int a2]) (rest := []) hx hb hml hown hB (c_X8_in l X G b  g6) ce_s_X8_in ce_w1003 ⟨Nat.le_of_ble_eq_true rfl, Nat.le_of_ble_eq_true rfl⟩ hF hA hS hl rfl rfl (Nat.le_of_ble_eq_true rfl) dX8_isAt_22 ⟨Nat.le_of_ble_eq_true rfl, Nat.le_of_ble_eq_true rfl⟩ (fun H locs hA hS => ?_)
    refine lv_if_eq (tgt := 32) hx hb dX8_isAt_25 (by decide) (fun c7 => ?_) (fun c7 => ?_)
    · have h := ce_it c7 h
      refine lv_iconst (v := 0) hx hb dX8_isAt_32 (by decide) ?_
      cases h
      exact ce_zret hx hb hr hlocks (Or.inl rfl) hA hS dX8_isAt_33
    · have h := ce_ie c7 h
      refine lv_iconst (v := 1) hx hb dX8_isAt_28 (by decide) ?_
      refine lv_goto (tgt := 33) hx hb dX8_isAt_29 (by decide) ?_
      cases h
      exact ce_zret hx hb hr hlocks (Or.inr rfl) hA hS dX8_isAt_33
def f_X8_skips_L0 (k : Nat) (rec2 : ce_M → Option ce_M) (M1 : ce_M) : Option ce_M :=
  ce_b1 (f_X8_isAt k M1 32 32) (fun (x4 : Int32) =>
  if x4 = 0 then
    some M1
  else
    ce_nm (ce_wr M1 k 9 ((ce_rd M1 k 9) + 1)) (fun (M7 : ce_M) =>
    rec2 M7))
def f_X8_skips (k : Nat) (M : ce_M) : Option ce_M :=
  ce_lp1 (f_X8_skips_L0 k) ce_FU M
set_option maxRecDepth 100000 in
set_option maxHeartbeats 4000000 in
theorem c_X8_skips (l : Launch) (X : ce_X) (G : ce_G) (b : Nat) {k : Nat} {M : ce_M} (hk : ce_kd k = 8) {M' : ce_M} (h : f_X8_skips k M = some M') : ce_Ct l yX8_skips cX8_skips 1 none 2 44 X G b [.ref (b + k)] M none M' := by
  refine ce_ofW (own := RX8) (by decide) rfl (Nat.le_of_ble_eq_true rfl) (fun p e s m below meth c ls hx hb hr hlocks hml hown hB hF hA hl hS => ?_)
  have hK := hF.1
  have hl : lv_has ls 1 [(0, .ref (b + k))] := hl
  unfold f_X8_skips at h
  refine ce_lp1_i (y := M') (P := fun (M1 : ce_M) => ce_Wg p l e (ce_R 2 44 0 0) s m (([.ref (b + k)] : List Value).toArray) below meth c 0 0 (MQ below (ce_Q X b M' none) ([.ref (b + k)] : List Value).toArray s 0 0 (ce_Ab b)) X b M1 1 [(0, .ref (b + k))] 0 []) (fun rec2 ih3 M1 h => ?_) _ _ h _ _ _ hA hS (lv_sub hl [0] rfl)
  intro H locs ls hA hS hl
  unfold f_X8_skips_L0 at h
  refine lv_aload_n hx hb dX8_skips_0 rfl (lv_at hl 0 rfl) ?_
  refine lv_bipush (v := 32) hx hb dX8_skips_1 (by decide) ?_
  refine lv_bipush (v := 32) hx hb dX8_skips_3 (by decide) ?_
  obtain ⟨x4, g5, h⟩ := ce_b1_e h
  refine ce_callVi (As := [.int 32, .int 32]) (rest := []) hx hb hml hown hB (c_X8_isAt l X G b hk g5) ce_v_X8_isAt ce_w1259 ⟨Nat.le_of_ble_eq_true rfl, Nat.le_of_ble_eq_true rfl⟩ hF hA hS (ce_rc_8 hK hA hk) hl rfl rfl (Nat.le_of_ble_eq_true rfl) dX8_skips_5 ⟨Nat.le_of_ble_eq_true rfl, Nat.le_of_ble_eq_true rfl⟩ (fun H locs hA hS => ?_)
  refine lv_if_eq (tgt := 24) hx hb dX8_skips_8 (by decide) (fun c6 => ?_) (fun c6 => ?_)
  · have h := ce_it c6 h
    cases h
    exact ce_vret hx hb hr hlocks hA hS dX8_skips_24
  · have h := ce_ie c6 h
    refine lv_aload_n hx hb dX8_skips_11 rfl (lv_at hl 0 rfl) ?_
    refine lv_dup hx hb dX8_skips_12 rfl ?_
    refine ce_g_8_9 hx hb hB hown hK hA hk ce_w953 dX8_skips_13 ?_
    refine lv_iconst (v := 1) hx hb dX8_skips_16 (by decide) ?_
    refine lv_iadd hx hb dX8_skips_17 ?_
    obtain ⟨M7, e8, h⟩ := ce_nm_e h
    refine ce_p_8_9 hx hb hB hown hK hA hS hk ce_w953 dX8_skips_18 e8 (fun H locs hA hS => ?_)
    refine lv_goto (tgt := 0) hx hb dX8_skips_21 (by decide) ?_
    exact ih3 M7 h  _ _ _ hA hS (lv_sub hl [0] rfl)
def f_X8_wordOf (M : ce_M) (a1 : Int32) : Option Int32 :=
  if a1 = 239 then
    some 2
  else
  if a1 = 19636 then
    some 4
  else
  if a1 = 343342 then
    some 0
  else
  if a1 = 394885 then
    some 1
  else
  if a1 = 578868 then
    some 5
  else
  if a1 = 5969364 then
    some 3
  else
  if a1 = 21269875 then
    some 6
  else
    some (-1)
set_option maxRecDepth 100000 in
set_option maxHeartbeats 4000000 in
theorem c_X8_wordOf (l : Launch) (X : ce_X) (G : ce_G) (b : Nat) {a1 : Int32} {M : ce_M}  {r : Int32} (h : f_X8_wordOf M a1 = some r) : ce_Ct l yX8_wordOf cX8_wordOf 1 (some .int) 0 0 X G b [.int a1] M (some (.int r)) M := by
  refine ce_ofW (own := RX8) (by decide) rfl (Nat.le_of_ble_eq_true rfl) (fun p e s m below meth c ls hx hb hr hlocks hml hown hB hF hA hl hS => ?_)
  have hK := hF.1
  have hl : lv_has ls 1 [(0, .int a1)] := hl
  unfold f_X8_wordOf at h
  refine lv_iload_n hx hb dX8_wordOf_0 rfl (lv_at hl 0 rfl) ?_
  by_cases c1 : a1 = 239
  · have h := ce_it c1 h
    refine lv_lookup (off := 63) (tgt := 64) hx hb dX8_wordOf_1 (by decide) (by rw [c1]; decide) (by decide) ?_
    refine lv_iconst (v := 2) hx hb dX8_wordOf_64 (by decide) ?_
    cases h
    exact ce_iret hx hb hr hlocks hA hS dX8_wordOf_65
  have h := ce_ie c1 h
  by_cases c2 : a1 = 19636
  · have h := ce_it c2 h
    refine lv_lookup (off := 67) (tgt := 68) hx hb dX8_wordOf_1 (by decide) (by rw [c2]; decide) (by decide) ?_
    refine lv_iconst (v := 4) hx hb dX8_wordOf_68 (by decide) ?_
    cases h
    exact ce_iret hx hb hr hlocks hA hS dX8_wordOf_69
  have h := ce_ie c2 h
  by_cases c3 : a1 = 343342
  · have h := ce_it c3 h
    refine lv_lookup (off := 59) (tgt := 60) hx hb dX8_wordOf_1 (by decide) (by rw [c3]; decide) (by decide) ?_
    refine lv_iconst (v := 0) hx hb dX8_wordOf_60 (by decide) ?_
    cases h
    exact ce_iret hx hb hr hlocks hA hS dX8_wordOf_61
  have h := ce_ie c3 h
  by_cases c4 : a1 = 394885
  · have h := ce_it c4 h
    refine lv_lookup (off := 61) (tgt := 62) hx hb dX8_wordOf_1 (by decide) (by rw [c4]; decide) (by decide) ?_
    refine lv_iconst (v := 1) hx hb dX8_wordOf_62 (by decide) ?_
    cases h
    exact ce_iret hx hb hr hlocks hA hS dX8_wordOf_63
  have h := ce_ie c4 h
  by_cases c5 : a1 = 578868
  · have h := ce_it c5 h
    refine lv_lookup (off := 69) (tgt := 70) hx hb dX8_wordOf_1 (by decide) (by rw [c5]; decide) (by decide) ?_
    refine lv_iconst (v := 5) hx hb dX8_wordOf_70 (by decide) ?_
    cases h
    exact ce_iret hx hb hr hlocks hA hS dX8_wordOf_71
  have h := ce_ie c5 h
  by_cases c6 : a1 = 5969364
  · have h := ce_it c6 h
    refine lv_lookup (off := 65) (tgt := 66) hx hb dX8_wordOf_1 (by decide) (by rw [c6]; decide) (by decide) ?_
    refine lv_iconst (v := 3) hx hb dX8_wordOf_66 (by decide) ?_
    cases h
    exact ce_iret hx hb hr hlocks hA hS dX8_wordOf_67
  have h := ce_ie c6 h
  have nc1 : (a1).toInt ≠ 239 := fun q => c1 (Int32.toInt_inj.mp (q.trans (by decide)))
  have nc2 : (a1).toInt ≠ 19636 := fun q => c2 (Int32.toInt_inj.mp (q.trans (by decide)))
  have nc3 : (a1).toInt ≠ 343342 := fun q => c3 (Int32.toInt_inj.mp (q.trans (by decide)))
  have nc4 : (a1).toInt ≠ 394885 := fun q => c4 (Int32.toInt_inj.mp (q.trans (by decide)))
  have nc5 : (a1).toInt ≠ 578868 := fun q => c5 (Int32.toInt_inj.mp (q.trans (by decide)))
  have nc6 : (a1).toInt ≠ 5969364 := fun q => c6 (Int32.toInt_inj.mp (q.trans (by decide)))
  refine lv_lookup (off := 71) (tgt := 72) hx hb dX8_wordOf_1 (by decide) (by simp [Op.lookupswitch.offset, nc1.symm, nc2.symm, nc3.symm, nc4.symm, nc5.symm, nc6.symm]) (by decide) ?_
  refine lv_iload_n hx hb dX8_wordOf_72 rfl (lv_at hl 0 rfl) ?_
  refine lv_ldc (v := 21269875) hx hb hown (hB _ ce_w1270) dX8_wordOf_73 ?_
  refine lv_icmp_ne (tgt := 83) hx hb dX8_wordOf_75 (by decide) (fun c7 => ?_) (fun c7 => ?_)
  · have h := ce_ie c7 h
    refine lv_iconst (v := (-1)) hx hb dX8_wordOf_83 (by decide) ?_
    cases h
    exact ce_iret hx hb hr hlocks hA hS dX8_wordOf_84
  · have h := ce_it c7 h
    refine lv_bipush (v := 6) hx hb dX8_wordOf_78 (by decide) ?_
    refine lv_goto (tgt := 84) hx hb dX8_wordOf_80 (by decide) ?_
    cases h
    exact ce_iret hx hb hr hlocks hA hS dX8_wordOf_84
def f_X8_takesNumber_L29 (k : Nat) (x6 : Int32) (a1 : Int32) (u15 : ce_M → Option (ce_M × Int32)) (rec12 : ce_M → Option (ce_M × Int32)) (M11 : ce_M) : Option (ce_M × Int32) :=
  ce_b1 (f_X8_isAt k M11 48 57) (fun (x21 : Int32) =>
  if x21 = 0 then
    u15 M11
  else
    if (x6 + 3) ≤ (ce_rd M11 k 9) then
      u15 M11
    else
      ce_gi a1 3 (ce_nm (ce_rd M11 (k + 6) (Int32.toNatClampNeg a1)) (fun (x25 : Int32) =>
      ce_gi (ce_rd M11 k 9) 150 (ce_nm (ce_rd M11 (k + 5) (Int32.toNatClampNeg (ce_rd M11 k 9))) (fun (x28 : Int32) =>
      ce_gi a1 3 (ce_nm (ce_wr M11 (k + 6) (Int32.toNatClampNeg a1) (((10 * x25) + x28) - 48)) (fun (M31 : ce_M) =>
      ce_nm (ce_wr M31 k 9 ((ce_rd M31 k 9) + 1)) (fun (M34 : ce_M) =>
      rec12 M34))))))))
def f_X8_takesNumber (k : Nat) (M : ce_M) (a1 : Int32) : Option (ce_M × Int32) :=
  ce_b1 (f_X8_isAt k M 32 32) (fun (x1 : Int32) =>
  if x1 = 0 then
    some (M, 0)
  else
    ce_b1 (f_X8_skips k M) (fun (M4 : ce_M) =>
    ce_nm (ce_rd M4 k 9) (fun (x6 : Int32) =>
    ce_gi a1 3 (ce_nm (ce_wr M4 (k + 6) (Int32.toNatClampNeg a1) 0) (fun (M8 : ce_M) =>
    ce_nm (fun (M14 : ce_M) =>
      if (ce_rd M14 k 9) ≤ x6 then
        some (M14, 0)
      else
        ce_b1 (f_X8_isAt k M14 48 57) (fun (x17 : Int32) =>
        if x17 = 0 then
          some (M14, 1)
        else
          some (M14, 0))) (fun (u15 : ce_M → Option (ce_M × Int32)) =>
    ce_lp1 (f_X8_takesNumber_L29 k x6 a1 u15) ce_FU M8))))))
set_option maxRecDepth 100000 in
set_option maxHeartbeats 4000000 in
theorem c_X8_takesNumber (l : Launch) (X : ce_X) (G : ce_G) (b : Nat) {k : Nat} {a1 : Int32} {M : ce_M} (hk : ce_kd k = 8) {M' : ce_M} {r : Int32} (h : f_X8_takesNumber k M a1 = some (M', r)) : ce_Ct l yX8_takesNumber cX8_takesNumber 3 (some .boolean) 3 64 X G b [.ref (b + k), .int a1] M (some (.int r)) M' := by
  refine ce_ofW (own := RX8) (by decide) rfl (Nat.le_of_ble_eq_true rfl) (fun p e s m below meth c ls hx hb hr hlocks hml hown hB hF hA hl hS => ?_)
  have hK := hF.1
  have hl : lv_has ls 3 [(0, .ref (b + k)), (1, .int a1)] := hl
  unfold f_X8_takesNumber at h
  refine lv_aload_n hx hb dX8_takesNumber_0 rfl (lv_at hl 0 rfl) ?_
  refine lv_bipush (v := 32) hx hb dX8_takesNumber_1 (by decide) ?_
  refine lv_bipush (v := 32) hx hb dX8_takesNumber_3 (by decide) ?_
  obtain ⟨x1, g2, h⟩ := ce_b1_e h
  refine ce_callVi (As := [.int 32, .int 32]) (rest := []) hx hb hml hown hB (c_X8_isAt l X G b hk g2) ce_v_X8_isAt ce_w1259 ⟨Nat.le_of_ble_eq_true rfl, Nat.le_of_ble_eq_true rfl⟩ hF hA hS (ce_rc_8 hK hA hk) hl rfl rfl (Nat.le_of_ble_eq_true rfl) dX8_takesNumber_5 ⟨Nat.le_of_ble_eq_true rfl, Nat.le_of_ble_eq_true rfl⟩ (fun H locs hA hS => ?_)
  refine lv_if_ne (tgt := 13) hx hb dX8_takesNumber_8 (by decide) (fun c3 => ?_) (fun c3 => ?_)
  · have h := ce_ie c3 h
    refine lv_aload_n hx hb dX8_takesNumber_13 rfl (lv_at hl 0 rfl) ?_
    obtain ⟨M4, g5, h⟩ := ce_b1_e h
    refine ce_callVv (As := []) (rest := []) hx hb hml hown hB (c_X8_skips l X G b hk g5) ce_v_X8_skips ce_w1255 ⟨Nat.le_of_ble_eq_true rfl, Nat.le_of_ble_eq_true rfl⟩ hF hA hS (ce_rc_8 hK hA hk) hl rfl rfl (Nat.le_of_ble_eq_true rfl) dX8_takesNumber_14 ⟨Nat.le_of_ble_eq_true rfl, Nat.le_of_ble_eq_true rfl⟩ (fun H locs hA hS => ?_)
    refine lv_aload_n hx hb dX8_takesNumber_17 rfl (lv_at hl 0 rfl) ?_
    refine ce_g_8_9 hx hb hB hown hK hA hk ce_w953 dX8_takesNumber_18 ?_
    obtain ⟨x6, e7, h⟩ := ce_nm_e h
    refine ce_top e7 ?_
    refine lv_istore_n (lv' := [(2, .int x6), (0, .ref (b + k)), (1, .int a1)]) hx hb dX8_takesNumber_21 rfl hl (by decide) rfl (fun ls hl => ?_)
    refine lv_aload_n hx hb dX8_takesNumber_22 rfl (lv_at hl 1 rfl) ?_
    refine ce_g_8_11 hx hb hB hown hK hA hk ce_w955 dX8_takesNumber_23 ?_
    refine lv_iload_n hx hb dX8_takesNumber_26 rfl (lv_at hl 2 rfl) ?_
    refine lv_iconst (v := 0) hx hb dX8_takesNumber_27 (by decide) ?_
    obtain ⟨i9, h⟩ := ce_gi_e h
    obtain ⟨M8, e10, h⟩ := ce_nm_e h
    refine ce_iast hx hb hK hA hS 3 (ce_kf_8_11 hk) i9 dX8_takesNumber_28 e10 (fun H locs hA hS => ?_)
    obtain ⟨u15, e20, h⟩ := ce_nm_e h
    have Ju15 : ∀ (M14 : ce_M), u15 M14 = some (M', r) → ce_Wg p l e (ce_R 3 64 0 0) s m (([.ref (b + k), .int a1] : List Value).toArray) below meth c 0 0 (MQ below (ce_Q X b M' (some (.int r))) ([.ref (b + k), .int a1] : List Value).toArray s 0 0 (ce_Ab b)) X b M14 3 [(0, .ref (b + k)), (2, .int x6)] 91 [] := by
      intro M14 h  H locs ls hA hS hl
      subst e20
      refine lv_aload_n hx hb dX8_takesNumber_91 rfl (lv_at hl 0 rfl) ?_
      refine ce_g_8_9 hx hb hB hown hK hA hk ce_w953 dX8_takesNumber_92 ?_
      refine lv_iload_n hx hb dX8_takesNumber_95 rfl (lv_at hl 1 rfl) ?_
      refine lv_icmp_le (tgt := 114) hx hb dX8_takesNumber_96 (by decide) (fun c16 => ?_) (fun c16 => ?_)
      · have h := ce_it c16 h
        refine lv_iconst (v := 0) hx hb dX8_takesNumber_114 (by decide) ?_
        cases h
        exact ce_zret hx hb hr hlocks (Or.inl rfl) hA hS dX8_takesNumber_115
      · have h := ce_ie c16 h
        refine lv_aload_n hx hb dX8_takesNumber_99 rfl (lv_at hl 0 rfl) ?_
        refine lv_bipush (v := 48) hx hb dX8_takesNumber_100 (by decide) ?_
        refine lv_bipush (v := 57) hx hb dX8_takesNumber_102 (by decide) ?_
        obtain ⟨x17, g18, h⟩ := ce_b1_e h
        refine ce_callVi (As := [.int 48, .int 57]) (rest := []) hx hb hml hown hB (c_X8_isAt l X G b hk g18) ce_v_X8_isAt ce_w1259 ⟨Nat.le_of_ble_eq_true rfl, Nat.le_of_ble_eq_true rfl⟩ hF hA hS (ce_rc_8 hK hA hk) hl rfl rfl (Nat.le_of_ble_eq_true rfl) dX8_takesNumber_104 ⟨Nat.le_of_ble_eq_true rfl, Nat.le_of_ble_eq_true rfl⟩ (fun H locs hA hS => ?_)
        refine lv_if_ne (tgt := 114) hx hb dX8_takesNumber_107 (by decide) (fun c19 => ?_) (fun c19 => ?_)
        · have h := ce_ie c19 h
          refine lv_iconst (v := 0) hx hb dX8_takesNumber_114 (by decide) ?_
          cases h
          exact ce_zret hx hb hr hlocks (Or.inl rfl) hA hS dX8_takesNumber_115
        · have h := ce_it c19 h
          refine lv_iconst (v := 1) hx hb dX8_takesNumber_110 (by decide) ?_
          refine lv_goto (tgt := 115) hx hb dX8_takesNumber_111 (by decide) ?_
          cases h
          exact ce_zret hx hb hr hlocks (Or.inr rfl) hA hS dX8_takesNumber_115
    refine ce_lp1_i (y := (M', r)) (P := fun (M11 : ce_M) => ce_Wg p l e (ce_R 3 64 0 0) s m (([.ref (b + k), .int a1] : List Value).toArray) below meth c 0 0 (MQ below (ce_Q X b M' (some (.int r))) ([.ref (b + k), .int a1] : List Value).toArray s 0 0 (ce_Ab b)) X b M11 3 [(0, .ref (b + k)), (1, .int a1), (2, .int x6)] 29 []) (fun rec12 ih13 M11 h => ?_) _ _ h _ _ _ hA hS (lv_sub hl [1, 2, 0] rfl)
    intro H locs ls hA hS hl
    unfold f_X8_takesNumber_L29 at h
    refine lv_aload_n hx hb dX8_takesNumber_29 rfl (lv_at hl 0 rfl) ?_
    refine lv_bipush (v := 48) hx hb dX8_takesNumber_30 (by decide) ?_
    refine lv_bipush (v := 57) hx hb dX8_takesNumber_32 (by decide) ?_
    obtain ⟨x21, g22, h⟩ := ce_b1_e h
    refine ce_callVi (As := [.int 48, .int 57]) (rest := []) hx hb hml hown hB (c_X8_isAt l X G b hk g22) ce_v_X8_isAt ce_w1259 ⟨Nat.le_of_ble_eq_true rfl, Nat.le_of_ble_eq_true rfl⟩ hF hA hS (ce_rc_8 hK hA hk) hl rfl rfl (Nat.le_of_ble_eq_true rfl) dX8_takesNumber_34 ⟨Nat.le_of_ble_eq_true rfl, Nat.le_of_ble_eq_true rfl⟩ (fun H locs hA hS => ?_)
    refine lv_if_eq (tgt := 91) hx hb dX8_takesNumber_37 (by decide) (fun c23 => ?_) (fun c23 => ?_)
    · have h := ce_it c23 h
      exact Ju15 M11 h  _ _ _ hA hS (lv_sub hl [0, 2] rfl)
    · have h := ce_ie c23 h
      refine lv_aload_n hx hb dX8_takesNumber_40 rfl (lv_at hl 0 rfl) ?_
      refine ce_g_8_9 hx hb hB hown hK hA hk ce_w953 dX8_takesNumber_41 ?_
      refine lv_iload_n hx hb dX8_takesNumber_44 rfl (lv_at hl 2 rfl) ?_
      refine lv_iconst (v := 3) hx hb dX8_takesNumber_45 (by decide) ?_
      refine lv_iadd hx hb dX8_takesNumber_46 ?_
      refine lv_icmp_ge (tgt := 91) hx hb dX8_takesNumber_47 (by decide) (fun c24 => ?_) (fun c24 => ?_)
      · have h := ce_it c24 h
        exact Ju15 M11 h  _ _ _ hA hS (lv_sub hl [0, 2] rfl)
      · have h := ce_ie c24 h
        refine lv_aload_n hx hb dX8_takesNumber_50 rfl (lv_at hl 0 rfl) ?_
        refine ce_g_8_11 hx hb hB hown hK hA hk ce_w955 dX8_takesNumber_51 ?_
        refine lv_iload_n hx hb dX8_takesNumber_54 rfl (lv_at hl 1 rfl) ?_
        refine lv_bipush (v := 10) hx hb dX8_takesNumber_55 (by decide) ?_
        refine lv_aload_n hx hb dX8_takesNumber_57 rfl (lv_at hl 0 rfl) ?_
        refine ce_g_8_11 hx hb hB hown hK hA hk ce_w955 dX8_takesNumber_58 ?_
        refine lv_iload_n hx hb dX8_takesNumber_61 rfl (lv_at hl 1 rfl) ?_
        obtain ⟨i26, h⟩ := ce_gi_e h
        obtain ⟨x25, e27, h⟩ := ce_nm_e h
        refine ce_iald hx hb hK hA 3 (ce_kf_8_11 hk) i26 e27 dX8_takesNumber_62 ?_
        refine lv_imul hx hb dX8_takesNumber_63 ?_
        refine lv_aload_n hx hb dX8_takesNumber_64 rfl (lv_at hl 0 rfl) ?_
        refine ce_g_8_7 hx hb hB hown hK hA hk ce_w951 dX8_takesNumber_65 ?_
        refine lv_aload_n hx hb dX8_takesNumber_68 rfl (lv_at hl 0 rfl) ?_
        refine ce_g_8_9 hx hb hB hown hK hA hk ce_w953 dX8_takesNumber_69 ?_
        obtain ⟨i29, h⟩ := ce_gi_e h
        obtain ⟨x28, e30, h⟩ := ce_nm_e h
        refine ce_iald hx hb hK hA 150 (ce_kf_8_7 hk) i29 e30 dX8_takesNumber_72 ?_
        refine lv_iadd hx hb dX8_takesNumber_73 ?_
        refine lv_bipush (v := 48) hx hb dX8_takesNumber_74 (by decide) ?_
        refine lv_isub hx hb dX8_takesNumber_76 ?_
        obtain ⟨i32, h⟩ := ce_gi_e h
        obtain ⟨M31, e33, h⟩ := ce_nm_e h
        refine ce_iast hx hb hK hA hS 3 (ce_kf_8_11 hk) i32 dX8_takesNumber_77 e33 (fun H locs hA hS => ?_)
        refine lv_aload_n hx hb dX8_takesNumber_78 rfl (lv_at hl 0 rfl) ?_
        refine lv_dup hx hb dX8_takesNumber_79 rfl ?_
        refine ce_g_8_9 hx hb hB hown hK hA hk ce_w953 dX8_takesNumber_80 ?_
        refine lv_iconst (v := 1) hx hb dX8_takesNumber_83 (by decide) ?_
        refine lv_iadd hx hb dX8_takesNumber_84 ?_
        obtain ⟨M34, e35, h⟩ := ce_nm_e h
        refine ce_p_8_9 hx hb hB hown hK hA hS hk ce_w953 dX8_takesNumber_85 e35 (fun H locs hA hS => ?_)
        refine lv_goto (tgt := 29) hx hb dX8_takesNumber_88 (by decide) ?_
        exact ih13 M34 h  _ _ _ hA hS (lv_sub hl [0, 1, 2] rfl)
  · have h := ce_it c3 h
    refine lv_iconst (v := 0) hx hb dX8_takesNumber_11 (by decide) ?_
    cases h
    exact ce_zret hx hb hr hlocks (Or.inl rfl) hA hS dX8_takesNumber_12
def f_X8_takesCommand_L130 (x15 : Int32) (k : Nat) (u22 : ce_M → Option (ce_M × Int32)) (rec19 : ce_M → Int32 → Option (ce_M × Int32)) (M17 : ce_M) (x18 : Int32) : Option (ce_M × Int32) :=
  if x15 ≤ x18 then
    u22 M17
  else
    ce_b2 (f_X8_takesNumber k M17 x18) (fun (M34 : ce_M) (x35 : Int32) =>
    if x35 = 0 then
      some (M34, 0)
    else
      ce_nm (x18 + 1) (fun (x38 : Int32) =>
      rec19 M34 x38))
def f_X8_takesCommand_L7 (k : Nat) (x1 : Int32) (u9 : ce_M → Int32 → Option (ce_M × Int32)) (rec5 : ce_M → Int32 → Option (ce_M × Int32)) (M3 : ce_M) (x4 : Int32) : Option (ce_M × Int32) :=
  ce_b1 (f_X8_isAt k M3 97 122) (fun (x50 : Int32) =>
  if x50 = 0 then
    u9 M3 x4
  else
    ce_nm (fun (x53 : Int32) =>
      ce_nm (ce_wr M3 k 9 ((ce_rd M3 k 9) + 1)) (fun (M55 : ce_M) =>
      rec5 M55 x53)) (fun (u54 : Int32 → Option (ce_M × Int32)) =>
    if 6 ≤ ((ce_rd M3 k 9) - x1) then
      u54 0
    else
      ce_gi (ce_rd M3 k 9) 150 (ce_nm (ce_rd M3 (k + 5) (Int32.toNatClampNeg (ce_rd M3 k 9))) (fun (x59 : Int32) =>
      u54 (((32 * x4) + x59) - 96)))))
def f_X8_takesCommand (k : Nat) (M : ce_M) : Option (ce_M × Int32) :=
  ce_nm (ce_rd M k 9) (fun (x1 : Int32) =>
  ce_nm (fun (M7 : ce_M) (x8 : Int32) =>
      ce_nm (fun (x10 : Int32) =>
          ce_nm (ce_wr M7 k 10 x10) (fun (M12 : ce_M) =>
          if (ce_rd M12 k 10) = (-1) then
            ce_nm (ce_wr M12 k 9 x1) (fun (M43 : ce_M) =>
            some (M43, 0))
          else
            ce_nm (fun (x15 : Int32) =>
              ce_nm (fun (M21 : ce_M) =>
                  ce_b1 (f_X8_skips k M21) (fun (M23 : ce_M) =>
                  ce_b1 (f_X8_isAt k M23 59 59) (fun (x25 : Int32) =>
                  if x25 = 0 then
                    some (M23, 0)
                  else
                    ce_nm (ce_wr M23 k 9 ((ce_rd M23 k 9) + 1)) (fun (M28 : ce_M) =>
                    ce_b1 (f_X8_skips k M28) (fun (M30 : ce_M) =>
                    some (M30, 1)))))) (fun (u22 : ce_M → Option (ce_M × Int32)) =>
              ce_lp2 (f_X8_takesCommand_L130 x15 k u22) ce_FU M12 0)) (fun (u16 : Int32 → Option (ce_M × Int32)) =>
            if 2 ≤ (ce_rd M12 k 10) then
              if 5 ≤ (ce_rd M12 k 10) then
                u16 1
              else
                u16 2
            else
              u16 3))) (fun (u11 : Int32 → Option (ce_M × Int32)) =>
      if ((ce_rd M7 k 9) - x1) ≤ 5 then
        ce_b1 (f_X8_wordOf M7 x8) (fun (x47 : Int32) =>
        u11 x47)
      else
        u11 (-1))) (fun (u9 : ce_M → Int32 → Option (ce_M × Int32)) =>
  ce_lp2 (f_X8_takesCommand_L7 k x1 u9) ce_FU M 0))
set_option maxRecDepth 100000 in
set_option maxHeartbeats 4000000 in
theorem c_X8_takesCommand (l : Launch) (X : ce_X) (G : ce_G) (b : Nat) {k : Nat} {M : ce_M} (hk : ce_kd k = 8) {M' : ce_M} {r : Int32} (h : f_X8_takesCommand k M = some (M', r)) : ce_Ct l yX8_takesCommand cX8_takesCommand 5 (some .boolean) 4 86 X G b [.ref (b + k)] M (some (.int r)) M' := by
  refine ce_ofW (own := RX8) (by decide) rfl (Nat.le_of_ble_eq_true rfl) (fun p e s m below meth c ls hx hb hr hlocks hml hown hB hF hA hl hS => ?_)
  have hK := hF.1
  have hl : lv_has ls 5 [(0, .ref (b + k))] := hl
  unfold f_X8_takesCommand at h
  refine lv_aload_n hx hb dX8_takesCommand_0 rfl (lv_at hl 0 rfl) ?_
  refine ce_g_8_9 hx hb hB hown hK hA hk ce_w953 dX8_takesCommand_1 ?_
  obtain ⟨x1, e2, h⟩ := ce_nm_e h
  refine ce_top e2 ?_
  refine lv_istore_n (lv' := [(1, .int x1), (0, .ref (b + k))]) hx hb dX8_takesCommand_4 rfl hl (by decide) rfl (fun ls hl => ?_)
  refine lv_iconst (v := 0) hx hb dX8_takesCommand_5 (by decide) ?_
  refine lv_istore_n (lv' := [(2, .int 0), (1, .int x1), (0, .ref (b + k))]) hx hb dX8_takesCommand_6 rfl hl (by decide) rfl (fun ls hl => ?_)
  obtain ⟨u9, e49, h⟩ := ce_nm_e h
  have Ju9 : ∀ (M7 : ce_M) (x8 : Int32), u9 M7 x8 = some (M', r) → ce_Wg p l e (ce_R 4 86 0 0) s m (([.ref (b + k)] : List Value).toArray) below meth c 0 0 (MQ below (ce_Q X b M' (some (.int r))) ([.ref (b + k)] : List Value).toArray s 0 0 (ce_Ab b)) X b M7 5 [(0, .ref (b + k)), (1, .int x1), (2, .int x8)] 64 [] := by
    intro M7 x8 h  H locs ls hA hS hl
    subst e49
    refine lv_aload_n hx hb dX8_takesCommand_64 rfl (lv_at hl 0 rfl) ?_
    refine lv_aload_n hx hb dX8_takesCommand_65 rfl (lv_at hl 0 rfl) ?_
    refine ce_g_8_9 hx hb hB hown hK hA hk ce_w953 dX8_takesCommand_66 ?_
    refine lv_iload_n hx hb dX8_takesCommand_69 rfl (lv_at hl 1 rfl) ?_
    refine lv_isub hx hb dX8_takesCommand_70 ?_
    refine lv_iconst (v := 5) hx hb dX8_takesCommand_71 (by decide) ?_
    obtain ⟨u11, e45, h⟩ := ce_nm_e h
    have Ju11 : ∀ (x10 : Int32), u11 x10 = some (M', r) → ce_Wg p l e (ce_R 4 86 0 0) s m (([.ref (b + k)] : List Value).toArray) below meth c 0 0 (MQ below (ce_Q X b M' (some (.int r))) ([.ref (b + k)] : List Value).toArray s 0 0 (ce_Ab b)) X b M7 5 [(0, .ref (b + k)), (1, .int x1)] 83 [.int x10, .ref (b + k)] := by
      intro x10 h  H locs ls hA hS hl
      subst e45
      obtain ⟨M12, e13, h⟩ := ce_nm_e h
      refine ce_p_8_10 hx hb hB hown hK hA hS hk ce_w954 dX8_takesCommand_83 e13 (fun H locs hA hS => ?_)
      refine lv_aload_n hx hb dX8_takesCommand_86 rfl (lv_at hl 0 rfl) ?_
      refine ce_g_8_10 hx hb hB hown hK hA hk ce_w954 dX8_takesCommand_87 ?_
      refine lv_iconst (v := (-1)) hx hb dX8_takesCommand_90 (by decide) ?_
      refine lv_icmp_ne (tgt := 101) hx hb dX8_takesCommand_91 (by decide) (fun c14 => ?_) (fun c14 => ?_)
      · have h := ce_ie c14 h
        refine lv_aload_n hx hb dX8_takesCommand_101 rfl (lv_at hl 0 rfl) ?_
        refine ce_g_8_10 hx hb hB hown hK hA hk ce_w954 dX8_takesCommand_102 ?_
        refine lv_iconst (v := 2) hx hb dX8_takesCommand_105 (by decide) ?_
        obtain ⟨u16, e40, h⟩ := ce_nm_e h
        have Ju16 : ∀ (x15 : Int32), u16 x15 = some (M', r) → ce_Wg p l e (ce_R 4 86 0 0) s m (([.ref (b + k)] : List Value).toArray) below meth c 0 0 (MQ below (ce_Q X b M' (some (.int r))) ([.ref (b + k)] : List Value).toArray s 0 0 (ce_Ab b)) X b M12 5 [(0, .ref (b + k))] 126 [.int x15] := by
          intro x15 h  H locs ls hA hS hl
          subst e40
          refine lv_istore_n (lv' := [(3, .int x15), (0, .ref (b + k))]) hx hb dX8_takesCommand_126 rfl hl (by decide) rfl (fun ls hl => ?_)
          refine lv_iconst (v := 0) hx hb dX8_takesCommand_127 (by decide) ?_
          refine lv_istore (lv' := [(4, .int 0), (3, .int x15), (0, .ref (b + k))]) hx hb dX8_takesCommand_128 hl (by decide) rfl (fun ls hl => ?_)
          obtain ⟨u22, e32, h⟩ := ce_nm_e h
          have Ju22 : ∀ (M21 : ce_M), u22 M21 = some (M', r) → ce_Wg p l e (ce_R 4 86 0 0) s m (([.ref (b + k)] : List Value).toArray) below meth c 0 0 (MQ below (ce_Q X b M' (some (.int r))) ([.ref (b + k)] : List Value).toArray s 0 0 (ce_Ab b)) X b M21 5 [(0, .ref (b + k))] 153 [] := by
            intro M21 h  H locs ls hA hS hl
            subst e32
            refine lv_aload_n hx hb dX8_takesCommand_153 rfl (lv_at hl 0 rfl) ?_
            obtain ⟨M23, g24, h⟩ := ce_b1_e h
            refine ce_callVv (As := []) (rest := []) hx hb hml hown hB (c_X8_skips l X G b hk g24) ce_v_X8_skips ce_w1255 ⟨Nat.le_of_ble_eq_true rfl, Nat.le_of_ble_eq_true rfl⟩ hF hA hS (ce_rc_8 hK hA hk) hl rfl rfl (Nat.le_of_ble_eq_true rfl) dX8_takesCommand_154 ⟨Nat.le_of_ble_eq_true rfl, Nat.le_of_ble_eq_true rfl⟩ (fun H locs hA hS => ?_)
            refine lv_aload_n hx hb dX8_takesCommand_157 rfl (lv_at hl 0 rfl) ?_
            refine lv_bipush (v := 59) hx hb dX8_takesCommand_158 (by decide) ?_
            refine lv_bipush (v := 59) hx hb dX8_takesCommand_160 (by decide) ?_
            obtain ⟨x25, g26, h⟩ := ce_b1_e h
            refine ce_callVi (As := [.int 59, .int 59]) (rest := []) hx hb hml hown hB (c_X8_isAt l X G b hk g26) ce_v_X8_isAt ce_w1259 ⟨Nat.le_of_ble_eq_true rfl, Nat.le_of_ble_eq_true rfl⟩ hF hA hS (ce_rc_8 hK hA hk) hl rfl rfl (Nat.le_of_ble_eq_true rfl) dX8_takesCommand_162 ⟨Nat.le_of_ble_eq_true rfl, Nat.le_of_ble_eq_true rfl⟩ (fun H locs hA hS => ?_)
            refine lv_if_ne (tgt := 170) hx hb dX8_takesCommand_165 (by decide) (fun c27 => ?_) (fun c27 => ?_)
            · have h := ce_ie c27 h
              refine lv_aload_n hx hb dX8_takesCommand_170 rfl (lv_at hl 0 rfl) ?_
              refine lv_dup hx hb dX8_takesCommand_171 rfl ?_
              refine ce_g_8_9 hx hb hB hown hK hA hk ce_w953 dX8_takesCommand_172 ?_
              refine lv_iconst (v := 1) hx hb dX8_takesCommand_175 (by decide) ?_
              refine lv_iadd hx hb dX8_takesCommand_176 ?_
              obtain ⟨M28, e29, h⟩ := ce_nm_e h
              refine ce_p_8_9 hx hb hB hown hK hA hS hk ce_w953 dX8_takesCommand_177 e29 (fun H locs hA hS => ?_)
              refine lv_aload_n hx hb dX8_takesCommand_180 rfl (lv_at hl 0 rfl) ?_
              obtain ⟨M30, g31, h⟩ := ce_b1_e h
              refine ce_callVv (As := []) (rest := []) hx hb hml hown hB (c_X8_skips l X G b hk g31) ce_v_X8_skips ce_w1255 ⟨Nat.le_of_ble_eq_true rfl, Nat.le_of_ble_eq_true rfl⟩ hF hA hS (ce_rc_8 hK hA hk) hl rfl rfl (Nat.le_of_ble_eq_true rfl) dX8_takesCommand_181 ⟨Nat.le_of_ble_eq_true rfl, Nat.le_of_ble_eq_true rfl⟩ (fun H locs hA hS => ?_)
              refine lv_iconst (v := 1) hx hb dX8_takesCommand_184 (by decide) ?_
              cases h
              exact ce_zret hx hb hr hlocks (Or.inr rfl) hA hS dX8_takesCommand_185
            · have h := ce_it c27 h
              refine lv_iconst (v := 0) hx hb dX8_takesCommand_168 (by decide) ?_
              cases h
              exact ce_zret hx hb hr hlocks (Or.inl rfl) hA hS dX8_takesCommand_169
          refine ce_lp2_i (y := (M', r)) (P := fun (M17 : ce_M) (x18 : Int32) => ce_Wg p l e (ce_R 4 86 0 0) s m (([.ref (b + k)] : List Value).toArray) below meth c 0 0 (MQ below (ce_Q X b M' (some (.int r))) ([.ref (b + k)] : List Value).toArray s 0 0 (ce_Ab b)) X b M17 5 [(0, .ref (b + k)), (3, .int x15), (4, .int x18)] 130 []) (fun rec19 ih20 M17 x18 h => ?_) _ _ _ h _ _ _ hA hS (lv_sub hl [2, 1, 0] rfl)
          intro H locs ls hA hS hl
          unfold f_X8_takesCommand_L130 at h
          refine lv_iload hx hb dX8_takesCommand_130 (lv_at hl 2 rfl) ?_
          refine lv_iload_n hx hb dX8_takesCommand_132 rfl (lv_at hl 1 rfl) ?_
          refine lv_icmp_ge (tgt := 153) hx hb dX8_takesCommand_133 (by decide) (fun c33 => ?_) (fun c33 => ?_)
          · have h := ce_it c33 h
            exact Ju22 M17 h  _ _ _ hA hS (lv_sub hl [0] rfl)
          · have h := ce_ie c33 h
            refine lv_aload_n hx hb dX8_takesCommand_136 rfl (lv_at hl 0 rfl) ?_
            refine lv_iload hx hb dX8_takesCommand_137 (lv_at hl 2 rfl) ?_
            obtain ⟨M34, x35, g36, h⟩ := ce_b2_e h
            refine ce_callVi (As := [.int x18]) (rest := []) hx hb hml hown hB (c_X8_takesNumber l X G b hk g36) ce_v_X8_takesNumber ce_w1271 ⟨Nat.le_of_ble_eq_true rfl, Nat.le_of_ble_eq_true rfl⟩ hF hA hS (ce_rc_8 hK hA hk) hl rfl rfl (Nat.le_of_ble_eq_true rfl) dX8_takesCommand_139 ⟨Nat.le_of_ble_eq_true rfl, Nat.le_of_ble_eq_true rfl⟩ (fun H locs hA hS => ?_)
            refine lv_if_ne (tgt := 147) hx hb dX8_takesCommand_142 (by decide) (fun c37 => ?_) (fun c37 => ?_)
            · have h := ce_ie c37 h
              obtain ⟨x38, e39, h⟩ := ce_nm_e h
              refine lv_iinc (v := x38) (lv' := [(4, .int x38), (0, .ref (b + k)), (3, .int x15)]) hx hb dX8_takesCommand_147 hl (k := 2) rfl (by rw [← e39]; rfl) (by decide) rfl (fun ls hl => ?_)
              refine lv_goto (tgt := 130) hx hb dX8_takesCommand_150 (by decide) ?_
              exact ih20 M34 x38 h  _ _ _ hA hS (lv_sub hl [1, 2, 0] rfl)
            · have h := ce_it c37 h
              refine lv_iconst (v := 0) hx hb dX8_takesCommand_145 (by decide) ?_
              cases h
              exact ce_zret hx hb hr hlocks (Or.inl rfl) hA hS dX8_takesCommand_146
        refine lv_icmp_ge (tgt := 113) hx hb dX8_takesCommand_106 (by decide) (fun c41 => ?_) (fun c41 => ?_)
        · have h := ce_it c41 h
          refine lv_aload_n hx hb dX8_takesCommand_113 rfl (lv_at hl 0 rfl) ?_
          refine ce_g_8_10 hx hb hB hown hK hA hk ce_w954 dX8_takesCommand_114 ?_
          refine lv_iconst (v := 5) hx hb dX8_takesCommand_117 (by decide) ?_
          refine lv_icmp_ge (tgt := 125) hx hb dX8_takesCommand_118 (by decide) (fun c42 => ?_) (fun c42 => ?_)
          · have h := ce_it c42 h
            refine lv_iconst (v := 1) hx hb dX8_takesCommand_125 (by decide) ?_
            exact Ju16 1 h  _ _ _ hA hS (lv_sub hl [0] rfl)
          · have h := ce_ie c42 h
            refine lv_iconst (v := 2) hx hb dX8_takesCommand_121 (by decide) ?_
            refine lv_goto (tgt := 126) hx hb dX8_takesCommand_122 (by decide) ?_
            exact Ju16 2 h  _ _ _ hA hS (lv_sub hl [0] rfl)
        · have h := ce_ie c41 h
          refine lv_iconst (v := 3) hx hb dX8_takesCommand_109 (by decide) ?_
          refine lv_goto (tgt := 126) hx hb dX8_takesCommand_110 (by decide) ?_
          exact Ju16 3 h  _ _ _ hA hS (lv_sub hl [0] rfl)
      · have h := ce_it c14 h
        refine lv_aload_n hx hb dX8_takesCommand_94 rfl (lv_at hl 0 rfl) ?_
        refine lv_iload_n hx hb dX8_takesCommand_95 rfl (lv_at hl 1 rfl) ?_
        obtain ⟨M43, e44, h⟩ := ce_nm_e h
        refine ce_p_8_9 hx hb hB hown hK hA hS hk ce_w953 dX8_takesCommand_96 e44 (fun H locs hA hS => ?_)
        refine lv_iconst (v := 0) hx hb dX8_takesCommand_99 (by decide) ?_
        cases h
        exact ce_zret hx hb hr hlocks (Or.inl rfl) hA hS dX8_takesCommand_100
    refine lv_icmp_le (tgt := 79) hx hb dX8_takesCommand_72 (by decide) (fun c46 => ?_) (fun c46 => ?_)
    · have h := ce_it c46 h
      refine lv_iload_n hx hb dX8_takesCommand_79 rfl (lv_at hl 2 rfl) ?_
      obtain ⟨x47, g48, h⟩ := ce_b1_e h
      refine ce_callSi (As := [.int x8]) (rest := [.ref (b + k)]) hx hb hml hown hB (c_X8_wordOf l X G b  g48) ce_s_X8_wordOf ce_w1267 ⟨Nat.le_of_ble_eq_true rfl, Nat.le_of_ble_eq_true rfl⟩ hF hA hS hl rfl rfl (Nat.le_of_ble_eq_true rfl) dX8_takesCommand_80 ⟨Nat.le_of_ble_eq_true rfl, Nat.le_of_ble_eq_true rfl⟩ (fun H locs hA hS => ?_)
      exact Ju11 x47 h  _ _ _ hA hS (lv_sub hl [0, 1] rfl)
    · have h := ce_ie c46 h
      refine lv_iconst (v := (-1)) hx hb dX8_takesCommand_75 (by decide) ?_
      refine lv_goto (tgt := 83) hx hb dX8_takesCommand_76 (by decide) ?_
      exact Ju11 (-1) h  _ _ _ hA hS (lv_sub hl [0, 1] rfl)
  refine ce_lp2_i (y := (M', r)) (P := fun (M3 : ce_M) (x4 : Int32) => ce_Wg p l e (ce_R 4 86 0 0) s m (([.ref (b + k)] : List Value).toArray) below meth c 0 0 (MQ below (ce_Q X b M' (some (.int r))) ([.ref (b + k)] : List Value).toArray s 0 0 (ce_Ab b)) X b M3 5 [(0, .ref (b + k)), (1, .int x1), (2, .int x4)] 7 []) (fun rec5 ih6 M3 x4 h => ?_) _ _ _ h _ _ _ hA hS (lv_sub hl [2, 1, 0] rfl)
  intro H locs ls hA hS hl
  unfold f_X8_takesCommand_L7 at h
  refine lv_aload_n hx hb dX8_takesCommand_7 rfl (lv_at hl 0 rfl) ?_
  refine lv_bipush (v := 97) hx hb dX8_takesCommand_8 (by decide) ?_
  refine lv_bipush (v := 122) hx hb dX8_takesCommand_10 (by decide) ?_
  obtain ⟨x50, g51, h⟩ := ce_b1_e h
  refine ce_callVi (As := [.int 97, .int 122]) (rest := []) hx hb hml hown hB (c_X8_isAt l X G b hk g51) ce_v_X8_isAt ce_w1259 ⟨Nat.le_of_ble_eq_true rfl, Nat.le_of_ble_eq_true rfl⟩ hF hA hS (ce_rc_8 hK hA hk) hl rfl rfl (Nat.le_of_ble_eq_true rfl) dX8_takesCommand_12 ⟨Nat.le_of_ble_eq_true rfl, Nat.le_of_ble_eq_true rfl⟩ (fun H locs hA hS => ?_)
  refine lv_if_eq (tgt := 64) hx hb dX8_takesCommand_15 (by decide) (fun c52 => ?_) (fun c52 => ?_)
  · have h := ce_it c52 h
    exact Ju9 M3 x4 h  _ _ _ hA hS (lv_sub hl [0, 1, 2] rfl)
  · have h := ce_ie c52 h
    refine lv_aload_n hx hb dX8_takesCommand_18 rfl (lv_at hl 0 rfl) ?_
    refine ce_g_8_9 hx hb hB hown hK hA hk ce_w953 dX8_takesCommand_19 ?_
    refine lv_iload_n hx hb dX8_takesCommand_22 rfl (lv_at hl 1 rfl) ?_
    refine lv_isub hx hb dX8_takesCommand_23 ?_
    refine lv_bipush (v := 6) hx hb dX8_takesCommand_24 (by decide) ?_
    obtain ⟨u54, e57, h⟩ := ce_nm_e h
    have Ju54 : ∀ (x53 : Int32), u54 x53 = some (M', r) → ce_Wg p l e (ce_R 4 86 0 0) s m (([.ref (b + k)] : List Value).toArray) below meth c 0 0 (MQ below (ce_Q X b M' (some (.int r))) ([.ref (b + k)] : List Value).toArray s 0 0 (ce_Ab b)) X b M3 5 [(0, .ref (b + k)), (1, .int x1)] 50 [.int x53] := by
      intro x53 h  H locs ls hA hS hl
      subst e57
      refine lv_istore_n (lv' := [(2, .int x53), (0, .ref (b + k)), (1, .int x1)]) hx hb dX8_takesCommand_50 rfl hl (by decide) rfl (fun ls hl => ?_)
      refine lv_aload_n hx hb dX8_takesCommand_51 rfl (lv_at hl 1 rfl) ?_
      refine lv_dup hx hb dX8_takesCommand_52 rfl ?_
      refine ce_g_8_9 hx hb hB hown hK hA hk ce_w953 dX8_takesCommand_53 ?_
      refine lv_iconst (v := 1) hx hb dX8_takesCommand_56 (by decide) ?_
      refine lv_iadd hx hb dX8_takesCommand_57 ?_
      obtain ⟨M55, e56, h⟩ := ce_nm_e h
      refine ce_p_8_9 hx hb hB hown hK hA hS hk ce_w953 dX8_takesCommand_58 e56 (fun H locs hA hS => ?_)
      refine lv_goto (tgt := 7) hx hb dX8_takesCommand_61 (by decide) ?_
      exact ih6 M55 x53 h  _ _ _ hA hS (lv_sub hl [1, 2, 0] rfl)
    refine lv_icmp_ge (tgt := 49) hx hb dX8_takesCommand_26 (by decide) (fun c58 => ?_) (fun c58 => ?_)
    · have h := ce_it c58 h
      refine lv_iconst (v := 0) hx hb dX8_takesCommand_49 (by decide) ?_
      exact Ju54 0 h  _ _ _ hA hS (lv_sub hl [0, 1] rfl)
    · have h := ce_ie c58 h
      refine lv_bipush (v := 32) hx hb dX8_takesCommand_29 (by decide) ?_
      refine lv_iload_n hx hb dX8_takesCommand_31 rfl (lv_at hl 2 rfl) ?_
      refine lv_imul hx hb dX8_takesCommand_32 ?_
      refine lv_aload_n hx hb dX8_takesCommand_33 rfl (lv_at hl 0 rfl) ?_
      refine ce_g_8_7 hx hb hB hown hK hA hk ce_w951 dX8_takesCommand_34 ?_
      refine lv_aload_n hx hb dX8_takesCommand_37 rfl (lv_at hl 0 rfl) ?_
      refine ce_g_8_9 hx hb hB hown hK hA hk ce_w953 dX8_takesCommand_38 ?_
      obtain ⟨i60, h⟩ := ce_gi_e h
      obtain ⟨x59, e61, h⟩ := ce_nm_e h
      refine ce_iald hx hb hK hA 150 (ce_kf_8_7 hk) i60 e61 dX8_takesCommand_41 ?_
      refine lv_iadd hx hb dX8_takesCommand_42 ?_
      refine lv_bipush (v := 96) hx hb dX8_takesCommand_43 (by decide) ?_
      refine lv_isub hx hb dX8_takesCommand_45 ?_
      refine lv_goto (tgt := 50) hx hb dX8_takesCommand_46 (by decide) ?_
      exact Ju54 (((32 * x4) + x59) - 96) h  _ _ _ hA hS (lv_sub hl [0, 1] rfl)
def f_X8_carriesOut (k : Nat) (M : ce_M) : Option (ce_M × Int32) :=
  ce_gi 0 3 (ce_nm (ce_rd M (k + 6) (Int32.toNatClampNeg 0)) (fun (x1 : Int32) =>
  ce_gi 1 3 (ce_nm (ce_rd M (k + 6) (Int32.toNatClampNeg 1)) (fun (x4 : Int32) =>
  ce_gi 2 3 (ce_nm (ce_rd M (k + 6) (Int32.toNatClampNeg 2)) (fun (x7 : Int32) =>
  if (ce_rd M k 10) = 0 then
    ce_b2 (f_X8_subscribes k M x1 x4 x7) (fun (M11 : ce_M) (x12 : Int32) =>
    some (M11, x12))
  else
  if (ce_rd M k 10) = 1 then
    ce_b2 (f_X8_publishes k M x1 x4 x7) (fun (M15 : ce_M) (x16 : Int32) =>
    some (M15, x16))
  else
  if (ce_rd M k 10) = 2 then
    ce_b2 (f_X8_goes k M x1 x4) (fun (M19 : ce_M) (x20 : Int32) =>
    some (M19, x20))
  else
  if (ce_rd M k 10) = 3 then
    ce_b2 (f_X8_publishes k M x1 x4 0) (fun (M23 : ce_M) (x24 : Int32) =>
    some (M23, x24))
  else
  if (ce_rd M k 10) = 4 then
    ce_b2 (f_X8_sets k M x1 x4) (fun (M27 : ce_M) (x28 : Int32) =>
    some (M27, x28))
  else
  if (ce_rd M k 10) = 5 then
    ce_b2 (f_X8_quits k M x1) (fun (M31 : ce_M) (x32 : Int32) =>
    some (M31, x32))
  else
  ce_b2 (f_X8_passes k M x1) (fun (M34 : ce_M) (x35 : Int32) =>
  some (M34, x35))))))))
set_option maxRecDepth 100000 in
set_option maxHeartbeats 4000000 in
theorem c_X8_carriesOut (l : Launch) (X : ce_X) (G : ce_G) (b : Nat) {k : Nat} {M : ce_M} (hk : ce_kd k = 8) {M' : ce_M} {r : Int32} (h : f_X8_carriesOut k M = some (M', r)) : ce_Ct l yX8_carriesOut cX8_carriesOut 4 (some .int) 6 146 X G b [.ref (b + k)] M (some (.int r)) M' := by
  refine ce_ofW (own := RX8) (by decide) rfl (Nat.le_of_ble_eq_true rfl) (fun p e s m below meth c ls hx hb hr hlocks hml hown hB hF hA hl hS => ?_)
  have hK := hF.1
  have hl : lv_has ls 4 [(0, .ref (b + k))] := hl
  unfold f_X8_carriesOut at h
  refine lv_aload_n hx hb dX8_carriesOut_0 rfl (lv_at hl 0 rfl) ?_
  refine ce_g_8_11 hx hb hB hown hK hA hk ce_w955 dX8_carriesOut_1 ?_
  refine lv_iconst (v := 0) hx hb dX8_carriesOut_4 (by decide) ?_
  obtain ⟨i2, h⟩ := ce_gi_e h
  obtain ⟨x1, e3, h⟩ := ce_nm_e h
  refine ce_iald hx hb hK hA 3 (ce_kf_8_11 hk) i2 e3 dX8_carriesOut_5 ?_
  refine lv_istore_n (lv' := [(1, .int x1), (0, .ref (b + k))]) hx hb dX8_carriesOut_6 rfl hl (by decide) rfl (fun ls hl => ?_)
  refine lv_aload_n hx hb dX8_carriesOut_7 rfl (lv_at hl 1 rfl) ?_
  refine ce_g_8_11 hx hb hB hown hK hA hk ce_w955 dX8_carriesOut_8 ?_
  refine lv_iconst (v := 1) hx hb dX8_carriesOut_11 (by decide) ?_
  obtain ⟨i5, h⟩ := ce_gi_e h
  obtain ⟨x4, e6, h⟩ := ce_nm_e h
  refine ce_iald hx hb hK hA 3 (ce_kf_8_11 hk) i5 e6 dX8_carriesOut_12 ?_
  refine lv_istore_n (lv' := [(2, .int x4), (1, .int x1), (0, .ref (b + k))]) hx hb dX8_carriesOut_13 rfl hl (by decide) rfl (fun ls hl => ?_)
  refine lv_aload_n hx hb dX8_carriesOut_14 rfl (lv_at hl 2 rfl) ?_
  refine ce_g_8_11 hx hb hB hown hK hA hk ce_w955 dX8_carriesOut_15 ?_
  refine lv_iconst (v := 2) hx hb dX8_carriesOut_18 (by decide) ?_
  obtain ⟨i8, h⟩ := ce_gi_e h
  obtain ⟨x7, e9, h⟩ := ce_nm_e h
  refine ce_iald hx hb hK hA 3 (ce_kf_8_11 hk) i8 e9 dX8_carriesOut_19 ?_
  refine lv_istore_n (lv' := [(3, .int x7), (2, .int x4), (1, .int x1), (0, .ref (b + k))]) hx hb dX8_carriesOut_20 rfl hl (by decide) rfl (fun ls hl => ?_)
  refine lv_aload_n hx hb dX8_carriesOut_21 rfl (lv_at hl 3 rfl) ?_
  refine ce_g_8_10 hx hb hB hown hK hA hk ce_w954 dX8_carriesOut_22 ?_
  by_cases c10 : (ce_rd M k 10) = 0
  · have h := ce_it c10 h
    refine lv_tableIn (off := 39) (tgt := 64) hx hb dX8_carriesOut_25 (by rw [c10]; decide) (by rw [c10]; decide) (by rw [c10]; rfl) (by decide) ?_
    refine lv_aload_n hx hb dX8_carriesOut_64 rfl (lv_at hl 3 rfl) ?_
    refine lv_iload_n hx hb dX8_carriesOut_65 rfl (lv_at hl 2 rfl) ?_
    refine lv_iload_n hx hb dX8_carriesOut_66 rfl (lv_at hl 1 rfl) ?_
    refine lv_iload_n hx hb dX8_carriesOut_67 rfl (lv_at hl 0 rfl) ?_
    obtain ⟨M11, x12, g13, h⟩ := ce_b2_e h
    refine ce_callVi (As := [.int x1, .int x4, .int x7]) (rest := []) hx hb hml hown hB (c_X8_subscribes l X G b hk g13) ce_v_X8_subscribes ce_w996 ⟨Nat.le_of_ble_eq_true rfl, Nat.le_of_ble_eq_true rfl⟩ hF hA hS (ce_rc_8 hK hA hk) hl rfl rfl (Nat.le_of_ble_eq_true rfl) dX8_carriesOut_68 ⟨Nat.le_of_ble_eq_true rfl, Nat.le_of_ble_eq_true rfl⟩ (fun H locs hA hS => ?_)
    cases h
    exact ce_iret hx hb hr hlocks hA hS dX8_carriesOut_71
  have h := ce_ie c10 h
  by_cases c14 : (ce_rd M k 10) = 1
  · have h := ce_it c14 h
    refine lv_tableIn (off := 47) (tgt := 72) hx hb dX8_carriesOut_25 (by rw [c14]; decide) (by rw [c14]; decide) (by rw [c14]; rfl) (by decide) ?_
    refine lv_aload_n hx hb dX8_carriesOut_72 rfl (lv_at hl 3 rfl) ?_
    refine lv_iload_n hx hb dX8_carriesOut_73 rfl (lv_at hl 2 rfl) ?_
    refine lv_iload_n hx hb dX8_carriesOut_74 rfl (lv_at hl 1 rfl) ?_
    refine lv_iload_n hx hb dX8_carriesOut_75 rfl (lv_at hl 0 rfl) ?_
    obtain ⟨M15, x16, g17, h⟩ := ce_b2_e h
    refine ce_callVi (As := [.int x1, .int x4, .int x7]) (rest := []) hx hb hml hown hB (c_X8_publishes l X G b hk g17) ce_v_X8_publishes ce_w1089 ⟨Nat.le_of_ble_eq_true rfl, Nat.le_of_ble_eq_true rfl⟩ hF hA hS (ce_rc_8 hK hA hk) hl rfl rfl (Nat.le_of_ble_eq_true rfl) dX8_carriesOut_76 ⟨Nat.le_of_ble_eq_true rfl, Nat.le_of_ble_eq_true rfl⟩ (fun H locs hA hS => ?_)
    cases h
    exact ce_iret hx hb hr hlocks hA hS dX8_carriesOut_79
  have h := ce_ie c14 h
  by_cases c18 : (ce_rd M k 10) = 2
  · have h := ce_it c18 h
    refine lv_tableIn (off := 55) (tgt := 80) hx hb dX8_carriesOut_25 (by rw [c18]; decide) (by rw [c18]; decide) (by rw [c18]; rfl) (by decide) ?_
    refine lv_aload_n hx hb dX8_carriesOut_80 rfl (lv_at hl 3 rfl) ?_
    refine lv_iload_n hx hb dX8_carriesOut_81 rfl (lv_at hl 2 rfl) ?_
    refine lv_iload_n hx hb dX8_carriesOut_82 rfl (lv_at hl 1 rfl) ?_
    obtain ⟨M19, x20, g21, h⟩ := ce_b2_e h
    refine ce_callVi (As := [.int x1, .int x4]) (rest := []) hx hb hml hown hB (c_X8_goes l X G b hk g21) ce_v_X8_goes ce_w1049 ⟨Nat.le_of_ble_eq_true rfl, Nat.le_of_ble_eq_true rfl⟩ hF hA hS (ce_rc_8 hK hA hk) hl rfl rfl (Nat.le_of_ble_eq_true rfl) dX8_carriesOut_83 ⟨Nat.le_of_ble_eq_true rfl, Nat.le_of_ble_eq_true rfl⟩ (fun H locs hA hS => ?_)
    cases h
    exact ce_iret hx hb hr hlocks hA hS dX8_carriesOut_86
  have h := ce_ie c18 h
  by_cases c22 : (ce_rd M k 10) = 3
  · have h := ce_it c22 h
    refine lv_tableIn (off := 62) (tgt := 87) hx hb dX8_carriesOut_25 (by rw [c22]; decide) (by rw [c22]; decide) (by rw [c22]; rfl) (by decide) ?_
    refine lv_aload_n hx hb dX8_carriesOut_87 rfl (lv_at hl 3 rfl) ?_
    refine lv_iload_n hx hb dX8_carriesOut_88 rfl (lv_at hl 2 rfl) ?_
    refine lv_iload_n hx hb dX8_carriesOut_89 rfl (lv_at hl 1 rfl) ?_
    refine lv_iconst (v := 0) hx hb dX8_carriesOut_90 (by decide) ?_
    obtain ⟨M23, x24, g25, h⟩ := ce_b2_e h
    refine ce_callVi (As := [.int x1, .int x4, .int 0]) (rest := []) hx hb hml hown hB (c_X8_publishes l X G b hk g25) ce_v_X8_publishes ce_w1089 ⟨Nat.le_of_ble_eq_true rfl, Nat.le_of_ble_eq_true rfl⟩ hF hA hS (ce_rc_8 hK hA hk) hl rfl rfl (Nat.le_of_ble_eq_true rfl) dX8_carriesOut_91 ⟨Nat.le_of_ble_eq_true rfl, Nat.le_of_ble_eq_true rfl⟩ (fun H locs hA hS => ?_)
    cases h
    exact ce_iret hx hb hr hlocks hA hS dX8_carriesOut_94
  have h := ce_ie c22 h
  by_cases c26 : (ce_rd M k 10) = 4
  · have h := ce_it c26 h
    refine lv_tableIn (off := 70) (tgt := 95) hx hb dX8_carriesOut_25 (by rw [c26]; decide) (by rw [c26]; decide) (by rw [c26]; rfl) (by decide) ?_
    refine lv_aload_n hx hb dX8_carriesOut_95 rfl (lv_at hl 3 rfl) ?_
    refine lv_iload_n hx hb dX8_carriesOut_96 rfl (lv_at hl 2 rfl) ?_
    refine lv_iload_n hx hb dX8_carriesOut_97 rfl (lv_at hl 1 rfl) ?_
    obtain ⟨M27, x28, g29, h⟩ := ce_b2_e h
    refine ce_callVi (As := [.int x1, .int x4]) (rest := []) hx hb hml hown hB (c_X8_sets l X G b hk g29) ce_v_X8_sets ce_w1077 ⟨Nat.le_of_ble_eq_true rfl, Nat.le_of_ble_eq_true rfl⟩ hF hA hS (ce_rc_8 hK hA hk) hl rfl rfl (Nat.le_of_ble_eq_true rfl) dX8_carriesOut_98 ⟨Nat.le_of_ble_eq_true rfl, Nat.le_of_ble_eq_true rfl⟩ (fun H locs hA hS => ?_)
    cases h
    exact ce_iret hx hb hr hlocks hA hS dX8_carriesOut_101
  have h := ce_ie c26 h
  by_cases c30 : (ce_rd M k 10) = 5
  · have h := ce_it c30 h
    refine lv_tableIn (off := 77) (tgt := 102) hx hb dX8_carriesOut_25 (by rw [c30]; decide) (by rw [c30]; decide) (by rw [c30]; rfl) (by decide) ?_
    refine lv_aload_n hx hb dX8_carriesOut_102 rfl (lv_at hl 3 rfl) ?_
    refine lv_iload_n hx hb dX8_carriesOut_103 rfl (lv_at hl 2 rfl) ?_
    obtain ⟨M31, x32, g33, h⟩ := ce_b2_e h
    refine ce_callVi (As := [.int x1]) (rest := []) hx hb hml hown hB (c_X8_quits l X G b hk g33) ce_v_X8_quits ce_w1061 ⟨Nat.le_of_ble_eq_true rfl, Nat.le_of_ble_eq_true rfl⟩ hF hA hS (ce_rc_8 hK hA hk) hl rfl rfl (Nat.le_of_ble_eq_true rfl) dX8_carriesOut_104 ⟨Nat.le_of_ble_eq_true rfl, Nat.le_of_ble_eq_true rfl⟩ (fun H locs hA hS => ?_)
    cases h
    exact ce_iret hx hb hr hlocks hA hS dX8_carriesOut_107
  have h := ce_ie c30 h
  have nc10 : ((ce_rd M k 10)).toInt ≠ 0 := fun q => c10 (Int32.toInt_inj.mp (q.trans (by decide)))
  have nc14 : ((ce_rd M k 10)).toInt ≠ 1 := fun q => c14 (Int32.toInt_inj.mp (q.trans (by decide)))
  have nc18 : ((ce_rd M k 10)).toInt ≠ 2 := fun q => c18 (Int32.toInt_inj.mp (q.trans (by decide)))
  have nc22 : ((ce_rd M k 10)).toInt ≠ 3 := fun q => c22 (Int32.toInt_inj.mp (q.trans (by decide)))
  have nc26 : ((ce_rd M k 10)).toInt ≠ 4 := fun q => c26 (Int32.toInt_inj.mp (q.trans (by decide)))
  have nc30 : ((ce_rd M k 10)).toInt ≠ 5 := fun q => c30 (Int32.toInt_inj.mp (q.trans (by decide)))
  refine lv_tableOut (tgt := 108) hx hb dX8_carriesOut_25 (by omega) (by decide) ?_
  refine lv_aload_n hx hb dX8_carriesOut_108 rfl (lv_at hl 3 rfl) ?_
  refine lv_iload_n hx hb dX8_carriesOut_109 rfl (lv_at hl 2 rfl) ?_
  obtain ⟨M34, x35, g36, h⟩ := ce_b2_e h
  refine ce_callVi (As := [.int x1]) (rest := []) hx hb hml hown hB (c_X8_passes l X G b hk g36) ce_v_X8_passes ce_w1127 ⟨Nat.le_of_ble_eq_true rfl, Nat.le_of_ble_eq_true rfl⟩ hF hA hS (ce_rc_8 hK hA hk) hl rfl rfl (Nat.le_of_ble_eq_true rfl) dX8_carriesOut_110 ⟨Nat.le_of_ble_eq_true rfl, Nat.le_of_ble_eq_true rfl⟩ (fun H locs hA hS => ?_)
  cases h
  exact ce_iret hx hb hr hlocks hA hS dX8_carriesOut_113
def f_X8_runCommands_L56 (k : Nat) (u25 : ce_M → Int32 → Option (ce_M × Int32)) (rec21 : ce_M → Int32 → Int32 → Option (ce_M × Int32)) (M18 : ce_M) (x19 : Int32) (x20 : Int32) : Option (ce_M × Int32) :=
  if x20 = 0 then
    u25 M18 x19
  else
    if (ce_rd M18 k 8) ≤ (ce_rd M18 k 9) then
      u25 M18 x19
    else
      ce_b2 (f_X8_takesCommand k M18) (fun (M32 : ce_M) (x33 : Int32) =>
      ce_nm (fun (M37 : ce_M) (x38 : Int32) =>
      if x38 = 0 then
        ce_nm (x19 + 0) (fun (x41 : Int32) =>
        rec21 M37 x41 x38)
      else
        ce_nm (x19 + 1) (fun (x43 : Int32) =>
        rec21 M37 x43 x38)) (fun (u39 : ce_M → Int32 → Option (ce_M × Int32)) =>
      ce_nm (fun (M35 : ce_M) =>
      u39 M35 0) (fun (u36 : ce_M → Option (ce_M × Int32)) =>
      if x33 = 0 then
        u36 M32
      else
        ce_b2 (f_X8_carriesOut k M32) (fun (M48 : ce_M) (x49 : Int32) =>
        if x49 = 0 then
          u39 M48 1
        else
          u36 M48))))
def f_X8_runCommands_L9 (k : Nat) (u11 : ce_M → Option (ce_M × Int32)) (u9 : ce_M → Option (ce_M × Int32)) (rec6 : ce_M → Option (ce_M × Int32)) (M5 : ce_M) : Option (ce_M × Int32) :=
  if (ce_rd M5 k 8) ≤ (ce_rd M5 k 9) then
    u11 M5
  else
    ce_b2 (f_X8_takesCommand k M5) (fun (M58 : ce_M) (x59 : Int32) =>
    if x59 = 0 then
      u9 M58
    else
      rec6 M58)
def f_X8_runCommands (k : Nat) (M : ce_M) : Option (ce_M × Int32) :=
  ce_nm (ce_wr M k 9 0) (fun (M1 : ce_M) =>
  ce_b1 (f_X8_skips k M1) (fun (M3 : ce_M) =>
  ce_nm (fun (M10 : ce_M) =>
      ce_b1 (f_X8_laysAside k M10) (fun (M12 : ce_M) =>
      ce_nm (ce_wr M12 k 9 0) (fun (M14 : ce_M) =>
      ce_b1 (f_X8_skips k M14) (fun (M16 : ce_M) =>
      ce_nm (fun (M23 : ce_M) (x24 : Int32) =>
          ce_b2 (f_X8_ends k M23 x24 0) (fun (M26 : ce_M) (x27 : Int32) =>
          some (M26, x27))) (fun (u25 : ce_M → Int32 → Option (ce_M × Int32)) =>
      ce_lp3 (f_X8_runCommands_L56 k u25) ce_FU M16 0 1))))) (fun (u11 : ce_M → Option (ce_M × Int32)) =>
  ce_nm (fun (M8 : ce_M) =>
      ce_b2 (f_X8_tells k M8 ((-10) - (ce_rd M8 k 9))) (fun (M53 : ce_M) (x54 : Int32) =>
      some (M53, x54))) (fun (u9 : ce_M → Option (ce_M × Int32)) =>
  ce_lp1 (f_X8_runCommands_L9 k u11 u9) ce_FU M3))))
set_option maxRecDepth 100000 in
set_option maxHeartbeats 4000000 in
theorem c_X8_runCommands (l : Launch) (X : ce_X) (G : ce_G) (b : Nat) {k : Nat} {M : ce_M} (hk : ce_kd k = 8) {M' : ce_M} {r : Int32} (h : f_X8_runCommands k M = some (M', r)) : ce_Ct l yX8_runCommands cX8_runCommands 3 (some .int) 7 169 X G b [.ref (b + k)] M (some (.int r)) M' := by
  refine ce_ofW (own := RX8) (by decide) rfl (Nat.le_of_ble_eq_true rfl) (fun p e s m below meth c ls hx hb hr hlocks hml hown hB hF hA hl hS => ?_)
  have hK := hF.1
  have hl : lv_has ls 3 [(0, .ref (b + k))] := hl
  unfold f_X8_runCommands at h
  refine lv_aload_n hx hb dX8_runCommands_0 rfl (lv_at hl 0 rfl) ?_
  refine lv_iconst (v := 0) hx hb dX8_runCommands_1 (by decide) ?_
  obtain ⟨M1, e2, h⟩ := ce_nm_e h
  refine ce_p_8_9 hx hb hB hown hK hA hS hk ce_w953 dX8_runCommands_2 e2 (fun H locs hA hS => ?_)
  refine lv_aload_n hx hb dX8_runCommands_5 rfl (lv_at hl 0 rfl) ?_
  obtain ⟨M3, g4, h⟩ := ce_b1_e h
  refine ce_callVv (As := []) (rest := []) hx hb hml hown hB (c_X8_skips l X G b hk g4) ce_v_X8_skips ce_w1255 ⟨Nat.le_of_ble_eq_true rfl, Nat.le_of_ble_eq_true rfl⟩ hF hA hS (ce_rc_8 hK hA hk) hl rfl rfl (Nat.le_of_ble_eq_true rfl) dX8_runCommands_6 ⟨Nat.le_of_ble_eq_true rfl, Nat.le_of_ble_eq_true rfl⟩ (fun H locs hA hS => ?_)
  obtain ⟨u11, e52, h⟩ := ce_nm_e h
  have Ju11 : ∀ (M10 : ce_M), u11 M10 = some (M', r) → ce_Wg p l e (ce_R 7 169 0 0) s m (([.ref (b + k)] : List Value).toArray) below meth c 0 0 (MQ below (ce_Q X b M' (some (.int r))) ([.ref (b + k)] : List Value).toArray s 0 0 (ce_Ab b)) X b M10 3 [(0, .ref (b + k))] 39 [] := by
    intro M10 h  H locs ls hA hS hl
    subst e52
    refine lv_aload_n hx hb dX8_runCommands_39 rfl (lv_at hl 0 rfl) ?_
    obtain ⟨M12, g13, h⟩ := ce_b1_e h
    refine ce_callVv (As := []) (rest := []) hx hb hml hown hB (c_X8_laysAside l X G b hk g13) ce_v_X8_laysAside ce_w992 ⟨Nat.le_of_ble_eq_true rfl, Nat.le_of_ble_eq_true rfl⟩ hF hA hS (ce_rc_8 hK hA hk) hl rfl rfl (Nat.le_of_ble_eq_true rfl) dX8_runCommands_40 ⟨Nat.le_of_ble_eq_true rfl, Nat.le_of_ble_eq_true rfl⟩ (fun H locs hA hS => ?_)
    refine lv_aload_n hx hb dX8_runCommands_43 rfl (lv_at hl 0 rfl) ?_
    refine lv_iconst (v := 0) hx hb dX8_runCommands_44 (by decide) ?_
    obtain ⟨M14, e15, h⟩ := ce_nm_e h
    refine ce_p_8_9 hx hb hB hown hK hA hS hk ce_w953 dX8_runCommands_45 e15 (fun H locs hA hS => ?_)
    refine lv_aload_n hx hb dX8_runCommands_48 rfl (lv_at hl 0 rfl) ?_
    obtain ⟨M16, g17, h⟩ := ce_b1_e h
    refine ce_callVv (As := []) (rest := []) hx hb hml hown hB (c_X8_skips l X G b hk g17) ce_v_X8_skips ce_w1255 ⟨Nat.le_of_ble_eq_true rfl, Nat.le_of_ble_eq_true rfl⟩ hF hA hS (ce_rc_8 hK hA hk) hl rfl rfl (Nat.le_of_ble_eq_true rfl) dX8_runCommands_49 ⟨Nat.le_of_ble_eq_true rfl, Nat.le_of_ble_eq_true rfl⟩ (fun H locs hA hS => ?_)
    refine lv_iconst (v := 0) hx hb dX8_runCommands_52 (by decide) ?_
    refine lv_istore_n (lv' := [(1, .int 0), (0, .ref (b + k))]) hx hb dX8_runCommands_53 rfl hl (by decide) rfl (fun ls hl => ?_)
    refine lv_iconst (v := 1) hx hb dX8_runCommands_54 (by decide) ?_
    refine lv_istore_n (lv' := [(2, .int 1), (1, .int 0), (0, .ref (b + k))]) hx hb dX8_runCommands_55 rfl hl (by decide) rfl (fun ls hl => ?_)
    obtain ⟨u25, e29, h⟩ := ce_nm_e h
    have Ju25 : ∀ (M23 : ce_M) (x24 : Int32), u25 M23 x24 = some (M', r) → ce_Wg p l e (ce_R 7 169 0 0) s m (([.ref (b + k)] : List Value).toArray) below meth c 0 0 (MQ below (ce_Q X b M' (some (.int r))) ([.ref (b + k)] : List Value).toArray s 0 0 (ce_Ab b)) X b M23 3 [(0, .ref (b + k)), (1, .int x24)] 106 [] := by
      intro M23 x24 h  H locs ls hA hS hl
      subst e29
      refine lv_aload_n hx hb dX8_runCommands_106 rfl (lv_at hl 0 rfl) ?_
      refine lv_iload_n hx hb dX8_runCommands_107 rfl (lv_at hl 1 rfl) ?_
      refine lv_iconst (v := 0) hx hb dX8_runCommands_108 (by decide) ?_
      obtain ⟨M26, x27, g28, h⟩ := ce_b2_e h
      refine ce_callVi (As := [.int x24, .int 0]) (rest := []) hx hb hml hown hB (c_X8_ends l X G b hk g28) ce_v_X8_ends ce_w1025 ⟨Nat.le_of_ble_eq_true rfl, Nat.le_of_ble_eq_true rfl⟩ hF hA hS (ce_rc_8 hK hA hk) hl rfl rfl (Nat.le_of_ble_eq_true rfl) dX8_runCommands_109 ⟨Nat.le_of_ble_eq_true rfl, Nat.le_of_ble_eq_true rfl⟩ (fun H locs hA hS => ?_)
      cases h
      exact ce_iret hx hb hr hlocks hA hS dX8_runCommands_112
    refine ce_lp3_i (y := (M', r)) (P := fun (M18 : ce_M) (x19 : Int32) (x20 : Int32) => ce_Wg p l e (ce_R 7 169 0 0) s m (([.ref (b + k)] : List Value).toArray) below meth c 0 0 (MQ below (ce_Q X b M' (some (.int r))) ([.ref (b + k)] : List Value).toArray s 0 0 (ce_Ab b)) X b M18 3 [(0, .ref (b + k)), (1, .int x19), (2, .int x20)] 56 []) (fun rec21 ih22 M18 x19 x20 h => ?_) _ _ _ _ h _ _ _ hA hS (lv_sub hl [2, 1, 0] rfl)
    intro H locs ls hA hS hl
    unfold f_X8_runCommands_L56 at h
    refine lv_iload_n hx hb dX8_runCommands_56 rfl (lv_at hl 2 rfl) ?_
    refine lv_if_eq (tgt := 106) hx hb dX8_runCommands_57 (by decide) (fun c30 => ?_) (fun c30 => ?_)
    · have h := ce_it c30 h
      exact Ju25 M18 x19 h  _ _ _ hA hS (lv_sub hl [0, 1] rfl)
    · have h := ce_ie c30 h
      refine lv_aload_n hx hb dX8_runCommands_60 rfl (lv_at hl 0 rfl) ?_
      refine ce_g_8_9 hx hb hB hown hK hA hk ce_w953 dX8_runCommands_61 ?_
      refine lv_aload_n hx hb dX8_runCommands_64 rfl (lv_at hl 0 rfl) ?_
      refine ce_g_8_8 hx hb hB hown hK hA hk ce_w952 dX8_runCommands_65 ?_
      refine lv_icmp_ge (tgt := 106) hx hb dX8_runCommands_68 (by decide) (fun c31 => ?_) (fun c31 => ?_)
      · have h := ce_it c31 h
        exact Ju25 M18 x19 h  _ _ _ hA hS (lv_sub hl [0, 1] rfl)
      · have h := ce_ie c31 h
        refine lv_aload_n hx hb dX8_runCommands_71 rfl (lv_at hl 0 rfl) ?_
        obtain ⟨M32, x33, g34, h⟩ := ce_b2_e h
        refine ce_callVi (As := []) (rest := []) hx hb hml hown hB (c_X8_takesCommand l X G b hk g34) ce_v_X8_takesCommand ce_w1263 ⟨Nat.le_of_ble_eq_true rfl, Nat.le_of_ble_eq_true rfl⟩ hF hA hS (ce_rc_8 hK hA hk) hl rfl rfl (Nat.le_of_ble_eq_true rfl) dX8_runCommands_72 ⟨Nat.le_of_ble_eq_true rfl, Nat.le_of_ble_eq_true rfl⟩ (fun H locs hA hS => ?_)
        obtain ⟨u39, e45, h⟩ := ce_nm_e h
        have Ju39 : ∀ (M37 : ce_M) (x38 : Int32), u39 M37 x38 = some (M', r) → ce_Wg p l e (ce_R 7 169 0 0) s m (([.ref (b + k)] : List Value).toArray) below meth c 0 0 (MQ below (ce_Q X b M' (some (.int r))) ([.ref (b + k)] : List Value).toArray s 0 0 (ce_Ab b)) X b M37 3 [(0, .ref (b + k)), (1, .int x19)] 90 [.int x38] := by
          intro M37 x38 h  H locs ls hA hS hl
          subst e45
          refine lv_istore_n (lv' := [(2, .int x38), (0, .ref (b + k)), (1, .int x19)]) hx hb dX8_runCommands_90 rfl hl (by decide) rfl (fun ls hl => ?_)
          refine lv_iload_n hx hb dX8_runCommands_91 rfl (lv_at hl 2 rfl) ?_
          refine lv_iload_n hx hb dX8_runCommands_92 rfl (lv_at hl 0 rfl) ?_
          refine lv_if_eq (tgt := 100) hx hb dX8_runCommands_93 (by decide) (fun c40 => ?_) (fun c40 => ?_)
          · have h := ce_it c40 h
            refine lv_iconst (v := 0) hx hb dX8_runCommands_100 (by decide) ?_
            refine lv_iadd hx hb dX8_runCommands_101 ?_
            obtain ⟨x41, e42, h⟩ := ce_nm_e h
            refine ce_top e42 ?_
            refine lv_istore_n (lv' := [(1, .int x41), (2, .int x38), (0, .ref (b + k))]) hx hb dX8_runCommands_102 rfl hl (by decide) rfl (fun ls hl => ?_)
            refine lv_goto (tgt := 56) hx hb dX8_runCommands_103 (by decide) ?_
            exact ih22 M37 x41 x38 h  _ _ _ hA hS (lv_sub hl [2, 0, 1] rfl)
          · have h := ce_ie c40 h
            refine lv_iconst (v := 1) hx hb dX8_runCommands_96 (by decide) ?_
            refine lv_goto (tgt := 101) hx hb dX8_runCommands_97 (by decide) ?_
            refine lv_iadd hx hb dX8_runCommands_101 ?_
            obtain ⟨x43, e44, h⟩ := ce_nm_e h
            refine ce_top e44 ?_
            refine lv_istore_n (lv' := [(1, .int x43), (2, .int x38), (0, .ref (b + k))]) hx hb dX8_runCommands_102 rfl hl (by decide) rfl (fun ls hl => ?_)
            refine lv_goto (tgt := 56) hx hb dX8_runCommands_103 (by decide) ?_
            exact ih22 M37 x43 x38 h  _ _ _ hA hS (lv_sub hl [2, 0, 1] rfl)
        obtain ⟨u36, e46, h⟩ := ce_nm_e h
        have Ju36 : ∀ (M35 : ce_M), u36 M35 = some (M', r) → ce_Wg p l e (ce_R 7 169 0 0) s m (([.ref (b + k)] : List Value).toArray) below meth c 0 0 (MQ below (ce_Q X b M' (some (.int r))) ([.ref (b + k)] : List Value).toArray s 0 0 (ce_Ab b)) X b M35 3 [(0, .ref (b + k)), (1, .int x19)] 89 [] := by
          intro M35 h  H locs ls hA hS hl
          subst e46
          refine lv_iconst (v := 0) hx hb dX8_runCommands_89 (by decide) ?_
          exact Ju39 M35 0 h  _ _ _ hA hS (lv_sub hl [0, 1] rfl)
        refine lv_if_eq (tgt := 89) hx hb dX8_runCommands_75 (by decide) (fun c47 => ?_) (fun c47 => ?_)
        · have h := ce_it c47 h
          exact Ju36 M32 h  _ _ _ hA hS (lv_sub hl [0, 1] rfl)
        · have h := ce_ie c47 h
          refine lv_aload_n hx hb dX8_runCommands_78 rfl (lv_at hl 0 rfl) ?_
          obtain ⟨M48, x49, g50, h⟩ := ce_b2_e h
          refine ce_callVi (As := []) (rest := []) hx hb hml hown hB (c_X8_carriesOut l X G b hk g50) ce_v_X8_carriesOut ce_w1275 ⟨Nat.le_of_ble_eq_true rfl, Nat.le_of_ble_eq_true rfl⟩ hF hA hS (ce_rc_8 hK hA hk) hl rfl rfl (Nat.le_of_ble_eq_true rfl) dX8_runCommands_79 ⟨Nat.le_of_ble_eq_true rfl, Nat.le_of_ble_eq_true rfl⟩ (fun H locs hA hS => ?_)
          refine lv_if_ne (tgt := 89) hx hb dX8_runCommands_82 (by decide) (fun c51 => ?_) (fun c51 => ?_)
          · have h := ce_ie c51 h
            exact Ju36 M48 h  _ _ _ hA hS (lv_sub hl [0, 1] rfl)
          · have h := ce_it c51 h
            refine lv_iconst (v := 1) hx hb dX8_runCommands_85 (by decide) ?_
            refine lv_goto (tgt := 90) hx hb dX8_runCommands_86 (by decide) ?_
            exact Ju39 M48 1 h  _ _ _ hA hS (lv_sub hl [0, 1] rfl)
  obtain ⟨u9, e56, h⟩ := ce_nm_e h
  have Ju9 : ∀ (M8 : ce_M), u9 M8 = some (M', r) → ce_Wg p l e (ce_R 7 169 0 0) s m (([.ref (b + k)] : List Value).toArray) below meth c 0 0 (MQ below (ce_Q X b M' (some (.int r))) ([.ref (b + k)] : List Value).toArray s 0 0 (ce_Ab b)) X b M8 3 [(0, .ref (b + k))] 27 [] := by
    intro M8 h  H locs ls hA hS hl
    subst e56
    refine lv_aload_n hx hb dX8_runCommands_27 rfl (lv_at hl 0 rfl) ?_
    refine lv_bipush (v := (-10)) hx hb dX8_runCommands_28 (by decide) ?_
    refine lv_aload_n hx hb dX8_runCommands_30 rfl (lv_at hl 0 rfl) ?_
    refine ce_g_8_9 hx hb hB hown hK hA hk ce_w953 dX8_runCommands_31 ?_
    refine lv_isub hx hb dX8_runCommands_34 ?_
    obtain ⟨M53, x54, g55, h⟩ := ce_b2_e h
    refine ce_callVi (As := [.int ((-10) - (ce_rd M8 k 9))]) (rest := []) hx hb hml hown hB (c_X8_tells l X G b hk g55) ce_v_X8_tells ce_w1041 ⟨Nat.le_of_ble_eq_true rfl, Nat.le_of_ble_eq_true rfl⟩ hF hA hS (ce_rc_8 hK hA hk) hl rfl rfl (Nat.le_of_ble_eq_true rfl) dX8_runCommands_35 ⟨Nat.le_of_ble_eq_true rfl, Nat.le_of_ble_eq_true rfl⟩ (fun H locs hA hS => ?_)
    cases h
    exact ce_iret hx hb hr hlocks hA hS dX8_runCommands_38
  refine ce_lp1_i (y := (M', r)) (P := fun (M5 : ce_M) => ce_Wg p l e (ce_R 7 169 0 0) s m (([.ref (b + k)] : List Value).toArray) below meth c 0 0 (MQ below (ce_Q X b M' (some (.int r))) ([.ref (b + k)] : List Value).toArray s 0 0 (ce_Ab b)) X b M5 3 [(0, .ref (b + k))] 9 []) (fun rec6 ih7 M5 h => ?_) _ _ h _ _ _ hA hS (lv_sub hl [0] rfl)
  intro H locs ls hA hS hl
  unfold f_X8_runCommands_L9 at h
  refine lv_aload_n hx hb dX8_runCommands_9 rfl (lv_at hl 0 rfl) ?_
  refine ce_g_8_9 hx hb hB hown hK hA hk ce_w953 dX8_runCommands_10 ?_
  refine lv_aload_n hx hb dX8_runCommands_13 rfl (lv_at hl 0 rfl) ?_
  refine ce_g_8_8 hx hb hB hown hK hA hk ce_w952 dX8_runCommands_14 ?_
  refine lv_icmp_ge (tgt := 39) hx hb dX8_runCommands_17 (by decide) (fun c57 => ?_) (fun c57 => ?_)
  · have h := ce_it c57 h
    exact Ju11 M5 h  _ _ _ hA hS (lv_sub hl [0] rfl)
  · have h := ce_ie c57 h
    refine lv_aload_n hx hb dX8_runCommands_20 rfl (lv_at hl 0 rfl) ?_
    obtain ⟨M58, x59, g60, h⟩ := ce_b2_e h
    refine ce_callVi (As := []) (rest := []) hx hb hml hown hB (c_X8_takesCommand l X G b hk g60) ce_v_X8_takesCommand ce_w1263 ⟨Nat.le_of_ble_eq_true rfl, Nat.le_of_ble_eq_true rfl⟩ hF hA hS (ce_rc_8 hK hA hk) hl rfl rfl (Nat.le_of_ble_eq_true rfl) dX8_runCommands_21 ⟨Nat.le_of_ble_eq_true rfl, Nat.le_of_ble_eq_true rfl⟩ (fun H locs hA hS => ?_)
    refine lv_if_ne (tgt := 9) hx hb dX8_runCommands_24 (by decide) (fun c61 => ?_) (fun c61 => ?_)
    · have h := ce_ie c61 h
      exact ih7 M58 h  _ _ _ hA hS (lv_sub hl [0] rfl)
    · have h := ce_it c61 h
      exact Ju9 M58 h  _ _ _ hA hS (lv_sub hl [0] rfl)
def f_X8_undo_L25 (k : Nat) (u9 : ce_M → Option (ce_M × Int32)) (rec6 : ce_M → Int32 → Option (ce_M × Int32)) (M4 : ce_M) (x5 : Int32) : Option (ce_M × Int32) :=
  if 816 ≤ x5 then
    u9 M4
  else
    ce_gi ((816 * (ce_rd M4 k 3)) + x5) 3264 (ce_nm (ce_rd M4 (k + 2) (Int32.toNatClampNeg ((816 * (ce_rd M4 k 3)) + x5))) (fun (x15 : Int32) =>
    ce_gi x5 816 (ce_nm (ce_wr M4 (k + 1) (Int32.toNatClampNeg x5) x15) (fun (M18 : ce_M) =>
    ce_nm (x5 + 1) (fun (x21 : Int32) =>
    rec6 M18 x21)))))
def f_X8_undo (k : Nat) (M : ce_M) : Option (ce_M × Int32) :=
  if (ce_rd M k 3) = 0 then
    ce_b2 (f_X8_fails k M 1) (fun (M23 : ce_M) (x24 : Int32) =>
    some (M23, x24))
  else
    ce_nm (ce_wr M k 3 ((ce_rd M k 3) - 1)) (fun (M2 : ce_M) =>
    ce_nm (fun (M8 : ce_M) =>
      ce_b2 (f_X8_tells k M8 (ce_rd M8 k 3)) (fun (M10 : ce_M) (x11 : Int32) =>
      some (M10, x11))) (fun (u9 : ce_M → Option (ce_M × Int32)) =>
    ce_lp2 (f_X8_undo_L25 k u9) ce_FU M2 0))
set_option maxRecDepth 100000 in
set_option maxHeartbeats 4000000 in
theorem c_X8_undo (l : Launch) (X : ce_X) (G : ce_G) (b : Nat) {k : Nat} {M : ce_M} (hk : ce_kd k = 8) {M' : ce_M} {r : Int32} (h : f_X8_undo k M = some (M', r)) : ce_Ct l yX8_undo cX8_undo 2 (some .int) 1 21 X G b [.ref (b + k)] M (some (.int r)) M' := by
  refine ce_ofW (own := RX8) (by decide) rfl (Nat.le_of_ble_eq_true rfl) (fun p e s m below meth c ls hx hb hr hlocks hml hown hB hF hA hl hS => ?_)
  have hK := hF.1
  have hl : lv_has ls 2 [(0, .ref (b + k))] := hl
  unfold f_X8_undo at h
  refine lv_aload_n hx hb dX8_undo_0 rfl (lv_at hl 0 rfl) ?_
  refine ce_g_8_3 hx hb hB hown hK hA hk ce_w947 dX8_undo_1 ?_
  refine lv_if_ne (tgt := 13) hx hb dX8_undo_4 (by decide) (fun c1 => ?_) (fun c1 => ?_)
  · have h := ce_ie c1 h
    refine lv_aload_n hx hb dX8_undo_13 rfl (lv_at hl 0 rfl) ?_
    refine lv_dup hx hb dX8_undo_14 rfl ?_
    refine ce_g_8_3 hx hb hB hown hK hA hk ce_w947 dX8_undo_15 ?_
    refine lv_iconst (v := 1) hx hb dX8_undo_18 (by decide) ?_
    refine lv_isub hx hb dX8_undo_19 ?_
    obtain ⟨M2, e3, h⟩ := ce_nm_e h
    refine ce_p_8_3 hx hb hB hown hK hA hS hk ce_w947 dX8_undo_20 e3 (fun H locs hA hS => ?_)
    refine lv_iconst (v := 0) hx hb dX8_undo_23 (by decide) ?_
    refine lv_istore_n (lv' := [(1, .int 0), (0, .ref (b + k))]) hx hb dX8_undo_24 rfl hl (by decide) rfl (fun ls hl => ?_)
    obtain ⟨u9, e13, h⟩ := ce_nm_e h
    have Ju9 : ∀ (M8 : ce_M), u9 M8 = some (M', r) → ce_Wg p l e (ce_R 1 21 0 0) s m (([.ref (b + k)] : List Value).toArray) below meth c 0 0 (MQ below (ce_Q X b M' (some (.int r))) ([.ref (b + k)] : List Value).toArray s 0 0 (ce_Ab b)) X b M8 2 [(0, .ref (b + k))] 59 [] := by
      intro M8 h  H locs ls hA hS hl
      subst e13
      refine lv_aload_n hx hb dX8_undo_59 rfl (lv_at hl 0 rfl) ?_
      refine lv_aload_n hx hb dX8_undo_60 rfl (lv_at hl 0 rfl) ?_
      refine ce_g_8_3 hx hb hB hown hK hA hk ce_w947 dX8_undo_61 ?_
      obtain ⟨M10, x11, g12, h⟩ := ce_b2_e h
      refine ce_callVi (As := [.int (ce_rd M8 k 3)]) (rest := []) hx hb hml hown hB (c_X8_tells l X G b hk g12) ce_v_X8_tells ce_w1041 ⟨Nat.le_of_ble_eq_true rfl, Nat.le_of_ble_eq_true rfl⟩ hF hA hS (ce_rc_8 hK hA hk) hl rfl rfl (Nat.le_of_ble_eq_true rfl) dX8_undo_64 ⟨Nat.le_of_ble_eq_true rfl, Nat.le_of_ble_eq_true rfl⟩ (fun H locs hA hS => ?_)
      cases h
      exact ce_iret hx hb hr hlocks hA hS dX8_undo_67
    refine ce_lp2_i (y := (M', r)) (P := fun (M4 : ce_M) (x5 : Int32) => ce_Wg p l e (ce_R 1 21 0 0) s m (([.ref (b + k)] : List Value).toArray) below meth c 0 0 (MQ below (ce_Q X b M' (some (.int r))) ([.ref (b + k)] : List Value).toArray s 0 0 (ce_Ab b)) X b M4 2 [(0, .ref (b + k)), (1, .int x5)] 25 []) (fun rec6 ih7 M4 x5 h => ?_) _ _ _ h _ _ _ hA hS (lv_sub hl [1, 0] rfl)
    intro H locs ls hA hS hl
    unfold f_X8_undo_L25 at h
    refine lv_iload_n hx hb dX8_undo_25 rfl (lv_at hl 1 rfl) ?_
    refine lv_sipush (v := 816) hx hb dX8_undo_26 (by decide) ?_
    refine lv_icmp_ge (tgt := 59) hx hb dX8_undo_29 (by decide) (fun c14 => ?_) (fun c14 => ?_)
    · have h := ce_it c14 h
      exact Ju9 M4 h  _ _ _ hA hS (lv_sub hl [0] rfl)
    · have h := ce_ie c14 h
      refine lv_aload_n hx hb dX8_undo_32 rfl (lv_at hl 0 rfl) ?_
      refine ce_g_8_0 hx hb hB hown hK hA hk ce_w944 dX8_undo_33 ?_
      refine lv_iload_n hx hb dX8_undo_36 rfl (lv_at hl 1 rfl) ?_
      refine lv_aload_n hx hb dX8_undo_37 rfl (lv_at hl 0 rfl) ?_
      refine ce_g_8_1 hx hb hB hown hK hA hk ce_w945 dX8_undo_38 ?_
      refine lv_sipush (v := 816) hx hb dX8_undo_41 (by decide) ?_
      refine lv_aload_n hx hb dX8_undo_44 rfl (lv_at hl 0 rfl) ?_
      refine ce_g_8_3 hx hb hB hown hK hA hk ce_w947 dX8_undo_45 ?_
      refine lv_imul hx hb dX8_undo_48 ?_
      refine lv_iload_n hx hb dX8_undo_49 rfl (lv_at hl 1 rfl) ?_
      refine lv_iadd hx hb dX8_undo_50 ?_
      obtain ⟨i16, h⟩ := ce_gi_e h
      obtain ⟨x15, e17, h⟩ := ce_nm_e h
      refine ce_iald hx hb hK hA 3264 (ce_kf_8_1 hk) i16 e17 dX8_undo_51 ?_
      obtain ⟨i19, h⟩ := ce_gi_e h
      obtain ⟨M18, e20, h⟩ := ce_nm_e h
      refine ce_iast hx hb hK hA hS 816 (ce_kf_8_0 hk) i19 dX8_undo_52 e20 (fun H locs hA hS => ?_)
      obtain ⟨x21, e22, h⟩ := ce_nm_e h
      refine lv_iinc (v := x21) (lv' := [(1, .int x21), (0, .ref (b + k))]) hx hb dX8_undo_53 hl (k := 1) rfl (by rw [← e22]; rfl) (by decide) rfl (fun ls hl => ?_)
      refine lv_goto (tgt := 25) hx hb dX8_undo_56 (by decide) ?_
      exact ih7 M18 x21 h  _ _ _ hA hS (lv_sub hl [1, 0] rfl)
  · have h := ce_it c1 h
    refine lv_aload_n hx hb dX8_undo_7 rfl (lv_at hl 0 rfl) ?_
    refine lv_iconst (v := 1) hx hb dX8_undo_8 (by decide) ?_
    obtain ⟨M23, x24, g25, h⟩ := ce_b2_e h
    refine ce_callVi (As := [.int 1]) (rest := []) hx hb hml hown hB (c_X8_fails l X G b hk g25) ce_v_X8_fails ce_w1033 ⟨Nat.le_of_ble_eq_true rfl, Nat.le_of_ble_eq_true rfl⟩ hF hA hS (ce_rc_8 hK hA hk) hl rfl rfl (Nat.le_of_ble_eq_true rfl) dX8_undo_9 ⟨Nat.le_of_ble_eq_true rfl, Nat.le_of_ble_eq_true rfl⟩ (fun H locs hA hS => ?_)
    cases h
    exact ce_iret hx hb hr hlocks hA hS dX8_undo_12
def f_X8_mix (k : Nat) (M : ce_M) (a1 : Int32) : Option ce_M :=
  ce_nm (ce_wl M 0 ((31 * (ce_rl M 0)) + (Int32.toInt64 a1))) (fun (M1 : ce_M) =>
  some M1)
set_option maxRecDepth 100000 in
set_option maxHeartbeats 4000000 in
theorem c_X8_mix (l : Launch) (X : ce_X) (G : ce_G) (b : Nat) {k : Nat} {a1 : Int32} {M : ce_M} (hk : ce_kd k = 8) {M' : ce_M} (h : f_X8_mix k M a1 = some M') : ce_Ct l yX8_mix cX8_mix 2 none 0 0 X G b [.ref (b + k), .int a1] M none M' := by
  refine ce_ofW (own := RX8) (by decide) rfl (Nat.le_of_ble_eq_true rfl) (fun p e s m below meth c ls hx hb hr hlocks hml hown hB hF hA hl hS => ?_)
  have hK := hF.1
  have hl : lv_has ls 2 [(0, .ref (b + k)), (1, .int a1)] := hl
  unfold f_X8_mix at h
  refine lv_aload_n hx hb dX8_mix_0 rfl (lv_at hl 0 rfl) ?_
  refine lv_ldc2 (v := 31) hx hb hown (hB _ ce_w1292) dX8_mix_1 ?_
  refine lv_aload_n hx hb dX8_mix_4 rfl (lv_at hl 0 rfl) ?_
  refine ce_g_8_12 hx hb hB hown hK hA hk ce_w956 dX8_mix_5 ?_
  refine lv_lmul hx hb dX8_mix_8 ?_
  refine lv_iload_n hx hb dX8_mix_9 rfl (lv_at hl 1 rfl) ?_
  refine lv_i2l hx hb dX8_mix_10 rfl ?_
  refine lv_ladd hx hb dX8_mix_11 ?_
  obtain ⟨M1, e2, h⟩ := ce_nm_e h
  refine ce_p_8_12 hx hb hB hown hK hA hS hk ce_w956 dX8_mix_12 e2 (fun H locs hA hS => ?_)
  cases h
  exact ce_vret hx hb hr hlocks hA hS dX8_mix_15
def f_X8_mixOne_L79 (k : Nat) (x6 : Int32) (u23 : ce_M → Option ce_M) (rec20 : ce_M → Int32 → Option ce_M) (M18 : ce_M) (x19 : Int32) : Option ce_M :=
  ce_b1 (f_X8_of k M18 x6 6) (fun (x33 : Int32) =>
  if x33 ≤ x19 then
    u23 M18
  else
    ce_b1 (f_X8_of k M18 x6 (12 + x19)) (fun (x36 : Int32) =>
    ce_b1 (f_X8_mix k M18 x36) (fun (M38 : ce_M) =>
    ce_nm (x19 + 1) (fun (x40 : Int32) =>
    rec20 M38 x40))))
def f_X8_mixOne_L34 (k : Nat) (x6 : Int32) (u17 : ce_M → Option ce_M) (rec14 : ce_M → Int32 → Option ce_M) (M12 : ce_M) (x13 : Int32) : Option ce_M :=
  if x13 < 0 then
    u17 M12
  else
    ce_b1 (f_X8_stayAt k M12 x6 x13 0) (fun (x44 : Int32) =>
    ce_b1 (f_X8_mix k M12 x44) (fun (M46 : ce_M) =>
    ce_b1 (f_X8_stayAt k M46 x6 x13 1) (fun (x48 : Int32) =>
    ce_b1 (f_X8_mix k M46 x48) (fun (M50 : ce_M) =>
    ce_b1 (f_X8_stayAt k M50 x6 x13 2) (fun (x52 : Int32) =>
    ce_b1 (f_X8_mix k M50 x52) (fun (M54 : ce_M) =>
    ce_nm (x13 + (-1)) (fun (x56 : Int32) =>
    rec14 M54 x56)))))))
def f_X8_mixOne_L2 (a1 : Int32) (k : Nat) (u7 : ce_M → Int32 → Option ce_M) (rec3 : ce_M → Int32 → Option ce_M) (M1 : ce_M) (x2 : Int32) : Option ce_M :=
  if 12 ≤ x2 then
    u7 M1 a1
  else
    ce_b1 (f_X8_told k M1 a1 x2) (fun (x60 : Int32) =>
    ce_b1 (f_X8_mix k M1 x60) (fun (M62 : ce_M) =>
    ce_nm (x2 + 1) (fun (x64 : Int32) =>
    rec3 M62 x64)))
def f_X8_mixOne (k : Nat) (M : ce_M) (a1 : Int32) : Option ce_M :=
  ce_nm (fun (M5 : ce_M) (x6 : Int32) =>
      ce_b1 (f_X8_of k M5 x6 11) (fun (x8 : Int32) =>
      ce_nm (x8 - 1) (fun (x10 : Int32) =>
      ce_nm (fun (M16 : ce_M) =>
          ce_nm (fun (M22 : ce_M) =>
              ce_b1 (f_X8_changesIn k M22 x6) (fun (x24 : Int32) =>
              ce_b1 (f_X8_mix k M22 x24) (fun (M26 : ce_M) =>
              ce_b1 (f_X8_coveredBy k M26 x6) (fun (x28 : Int32) =>
              ce_b1 (f_X8_mix k M26 x28) (fun (M30 : ce_M) =>
              some M30))))) (fun (u23 : ce_M → Option ce_M) =>
          ce_lp2 (f_X8_mixOne_L79 k x6 u23) ce_FU M16 0)) (fun (u17 : ce_M → Option ce_M) =>
      ce_lp2 (f_X8_mixOne_L34 k x6 u17) ce_FU M5 x10)))) (fun (u7 : ce_M → Int32 → Option ce_M) =>
  ce_lp2 (f_X8_mixOne_L2 a1 k u7) ce_FU M 0)
set_option maxRecDepth 100000 in
set_option maxHeartbeats 4000000 in
theorem c_X8_mixOne (l : Launch) (X : ce_X) (G : ce_G) (b : Nat) {k : Nat} {a1 : Int32} {M : ce_M} (hk : ce_kd k = 8) {M' : ce_M} (h : f_X8_mixOne k M a1 = some M') : ce_Ct l yX8_mixOne cX8_mixOne 3 none 3 68 X G b [.ref (b + k), .int a1] M none M' := by
  refine ce_ofW (own := RX8) (by decide) rfl (Nat.le_of_ble_eq_true rfl) (fun p e s m below meth c ls hx hb hr hlocks hml hown hB hF hA hl hS => ?_)
  have hK := hF.1
  have hl : lv_has ls 3 [(0, .ref (b + k)), (1, .int a1)] := hl
  unfold f_X8_mixOne at h
  refine lv_iconst (v := 0) hx hb dX8_mixOne_0 (by decide) ?_
  refine lv_istore_n (lv' := [(2, .int 0), (0, .ref (b + k)), (1, .int a1)]) hx hb dX8_mixOne_1 rfl hl (by decide) rfl (fun ls hl => ?_)
  obtain ⟨u7, e58, h⟩ := ce_nm_e h
  have Ju7 : ∀ (M5 : ce_M) (x6 : Int32), u7 M5 x6 = some M' → ce_Wg p l e (ce_R 3 68 0 0) s m (([.ref (b + k), .int a1] : List Value).toArray) below meth c 0 0 (MQ below (ce_Q X b M' none) ([.ref (b + k), .int a1] : List Value).toArray s 0 0 (ce_Ab b)) X b M5 3 [(0, .ref (b + k)), (1, .int x6)] 24 [] := by
    intro M5 x6 h  H locs ls hA hS hl
    subst e58
    refine lv_aload_n hx hb dX8_mixOne_24 rfl (lv_at hl 0 rfl) ?_
    refine lv_iload_n hx hb dX8_mixOne_25 rfl (lv_at hl 1 rfl) ?_
    refine lv_bipush (v := 11) hx hb dX8_mixOne_26 (by decide) ?_
    obtain ⟨x8, g9, h⟩ := ce_b1_e h
    refine ce_callVi (As := [.int x6, .int 11]) (rest := []) hx hb hml hown hB (c_X8_of l X G b hk g9) ce_v_X8_of ce_w1017 ⟨Nat.le_of_ble_eq_true rfl, Nat.le_of_ble_eq_true rfl⟩ hF hA hS (ce_rc_8 hK hA hk) hl rfl rfl (Nat.le_of_ble_eq_true rfl) dX8_mixOne_28 ⟨Nat.le_of_ble_eq_true rfl, Nat.le_of_ble_eq_true rfl⟩ (fun H locs hA hS => ?_)
    refine lv_iconst (v := 1) hx hb dX8_mixOne_31 (by decide) ?_
    refine lv_isub hx hb dX8_mixOne_32 ?_
    obtain ⟨x10, e11, h⟩ := ce_nm_e h
    refine ce_top e11 ?_
    refine lv_istore_n (lv' := [(2, .int x10), (0, .ref (b + k)), (1, .int x6)]) hx hb dX8_mixOne_33 rfl hl (by decide) rfl (fun ls hl => ?_)
    obtain ⟨u17, e42, h⟩ := ce_nm_e h
    have Ju17 : ∀ (M16 : ce_M), u17 M16 = some M' → ce_Wg p l e (ce_R 3 68 0 0) s m (([.ref (b + k), .int a1] : List Value).toArray) below meth c 0 0 (MQ below (ce_Q X b M' none) ([.ref (b + k), .int a1] : List Value).toArray s 0 0 (ce_Ab b)) X b M16 3 [(0, .ref (b + k)), (1, .int x6)] 77 [] := by
      intro M16 h  H locs ls hA hS hl
      subst e42
      refine lv_iconst (v := 0) hx hb dX8_mixOne_77 (by decide) ?_
      refine lv_istore_n (lv' := [(2, .int 0), (0, .ref (b + k)), (1, .int x6)]) hx hb dX8_mixOne_78 rfl hl (by decide) rfl (fun ls hl => ?_)
      obtain ⟨u23, e32, h⟩ := ce_nm_e h
      have Ju23 : ∀ (M22 : ce_M), u23 M22 = some M' → ce_Wg p l e (ce_R 3 68 0 0) s m (([.ref (b + k), .int a1] : List Value).toArray) below meth c 0 0 (MQ below (ce_Q X b M' none) ([.ref (b + k), .int a1] : List Value).toArray s 0 0 (ce_Ab b)) X b M22 3 [(0, .ref (b + k)), (1, .int x6)] 109 [] := by
        intro M22 h  H locs ls hA hS hl
        subst e32
        refine lv_aload_n hx hb dX8_mixOne_109 rfl (lv_at hl 0 rfl) ?_
        refine lv_aload_n hx hb dX8_mixOne_110 rfl (lv_at hl 0 rfl) ?_
        refine lv_iload_n hx hb dX8_mixOne_111 rfl (lv_at hl 1 rfl) ?_
        obtain ⟨x24, g25, h⟩ := ce_b1_e h
        refine ce_callVi (As := [.int x6]) (rest := [.ref (b + k)]) hx hb hml hown hB (c_X8_changesIn l X G b hk g25) ce_v_X8_changesIn ce_w1219 ⟨Nat.le_of_ble_eq_true rfl, Nat.le_of_ble_eq_true rfl⟩ hF hA hS (ce_rc_8 hK hA hk) hl rfl rfl (Nat.le_of_ble_eq_true rfl) dX8_mixOne_112 ⟨Nat.le_of_ble_eq_true rfl, Nat.le_of_ble_eq_true rfl⟩ (fun H locs hA hS => ?_)
        obtain ⟨M26, g27, h⟩ := ce_b1_e h
        refine ce_callVv (As := [.int x24]) (rest := []) hx hb hml hown hB (c_X8_mix l X G b hk g27) ce_v_X8_mix ce_w1288 ⟨Nat.le_of_ble_eq_true rfl, Nat.le_of_ble_eq_true rfl⟩ hF hA hS (ce_rc_8 hK hA hk) hl rfl rfl (Nat.le_of_ble_eq_true rfl) dX8_mixOne_115 ⟨Nat.le_of_ble_eq_true rfl, Nat.le_of_ble_eq_true rfl⟩ (fun H locs hA hS => ?_)
        refine lv_aload_n hx hb dX8_mixOne_118 rfl (lv_at hl 0 rfl) ?_
        refine lv_aload_n hx hb dX8_mixOne_119 rfl (lv_at hl 0 rfl) ?_
        refine lv_iload_n hx hb dX8_mixOne_120 rfl (lv_at hl 1 rfl) ?_
        obtain ⟨x28, g29, h⟩ := ce_b1_e h
        refine ce_callVi (As := [.int x6]) (rest := [.ref (b + k)]) hx hb hml hown hB (c_X8_coveredBy l X G b hk g29) ce_v_X8_coveredBy ce_w1231 ⟨Nat.le_of_ble_eq_true rfl, Nat.le_of_ble_eq_true rfl⟩ hF hA hS (ce_rc_8 hK hA hk) hl rfl rfl (Nat.le_of_ble_eq_true rfl) dX8_mixOne_121 ⟨Nat.le_of_ble_eq_true rfl, Nat.le_of_ble_eq_true rfl⟩ (fun H locs hA hS => ?_)
        obtain ⟨M30, g31, h⟩ := ce_b1_e h
        refine ce_callVv (As := [.int x28]) (rest := []) hx hb hml hown hB (c_X8_mix l X G b hk g31) ce_v_X8_mix ce_w1288 ⟨Nat.le_of_ble_eq_true rfl, Nat.le_of_ble_eq_true rfl⟩ hF hA hS (ce_rc_8 hK hA hk) hl rfl rfl (Nat.le_of_ble_eq_true rfl) dX8_mixOne_124 ⟨Nat.le_of_ble_eq_true rfl, Nat.le_of_ble_eq_true rfl⟩ (fun H locs hA hS => ?_)
        cases h
        exact ce_vret hx hb hr hlocks hA hS dX8_mixOne_127
      refine ce_lp2_i (y := M') (P := fun (M18 : ce_M) (x19 : Int32) => ce_Wg p l e (ce_R 3 68 0 0) s m (([.ref (b + k), .int a1] : List Value).toArray) below meth c 0 0 (MQ below (ce_Q X b M' none) ([.ref (b + k), .int a1] : List Value).toArray s 0 0 (ce_Ab b)) X b M18 3 [(0, .ref (b + k)), (1, .int x6), (2, .int x19)] 79 []) (fun rec20 ih21 M18 x19 h => ?_) _ _ _ h _ _ _ hA hS (lv_sub hl [1, 2, 0] rfl)
      intro H locs ls hA hS hl
      unfold f_X8_mixOne_L79 at h
      refine lv_iload_n hx hb dX8_mixOne_79 rfl (lv_at hl 2 rfl) ?_
      refine lv_aload_n hx hb dX8_mixOne_80 rfl (lv_at hl 0 rfl) ?_
      refine lv_iload_n hx hb dX8_mixOne_81 rfl (lv_at hl 1 rfl) ?_
      refine lv_bipush (v := 6) hx hb dX8_mixOne_82 (by decide) ?_
      obtain ⟨x33, g34, h⟩ := ce_b1_e h
      refine ce_callVi (As := [.int x6, .int 6]) (rest := [.int x19]) hx hb hml hown hB (c_X8_of l X G b hk g34) ce_v_X8_of ce_w1017 ⟨Nat.le_of_ble_eq_true rfl, Nat.le_of_ble_eq_true rfl⟩ hF hA hS (ce_rc_8 hK hA hk) hl rfl rfl (Nat.le_of_ble_eq_true rfl) dX8_mixOne_84 ⟨Nat.le_of_ble_eq_true rfl, Nat.le_of_ble_eq_true rfl⟩ (fun H locs hA hS => ?_)
      refine lv_icmp_ge (tgt := 109) hx hb dX8_mixOne_87 (by decide) (fun c35 => ?_) (fun c35 => ?_)
      · have h := ce_it c35 h
        exact Ju23 M18 h  _ _ _ hA hS (lv_sub hl [0, 1] rfl)
      · have h := ce_ie c35 h
        refine lv_aload_n hx hb dX8_mixOne_90 rfl (lv_at hl 0 rfl) ?_
        refine lv_aload_n hx hb dX8_mixOne_91 rfl (lv_at hl 0 rfl) ?_
        refine lv_iload_n hx hb dX8_mixOne_92 rfl (lv_at hl 1 rfl) ?_
        refine lv_bipush (v := 12) hx hb dX8_mixOne_93 (by decide) ?_
        refine lv_iload_n hx hb dX8_mixOne_95 rfl (lv_at hl 2 rfl) ?_
        refine lv_iadd hx hb dX8_mixOne_96 ?_
        obtain ⟨x36, g37, h⟩ := ce_b1_e h
        refine ce_callVi (As := [.int x6, .int (12 + x19)]) (rest := [.ref (b + k)]) hx hb hml hown hB (c_X8_of l X G b hk g37) ce_v_X8_of ce_w1017 ⟨Nat.le_of_ble_eq_true rfl, Nat.le_of_ble_eq_true rfl⟩ hF hA hS (ce_rc_8 hK hA hk) hl rfl rfl (Nat.le_of_ble_eq_true rfl) dX8_mixOne_97 ⟨Nat.le_of_ble_eq_true rfl, Nat.le_of_ble_eq_true rfl⟩ (fun H locs hA hS => ?_)
        obtain ⟨M38, g39, h⟩ := ce_b1_e h
        refine ce_callVv (As := [.int x36]) (rest := []) hx hb hml hown hB (c_X8_mix l X G b hk g39) ce_v_X8_mix ce_w1288 ⟨Nat.le_of_ble_eq_true rfl, Nat.le_of_ble_eq_true rfl⟩ hF hA hS (ce_rc_8 hK hA hk) hl rfl rfl (Nat.le_of_ble_eq_true rfl) dX8_mixOne_100 ⟨Nat.le_of_ble_eq_true rfl, Nat.le_of_ble_eq_true rfl⟩ (fun H locs hA hS => ?_)
        obtain ⟨x40, e41, h⟩ := ce_nm_e h
        refine lv_iinc (v := x40) (lv' := [(2, .int x40), (0, .ref (b + k)), (1, .int x6)]) hx hb dX8_mixOne_103 hl (k := 2) rfl (by rw [← e41]; rfl) (by decide) rfl (fun ls hl => ?_)
        refine lv_goto (tgt := 79) hx hb dX8_mixOne_106 (by decide) ?_
        exact ih21 M38 x40 h  _ _ _ hA hS (lv_sub hl [1, 2, 0] rfl)
    refine ce_lp2_i (y := M') (P := fun (M12 : ce_M) (x13 : Int32) => ce_Wg p l e (ce_R 3 68 0 0) s m (([.ref (b + k), .int a1] : List Value).toArray) below meth c 0 0 (MQ below (ce_Q X b M' none) ([.ref (b + k), .int a1] : List Value).toArray s 0 0 (ce_Ab b)) X b M12 3 [(0, .ref (b + k)), (1, .int x6), (2, .int x13)] 34 []) (fun rec14 ih15 M12 x13 h => ?_) _ _ _ h _ _ _ hA hS (lv_sub hl [1, 2, 0] rfl)
    intro H locs ls hA hS hl
    unfold f_X8_mixOne_L34 at h
    refine lv_iload_n hx hb dX8_mixOne_34 rfl (lv_at hl 2 rfl) ?_
    refine lv_if_lt (tgt := 77) hx hb dX8_mixOne_35 (by decide) (fun c43 => ?_) (fun c43 => ?_)
    · have h := ce_it c43 h
      exact Ju17 M12 h  _ _ _ hA hS (lv_sub hl [0, 1] rfl)
    · have h := ce_ie c43 h
      refine lv_aload_n hx hb dX8_mixOne_38 rfl (lv_at hl 0 rfl) ?_
      refine lv_aload_n hx hb dX8_mixOne_39 rfl (lv_at hl 0 rfl) ?_
      refine lv_iload_n hx hb dX8_mixOne_40 rfl (lv_at hl 1 rfl) ?_
      refine lv_iload_n hx hb dX8_mixOne_41 rfl (lv_at hl 2 rfl) ?_
      refine lv_iconst (v := 0) hx hb dX8_mixOne_42 (by decide) ?_
      obtain ⟨x44, g45, h⟩ := ce_b1_e h
      refine ce_callVi (As := [.int x6, .int x13, .int 0]) (rest := [.ref (b + k)]) hx hb hml hown hB (c_X8_stayAt l X G b hk g45) ce_v_X8_stayAt ce_w1109 ⟨Nat.le_of_ble_eq_true rfl, Nat.le_of_ble_eq_true rfl⟩ hF hA hS (ce_rc_8 hK hA hk) hl rfl rfl (Nat.le_of_ble_eq_true rfl) dX8_mixOne_43 ⟨Nat.le_of_ble_eq_true rfl, Nat.le_of_ble_eq_true rfl⟩ (fun H locs hA hS => ?_)
      obtain ⟨M46, g47, h⟩ := ce_b1_e h
      refine ce_callVv (As := [.int x44]) (rest := []) hx hb hml hown hB (c_X8_mix l X G b hk g47) ce_v_X8_mix ce_w1288 ⟨Nat.le_of_ble_eq_true rfl, Nat.le_of_ble_eq_true rfl⟩ hF hA hS (ce_rc_8 hK hA hk) hl rfl rfl (Nat.le_of_ble_eq_true rfl) dX8_mixOne_46 ⟨Nat.le_of_ble_eq_true rfl, Nat.le_of_ble_eq_true rfl⟩ (fun H locs hA hS => ?_)
      refine lv_aload_n hx hb dX8_mixOne_49 rfl (lv_at hl 0 rfl) ?_
      refine lv_aload_n hx hb dX8_mixOne_50 rfl (lv_at hl 0 rfl) ?_
      refine lv_iload_n hx hb dX8_mixOne_51 rfl (lv_at hl 1 rfl) ?_
      refine lv_iload_n hx hb dX8_mixOne_52 rfl (lv_at hl 2 rfl) ?_
      refine lv_iconst (v := 1) hx hb dX8_mixOne_53 (by decide) ?_
      obtain ⟨x48, g49, h⟩ := ce_b1_e h
      refine ce_callVi (As := [.int x6, .int x13, .int 1]) (rest := [.ref (b + k)]) hx hb hml hown hB (c_X8_stayAt l X G b hk g49) ce_v_X8_stayAt ce_w1109 ⟨Nat.le_of_ble_eq_true rfl, Nat.le_of_ble_eq_true rfl⟩ hF hA hS (ce_rc_8 hK hA hk) hl rfl rfl (Nat.le_of_ble_eq_true rfl) dX8_mixOne_54 ⟨Nat.le_of_ble_eq_true rfl, Nat.le_of_ble_eq_true rfl⟩ (fun H locs hA hS => ?_)
      obtain ⟨M50, g51, h⟩ := ce_b1_e h
      refine ce_callVv (As := [.int x48]) (rest := []) hx hb hml hown hB (c_X8_mix l X G b hk g51) ce_v_X8_mix ce_w1288 ⟨Nat.le_of_ble_eq_true rfl, Nat.le_of_ble_eq_true rfl⟩ hF hA hS (ce_rc_8 hK hA hk) hl rfl rfl (Nat.le_of_ble_eq_true rfl) dX8_mixOne_57 ⟨Nat.le_of_ble_eq_true rfl, Nat.le_of_ble_eq_true rfl⟩ (fun H locs hA hS => ?_)
      refine lv_aload_n hx hb dX8_mixOne_60 rfl (lv_at hl 0 rfl) ?_
      refine lv_aload_n hx hb dX8_mixOne_61 rfl (lv_at hl 0 rfl) ?_
      refine lv_iload_n hx hb dX8_mixOne_62 rfl (lv_at hl 1 rfl) ?_
      refine lv_iload_n hx hb dX8_mixOne_63 rfl (lv_at hl 2 rfl) ?_
      refine lv_iconst (v := 2) hx hb dX8_mixOne_64 (by decide) ?_
      obtain ⟨x52, g53, h⟩ := ce_b1_e h
      refine ce_callVi (As := [.int x6, .int x13, .int 2]) (rest := [.ref (b + k)]) hx hb hml hown hB (c_X8_stayAt l X G b hk g53) ce_v_X8_stayAt ce_w1109 ⟨Nat.le_of_ble_eq_true rfl, Nat.le_of_ble_eq_true rfl⟩ hF hA hS (ce_rc_8 hK hA hk) hl rfl rfl (Nat.le_of_ble_eq_true rfl) dX8_mixOne_65 ⟨Nat.le_of_ble_eq_true rfl, Nat.le_of_ble_eq_true rfl⟩ (fun H locs hA hS => ?_)
      obtain ⟨M54, g55, h⟩ := ce_b1_e h
      refine ce_callVv (As := [.int x52]) (rest := []) hx hb hml hown hB (c_X8_mix l X G b hk g55) ce_v_X8_mix ce_w1288 ⟨Nat.le_of_ble_eq_true rfl, Nat.le_of_ble_eq_true rfl⟩ hF hA hS (ce_rc_8 hK hA hk) hl rfl rfl (Nat.le_of_ble_eq_true rfl) dX8_mixOne_68 ⟨Nat.le_of_ble_eq_true rfl, Nat.le_of_ble_eq_true rfl⟩ (fun H locs hA hS => ?_)
      obtain ⟨x56, e57, h⟩ := ce_nm_e h
      refine lv_iinc (v := x56) (lv' := [(2, .int x56), (0, .ref (b + k)), (1, .int x6)]) hx hb dX8_mixOne_71 hl (k := 2) rfl (by rw [← e57]; rfl) (by decide) rfl (fun ls hl => ?_)
      refine lv_goto (tgt := 34) hx hb dX8_mixOne_74 (by decide) ?_
      exact ih15 M54 x56 h  _ _ _ hA hS (lv_sub hl [1, 2, 0] rfl)
  refine ce_lp2_i (y := M') (P := fun (M1 : ce_M) (x2 : Int32) => ce_Wg p l e (ce_R 3 68 0 0) s m (([.ref (b + k), .int a1] : List Value).toArray) below meth c 0 0 (MQ below (ce_Q X b M' none) ([.ref (b + k), .int a1] : List Value).toArray s 0 0 (ce_Ab b)) X b M1 3 [(0, .ref (b + k)), (1, .int a1), (2, .int x2)] 2 []) (fun rec3 ih4 M1 x2 h => ?_) _ _ _ h _ _ _ hA hS (lv_sub hl [1, 2, 0] rfl)
  intro H locs ls hA hS hl
  unfold f_X8_mixOne_L2 at h
  refine lv_iload_n hx hb dX8_mixOne_2 rfl (lv_at hl 2 rfl) ?_
  refine lv_bipush (v := 12) hx hb dX8_mixOne_3 (by decide) ?_
  refine lv_icmp_ge (tgt := 24) hx hb dX8_mixOne_5 (by decide) (fun c59 => ?_) (fun c59 => ?_)
  · have h := ce_it c59 h
    exact Ju7 M1 a1 h  _ _ _ hA hS (lv_sub hl [0, 1] rfl)
  · have h := ce_ie c59 h
    refine lv_aload_n hx hb dX8_mixOne_8 rfl (lv_at hl 0 rfl) ?_
    refine lv_aload_n hx hb dX8_mixOne_9 rfl (lv_at hl 0 rfl) ?_
    refine lv_iload_n hx hb dX8_mixOne_10 rfl (lv_at hl 1 rfl) ?_
    refine lv_iload_n hx hb dX8_mixOne_11 rfl (lv_at hl 2 rfl) ?_
    obtain ⟨x60, g61, h⟩ := ce_b1_e h
    refine ce_callVi (As := [.int a1, .int x2]) (rest := [.ref (b + k)]) hx hb hml hown hB (c_X8_told l X G b hk g61) ce_v_X8_told ce_w1151 ⟨Nat.le_of_ble_eq_true rfl, Nat.le_of_ble_eq_true rfl⟩ hF hA hS (ce_rc_8 hK hA hk) hl rfl rfl (Nat.le_of_ble_eq_true rfl) dX8_mixOne_12 ⟨Nat.le_of_ble_eq_true rfl, Nat.le_of_ble_eq_true rfl⟩ (fun H locs hA hS => ?_)
    obtain ⟨M62, g63, h⟩ := ce_b1_e h
    refine ce_callVv (As := [.int x60]) (rest := []) hx hb hml hown hB (c_X8_mix l X G b hk g63) ce_v_X8_mix ce_w1288 ⟨Nat.le_of_ble_eq_true rfl, Nat.le_of_ble_eq_true rfl⟩ hF hA hS (ce_rc_8 hK hA hk) hl rfl rfl (Nat.le_of_ble_eq_true rfl) dX8_mixOne_15 ⟨Nat.le_of_ble_eq_true rfl, Nat.le_of_ble_eq_true rfl⟩ (fun H locs hA hS => ?_)
    obtain ⟨x64, e65, h⟩ := ce_nm_e h
    refine lv_iinc (v := x64) (lv' := [(2, .int x64), (0, .ref (b + k)), (1, .int a1)]) hx hb dX8_mixOne_18 hl (k := 2) rfl (by rw [← e65]; rfl) (by decide) rfl (fun ls hl => ?_)
    refine lv_goto (tgt := 2) hx hb dX8_mixOne_21 (by decide) ?_
    exact ih4 M62 x64 h  _ _ _ hA hS (lv_sub hl [1, 2, 0] rfl)
def f_X8_digest_L105 (k : Nat) (u30 : ce_M → Option (ce_M × Int64)) (rec27 : ce_M → Int32 → Option (ce_M × Int64)) (M25 : ce_M) (x26 : Int32) : Option (ce_M × Int64) :=
  if 64 ≤ x26 then
    u30 M25
  else
    ce_b1 (f_X8_leafTold k M25 (x26 / 4) (x26 - x26 / 4 * 4)) (fun (x37 : Int32) =>
    ce_b1 (f_X8_mix k M25 x37) (fun (M39 : ce_M) =>
    ce_nm (x26 + 1) (fun (x41 : Int32) =>
    rec27 M39 x41)))
def f_X8_digest_L68 (k : Nat) (u24 : ce_M → Option (ce_M × Int64)) (rec21 : ce_M → Int32 → Option (ce_M × Int64)) (M19 : ce_M) (x20 : Int32) : Option (ce_M × Int64) :=
  ce_gi 2 816 (ce_nm (ce_rd M19 (k + 1) (Int32.toNatClampNeg 2)) (fun (x44 : Int32) =>
  if (7 * x44) ≤ x20 then
    u24 M19
  else
    ce_b1 (f_X8_eventTold k M19 (x20 / 7) (x20 - x20 / 7 * 7)) (fun (x48 : Int32) =>
    ce_b1 (f_X8_mix k M19 x48) (fun (M50 : ce_M) =>
    ce_nm (x20 + 1) (fun (x52 : Int32) =>
    rec21 M50 x52)))))
def f_X8_digest_L45 (k : Nat) (u18 : ce_M → Option (ce_M × Int64)) (rec15 : ce_M → Int32 → Option (ce_M × Int64)) (M13 : ce_M) (x14 : Int32) : Option (ce_M × Int64) :=
  ce_gi 1 816 (ce_nm (ce_rd M13 (k + 1) (Int32.toNatClampNeg 1)) (fun (x55 : Int32) =>
  if x55 ≤ x14 then
    u18 M13
  else
    ce_b1 (f_X8_mixOne k M13 x14) (fun (M59 : ce_M) =>
    ce_nm (x14 + 1) (fun (x61 : Int32) =>
    rec15 M59 x61))))
def f_X8_digest_L22 (k : Nat) (u12 : ce_M → Option (ce_M × Int64)) (rec9 : ce_M → Int32 → Option (ce_M × Int64)) (M7 : ce_M) (x8 : Int32) : Option (ce_M × Int64) :=
  if 14 ≤ x8 then
    u12 M7
  else
    ce_b1 (f_X8_wholeTold k M7 x8) (fun (x65 : Int32) =>
    ce_b1 (f_X8_mix k M7 x65) (fun (M67 : ce_M) =>
    ce_nm (x8 + 1) (fun (x69 : Int32) =>
    rec9 M67 x69)))
def f_X8_digest (k : Nat) (M : ce_M) : Option (ce_M × Int64) :=
  ce_nm (ce_wr M k 4 0) (fun (M1 : ce_M) =>
  ce_nm (ce_wl M1 0 18526) (fun (M3 : ce_M) =>
  ce_b1 (f_X8_mix k M3 (ce_rd M3 k 3)) (fun (M5 : ce_M) =>
  ce_nm (fun (M11 : ce_M) =>
      ce_nm (fun (M17 : ce_M) =>
          ce_nm (fun (M23 : ce_M) =>
              ce_nm (fun (M29 : ce_M) =>
                  ce_b1 (f_X8_busiestLeaf k M29) (fun (x31 : Int32) =>
                  ce_b1 (f_X8_mix k M29 x31) (fun (M33 : ce_M) =>
                  some (M33, (ce_rl M33 0))))) (fun (u30 : ce_M → Option (ce_M × Int64)) =>
              ce_lp2 (f_X8_digest_L105 k u30) ce_FU M23 0)) (fun (u24 : ce_M → Option (ce_M × Int64)) =>
          ce_lp2 (f_X8_digest_L68 k u24) ce_FU M17 0)) (fun (u18 : ce_M → Option (ce_M × Int64)) =>
      ce_lp2 (f_X8_digest_L45 k u18) ce_FU M11 0)) (fun (u12 : ce_M → Option (ce_M × Int64)) =>
  ce_lp2 (f_X8_digest_L22 k u12) ce_FU M5 0))))
set_option maxRecDepth 100000 in
set_option maxHeartbeats 4000000 in
theorem c_X8_digest (l : Launch) (X : ce_X) (G : ce_G) (b : Nat) {k : Nat} {M : ce_M} (hk : ce_kd k = 8) {M' : ce_M} {r : Int64} (h : f_X8_digest k M = some (M', r)) : ce_Ct l yX8_digest cX8_digest 2 (some .long) 4 90 X G b [.ref (b + k)] M (some (.long r)) M' := by
  refine ce_ofW (own := RX8) (by decide) rfl (Nat.le_of_ble_eq_true rfl) (fun p e s m below meth c ls hx hb hr hlocks hml hown hB hF hA hl hS => ?_)
  have hK := hF.1
  have hl : lv_has ls 2 [(0, .ref (b + k))] := hl
  unfold f_X8_digest at h
  refine lv_aload_n hx hb dX8_digest_0 rfl (lv_at hl 0 rfl) ?_
  refine lv_iconst (v := 0) hx hb dX8_digest_1 (by decide) ?_
  obtain ⟨M1, e2, h⟩ := ce_nm_e h
  refine ce_p_8_4 hx hb hB hown hK hA hS hk ce_w948 dX8_digest_2 e2 (fun H locs hA hS => ?_)
  refine lv_aload_n hx hb dX8_digest_5 rfl (lv_at hl 0 rfl) ?_
  refine lv_ldc2 (v := 18526) hx hb hown (hB _ ce_w1287) dX8_digest_6 ?_
  obtain ⟨M3, e4, h⟩ := ce_nm_e h
  refine ce_p_8_12 hx hb hB hown hK hA hS hk ce_w956 dX8_digest_9 e4 (fun H locs hA hS => ?_)
  refine lv_aload_n hx hb dX8_digest_12 rfl (lv_at hl 0 rfl) ?_
  refine lv_aload_n hx hb dX8_digest_13 rfl (lv_at hl 0 rfl) ?_
  refine ce_g_8_3 hx hb hB hown hK hA hk ce_w947 dX8_digest_14 ?_
  obtain ⟨M5, g6, h⟩ := ce_b1_e h
  refine ce_callVv (As := [.int (ce_rd M3 k 3)]) (rest := []) hx hb hml hown hB (c_X8_mix l X G b hk g6) ce_v_X8_mix ce_w1288 ⟨Nat.le_of_ble_eq_true rfl, Nat.le_of_ble_eq_true rfl⟩ hF hA hS (ce_rc_8 hK hA hk) hl rfl rfl (Nat.le_of_ble_eq_true rfl) dX8_digest_17 ⟨Nat.le_of_ble_eq_true rfl, Nat.le_of_ble_eq_true rfl⟩ (fun H locs hA hS => ?_)
  refine lv_iconst (v := 0) hx hb dX8_digest_20 (by decide) ?_
  refine lv_istore_n (lv' := [(1, .int 0), (0, .ref (b + k))]) hx hb dX8_digest_21 rfl hl (by decide) rfl (fun ls hl => ?_)
  obtain ⟨u12, e63, h⟩ := ce_nm_e h
  have Ju12 : ∀ (M11 : ce_M), u12 M11 = some (M', r) → ce_Wg p l e (ce_R 4 90 0 0) s m (([.ref (b + k)] : List Value).toArray) below meth c 0 0 (MQ below (ce_Q X b M' (some (.long r))) ([.ref (b + k)] : List Value).toArray s 0 0 (ce_Ab b)) X b M11 2 [(0, .ref (b + k))] 43 [] := by
    intro M11 h  H locs ls hA hS hl
    subst e63
    refine lv_iconst (v := 0) hx hb dX8_digest_43 (by decide) ?_
    refine lv_istore_n (lv' := [(1, .int 0), (0, .ref (b + k))]) hx hb dX8_digest_44 rfl hl (by decide) rfl (fun ls hl => ?_)
    obtain ⟨u18, e54, h⟩ := ce_nm_e h
    have Ju18 : ∀ (M17 : ce_M), u18 M17 = some (M', r) → ce_Wg p l e (ce_R 4 90 0 0) s m (([.ref (b + k)] : List Value).toArray) below meth c 0 0 (MQ below (ce_Q X b M' (some (.long r))) ([.ref (b + k)] : List Value).toArray s 0 0 (ce_Ab b)) X b M17 2 [(0, .ref (b + k))] 66 [] := by
      intro M17 h  H locs ls hA hS hl
      subst e54
      refine lv_iconst (v := 0) hx hb dX8_digest_66 (by decide) ?_
      refine lv_istore_n (lv' := [(1, .int 0), (0, .ref (b + k))]) hx hb dX8_digest_67 rfl hl (by decide) rfl (fun ls hl => ?_)
      obtain ⟨u24, e43, h⟩ := ce_nm_e h
      have Ju24 : ∀ (M23 : ce_M), u24 M23 = some (M', r) → ce_Wg p l e (ce_R 4 90 0 0) s m (([.ref (b + k)] : List Value).toArray) below meth c 0 0 (MQ below (ce_Q X b M' (some (.long r))) ([.ref (b + k)] : List Value).toArray s 0 0 (ce_Ab b)) X b M23 2 [(0, .ref (b + k))] 103 [] := by
        intro M23 h  H locs ls hA hS hl
        subst e43
        refine lv_iconst (v := 0) hx hb dX8_digest_103 (by decide) ?_
        refine lv_istore_n (lv' := [(1, .int 0), (0, .ref (b + k))]) hx hb dX8_digest_104 rfl hl (by decide) rfl (fun ls hl => ?_)
        obtain ⟨u30, e35, h⟩ := ce_nm_e h
        have Ju30 : ∀ (M29 : ce_M), u30 M29 = some (M', r) → ce_Wg p l e (ce_R 4 90 0 0) s m (([.ref (b + k)] : List Value).toArray) below meth c 0 0 (MQ below (ce_Q X b M' (some (.long r))) ([.ref (b + k)] : List Value).toArray s 0 0 (ce_Ab b)) X b M29 2 [(0, .ref (b + k))] 131 [] := by
          intro M29 h  H locs ls hA hS hl
          subst e35
          refine lv_aload_n hx hb dX8_digest_131 rfl (lv_at hl 0 rfl) ?_
          refine lv_aload_n hx hb dX8_digest_132 rfl (lv_at hl 0 rfl) ?_
          obtain ⟨x31, g32, h⟩ := ce_b1_e h
          refine ce_callVi (As := []) (rest := [.ref (b + k)]) hx hb hml hown hB (c_X8_busiestLeaf l X G b hk g32) ce_v_X8_busiestLeaf ce_w1239 ⟨Nat.le_of_ble_eq_true rfl, Nat.le_of_ble_eq_true rfl⟩ hF hA hS (ce_rc_8 hK hA hk) hl rfl rfl (Nat.le_of_ble_eq_true rfl) dX8_digest_133 ⟨Nat.le_of_ble_eq_true rfl, Nat.le_of_ble_eq_true rfl⟩ (fun H locs hA hS => ?_)
          obtain ⟨M33, g34, h⟩ := ce_b1_e h
          refine ce_callVv (As := [.int x31]) (rest := []) hx hb hml hown hB (c_X8_mix l X G b hk g34) ce_v_X8_mix ce_w1288 ⟨Nat.le_of_ble_eq_true rfl, Nat.le_of_ble_eq_true rfl⟩ hF hA hS (ce_rc_8 hK hA hk) hl rfl rfl (Nat.le_of_ble_eq_true rfl) dX8_digest_136 ⟨Nat.le_of_ble_eq_true rfl, Nat.le_of_ble_eq_true rfl⟩ (fun H locs hA hS => ?_)
          refine lv_aload_n hx hb dX8_digest_139 rfl (lv_at hl 0 rfl) ?_
          refine ce_g_8_12 hx hb hB hown hK hA hk ce_w956 dX8_digest_140 ?_
          cases h
          exact ce_lret hx hb hr hlocks hA hS dX8_digest_143
        refine ce_lp2_i (y := (M', r)) (P := fun (M25 : ce_M) (x26 : Int32) => ce_Wg p l e (ce_R 4 90 0 0) s m (([.ref (b + k)] : List Value).toArray) below meth c 0 0 (MQ below (ce_Q X b M' (some (.long r))) ([.ref (b + k)] : List Value).toArray s 0 0 (ce_Ab b)) X b M25 2 [(0, .ref (b + k)), (1, .int x26)] 105 []) (fun rec27 ih28 M25 x26 h => ?_) _ _ _ h _ _ _ hA hS (lv_sub hl [1, 0] rfl)
        intro H locs ls hA hS hl
        unfold f_X8_digest_L105 at h
        refine lv_iload_n hx hb dX8_digest_105 rfl (lv_at hl 1 rfl) ?_
        refine lv_bipush (v := 64) hx hb dX8_digest_106 (by decide) ?_
        refine lv_icmp_ge (tgt := 131) hx hb dX8_digest_108 (by decide) (fun c36 => ?_) (fun c36 => ?_)
        · have h := ce_it c36 h
          exact Ju30 M25 h  _ _ _ hA hS (lv_sub hl [0] rfl)
        · have h := ce_ie c36 h
          refine lv_aload_n hx hb dX8_digest_111 rfl (lv_at hl 0 rfl) ?_
          refine lv_aload_n hx hb dX8_digest_112 rfl (lv_at hl 0 rfl) ?_
          refine lv_iload_n hx hb dX8_digest_113 rfl (lv_at hl 1 rfl) ?_
          refine lv_iconst (v := 4) hx hb dX8_digest_114 (by decide) ?_
          refine lv_idiv hx hb dX8_digest_115 (by decide) ?_
          refine lv_iload_n hx hb dX8_digest_116 rfl (lv_at hl 1 rfl) ?_
          refine lv_iconst (v := 4) hx hb dX8_digest_117 (by decide) ?_
          refine lv_irem hx hb dX8_digest_118 (by decide) ?_
          obtain ⟨x37, g38, h⟩ := ce_b1_e h
          refine ce_callVi (As := [.int (x26 / 4), .int (x26 - x26 / 4 * 4)]) (rest := [.ref (b + k)]) hx hb hml hown hB (c_X8_leafTold l X G b hk g38) ce_v_X8_leafTold ce_w1187 ⟨Nat.le_of_ble_eq_true rfl, Nat.le_of_ble_eq_true rfl⟩ hF hA hS (ce_rc_8 hK hA hk) hl rfl rfl (Nat.le_of_ble_eq_true rfl) dX8_digest_119 ⟨Nat.le_of_ble_eq_true rfl, Nat.le_of_ble_eq_true rfl⟩ (fun H locs hA hS => ?_)
          obtain ⟨M39, g40, h⟩ := ce_b1_e h
          refine ce_callVv (As := [.int x37]) (rest := []) hx hb hml hown hB (c_X8_mix l X G b hk g40) ce_v_X8_mix ce_w1288 ⟨Nat.le_of_ble_eq_true rfl, Nat.le_of_ble_eq_true rfl⟩ hF hA hS (ce_rc_8 hK hA hk) hl rfl rfl (Nat.le_of_ble_eq_true rfl) dX8_digest_122 ⟨Nat.le_of_ble_eq_true rfl, Nat.le_of_ble_eq_true rfl⟩ (fun H locs hA hS => ?_)
          obtain ⟨x41, e42, h⟩ := ce_nm_e h
          refine lv_iinc (v := x41) (lv' := [(1, .int x41), (0, .ref (b + k))]) hx hb dX8_digest_125 hl (k := 1) rfl (by rw [← e42]; rfl) (by decide) rfl (fun ls hl => ?_)
          refine lv_goto (tgt := 105) hx hb dX8_digest_128 (by decide) ?_
          exact ih28 M39 x41 h  _ _ _ hA hS (lv_sub hl [1, 0] rfl)
      refine ce_lp2_i (y := (M', r)) (P := fun (M19 : ce_M) (x20 : Int32) => ce_Wg p l e (ce_R 4 90 0 0) s m (([.ref (b + k)] : List Value).toArray) below meth c 0 0 (MQ below (ce_Q X b M' (some (.long r))) ([.ref (b + k)] : List Value).toArray s 0 0 (ce_Ab b)) X b M19 2 [(0, .ref (b + k)), (1, .int x20)] 68 []) (fun rec21 ih22 M19 x20 h => ?_) _ _ _ h _ _ _ hA hS (lv_sub hl [1, 0] rfl)
      intro H locs ls hA hS hl
      unfold f_X8_digest_L68 at h
      refine lv_iload_n hx hb dX8_digest_68 rfl (lv_at hl 1 rfl) ?_
      refine lv_bipush (v := 7) hx hb dX8_digest_69 (by decide) ?_
      refine lv_aload_n hx hb dX8_digest_71 rfl (lv_at hl 0 rfl) ?_
      refine ce_g_8_0 hx hb hB hown hK hA hk ce_w944 dX8_digest_72 ?_
      refine lv_iconst (v := 2) hx hb dX8_digest_75 (by decide) ?_
      obtain ⟨i45, h⟩ := ce_gi_e h
      obtain ⟨x44, e46, h⟩ := ce_nm_e h
      refine ce_iald hx hb hK hA 816 (ce_kf_8_0 hk) i45 e46 dX8_digest_76 ?_
      refine lv_imul hx hb dX8_digest_77 ?_
      refine lv_icmp_ge (tgt := 103) hx hb dX8_digest_78 (by decide) (fun c47 => ?_) (fun c47 => ?_)
      · have h := ce_it c47 h
        exact Ju24 M19 h  _ _ _ hA hS (lv_sub hl [0] rfl)
      · have h := ce_ie c47 h
        refine lv_aload_n hx hb dX8_digest_81 rfl (lv_at hl 0 rfl) ?_
        refine lv_aload_n hx hb dX8_digest_82 rfl (lv_at hl 0 rfl) ?_
        refine lv_iload_n hx hb dX8_digest_83 rfl (lv_at hl 1 rfl) ?_
        refine lv_bipush (v := 7) hx hb dX8_digest_84 (by decide) ?_
        refine lv_idiv hx hb dX8_digest_86 (by decide) ?_
        refine lv_iload_n hx hb dX8_digest_87 rfl (lv_at hl 1 rfl) ?_
        refine lv_bipush (v := 7) hx hb dX8_digest_88 (by decide) ?_
        refine lv_irem hx hb dX8_digest_90 (by decide) ?_
        obtain ⟨x48, g49, h⟩ := ce_b1_e h
        refine ce_callVi (As := [.int (x20 / 7), .int (x20 - x20 / 7 * 7)]) (rest := [.ref (b + k)]) hx hb hml hown hB (c_X8_eventTold l X G b hk g49) ce_v_X8_eventTold ce_w1175 ⟨Nat.le_of_ble_eq_true rfl, Nat.le_of_ble_eq_true rfl⟩ hF hA hS (ce_rc_8 hK hA hk) hl rfl rfl (Nat.le_of_ble_eq_true rfl) dX8_digest_91 ⟨Nat.le_of_ble_eq_true rfl, Nat.le_of_ble_eq_true rfl⟩ (fun H locs hA hS => ?_)
        obtain ⟨M50, g51, h⟩ := ce_b1_e h
        refine ce_callVv (As := [.int x48]) (rest := []) hx hb hml hown hB (c_X8_mix l X G b hk g51) ce_v_X8_mix ce_w1288 ⟨Nat.le_of_ble_eq_true rfl, Nat.le_of_ble_eq_true rfl⟩ hF hA hS (ce_rc_8 hK hA hk) hl rfl rfl (Nat.le_of_ble_eq_true rfl) dX8_digest_94 ⟨Nat.le_of_ble_eq_true rfl, Nat.le_of_ble_eq_true rfl⟩ (fun H locs hA hS => ?_)
        obtain ⟨x52, e53, h⟩ := ce_nm_e h
        refine lv_iinc (v := x52) (lv' := [(1, .int x52), (0, .ref (b + k))]) hx hb dX8_digest_97 hl (k := 1) rfl (by rw [← e53]; rfl) (by decide) rfl (fun ls hl => ?_)
        refine lv_goto (tgt := 68) hx hb dX8_digest_100 (by decide) ?_
        exact ih22 M50 x52 h  _ _ _ hA hS (lv_sub hl [1, 0] rfl)
    refine ce_lp2_i (y := (M', r)) (P := fun (M13 : ce_M) (x14 : Int32) => ce_Wg p l e (ce_R 4 90 0 0) s m (([.ref (b + k)] : List Value).toArray) below meth c 0 0 (MQ below (ce_Q X b M' (some (.long r))) ([.ref (b + k)] : List Value).toArray s 0 0 (ce_Ab b)) X b M13 2 [(0, .ref (b + k)), (1, .int x14)] 45 []) (fun rec15 ih16 M13 x14 h => ?_) _ _ _ h _ _ _ hA hS (lv_sub hl [1, 0] rfl)
    intro H locs ls hA hS hl
    unfold f_X8_digest_L45 at h
    refine lv_iload_n hx hb dX8_digest_45 rfl (lv_at hl 1 rfl) ?_
    refine lv_aload_n hx hb dX8_digest_46 rfl (lv_at hl 0 rfl) ?_
    refine ce_g_8_0 hx hb hB hown hK hA hk ce_w944 dX8_digest_47 ?_
    refine lv_iconst (v := 1) hx hb dX8_digest_50 (by decide) ?_
    obtain ⟨i56, h⟩ := ce_gi_e h
    obtain ⟨x55, e57, h⟩ := ce_nm_e h
    refine ce_iald hx hb hK hA 816 (ce_kf_8_0 hk) i56 e57 dX8_digest_51 ?_
    refine lv_icmp_ge (tgt := 66) hx hb dX8_digest_52 (by decide) (fun c58 => ?_) (fun c58 => ?_)
    · have h := ce_it c58 h
      exact Ju18 M13 h  _ _ _ hA hS (lv_sub hl [0] rfl)
    · have h := ce_ie c58 h
      refine lv_aload_n hx hb dX8_digest_55 rfl (lv_at hl 0 rfl) ?_
      refine lv_iload_n hx hb dX8_digest_56 rfl (lv_at hl 1 rfl) ?_
      obtain ⟨M59, g60, h⟩ := ce_b1_e h
      refine ce_callVv (As := [.int x14]) (rest := []) hx hb hml hown hB (c_X8_mixOne l X G b hk g60) ce_v_X8_mixOne ce_w1293 ⟨Nat.le_of_ble_eq_true rfl, Nat.le_of_ble_eq_true rfl⟩ hF hA hS (ce_rc_8 hK hA hk) hl rfl rfl (Nat.le_of_ble_eq_true rfl) dX8_digest_57 ⟨Nat.le_of_ble_eq_true rfl, Nat.le_of_ble_eq_true rfl⟩ (fun H locs hA hS => ?_)
      obtain ⟨x61, e62, h⟩ := ce_nm_e h
      refine lv_iinc (v := x61) (lv' := [(1, .int x61), (0, .ref (b + k))]) hx hb dX8_digest_60 hl (k := 1) rfl (by rw [← e62]; rfl) (by decide) rfl (fun ls hl => ?_)
      refine lv_goto (tgt := 45) hx hb dX8_digest_63 (by decide) ?_
      exact ih16 M59 x61 h  _ _ _ hA hS (lv_sub hl [1, 0] rfl)
  refine ce_lp2_i (y := (M', r)) (P := fun (M7 : ce_M) (x8 : Int32) => ce_Wg p l e (ce_R 4 90 0 0) s m (([.ref (b + k)] : List Value).toArray) below meth c 0 0 (MQ below (ce_Q X b M' (some (.long r))) ([.ref (b + k)] : List Value).toArray s 0 0 (ce_Ab b)) X b M7 2 [(0, .ref (b + k)), (1, .int x8)] 22 []) (fun rec9 ih10 M7 x8 h => ?_) _ _ _ h _ _ _ hA hS (lv_sub hl [1, 0] rfl)
  intro H locs ls hA hS hl
  unfold f_X8_digest_L22 at h
  refine lv_iload_n hx hb dX8_digest_22 rfl (lv_at hl 1 rfl) ?_
  refine lv_bipush (v := 14) hx hb dX8_digest_23 (by decide) ?_
  refine lv_icmp_ge (tgt := 43) hx hb dX8_digest_25 (by decide) (fun c64 => ?_) (fun c64 => ?_)
  · have h := ce_it c64 h
    exact Ju12 M7 h  _ _ _ hA hS (lv_sub hl [0] rfl)
  · have h := ce_ie c64 h
    refine lv_aload_n hx hb dX8_digest_28 rfl (lv_at hl 0 rfl) ?_
    refine lv_aload_n hx hb dX8_digest_29 rfl (lv_at hl 0 rfl) ?_
    refine lv_iload_n hx hb dX8_digest_30 rfl (lv_at hl 1 rfl) ?_
    obtain ⟨x65, g66, h⟩ := ce_b1_e h
    refine ce_callVi (As := [.int x8]) (rest := [.ref (b + k)]) hx hb hml hown hB (c_X8_wholeTold l X G b hk g66) ce_v_X8_wholeTold ce_w1195 ⟨Nat.le_of_ble_eq_true rfl, Nat.le_of_ble_eq_true rfl⟩ hF hA hS (ce_rc_8 hK hA hk) hl rfl rfl (Nat.le_of_ble_eq_true rfl) dX8_digest_31 ⟨Nat.le_of_ble_eq_true rfl, Nat.le_of_ble_eq_true rfl⟩ (fun H locs hA hS => ?_)
    obtain ⟨M67, g68, h⟩ := ce_b1_e h
    refine ce_callVv (As := [.int x65]) (rest := []) hx hb hml hown hB (c_X8_mix l X G b hk g68) ce_v_X8_mix ce_w1288 ⟨Nat.le_of_ble_eq_true rfl, Nat.le_of_ble_eq_true rfl⟩ hF hA hS (ce_rc_8 hK hA hk) hl rfl rfl (Nat.le_of_ble_eq_true rfl) dX8_digest_34 ⟨Nat.le_of_ble_eq_true rfl, Nat.le_of_ble_eq_true rfl⟩ (fun H locs hA hS => ?_)
    obtain ⟨x69, e70, h⟩ := ce_nm_e h
    refine lv_iinc (v := x69) (lv' := [(1, .int x69), (0, .ref (b + k))]) hx hb dX8_digest_37 hl (k := 1) rfl (by rw [← e70]; rfl) (by decide) rfl (fun ls hl => ?_)
    refine lv_goto (tgt := 22) hx hb dX8_digest_40 (by decide) ?_
    exact ih10 M67 x69 h  _ _ _ hA hS (lv_sub hl [1, 0] rfl)
