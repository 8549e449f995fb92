def f_X7_isBelow (M : ce_M) (a1 : Int32) (a2 : Int32) : Option Int32 :=
  if a1 < 0 then
    some 0
  else
    if a2 ≤ a1 then
      some 0
    else
      some 1
set_option maxRecDepth 100000 in
set_option maxHeartbeats 4000000 in
theorem c_X7_isBelow (l : Launch) (X : ce_X) (G : ce_G) (b : Nat) {a1 : Int32} {a2 : Int32} {M : ce_M}  {r : Int32} (h : f_X7_isBelow M a1 a2 = some r) : ce_Ct l yX7_isBelow cX7_isBelow 2 (some .boolean) 0 0 X G b [.int a1, .int a2] M (some (.int r)) M := by
  refine ce_ofW (own := RX7) (by decide) rfl (Nat.le_of_ble_eq_true rfl) (fun p e s m below meth c ls hx hb hr hlocks hml hown hB hF hA hl hS => ?_)
  have hK := hF.1
  have hl : lv_has ls 2 [(0, .int a1), (1, .int a2)] := hl
  unfold f_X7_isBelow at h
  refine lv_iload_n hx hb dX7_isBelow_0 rfl (lv_at hl 0 rfl) ?_
  refine lv_if_lt (tgt := 13) hx hb dX7_isBelow_1 (by decide) (fun c1 => ?_) (fun c1 => ?_)
  · have h := ce_it c1 h
    refine lv_iconst (v := 0) hx hb dX7_isBelow_13 (by decide) ?_
    cases h
    exact ce_zret hx hb hr hlocks (Or.inl rfl) hA hS dX7_isBelow_14
  · have h := ce_ie c1 h
    refine lv_iload_n hx hb dX7_isBelow_4 rfl (lv_at hl 0 rfl) ?_
    refine lv_iload_n hx hb dX7_isBelow_5 rfl (lv_at hl 1 rfl) ?_
    refine lv_icmp_ge (tgt := 13) hx hb dX7_isBelow_6 (by decide) (fun c2 => ?_) (fun c2 => ?_)
    · have h := ce_it c2 h
      refine lv_iconst (v := 0) hx hb dX7_isBelow_13 (by decide) ?_
      cases h
      exact ce_zret hx hb hr hlocks (Or.inl rfl) hA hS dX7_isBelow_14
    · have h := ce_ie c2 h
      refine lv_iconst (v := 1) hx hb dX7_isBelow_9 (by decide) ?_
      refine lv_goto (tgt := 14) hx hb dX7_isBelow_10 (by decide) ?_
      cases h
      exact ce_zret hx hb hr hlocks (Or.inr rfl) hA hS dX7_isBelow_14
def f_X7_areaOf (M : ce_M) (a1 : Int32) (a2 : Int32) : Option Int32 :=
  if a2 = 0 then
    some 65535
  else
    if a2 = 2 then
      some (1 <<< (a1 &&& 31))
    else
      ce_nm (((a1 - a1 / 4 * 4) / 2) * 2) (fun (x3 : Int32) =>
      ce_nm (((a1 / 4) / 2) * 2) (fun (x5 : Int32) =>
      ce_nm (3 <<< (x3 &&& 31)) (fun (x7 : Int32) =>
      some ((x7 ||| (x7 <<< (4 &&& 31))) <<< ((4 * x5) &&& 31)))))
set_option maxRecDepth 100000 in
set_option maxHeartbeats 4000000 in
theorem c_X7_areaOf (l : Launch) (X : ce_X) (G : ce_G) (b : Nat) {a1 : Int32} {a2 : Int32} {M : ce_M}  {r : Int32} (h : f_X7_areaOf M a1 a2 = some r) : ce_Ct l yX7_areaOf cX7_areaOf 5 (some .int) 0 0 X G b [.int a1, .int a2] M (some (.int r)) M := by
  refine ce_ofW (own := RX7) (by decide) rfl (Nat.le_of_ble_eq_true rfl) (fun p e s m below meth c ls hx hb hr hlocks hml hown hB hF hA hl hS => ?_)
  have hK := hF.1
  have hl : lv_has ls 5 [(0, .int a1), (1, .int a2)] := hl
  unfold f_X7_areaOf at h
  refine lv_iload_n hx hb dX7_areaOf_0 rfl (lv_at hl 1 rfl) ?_
  refine lv_if_ne (tgt := 7) hx hb dX7_areaOf_1 (by decide) (fun c1 => ?_) (fun c1 => ?_)
  · have h := ce_ie c1 h
    refine lv_iload_n hx hb dX7_areaOf_7 rfl (lv_at hl 1 rfl) ?_
    refine lv_iconst (v := 2) hx hb dX7_areaOf_8 (by decide) ?_
    refine lv_icmp_ne (tgt := 16) hx hb dX7_areaOf_9 (by decide) (fun c2 => ?_) (fun c2 => ?_)
    · have h := ce_ie c2 h
      refine lv_iload_n hx hb dX7_areaOf_16 rfl (lv_at hl 0 rfl) ?_
      refine lv_iconst (v := 4) hx hb dX7_areaOf_17 (by decide) ?_
      refine lv_irem hx hb dX7_areaOf_18 (by decide) ?_
      refine lv_iconst (v := 2) hx hb dX7_areaOf_19 (by decide) ?_
      refine lv_idiv hx hb dX7_areaOf_20 (by decide) ?_
      refine lv_iconst (v := 2) hx hb dX7_areaOf_21 (by decide) ?_
      refine lv_imul hx hb dX7_areaOf_22 ?_
      obtain ⟨x3, e4, h⟩ := ce_nm_e h
      refine ce_top e4 ?_
      refine lv_istore_n (lv' := [(2, .int x3), (0, .int a1), (1, .int a2)]) hx hb dX7_areaOf_23 rfl hl (by decide) rfl (fun ls hl => ?_)
      refine lv_iload_n hx hb dX7_areaOf_24 rfl (lv_at hl 1 rfl) ?_
      refine lv_iconst (v := 4) hx hb dX7_areaOf_25 (by decide) ?_
      refine lv_idiv hx hb dX7_areaOf_26 (by decide) ?_
      refine lv_iconst (v := 2) hx hb dX7_areaOf_27 (by decide) ?_
      refine lv_idiv hx hb dX7_areaOf_28 (by decide) ?_
      refine lv_iconst (v := 2) hx hb dX7_areaOf_29 (by decide) ?_
      refine lv_imul hx hb dX7_areaOf_30 ?_
      obtain ⟨x5, e6, h⟩ := ce_nm_e h
      refine ce_top e6 ?_
      refine lv_istore_n (lv' := [(3, .int x5), (2, .int x3), (0, .int a1), (1, .int a2)]) hx hb dX7_areaOf_31 rfl hl (by decide) rfl (fun ls hl => ?_)
      refine lv_iconst (v := 3) hx hb dX7_areaOf_32 (by decide) ?_
      refine lv_iload_n hx hb dX7_areaOf_33 rfl (lv_at hl 1 rfl) ?_
      refine lv_ishl hx hb dX7_areaOf_34 ?_
      obtain ⟨x7, e8, h⟩ := ce_nm_e h
      refine ce_top e8 ?_
      refine lv_istore (lv' := [(4, .int x7), (3, .int x5), (2, .int x3), (0, .int a1), (1, .int a2)]) hx hb dX7_areaOf_35 hl (by decide) rfl (fun ls hl => ?_)
      refine lv_iload hx hb dX7_areaOf_37 (lv_at hl 0 rfl) ?_
      refine lv_iload hx hb dX7_areaOf_39 (lv_at hl 0 rfl) ?_
      refine lv_iconst (v := 4) hx hb dX7_areaOf_41 (by decide) ?_
      refine lv_ishl hx hb dX7_areaOf_42 ?_
      refine lv_ior hx hb dX7_areaOf_43 ?_
      refine lv_iconst (v := 4) hx hb dX7_areaOf_44 (by decide) ?_
      refine lv_iload_n hx hb dX7_areaOf_45 rfl (lv_at hl 1 rfl) ?_
      refine lv_imul hx hb dX7_areaOf_46 ?_
      refine lv_ishl hx hb dX7_areaOf_47 ?_
      cases h
      exact ce_iret hx hb hr hlocks hA hS dX7_areaOf_48
    · have h := ce_it c2 h
      refine lv_iconst (v := 1) hx hb dX7_areaOf_12 (by decide) ?_
      refine lv_iload_n hx hb dX7_areaOf_13 rfl (lv_at hl 0 rfl) ?_
      refine lv_ishl hx hb dX7_areaOf_14 ?_
      cases h
      exact ce_iret hx hb hr hlocks hA hS dX7_areaOf_15
  · have h := ce_it c1 h
    refine lv_ldc (v := 65535) hx hb hown (hB _ ce_w487) dX7_areaOf_4 ?_
    cases h
    exact ce_iret hx hb hr hlocks hA hS dX7_areaOf_6
def f_X4_copyFrom (k : Nat) (M : ce_M) (a1 : Nat) : Option ce_M :=
  ce_b1 (f_X3_copyFrom (k + 1) M (a1 + 1)) (fun (M1 : ce_M) =>
  ce_b1 (f_X2_copyFrom (k + 5) M1 (a1 + 5)) (fun (M3 : ce_M) =>
  ce_nm (ce_wr M3 k 2 (ce_rd M3 a1 2)) (fun (M5 : ce_M) =>
  ce_nm (ce_wr M5 k 3 (ce_rd M5 a1 3)) (fun (M7 : ce_M) =>
  ce_nm (ce_wr M7 k 4 (ce_rd M7 a1 4)) (fun (M9 : ce_M) =>
  ce_nm (ce_wr M9 k 5 (ce_rd M9 a1 5)) (fun (M11 : ce_M) =>
  ce_nm (ce_wr M11 k 6 (ce_rd M11 a1 6)) (fun (M13 : ce_M) =>
  ce_gz (ce_rd M13 a1 7) (
  ce_nm (ce_wr M13 k 7 (ce_rd M13 a1 7)) (fun (M16 : ce_M) =>
  ce_nm (ce_wr M16 k 8 (ce_rd M16 a1 8)) (fun (M18 : ce_M) =>
  ce_nm (ce_wr M18 k 9 (ce_rd M18 a1 9)) (fun (M20 : ce_M) =>
  ce_nm (ce_wr M20 k 10 (ce_rd M20 a1 10)) (fun (M22 : ce_M) =>
  ce_nm (ce_wr M22 k 11 (ce_rd M22 a1 11)) (fun (M24 : ce_M) =>
  ce_nm (ce_wr M24 k 12 (ce_rd M24 a1 12)) (fun (M26 : ce_M) =>
  ce_nm (ce_wr M26 k 13 (ce_rd M26 a1 13)) (fun (M28 : ce_M) =>
  some M28)))))))))))))))
set_option maxRecDepth 100000 in
set_option maxHeartbeats 4000000 in
theorem c_X4_copyFrom (l : Launch) (X : ce_X) (G : ce_G) (b : Nat) {k : Nat} {a1 : Nat} {M : ce_M} (hk : ce_kd k = 4) (ha1 : ce_kd a1 = 4) {M' : ce_M} (h : f_X4_copyFrom k M a1 = some M') : ce_Ct l yX4_copyFrom cX4_copyFrom 2 none 2 61 X G b [.ref (b + k), .ref (b + a1)] M none M' := by
  refine ce_ofW (own := RX4) (by decide) rfl (Nat.le_of_ble_eq_true rfl) (fun p e s m below meth c ls hx hb hr hlocks hml hown hB hF hA hl hS => ?_)
  have hK := hF.1
  have hl : lv_has ls 2 [(0, .ref (b + k)), (1, .ref (b + a1))] := hl
  unfold f_X4_copyFrom at h
  refine lv_aload_n hx hb dX4_copyFrom_0 rfl (lv_at hl 0 rfl) ?_
  refine ce_g_4_0 hx hb hB hown hK hA hk ce_w103 dX4_copyFrom_1 ?_
  refine lv_aload_n hx hb dX4_copyFrom_4 rfl (lv_at hl 1 rfl) ?_
  refine ce_g_4_0 hx hb hB hown hK hA ha1 ce_w103 dX4_copyFrom_5 ?_
  obtain ⟨M1, g2, h⟩ := ce_b1_e h
  refine ce_callVv (As := [.ref (b + (a1 + 1))]) (rest := []) hx hb hml hown hB (c_X3_copyFrom l X G b (ce_kf_4_0 hk) (ce_kf_4_0 ha1) g2) ce_v_X3_copyFrom ce_w426 ⟨Nat.le_of_ble_eq_true rfl, Nat.le_of_ble_eq_true rfl⟩ hF hA hS (ce_rc_3 hK hA (ce_kf_4_0 hk)) hl rfl rfl (Nat.le_of_ble_eq_true rfl) dX4_copyFrom_8 ⟨Nat.le_of_ble_eq_true rfl, Nat.le_of_ble_eq_true rfl⟩ (fun H locs hA hS => ?_)
  refine lv_aload_n hx hb dX4_copyFrom_11 rfl (lv_at hl 0 rfl) ?_
  refine ce_g_4_1 hx hb hB hown hK hA hk ce_w105 dX4_copyFrom_12 ?_
  refine lv_aload_n hx hb dX4_copyFrom_15 rfl (lv_at hl 1 rfl) ?_
  refine ce_g_4_1 hx hb hB hown hK hA ha1 ce_w105 dX4_copyFrom_16 ?_
  obtain ⟨M3, g4, h⟩ := ce_b1_e h
  refine ce_callVv (As := [.ref (b + (a1 + 5))]) (rest := []) hx hb hml hown hB (c_X2_copyFrom l X G b (ce_kf_4_1 hk) (ce_kf_4_1 ha1) g4) ce_v_X2_copyFrom ce_w431 ⟨Nat.le_of_ble_eq_true rfl, Nat.le_of_ble_eq_true rfl⟩ hF hA hS (ce_rc_2 hK hA (ce_kf_4_1 hk)) hl rfl rfl (Nat.le_of_ble_eq_true rfl) dX4_copyFrom_19 ⟨Nat.le_of_ble_eq_true rfl, Nat.le_of_ble_eq_true rfl⟩ (fun H locs hA hS => ?_)
  refine lv_aload_n hx hb dX4_copyFrom_22 rfl (lv_at hl 0 rfl) ?_
  refine lv_aload_n hx hb dX4_copyFrom_23 rfl (lv_at hl 1 rfl) ?_
  refine ce_g_4_2 hx hb hB hown hK hA ha1 ce_w108 dX4_copyFrom_24 ?_
  obtain ⟨M5, e6, h⟩ := ce_nm_e h
  refine ce_p_4_2 hx hb hB hown hK hA hS hk ce_w108 dX4_copyFrom_27 e6 (fun H locs hA hS => ?_)
  refine lv_aload_n hx hb dX4_copyFrom_30 rfl (lv_at hl 0 rfl) ?_
  refine lv_aload_n hx hb dX4_copyFrom_31 rfl (lv_at hl 1 rfl) ?_
  refine ce_g_4_3 hx hb hB hown hK hA ha1 ce_w109 dX4_copyFrom_32 ?_
  obtain ⟨M7, e8, h⟩ := ce_nm_e h
  refine ce_p_4_3 hx hb hB hown hK hA hS hk ce_w109 dX4_copyFrom_35 e8 (fun H locs hA hS => ?_)
  refine lv_aload_n hx hb dX4_copyFrom_38 rfl (lv_at hl 0 rfl) ?_
  refine lv_aload_n hx hb dX4_copyFrom_39 rfl (lv_at hl 1 rfl) ?_
  refine ce_g_4_4 hx hb hB hown hK hA ha1 ce_w110 dX4_copyFrom_40 ?_
  obtain ⟨M9, e10, h⟩ := ce_nm_e h
  refine ce_p_4_4 hx hb hB hown hK hA hS hk ce_w110 dX4_copyFrom_43 e10 (fun H locs hA hS => ?_)
  refine lv_aload_n hx hb dX4_copyFrom_46 rfl (lv_at hl 0 rfl) ?_
  refine lv_aload_n hx hb dX4_copyFrom_47 rfl (lv_at hl 1 rfl) ?_
  refine ce_g_4_5 hx hb hB hown hK hA ha1 ce_w112 dX4_copyFrom_48 ?_
  obtain ⟨M11, e12, h⟩ := ce_nm_e h
  refine ce_p_4_5 hx hb hB hown hK hA hS hk ce_w112 dX4_copyFrom_51 e12 (fun H locs hA hS => ?_)
  refine lv_aload_n hx hb dX4_copyFrom_54 rfl (lv_at hl 0 rfl) ?_
  refine lv_aload_n hx hb dX4_copyFrom_55 rfl (lv_at hl 1 rfl) ?_
  refine ce_g_4_6 hx hb hB hown hK hA ha1 ce_w114 dX4_copyFrom_56 ?_
  obtain ⟨M13, e14, h⟩ := ce_nm_e h
  refine ce_p_4_6 hx hb hB hown hK hA hS hk ce_w114 dX4_copyFrom_59 e14 (fun H locs hA hS => ?_)
  refine lv_aload_n hx hb dX4_copyFrom_62 rfl (lv_at hl 0 rfl) ?_
  refine lv_aload_n hx hb dX4_copyFrom_63 rfl (lv_at hl 1 rfl) ?_
  refine ce_g_4_7 hx hb hB hown hK hA ha1 ce_w116 dX4_copyFrom_64 ?_
  obtain ⟨z15, h⟩ := ce_gz_e h
  obtain ⟨M16, e17, h⟩ := ce_nm_e h
  refine ce_p_4_7 hx hb hB hown hK hA hS hk z15 ce_w116 dX4_copyFrom_67 e17 (fun H locs hA hS => ?_)
  refine lv_aload_n hx hb dX4_copyFrom_70 rfl (lv_at hl 0 rfl) ?_
  refine lv_aload_n hx hb dX4_copyFrom_71 rfl (lv_at hl 1 rfl) ?_
  refine ce_g_4_8 hx hb hB hown hK hA ha1 ce_w118 dX4_copyFrom_72 ?_
  obtain ⟨M18, e19, h⟩ := ce_nm_e h
  refine ce_p_4_8 hx hb hB hown hK hA hS hk ce_w118 dX4_copyFrom_75 e19 (fun H locs hA hS => ?_)
  refine lv_aload_n hx hb dX4_copyFrom_78 rfl (lv_at hl 0 rfl) ?_
  refine lv_aload_n hx hb dX4_copyFrom_79 rfl (lv_at hl 1 rfl) ?_
  refine ce_g_4_9 hx hb hB hown hK hA ha1 ce_w119 dX4_copyFrom_80 ?_
  obtain ⟨M20, e21, h⟩ := ce_nm_e h
  refine ce_p_4_9 hx hb hB hown hK hA hS hk ce_w119 dX4_copyFrom_83 e21 (fun H locs hA hS => ?_)
  refine lv_aload_n hx hb dX4_copyFrom_86 rfl (lv_at hl 0 rfl) ?_
  refine lv_aload_n hx hb dX4_copyFrom_87 rfl (lv_at hl 1 rfl) ?_
  refine ce_g_4_10 hx hb hB hown hK hA ha1 ce_w121 dX4_copyFrom_88 ?_
  obtain ⟨M22, e23, h⟩ := ce_nm_e h
  refine ce_p_4_10 hx hb hB hown hK hA hS hk ce_w121 dX4_copyFrom_91 e23 (fun H locs hA hS => ?_)
  refine lv_aload_n hx hb dX4_copyFrom_94 rfl (lv_at hl 0 rfl) ?_
  refine lv_aload_n hx hb dX4_copyFrom_95 rfl (lv_at hl 1 rfl) ?_
  refine ce_g_4_11 hx hb hB hown hK hA ha1 ce_w122 dX4_copyFrom_96 ?_
  obtain ⟨M24, e25, h⟩ := ce_nm_e h
  refine ce_p_4_11 hx hb hB hown hK hA hS hk ce_w122 dX4_copyFrom_99 e25 (fun H locs hA hS => ?_)
  refine lv_aload_n hx hb dX4_copyFrom_102 rfl (lv_at hl 0 rfl) ?_
  refine lv_aload_n hx hb dX4_copyFrom_103 rfl (lv_at hl 1 rfl) ?_
  refine ce_g_4_12 hx hb hB hown hK hA ha1 ce_w123 dX4_copyFrom_104 ?_
  obtain ⟨M26, e27, h⟩ := ce_nm_e h
  refine ce_p_4_12 hx hb hB hown hK hA hS hk ce_w123 dX4_copyFrom_107 e27 (fun H locs hA hS => ?_)
  refine lv_aload_n hx hb dX4_copyFrom_110 rfl (lv_at hl 0 rfl) ?_
  refine lv_aload_n hx hb dX4_copyFrom_111 rfl (lv_at hl 1 rfl) ?_
  refine ce_g_4_13 hx hb hB hown hK hA ha1 ce_w124 dX4_copyFrom_112 ?_
  obtain ⟨M28, e29, h⟩ := ce_nm_e h
  refine ce_p_4_13 hx hb hB hown hK hA hS hk ce_w124 dX4_copyFrom_115 e29 (fun H locs hA hS => ?_)
  cases h
  exact ce_vret hx hb hr hlocks hA hS dX4_copyFrom_118
def f_X4_begin (k : Nat) (M : ce_M) (a1 : Int32) (a2 : Int32) (a3 : Int32) (a4 : Int32) : Option ce_M :=
  ce_nm (ce_wr M k 2 a1) (fun (M1 : ce_M) =>
  ce_nm (ce_wr M1 k 3 a2) (fun (M3 : ce_M) =>
  ce_nm (ce_wr M3 k 4 a3) (fun (M5 : ce_M) =>
  ce_nm (ce_wr M5 k 5 a4) (fun (M7 : ce_M) =>
  ce_nm (ce_wr M7 k 6 a3) (fun (M9 : ce_M) =>
  ce_nm (ce_wr M9 k 7 1) (fun (M11 : ce_M) =>
  ce_b1 (f_X3_open (k + 1) M11 a3 a4) (fun (M13 : ce_M) =>
  some M13)))))))
set_option maxRecDepth 100000 in
set_option maxHeartbeats 4000000 in
theorem c_X4_begin (l : Launch) (X : ce_X) (G : ce_G) (b : Nat) {k : Nat} {a1 : Int32} {a2 : Int32} {a3 : Int32} {a4 : Int32} {M : ce_M} (hk : ce_kd k = 4) {M' : ce_M} (h : f_X4_begin k M a1 a2 a3 a4 = some M') : ce_Ct l yX4_begin cX4_begin 5 none 1 23 X G b [.ref (b + k), .int a1, .int a2, .int a3, .int a4] M none M' := by
  refine ce_ofW (own := RX4) (by decide) rfl (Nat.le_of_ble_eq_true rfl) (fun p e s m below meth c ls hx hb hr hlocks hml hown hB hF hA hl hS => ?_)
  have hK := hF.1
  have hl : lv_has ls 5 [(0, .ref (b + k)), (1, .int a1), (2, .int a2), (3, .int a3), (4, .int a4)] := hl
  unfold f_X4_begin at h
  refine lv_aload_n hx hb dX4_begin_0 rfl (lv_at hl 0 rfl) ?_
  refine lv_iload_n hx hb dX4_begin_1 rfl (lv_at hl 1 rfl) ?_
  obtain ⟨M1, e2, h⟩ := ce_nm_e h
  refine ce_p_4_2 hx hb hB hown hK hA hS hk ce_w108 dX4_begin_2 e2 (fun H locs hA hS => ?_)
  refine lv_aload_n hx hb dX4_begin_5 rfl (lv_at hl 0 rfl) ?_
  refine lv_iload_n hx hb dX4_begin_6 rfl (lv_at hl 2 rfl) ?_
  obtain ⟨M3, e4, h⟩ := ce_nm_e h
  refine ce_p_4_3 hx hb hB hown hK hA hS hk ce_w109 dX4_begin_7 e4 (fun H locs hA hS => ?_)
  refine lv_aload_n hx hb dX4_begin_10 rfl (lv_at hl 0 rfl) ?_
  refine lv_iload_n hx hb dX4_begin_11 rfl (lv_at hl 3 rfl) ?_
  obtain ⟨M5, e6, h⟩ := ce_nm_e h
  refine ce_p_4_4 hx hb hB hown hK hA hS hk ce_w110 dX4_begin_12 e6 (fun H locs hA hS => ?_)
  refine lv_aload_n hx hb dX4_begin_15 rfl (lv_at hl 0 rfl) ?_
  refine lv_iload hx hb dX4_begin_16 (lv_at hl 4 rfl) ?_
  obtain ⟨M7, e8, h⟩ := ce_nm_e h
  refine ce_p_4_5 hx hb hB hown hK hA hS hk ce_w112 dX4_begin_18 e8 (fun H locs hA hS => ?_)
  refine lv_aload_n hx hb dX4_begin_21 rfl (lv_at hl 0 rfl) ?_
  refine lv_iload_n hx hb dX4_begin_22 rfl (lv_at hl 3 rfl) ?_
  obtain ⟨M9, e10, h⟩ := ce_nm_e h
  refine ce_p_4_6 hx hb hB hown hK hA hS hk ce_w114 dX4_begin_23 e10 (fun H locs hA hS => ?_)
  refine lv_aload_n hx hb dX4_begin_26 rfl (lv_at hl 0 rfl) ?_
  refine lv_iconst (v := 1) hx hb dX4_begin_27 (by decide) ?_
  obtain ⟨M11, e12, h⟩ := ce_nm_e h
  refine ce_p_4_7 hx hb hB hown hK hA hS hk (Or.inr rfl) ce_w116 dX4_begin_28 e12 (fun H locs hA hS => ?_)
  refine lv_aload_n hx hb dX4_begin_31 rfl (lv_at hl 0 rfl) ?_
  refine ce_g_4_0 hx hb hB hown hK hA hk ce_w103 dX4_begin_32 ?_
  refine lv_iload_n hx hb dX4_begin_35 rfl (lv_at hl 3 rfl) ?_
  refine lv_iload hx hb dX4_begin_36 (lv_at hl 4 rfl) ?_
  obtain ⟨M13, g14, h⟩ := ce_b1_e h
  refine ce_callVv (As := [.int a3, .int a4]) (rest := []) hx hb hml hown hB (c_X3_open l X G b (ce_kf_4_0 hk) g14) ce_v_X3_open ce_w456 ⟨Nat.le_of_ble_eq_true rfl, Nat.le_of_ble_eq_true rfl⟩ hF hA hS (ce_rc_3 hK hA (ce_kf_4_0 hk)) hl rfl rfl (Nat.le_of_ble_eq_true rfl) dX4_begin_38 ⟨Nat.le_of_ble_eq_true rfl, Nat.le_of_ble_eq_true rfl⟩ (fun H locs hA hS => ?_)
  cases h
  exact ce_vret hx hb hr hlocks hA hS dX4_begin_41
def f_X4_canGoTo (k : Nat) (M : ce_M) (a1 : Int32) : Option Int32 :=
  if (ce_rd M k 7) = 0 then
    some 0
  else
    if (ce_rd M k 2) = 2 then
      some 0
    else
      if (ce_rd M k 4) = a1 then
        some 0
      else
        some 1
set_option maxRecDepth 100000 in
set_option maxHeartbeats 4000000 in
theorem c_X4_canGoTo (l : Launch) (X : ce_X) (G : ce_G) (b : Nat) {k : Nat} {a1 : Int32} {M : ce_M} (hk : ce_kd k = 4) {r : Int32} (h : f_X4_canGoTo k M a1 = some r) : ce_Ct l yX4_canGoTo cX4_canGoTo 2 (some .boolean) 0 0 X G b [.ref (b + k), .int a1] M (some (.int r)) M := by
  refine ce_ofW (own := RX4) (by decide) rfl (Nat.le_of_ble_eq_true rfl) (fun p e s m below meth c ls hx hb hr hlocks hml hown hB hF hA hl hS => ?_)
  have hK := hF.1
  have hl : lv_has ls 2 [(0, .ref (b + k)), (1, .int a1)] := hl
  unfold f_X4_canGoTo at h
  refine lv_aload_n hx hb dX4_canGoTo_0 rfl (lv_at hl 0 rfl) ?_
  refine ce_g_4_7 hx hb hB hown hK hA hk ce_w116 dX4_canGoTo_1 ?_
  refine lv_if_eq (tgt := 27) hx hb dX4_canGoTo_4 (by decide) (fun c1 => ?_) (fun c1 => ?_)
  · have h := ce_it c1 h
    refine lv_iconst (v := 0) hx hb dX4_canGoTo_27 (by decide) ?_
    cases h
    exact ce_zret hx hb hr hlocks (Or.inl rfl) hA hS dX4_canGoTo_28
  · have h := ce_ie c1 h
    refine lv_aload_n hx hb dX4_canGoTo_7 rfl (lv_at hl 0 rfl) ?_
    refine ce_g_4_2 hx hb hB hown hK hA hk ce_w108 dX4_canGoTo_8 ?_
    refine lv_iconst (v := 2) hx hb dX4_canGoTo_11 (by decide) ?_
    refine lv_icmp_eq (tgt := 27) hx hb dX4_canGoTo_12 (by decide) (fun c2 => ?_) (fun c2 => ?_)
    · have h := ce_it c2 h
      refine lv_iconst (v := 0) hx hb dX4_canGoTo_27 (by decide) ?_
      cases h
      exact ce_zret hx hb hr hlocks (Or.inl rfl) hA hS dX4_canGoTo_28
    · have h := ce_ie c2 h
      refine lv_aload_n hx hb dX4_canGoTo_15 rfl (lv_at hl 0 rfl) ?_
      refine ce_g_4_4 hx hb hB hown hK hA hk ce_w110 dX4_canGoTo_16 ?_
      refine lv_iload_n hx hb dX4_canGoTo_19 rfl (lv_at hl 1 rfl) ?_
      refine lv_icmp_eq (tgt := 27) hx hb dX4_canGoTo_20 (by decide) (fun c3 => ?_) (fun c3 => ?_)
      · have h := ce_it c3 h
        refine lv_iconst (v := 0) hx hb dX4_canGoTo_27 (by decide) ?_
        cases h
        exact ce_zret hx hb hr hlocks (Or.inl rfl) hA hS dX4_canGoTo_28
      · have h := ce_ie c3 h
        refine lv_iconst (v := 1) hx hb dX4_canGoTo_23 (by decide) ?_
        refine lv_goto (tgt := 28) hx hb dX4_canGoTo_24 (by decide) ?_
        cases h
        exact ce_zret hx hb hr hlocks (Or.inr rfl) hA hS dX4_canGoTo_28
def f_X4_goTo (k : Nat) (M : ce_M) (a1 : Int32) (a2 : Int32) : Option (ce_M × Int32) :=
  ce_nm (ce_rd M k 4) (fun (x1 : Int32) =>
  ce_nm (ce_wr M k 4 a1) (fun (M3 : ce_M) =>
  ce_nm (ce_wr M3 k 5 a2) (fun (M5 : ce_M) =>
  some (M5, x1))))
set_option maxRecDepth 100000 in
set_option maxHeartbeats 4000000 in
theorem c_X4_goTo (l : Launch) (X : ce_X) (G : ce_G) (b : Nat) {k : Nat} {a1 : Int32} {a2 : Int32} {M : ce_M} (hk : ce_kd k = 4) {M' : ce_M} {r : Int32} (h : f_X4_goTo k M a1 a2 = some (M', r)) : ce_Ct l yX4_goTo cX4_goTo 4 (some .int) 0 0 X G b [.ref (b + k), .int a1, .int a2] M (some (.int r)) M' := by
  refine ce_ofW (own := RX4) (by decide) rfl (Nat.le_of_ble_eq_true rfl) (fun p e s m below meth c ls hx hb hr hlocks hml hown hB hF hA hl hS => ?_)
  have hK := hF.1
  have hl : lv_has ls 4 [(0, .ref (b + k)), (1, .int a1), (2, .int a2)] := hl
  unfold f_X4_goTo at h
  refine lv_aload_n hx hb dX4_goTo_0 rfl (lv_at hl 0 rfl) ?_
  refine ce_g_4_4 hx hb hB hown hK hA hk ce_w110 dX4_goTo_1 ?_
  obtain ⟨x1, e2, h⟩ := ce_nm_e h
  refine ce_top e2 ?_
  refine lv_istore_n (lv' := [(3, .int x1), (0, .ref (b + k)), (1, .int a1), (2, .int a2)]) hx hb dX4_goTo_4 rfl hl (by decide) rfl (fun ls hl => ?_)
  refine lv_aload_n hx hb dX4_goTo_5 rfl (lv_at hl 1 rfl) ?_
  refine lv_iload_n hx hb dX4_goTo_6 rfl (lv_at hl 2 rfl) ?_
  obtain ⟨M3, e4, h⟩ := ce_nm_e h
  refine ce_p_4_4 hx hb hB hown hK hA hS hk ce_w110 dX4_goTo_7 e4 (fun H locs hA hS => ?_)
  refine lv_aload_n hx hb dX4_goTo_10 rfl (lv_at hl 1 rfl) ?_
  refine lv_iload_n hx hb dX4_goTo_11 rfl (lv_at hl 3 rfl) ?_
  obtain ⟨M5, e6, h⟩ := ce_nm_e h
  refine ce_p_4_5 hx hb hB hown hK hA hS hk ce_w112 dX4_goTo_12 e6 (fun H locs hA hS => ?_)
  refine lv_iload_n hx hb dX4_goTo_15 rfl (lv_at hl 0 rfl) ?_
  cases h
  exact ce_iret hx hb hr hlocks hA hS dX4_goTo_16
def f_X4_quit (k : Nat) (M : ce_M) (a1 : Int32) : Option (ce_M × Int32) :=
  ce_nm (ce_rd M (k + 5) 1) (fun (x1 : Int32) =>
  ce_b1 (f_X2_removeOldest (k + 5) M x1) (fun (M3 : ce_M) =>
  ce_nm (ce_wr M3 k 11 ((ce_rd M3 k 11) + x1)) (fun (M5 : ce_M) =>
  ce_b1 (f_X3_close (k + 1) M5 a1) (fun (M7 : ce_M) =>
  ce_nm (ce_wr M7 k 7 0) (fun (M9 : ce_M) =>
  some (M9, x1))))))
set_option maxRecDepth 100000 in
set_option maxHeartbeats 4000000 in
theorem c_X4_quit (l : Launch) (X : ce_X) (G : ce_G) (b : Nat) {k : Nat} {a1 : Int32} {M : ce_M} (hk : ce_kd k = 4) {M' : ce_M} {r : Int32} (h : f_X4_quit k M a1 = some (M', r)) : ce_Ct l yX4_quit cX4_quit 3 (some .int) 1 22 X G b [.ref (b + k), .int a1] M (some (.int r)) M' := by
  refine ce_ofW (own := RX4) (by decide) rfl (Nat.le_of_ble_eq_true rfl) (fun p e s m below meth c ls hx hb hr hlocks hml hown hB hF hA hl hS => ?_)
  have hK := hF.1
  have hl : lv_has ls 3 [(0, .ref (b + k)), (1, .int a1)] := hl
  unfold f_X4_quit at h
  refine lv_aload_n hx hb dX4_quit_0 rfl (lv_at hl 0 rfl) ?_
  refine ce_g_4_1 hx hb hB hown hK hA hk ce_w105 dX4_quit_1 ?_
  refine ce_g_2_1 hx hb hB hown hK hA (ce_kf_4_1 hk) ce_w96 dX4_quit_4 ?_
  obtain ⟨x1, e2, h⟩ := ce_nm_e h
  refine ce_top e2 ?_
  refine lv_istore_n (lv' := [(2, .int x1), (0, .ref (b + k)), (1, .int a1)]) hx hb dX4_quit_7 rfl hl (by decide) rfl (fun ls hl => ?_)
  refine lv_aload_n hx hb dX4_quit_8 rfl (lv_at hl 1 rfl) ?_
  refine ce_g_4_1 hx hb hB hown hK hA hk ce_w105 dX4_quit_9 ?_
  refine lv_iload_n hx hb dX4_quit_12 rfl (lv_at hl 0 rfl) ?_
  obtain ⟨M3, g4, h⟩ := ce_b1_e h
  refine ce_callVv (As := [.int x1]) (rest := []) hx hb hml hown hB (c_X2_removeOldest l X G b (ce_kf_4_1 hk) g4) ce_v_X2_removeOldest ce_w468 ⟨Nat.le_of_ble_eq_true rfl, Nat.le_of_ble_eq_true rfl⟩ hF hA hS (ce_rc_2 hK hA (ce_kf_4_1 hk)) hl rfl rfl (Nat.le_of_ble_eq_true rfl) dX4_quit_13 ⟨Nat.le_of_ble_eq_true rfl, Nat.le_of_ble_eq_true rfl⟩ (fun H locs hA hS => ?_)
  refine lv_aload_n hx hb dX4_quit_16 rfl (lv_at hl 1 rfl) ?_
  refine lv_dup hx hb dX4_quit_17 rfl ?_
  refine ce_g_4_11 hx hb hB hown hK hA hk ce_w122 dX4_quit_18 ?_
  refine lv_iload_n hx hb dX4_quit_21 rfl (lv_at hl 0 rfl) ?_
  refine lv_iadd hx hb dX4_quit_22 ?_
  obtain ⟨M5, e6, h⟩ := ce_nm_e h
  refine ce_p_4_11 hx hb hB hown hK hA hS hk ce_w122 dX4_quit_23 e6 (fun H locs hA hS => ?_)
  refine lv_aload_n hx hb dX4_quit_26 rfl (lv_at hl 1 rfl) ?_
  refine ce_g_4_0 hx hb hB hown hK hA hk ce_w103 dX4_quit_27 ?_
  refine lv_iload_n hx hb dX4_quit_30 rfl (lv_at hl 2 rfl) ?_
  obtain ⟨M7, g8, h⟩ := ce_b1_e h
  refine ce_callVv (As := [.int a1]) (rest := []) hx hb hml hown hB (c_X3_close l X G b (ce_kf_4_0 hk) g8) ce_v_X3_close ce_w472 ⟨Nat.le_of_ble_eq_true rfl, Nat.le_of_ble_eq_true rfl⟩ hF hA hS (ce_rc_3 hK hA (ce_kf_4_0 hk)) hl rfl rfl (Nat.le_of_ble_eq_true rfl) dX4_quit_31 ⟨Nat.le_of_ble_eq_true rfl, Nat.le_of_ble_eq_true rfl⟩ (fun H locs hA hS => ?_)
  refine lv_aload_n hx hb dX4_quit_34 rfl (lv_at hl 1 rfl) ?_
  refine lv_iconst (v := 0) hx hb dX4_quit_35 (by decide) ?_
  obtain ⟨M9, e10, h⟩ := ce_nm_e h
  refine ce_p_4_7 hx hb hB hown hK hA hS hk (Or.inl rfl) ce_w116 dX4_quit_36 e10 (fun H locs hA hS => ?_)
  refine lv_iload_n hx hb dX4_quit_39 rfl (lv_at hl 0 rfl) ?_
  cases h
  exact ce_iret hx hb hr hlocks hA hS dX4_quit_40
def f_X4_relevel (k : Nat) (M : ce_M) (a1 : Int32) : Option (ce_M × Int32) :=
  ce_nm (ce_rd M k 3) (fun (x1 : Int32) =>
  ce_nm (ce_wr M k 3 a1) (fun (M3 : ce_M) =>
  some (M3, x1)))
set_option maxRecDepth 100000 in
set_option maxHeartbeats 4000000 in
theorem c_X4_relevel (l : Launch) (X : ce_X) (G : ce_G) (b : Nat) {k : Nat} {a1 : Int32} {M : ce_M} (hk : ce_kd k = 4) {M' : ce_M} {r : Int32} (h : f_X4_relevel k M a1 = some (M', r)) : ce_Ct l yX4_relevel cX4_relevel 3 (some .int) 0 0 X G b [.ref (b + k), .int a1] M (some (.int r)) M' := by
  refine ce_ofW (own := RX4) (by decide) rfl (Nat.le_of_ble_eq_true rfl) (fun p e s m below meth c ls hx hb hr hlocks hml hown hB hF hA hl hS => ?_)
  have hK := hF.1
  have hl : lv_has ls 3 [(0, .ref (b + k)), (1, .int a1)] := hl
  unfold f_X4_relevel at h
  refine lv_aload_n hx hb dX4_relevel_0 rfl (lv_at hl 0 rfl) ?_
  refine ce_g_4_3 hx hb hB hown hK hA hk ce_w109 dX4_relevel_1 ?_
  obtain ⟨x1, e2, h⟩ := ce_nm_e h
  refine ce_top e2 ?_
  refine lv_istore_n (lv' := [(2, .int x1), (0, .ref (b + k)), (1, .int a1)]) hx hb dX4_relevel_4 rfl hl (by decide) rfl (fun ls hl => ?_)
  refine lv_aload_n hx hb dX4_relevel_5 rfl (lv_at hl 1 rfl) ?_
  refine lv_iload_n hx hb dX4_relevel_6 rfl (lv_at hl 2 rfl) ?_
  obtain ⟨M3, e4, h⟩ := ce_nm_e h
  refine ce_p_4_3 hx hb hB hown hK hA hS hk ce_w109 dX4_relevel_7 e4 (fun H locs hA hS => ?_)
  refine lv_iload_n hx hb dX4_relevel_10 rfl (lv_at hl 0 rfl) ?_
  cases h
  exact ce_iret hx hb hr hlocks hA hS dX4_relevel_11
def f_X4_dwellTime (k : Nat) (M : ce_M) (a1 : Int32) : Option Int32 :=
  if (ce_rd M k 2) = 0 then
    some a1
  else
    some (a1 / 2)
set_option maxRecDepth 100000 in
set_option maxHeartbeats 4000000 in
theorem c_X4_dwellTime (l : Launch) (X : ce_X) (G : ce_G) (b : Nat) {k : Nat} {a1 : Int32} {M : ce_M} (hk : ce_kd k = 4) {r : Int32} (h : f_X4_dwellTime k M a1 = some r) : ce_Ct l yX4_dwellTime cX4_dwellTime 2 (some .int) 0 0 X G b [.ref (b + k), .int a1] M (some (.int r)) M := by
  refine ce_ofW (own := RX4) (by decide) rfl (Nat.le_of_ble_eq_true rfl) (fun p e s m below meth c ls hx hb hr hlocks hml hown hB hF hA hl hS => ?_)
  have hK := hF.1
  have hl : lv_has ls 2 [(0, .ref (b + k)), (1, .int a1)] := hl
  unfold f_X4_dwellTime at h
  refine lv_aload_n hx hb dX4_dwellTime_0 rfl (lv_at hl 0 rfl) ?_
  refine ce_g_4_2 hx hb hB hown hK hA hk ce_w108 dX4_dwellTime_1 ?_
  refine lv_if_ne (tgt := 11) hx hb dX4_dwellTime_4 (by decide) (fun c1 => ?_) (fun c1 => ?_)
  · have h := ce_ie c1 h
    refine lv_iload_n hx hb dX4_dwellTime_11 rfl (lv_at hl 1 rfl) ?_
    refine lv_iconst (v := 2) hx hb dX4_dwellTime_12 (by decide) ?_
    refine lv_idiv hx hb dX4_dwellTime_13 (by decide) ?_
    cases h
    exact ce_iret hx hb hr hlocks hA hS dX4_dwellTime_14
  · have h := ce_it c1 h
    refine lv_iload_n hx hb dX4_dwellTime_7 rfl (lv_at hl 1 rfl) ?_
    refine lv_goto (tgt := 14) hx hb dX4_dwellTime_8 (by decide) ?_
    cases h
    exact ce_iret hx hb hr hlocks hA hS dX4_dwellTime_14
def f_X4_isDue (k : Nat) (M : ce_M) (a1 : Int32) (a2 : Int32) : Option Int32 :=
  if (ce_rd M k 7) = 0 then
    some 0
  else
    if (ce_rd M k 4) = (ce_rd M k 6) then
      some 0
    else
      ce_b1 (f_X4_dwellTime k M a2) (fun (x3 : Int32) =>
      if (a1 - (ce_rd M k 5)) < x3 then
        some 0
      else
        some 1)
set_option maxRecDepth 100000 in
set_option maxHeartbeats 4000000 in
theorem c_X4_isDue (l : Launch) (X : ce_X) (G : ce_G) (b : Nat) {k : Nat} {a1 : Int32} {a2 : Int32} {M : ce_M} (hk : ce_kd k = 4) {r : Int32} (h : f_X4_isDue k M a1 a2 = some r) : ce_Ct l yX4_isDue cX4_isDue 3 (some .boolean) 1 21 X G b [.ref (b + k), .int a1, .int a2] M (some (.int r)) M := by
  refine ce_ofW (own := RX4) (by decide) rfl (Nat.le_of_ble_eq_true rfl) (fun p e s m below meth c ls hx hb hr hlocks hml hown hB hF hA hl hS => ?_)
  have hK := hF.1
  have hl : lv_has ls 3 [(0, .ref (b + k)), (1, .int a1), (2, .int a2)] := hl
  unfold f_X4_isDue at h
  refine lv_aload_n hx hb dX4_isDue_0 rfl (lv_at hl 0 rfl) ?_
  refine ce_g_4_7 hx hb hB hown hK hA hk ce_w116 dX4_isDue_1 ?_
  refine lv_if_eq (tgt := 36) hx hb dX4_isDue_4 (by decide) (fun c1 => ?_) (fun c1 => ?_)
  · have h := ce_it c1 h
    refine lv_iconst (v := 0) hx hb dX4_isDue_36 (by decide) ?_
    cases h
    exact ce_zret hx hb hr hlocks (Or.inl rfl) hA hS dX4_isDue_37
  · have h := ce_ie c1 h
    refine lv_aload_n hx hb dX4_isDue_7 rfl (lv_at hl 0 rfl) ?_
    refine ce_g_4_4 hx hb hB hown hK hA hk ce_w110 dX4_isDue_8 ?_
    refine lv_aload_n hx hb dX4_isDue_11 rfl (lv_at hl 0 rfl) ?_
    refine ce_g_4_6 hx hb hB hown hK hA hk ce_w114 dX4_isDue_12 ?_
    refine lv_icmp_eq (tgt := 36) hx hb dX4_isDue_15 (by decide) (fun c2 => ?_) (fun c2 => ?_)
    · have h := ce_it c2 h
      refine lv_iconst (v := 0) hx hb dX4_isDue_36 (by decide) ?_
      cases h
      exact ce_zret hx hb hr hlocks (Or.inl rfl) hA hS dX4_isDue_37
    · have h := ce_ie c2 h
      refine lv_iload_n hx hb dX4_isDue_18 rfl (lv_at hl 1 rfl) ?_
      refine lv_aload_n hx hb dX4_isDue_19 rfl (lv_at hl 0 rfl) ?_
      refine ce_g_4_5 hx hb hB hown hK hA hk ce_w112 dX4_isDue_20 ?_
      refine lv_isub hx hb dX4_isDue_23 ?_
      refine lv_aload_n hx hb dX4_isDue_24 rfl (lv_at hl 0 rfl) ?_
      refine lv_iload_n hx hb dX4_isDue_25 rfl (lv_at hl 2 rfl) ?_
      obtain ⟨x3, g4, h⟩ := ce_b1_e h
      refine ce_callVi (As := [.int a2]) (rest := [.int (a1 - (ce_rd M k 5))]) hx hb hml hown hB (c_X4_dwellTime l X G b hk g4) ce_v_X4_dwellTime ce_w529 ⟨Nat.le_of_ble_eq_true rfl, Nat.le_of_ble_eq_true rfl⟩ hF hA hS (ce_rc_4 hK hA hk) hl rfl rfl (Nat.le_of_ble_eq_true rfl) dX4_isDue_26 ⟨Nat.le_of_ble_eq_true rfl, Nat.le_of_ble_eq_true rfl⟩ (fun H locs hA hS => ?_)
      refine lv_icmp_lt (tgt := 36) hx hb dX4_isDue_29 (by decide) (fun c5 => ?_) (fun c5 => ?_)
      · have h := ce_it c5 h
        refine lv_iconst (v := 0) hx hb dX4_isDue_36 (by decide) ?_
        cases h
        exact ce_zret hx hb hr hlocks (Or.inl rfl) hA hS dX4_isDue_37
      · have h := ce_ie c5 h
        refine lv_iconst (v := 1) hx hb dX4_isDue_32 (by decide) ?_
        refine lv_goto (tgt := 37) hx hb dX4_isDue_33 (by decide) ?_
        cases h
        exact ce_zret hx hb hr hlocks (Or.inr rfl) hA hS dX4_isDue_37
def f_X4_handOver (k : Nat) (M : ce_M) (a1 : Int32) (a2 : Int32) : Option ce_M :=
  ce_b1 (f_X3_close (k + 1) M a1) (fun (M1 : ce_M) =>
  ce_b1 (f_X3_open (k + 1) M1 (ce_rd M1 k 4) a1) (fun (M3 : ce_M) =>
  ce_nm (ce_wr M3 k 6 (ce_rd M3 k 4)) (fun (M5 : ce_M) =>
  ce_nm (ce_wr M5 k 12 ((ce_rd M5 k 12) + 1)) (fun (M7 : ce_M) =>
  if (ce_rd M7 (k + 5) 1) ≤ 0 then
    some M7
  else
    ce_nm (ce_wr M7 k 13 (a1 + a2)) (fun (M10 : ce_M) =>
    some M10)))))
set_option maxRecDepth 100000 in
set_option maxHeartbeats 4000000 in
theorem c_X4_handOver (l : Launch) (X : ce_X) (G : ce_G) (b : Nat) {k : Nat} {a1 : Int32} {a2 : Int32} {M : ce_M} (hk : ce_kd k = 4) {M' : ce_M} (h : f_X4_handOver k M a1 a2 = some M') : ce_Ct l yX4_handOver cX4_handOver 3 none 1 23 X G b [.ref (b + k), .int a1, .int a2] M none M' := by
  refine ce_ofW (own := RX4) (by decide) rfl (Nat.le_of_ble_eq_true rfl) (fun p e s m below meth c ls hx hb hr hlocks hml hown hB hF hA hl hS => ?_)
  have hK := hF.1
  have hl : lv_has ls 3 [(0, .ref (b + k)), (1, .int a1), (2, .int a2)] := hl
  unfold f_X4_handOver at h
  refine lv_aload_n hx hb dX4_handOver_0 rfl (lv_at hl 0 rfl) ?_
  refine ce_g_4_0 hx hb hB hown hK hA hk ce_w103 dX4_handOver_1 ?_
  refine lv_iload_n hx hb dX4_handOver_4 rfl (lv_at hl 1 rfl) ?_
  obtain ⟨M1, g2, h⟩ := ce_b1_e h
  refine ce_callVv (As := [.int a1]) (rest := []) hx hb hml hown hB (c_X3_close l X G b (ce_kf_4_0 hk) g2) ce_v_X3_close ce_w472 ⟨Nat.le_of_ble_eq_true rfl, Nat.le_of_ble_eq_true rfl⟩ hF hA hS (ce_rc_3 hK hA (ce_kf_4_0 hk)) hl rfl rfl (Nat.le_of_ble_eq_true rfl) dX4_handOver_5 ⟨Nat.le_of_ble_eq_true rfl, Nat.le_of_ble_eq_true rfl⟩ (fun H locs hA hS => ?_)
  refine lv_aload_n hx hb dX4_handOver_8 rfl (lv_at hl 0 rfl) ?_
  refine ce_g_4_0 hx hb hB hown hK hA hk ce_w103 dX4_handOver_9 ?_
  refine lv_aload_n hx hb dX4_handOver_12 rfl (lv_at hl 0 rfl) ?_
  refine ce_g_4_4 hx hb hB hown hK hA hk ce_w110 dX4_handOver_13 ?_
  refine lv_iload_n hx hb dX4_handOver_16 rfl (lv_at hl 1 rfl) ?_
  obtain ⟨M3, g4, h⟩ := ce_b1_e h
  refine ce_callVv (As := [.int (ce_rd M1 k 4), .int a1]) (rest := []) hx hb hml hown hB (c_X3_open l X G b (ce_kf_4_0 hk) g4) ce_v_X3_open ce_w456 ⟨Nat.le_of_ble_eq_true rfl, Nat.le_of_ble_eq_true rfl⟩ hF hA hS (ce_rc_3 hK hA (ce_kf_4_0 hk)) hl rfl rfl (Nat.le_of_ble_eq_true rfl) dX4_handOver_17 ⟨Nat.le_of_ble_eq_true rfl, Nat.le_of_ble_eq_true rfl⟩ (fun H locs hA hS => ?_)
  refine lv_aload_n hx hb dX4_handOver_20 rfl (lv_at hl 0 rfl) ?_
  refine lv_aload_n hx hb dX4_handOver_21 rfl (lv_at hl 0 rfl) ?_
  refine ce_g_4_4 hx hb hB hown hK hA hk ce_w110 dX4_handOver_22 ?_
  obtain ⟨M5, e6, h⟩ := ce_nm_e h
  refine ce_p_4_6 hx hb hB hown hK hA hS hk ce_w114 dX4_handOver_25 e6 (fun H locs hA hS => ?_)
  refine lv_aload_n hx hb dX4_handOver_28 rfl (lv_at hl 0 rfl) ?_
  refine lv_dup hx hb dX4_handOver_29 rfl ?_
  refine ce_g_4_12 hx hb hB hown hK hA hk ce_w123 dX4_handOver_30 ?_
  refine lv_iconst (v := 1) hx hb dX4_handOver_33 (by decide) ?_
  refine lv_iadd hx hb dX4_handOver_34 ?_
  obtain ⟨M7, e8, h⟩ := ce_nm_e h
  refine ce_p_4_12 hx hb hB hown hK hA hS hk ce_w123 dX4_handOver_35 e8 (fun H locs hA hS => ?_)
  refine lv_aload_n hx hb dX4_handOver_38 rfl (lv_at hl 0 rfl) ?_
  refine ce_g_4_1 hx hb hB hown hK hA hk ce_w105 dX4_handOver_39 ?_
  refine ce_g_2_1 hx hb hB hown hK hA (ce_kf_4_1 hk) ce_w96 dX4_handOver_42 ?_
  refine lv_if_le (tgt := 55) hx hb dX4_handOver_45 (by decide) (fun c9 => ?_) (fun c9 => ?_)
  · have h := ce_it c9 h
    cases h
    exact ce_vret hx hb hr hlocks hA hS dX4_handOver_55
  · have h := ce_ie c9 h
    refine lv_aload_n hx hb dX4_handOver_48 rfl (lv_at hl 0 rfl) ?_
    refine lv_iload_n hx hb dX4_handOver_49 rfl (lv_at hl 1 rfl) ?_
    refine lv_iload_n hx hb dX4_handOver_50 rfl (lv_at hl 2 rfl) ?_
    refine lv_iadd hx hb dX4_handOver_51 ?_
    obtain ⟨M10, e11, h⟩ := ce_nm_e h
    refine ce_p_4_13 hx hb hB hown hK hA hS hk ce_w124 dX4_handOver_52 e11 (fun H locs hA hS => ?_)
    cases h
    exact ce_vret hx hb hr hlocks hA hS dX4_handOver_55
def f_X4_getsFrom (k : Nat) (M : ce_M) (a1 : Int32) (a2 : Int32) : Option Int32 :=
  ce_b1 (f_X3_leafAt (k + 1) M a2) (fun (x1 : Int32) =>
  if (ce_rd M k 7) = 0 then
    some 0
  else
    if x1 = (-1) then
      some 0
    else
      ce_b1 (f_X7_areaOf M x1 (ce_rd M k 3)) (fun (x5 : Int32) =>
      if (x5 &&& a1) = 0 then
        some 0
      else
        some 1))
set_option maxRecDepth 100000 in
set_option maxHeartbeats 4000000 in
theorem c_X4_getsFrom (l : Launch) (X : ce_X) (G : ce_G) (b : Nat) {k : Nat} {a1 : Int32} {a2 : Int32} {M : ce_M} (hk : ce_kd k = 4) {r : Int32} (h : f_X4_getsFrom k M a1 a2 = some r) : ce_Ct l yX4_getsFrom cX4_getsFrom 4 (some .boolean) 1 24 X G b [.ref (b + k), .int a1, .int a2] M (some (.int r)) M := by
  refine ce_ofW (own := RX4) (by decide) rfl (Nat.le_of_ble_eq_true rfl) (fun p e s m below meth c ls hx hb hr hlocks hml hown hB hF hA hl hS => ?_)
  have hK := hF.1
  have hl : lv_has ls 4 [(0, .ref (b + k)), (1, .int a1), (2, .int a2)] := hl
  unfold f_X4_getsFrom at h
  refine lv_aload_n hx hb dX4_getsFrom_0 rfl (lv_at hl 0 rfl) ?_
  refine ce_g_4_0 hx hb hB hown hK hA hk ce_w103 dX4_getsFrom_1 ?_
  refine lv_iload_n hx hb dX4_getsFrom_4 rfl (lv_at hl 2 rfl) ?_
  obtain ⟨x1, g2, h⟩ := ce_b1_e h
  refine ce_callVi (As := [.int a2]) (rest := []) hx hb hml hown hB (c_X3_leafAt l X G b (ce_kf_4_0 hk) g2) ce_v_X3_leafAt ce_w492 ⟨Nat.le_of_ble_eq_true rfl, Nat.le_of_ble_eq_true rfl⟩ hF hA hS (ce_rc_3 hK hA (ce_kf_4_0 hk)) hl rfl rfl (Nat.le_of_ble_eq_true rfl) dX4_getsFrom_5 ⟨Nat.le_of_ble_eq_true rfl, Nat.le_of_ble_eq_true rfl⟩ (fun H locs hA hS => ?_)
  refine lv_istore_n (lv' := [(3, .int x1), (0, .ref (b + k)), (1, .int a1), (2, .int a2)]) hx hb dX4_getsFrom_8 rfl hl (by decide) rfl (fun ls hl => ?_)
  refine lv_aload_n hx hb dX4_getsFrom_9 rfl (lv_at hl 1 rfl) ?_
  refine ce_g_4_7 hx hb hB hown hK hA hk ce_w116 dX4_getsFrom_10 ?_
  refine lv_if_eq (tgt := 38) hx hb dX4_getsFrom_13 (by decide) (fun c3 => ?_) (fun c3 => ?_)
  · have h := ce_it c3 h
    refine lv_iconst (v := 0) hx hb dX4_getsFrom_38 (by decide) ?_
    cases h
    exact ce_zret hx hb hr hlocks (Or.inl rfl) hA hS dX4_getsFrom_39
  · have h := ce_ie c3 h
    refine lv_iload_n hx hb dX4_getsFrom_16 rfl (lv_at hl 0 rfl) ?_
    refine lv_iconst (v := (-1)) hx hb dX4_getsFrom_17 (by decide) ?_
    refine lv_icmp_eq (tgt := 38) hx hb dX4_getsFrom_18 (by decide) (fun c4 => ?_) (fun c4 => ?_)
    · have h := ce_it c4 h
      refine lv_iconst (v := 0) hx hb dX4_getsFrom_38 (by decide) ?_
      cases h
      exact ce_zret hx hb hr hlocks (Or.inl rfl) hA hS dX4_getsFrom_39
    · have h := ce_ie c4 h
      refine lv_iload_n hx hb dX4_getsFrom_21 rfl (lv_at hl 0 rfl) ?_
      refine lv_aload_n hx hb dX4_getsFrom_22 rfl (lv_at hl 1 rfl) ?_
      refine ce_g_4_3 hx hb hB hown hK hA hk ce_w109 dX4_getsFrom_23 ?_
      obtain ⟨x5, g6, h⟩ := ce_b1_e h
      refine ce_callNi (As := [.int x1, .int (ce_rd M k 3)]) (rest := []) hx hb hml hown hB (c_X7_areaOf l X G b  g6) ce_s_X7_areaOf (List.mem_of_getElem? (i := 7) rfl) ⟨Nat.le_of_ble_eq_true rfl, Nat.le_of_ble_eq_true rfl⟩ hF hA hS hl rfl rfl (Nat.le_of_ble_eq_true rfl) dX4_getsFrom_26 ⟨Nat.le_of_ble_eq_true rfl, Nat.le_of_ble_eq_true rfl⟩ (fun H locs hA hS => ?_)
      refine lv_iload_n hx hb dX4_getsFrom_29 rfl (lv_at hl 2 rfl) ?_
      refine lv_iand hx hb dX4_getsFrom_30 ?_
      refine lv_if_eq (tgt := 38) hx hb dX4_getsFrom_31 (by decide) (fun c7 => ?_) (fun c7 => ?_)
      · have h := ce_it c7 h
        refine lv_iconst (v := 0) hx hb dX4_getsFrom_38 (by decide) ?_
        cases h
        exact ce_zret hx hb hr hlocks (Or.inl rfl) hA hS dX4_getsFrom_39
      · have h := ce_ie c7 h
        refine lv_iconst (v := 1) hx hb dX4_getsFrom_34 (by decide) ?_
        refine lv_goto (tgt := 39) hx hb dX4_getsFrom_35 (by decide) ?_
        cases h
        exact ce_zret hx hb hr hlocks (Or.inr rfl) hA hS dX4_getsFrom_39
def f_X4_receive (k : Nat) (M : ce_M) (a1 : Int32) : Option ce_M :=
  ce_nm (ce_wr M k 8 ((ce_rd M k 8) + 1)) (fun (M1 : ce_M) =>
  ce_b1 (f_X2_isFull (k + 5) M1) (fun (x3 : Int32) =>
  if x3 = 0 then
    ce_b1 (f_X2_add (k + 5) M1 a1) (fun (M6 : ce_M) =>
    some M6)
  else
    ce_nm (ce_wr M1 k 10 ((ce_rd M1 k 10) + 1)) (fun (M8 : ce_M) =>
    some M8)))
set_option maxRecDepth 100000 in
set_option maxHeartbeats 4000000 in
theorem c_X4_receive (l : Launch) (X : ce_X) (G : ce_G) (b : Nat) {k : Nat} {a1 : Int32} {M : ce_M} (hk : ce_kd k = 4) {M' : ce_M} (h : f_X4_receive k M a1 = some M') : ce_Ct l yX4_receive cX4_receive 2 none 1 21 X G b [.ref (b + k), .int a1] M none M' := by
  refine ce_ofW (own := RX4) (by decide) rfl (Nat.le_of_ble_eq_true rfl) (fun p e s m below meth c ls hx hb hr hlocks hml hown hB hF hA hl hS => ?_)
  have hK := hF.1
  have hl : lv_has ls 2 [(0, .ref (b + k)), (1, .int a1)] := hl
  unfold f_X4_receive at h
  refine lv_aload_n hx hb dX4_receive_0 rfl (lv_at hl 0 rfl) ?_
  refine lv_dup hx hb dX4_receive_1 rfl ?_
  refine ce_g_4_8 hx hb hB hown hK hA hk ce_w118 dX4_receive_2 ?_
  refine lv_iconst (v := 1) hx hb dX4_receive_5 (by decide) ?_
  refine lv_iadd hx hb dX4_receive_6 ?_
  obtain ⟨M1, e2, h⟩ := ce_nm_e h
  refine ce_p_4_8 hx hb hB hown hK hA hS hk ce_w118 dX4_receive_7 e2 (fun H locs hA hS => ?_)
  refine lv_aload_n hx hb dX4_receive_10 rfl (lv_at hl 0 rfl) ?_
  refine ce_g_4_1 hx hb hB hown hK hA hk ce_w105 dX4_receive_11 ?_
  obtain ⟨x3, g4, h⟩ := ce_b1_e h
  refine ce_callVi (As := []) (rest := []) hx hb hml hown hB (c_X2_isFull l X G b (ce_kf_4_1 hk) g4) ce_v_X2_isFull ce_w505 ⟨Nat.le_of_ble_eq_true rfl, Nat.le_of_ble_eq_true rfl⟩ hF hA hS (ce_rc_2 hK hA (ce_kf_4_1 hk)) hl rfl rfl (Nat.le_of_ble_eq_true rfl) dX4_receive_14 ⟨Nat.le_of_ble_eq_true rfl, Nat.le_of_ble_eq_true rfl⟩ (fun H locs hA hS => ?_)
  refine lv_if_eq (tgt := 33) hx hb dX4_receive_17 (by decide) (fun c5 => ?_) (fun c5 => ?_)
  · have h := ce_it c5 h
    refine lv_aload_n hx hb dX4_receive_33 rfl (lv_at hl 0 rfl) ?_
    refine ce_g_4_1 hx hb hB hown hK hA hk ce_w105 dX4_receive_34 ?_
    refine lv_iload_n hx hb dX4_receive_37 rfl (lv_at hl 1 rfl) ?_
    obtain ⟨M6, g7, h⟩ := ce_b1_e h
    refine ce_callVv (As := [.int a1]) (rest := []) hx hb hml hown hB (c_X2_add l X G b (ce_kf_4_1 hk) g7) ce_v_X2_add ce_w509 ⟨Nat.le_of_ble_eq_true rfl, Nat.le_of_ble_eq_true rfl⟩ hF hA hS (ce_rc_2 hK hA (ce_kf_4_1 hk)) hl rfl rfl (Nat.le_of_ble_eq_true rfl) dX4_receive_38 ⟨Nat.le_of_ble_eq_true rfl, Nat.le_of_ble_eq_true rfl⟩ (fun H locs hA hS => ?_)
    cases h
    exact ce_vret hx hb hr hlocks hA hS dX4_receive_41
  · have h := ce_ie c5 h
    refine lv_aload_n hx hb dX4_receive_20 rfl (lv_at hl 0 rfl) ?_
    refine lv_dup hx hb dX4_receive_21 rfl ?_
    refine ce_g_4_10 hx hb hB hown hK hA hk ce_w121 dX4_receive_22 ?_
    refine lv_iconst (v := 1) hx hb dX4_receive_25 (by decide) ?_
    refine lv_iadd hx hb dX4_receive_26 ?_
    obtain ⟨M8, e9, h⟩ := ce_nm_e h
    refine ce_p_4_10 hx hb hB hown hK hA hS hk ce_w121 dX4_receive_27 e9 (fun H locs hA hS => ?_)
    refine lv_goto (tgt := 41) hx hb dX4_receive_30 (by decide) ?_
    cases h
    exact ce_vret hx hb hr hlocks hA hS dX4_receive_41
def f_X4_reasonAgainst (k : Nat) (M : ce_M) (a1 : Int32) : Option Int32 :=
  if (ce_rd M k 7) = 0 then
    some 1
  else
    ce_b1 (f_X7_areaOf M (ce_rd M k 6) (ce_rd M k 3)) (fun (x2 : Int32) =>
    if (x2 &&& a1) = 0 then
      ce_b1 (f_X7_areaOf M (ce_rd M k 4) (ce_rd M k 3)) (fun (x8 : Int32) =>
      if (x8 &&& a1) = 0 then
        some 3
      else
        some 2)
    else
      ce_b1 (f_X2_isFull (k + 5) M) (fun (x5 : Int32) =>
      if x5 = 0 then
        some 0
      else
        some 4))
set_option maxRecDepth 100000 in
set_option maxHeartbeats 4000000 in
theorem c_X4_reasonAgainst (l : Launch) (X : ce_X) (G : ce_G) (b : Nat) {k : Nat} {a1 : Int32} {M : ce_M} (hk : ce_kd k = 4) {r : Int32} (h : f_X4_reasonAgainst k M a1 = some r) : ce_Ct l yX4_reasonAgainst cX4_reasonAgainst 2 (some .int) 1 24 X G b [.ref (b + k), .int a1] M (some (.int r)) M := by
  refine ce_ofW (own := RX4) (by decide) rfl (Nat.le_of_ble_eq_true rfl) (fun p e s m below meth c ls hx hb hr hlocks hml hown hB hF hA hl hS => ?_)
  have hK := hF.1
  have hl : lv_has ls 2 [(0, .ref (b + k)), (1, .int a1)] := hl
  unfold f_X4_reasonAgainst at h
  refine lv_aload_n hx hb dX4_reasonAgainst_0 rfl (lv_at hl 0 rfl) ?_
  refine ce_g_4_7 hx hb hB hown hK hA hk ce_w116 dX4_reasonAgainst_1 ?_
  refine lv_if_ne (tgt := 9) hx hb dX4_reasonAgainst_4 (by decide) (fun c1 => ?_) (fun c1 => ?_)
  · have h := ce_ie c1 h
    refine lv_aload_n hx hb dX4_reasonAgainst_9 rfl (lv_at hl 0 rfl) ?_
    refine ce_g_4_6 hx hb hB hown hK hA hk ce_w114 dX4_reasonAgainst_10 ?_
    refine lv_aload_n hx hb dX4_reasonAgainst_13 rfl (lv_at hl 0 rfl) ?_
    refine ce_g_4_3 hx hb hB hown hK hA hk ce_w109 dX4_reasonAgainst_14 ?_
    obtain ⟨x2, g3, h⟩ := ce_b1_e h
    refine ce_callNi (As := [.int (ce_rd M k 6), .int (ce_rd M k 3)]) (rest := []) hx hb hml hown hB (c_X7_areaOf l X G b  g3) ce_s_X7_areaOf (List.mem_of_getElem? (i := 7) rfl) ⟨Nat.le_of_ble_eq_true rfl, Nat.le_of_ble_eq_true rfl⟩ hF hA hS hl rfl rfl (Nat.le_of_ble_eq_true rfl) dX4_reasonAgainst_17 ⟨Nat.le_of_ble_eq_true rfl, Nat.le_of_ble_eq_true rfl⟩ (fun H locs hA hS => ?_)
    refine lv_iload_n hx hb dX4_reasonAgainst_20 rfl (lv_at hl 1 rfl) ?_
    refine lv_iand hx hb dX4_reasonAgainst_21 ?_
    refine lv_if_ne (tgt := 47) hx hb dX4_reasonAgainst_22 (by decide) (fun c4 => ?_) (fun c4 => ?_)
    · have h := ce_ie c4 h
      refine lv_aload_n hx hb dX4_reasonAgainst_47 rfl (lv_at hl 0 rfl) ?_
      refine ce_g_4_1 hx hb hB hown hK hA hk ce_w105 dX4_reasonAgainst_48 ?_
      obtain ⟨x5, g6, h⟩ := ce_b1_e h
      refine ce_callVi (As := []) (rest := []) hx hb hml hown hB (c_X2_isFull l X G b (ce_kf_4_1 hk) g6) ce_v_X2_isFull ce_w505 ⟨Nat.le_of_ble_eq_true rfl, Nat.le_of_ble_eq_true rfl⟩ hF hA hS (ce_rc_2 hK hA (ce_kf_4_1 hk)) hl rfl rfl (Nat.le_of_ble_eq_true rfl) dX4_reasonAgainst_51 ⟨Nat.le_of_ble_eq_true rfl, Nat.le_of_ble_eq_true rfl⟩ (fun H locs hA hS => ?_)
      refine lv_if_eq (tgt := 61) hx hb dX4_reasonAgainst_54 (by decide) (fun c7 => ?_) (fun c7 => ?_)
      · have h := ce_it c7 h
        refine lv_iconst (v := 0) hx hb dX4_reasonAgainst_61 (by decide) ?_
        cases h
        exact ce_iret hx hb hr hlocks hA hS dX4_reasonAgainst_62
      · have h := ce_ie c7 h
        refine lv_iconst (v := 4) hx hb dX4_reasonAgainst_57 (by decide) ?_
        refine lv_goto (tgt := 62) hx hb dX4_reasonAgainst_58 (by decide) ?_
        cases h
        exact ce_iret hx hb hr hlocks hA hS dX4_reasonAgainst_62
    · have h := ce_it c4 h
      refine lv_aload_n hx hb dX4_reasonAgainst_25 rfl (lv_at hl 0 rfl) ?_
      refine ce_g_4_4 hx hb hB hown hK hA hk ce_w110 dX4_reasonAgainst_26 ?_
      refine lv_aload_n hx hb dX4_reasonAgainst_29 rfl (lv_at hl 0 rfl) ?_
      refine ce_g_4_3 hx hb hB hown hK hA hk ce_w109 dX4_reasonAgainst_30 ?_
      obtain ⟨x8, g9, h⟩ := ce_b1_e h
      refine ce_callNi (As := [.int (ce_rd M k 4), .int (ce_rd M k 3)]) (rest := []) hx hb hml hown hB (c_X7_areaOf l X G b  g9) ce_s_X7_areaOf (List.mem_of_getElem? (i := 7) rfl) ⟨Nat.le_of_ble_eq_true rfl, Nat.le_of_ble_eq_true rfl⟩ hF hA hS hl rfl rfl (Nat.le_of_ble_eq_true rfl) dX4_reasonAgainst_33 ⟨Nat.le_of_ble_eq_true rfl, Nat.le_of_ble_eq_true rfl⟩ (fun H locs hA hS => ?_)
      refine lv_iload_n hx hb dX4_reasonAgainst_36 rfl (lv_at hl 1 rfl) ?_
      refine lv_iand hx hb dX4_reasonAgainst_37 ?_
      refine lv_if_eq (tgt := 45) hx hb dX4_reasonAgainst_38 (by decide) (fun c10 => ?_) (fun c10 => ?_)
      · have h := ce_it c10 h
        refine lv_iconst (v := 3) hx hb dX4_reasonAgainst_45 (by decide) ?_
        cases h
        exact ce_iret hx hb hr hlocks hA hS dX4_reasonAgainst_46
      · have h := ce_ie c10 h
        refine lv_iconst (v := 2) hx hb dX4_reasonAgainst_41 (by decide) ?_
        refine lv_goto (tgt := 46) hx hb dX4_reasonAgainst_42 (by decide) ?_
        cases h
        exact ce_iret hx hb hr hlocks hA hS dX4_reasonAgainst_46
  · have h := ce_it c1 h
    refine lv_iconst (v := 1) hx hb dX4_reasonAgainst_7 (by decide) ?_
    cases h
    exact ce_iret hx hb hr hlocks hA hS dX4_reasonAgainst_8
def f_X4_coverage (k : Nat) (M : ce_M) : Option Int32 :=
  if (ce_rd M k 7) = 0 then
    some 0
  else
    ce_b1 (f_X7_areaOf M (ce_rd M k 6) (ce_rd M k 3)) (fun (x2 : Int32) =>
    some x2)
set_option maxRecDepth 100000 in
set_option maxHeartbeats 4000000 in
theorem c_X4_coverage (l : Launch) (X : ce_X) (G : ce_G) (b : Nat) {k : Nat} {M : ce_M} (hk : ce_kd k = 4) {r : Int32} (h : f_X4_coverage k M = some r) : ce_Ct l yX4_coverage cX4_coverage 1 (some .int) 1 24 X G b [.ref (b + k)] M (some (.int r)) M := by
  refine ce_ofW (own := RX4) (by decide) rfl (Nat.le_of_ble_eq_true rfl) (fun p e s m below meth c ls hx hb hr hlocks hml hown hB hF hA hl hS => ?_)
  have hK := hF.1
  have hl : lv_has ls 1 [(0, .ref (b + k))] := hl
  unfold f_X4_coverage at h
  refine lv_aload_n hx hb dX4_coverage_0 rfl (lv_at hl 0 rfl) ?_
  refine ce_g_4_7 hx hb hB hown hK hA hk ce_w116 dX4_coverage_1 ?_
  refine lv_if_eq (tgt := 21) hx hb dX4_coverage_4 (by decide) (fun c1 => ?_) (fun c1 => ?_)
  · have h := ce_it c1 h
    refine lv_iconst (v := 0) hx hb dX4_coverage_21 (by decide) ?_
    cases h
    exact ce_iret hx hb hr hlocks hA hS dX4_coverage_22
  · have h := ce_ie c1 h
    refine lv_aload_n hx hb dX4_coverage_7 rfl (lv_at hl 0 rfl) ?_
    refine ce_g_4_6 hx hb hB hown hK hA hk ce_w114 dX4_coverage_8 ?_
    refine lv_aload_n hx hb dX4_coverage_11 rfl (lv_at hl 0 rfl) ?_
    refine ce_g_4_3 hx hb hB hown hK hA hk ce_w109 dX4_coverage_12 ?_
    obtain ⟨x2, g3, h⟩ := ce_b1_e h
    refine ce_callNi (As := [.int (ce_rd M k 6), .int (ce_rd M k 3)]) (rest := []) hx hb hml hown hB (c_X7_areaOf l X G b  g3) ce_s_X7_areaOf (List.mem_of_getElem? (i := 7) rfl) ⟨Nat.le_of_ble_eq_true rfl, Nat.le_of_ble_eq_true rfl⟩ hF hA hS hl rfl rfl (Nat.le_of_ble_eq_true rfl) dX4_coverage_15 ⟨Nat.le_of_ble_eq_true rfl, Nat.le_of_ble_eq_true rfl⟩ (fun H locs hA hS => ?_)
    refine lv_goto (tgt := 22) hx hb dX4_coverage_18 (by decide) ?_
    cases h
    exact ce_iret hx hb hr hlocks hA hS dX4_coverage_22
def f_X4_valueOf (k : Nat) (M : ce_M) (a1 : Int32) : Option Int32 :=
  if a1 = 0 then
    some (ce_rd M k 2)
  else
  if a1 = 1 then
    some (ce_rd M k 3)
  else
  if a1 = 2 then
    some (ce_rd M k 4)
  else
  if a1 = 3 then
    some (ce_rd M k 5)
  else
  if a1 = 4 then
    some (ce_rd M k 6)
  else
  if a1 = 5 then
    if (ce_rd M k 7) = 0 then
      some 0
    else
      some 1
  else
  if a1 = 6 then
    some (ce_rd M (k + 5) 1)
  else
  if a1 = 7 then
    some (ce_rd M k 8)
  else
  if a1 = 8 then
    some (ce_rd M k 9)
  else
  if a1 = 9 then
    some (ce_rd M k 10)
  else
  if a1 = 10 then
    some (ce_rd M k 12)
  else
  if a1 = 11 then
    some (ce_rd M k 13)
  else
  if a1 = 12 then
    some (ce_rd M k 11)
  else
  some (-1)
set_option maxRecDepth 100000 in
set_option maxHeartbeats 4000000 in
theorem c_X4_valueOf (l : Launch) (X : ce_X) (G : ce_G) (b : Nat) {k : Nat} {a1 : Int32} {M : ce_M} (hk : ce_kd k = 4) {r : Int32} (h : f_X4_valueOf k M a1 = some r) : ce_Ct l yX4_valueOf cX4_valueOf 2 (some .int) 0 0 X G b [.ref (b + k), .int a1] M (some (.int r)) M := by
  refine ce_ofW (own := RX4) (by decide) rfl (Nat.le_of_ble_eq_true rfl) (fun p e s m below meth c ls hx hb hr hlocks hml hown hB hF hA hl hS => ?_)
  have hK := hF.1
  have hl : lv_has ls 2 [(0, .ref (b + k)), (1, .int a1)] := hl
  unfold f_X4_valueOf at h
  refine lv_iload_n hx hb dX4_valueOf_0 rfl (lv_at hl 1 rfl) ?_
  by_cases c1 : a1 = 0
  · have h := ce_it c1 h
    refine lv_tableIn (off := 67) (tgt := 68) hx hb dX4_valueOf_1 (by rw [c1]; decide) (by rw [c1]; decide) (by rw [c1]; rfl) (by decide) ?_
    refine lv_aload_n hx hb dX4_valueOf_68 rfl (lv_at hl 0 rfl) ?_
    refine ce_g_4_2 hx hb hB hown hK hA hk ce_w108 dX4_valueOf_69 ?_
    cases h
    exact ce_iret hx hb hr hlocks hA hS dX4_valueOf_72
  have h := ce_ie c1 h
  by_cases c2 : a1 = 1
  · have h := ce_it c2 h
    refine lv_tableIn (off := 72) (tgt := 73) hx hb dX4_valueOf_1 (by rw [c2]; decide) (by rw [c2]; decide) (by rw [c2]; rfl) (by decide) ?_
    refine lv_aload_n hx hb dX4_valueOf_73 rfl (lv_at hl 0 rfl) ?_
    refine ce_g_4_3 hx hb hB hown hK hA hk ce_w109 dX4_valueOf_74 ?_
    cases h
    exact ce_iret hx hb hr hlocks hA hS dX4_valueOf_77
  have h := ce_ie c2 h
  by_cases c3 : a1 = 2
  · have h := ce_it c3 h
    refine lv_tableIn (off := 77) (tgt := 78) hx hb dX4_valueOf_1 (by rw [c3]; decide) (by rw [c3]; decide) (by rw [c3]; rfl) (by decide) ?_
    refine lv_aload_n hx hb dX4_valueOf_78 rfl (lv_at hl 0 rfl) ?_
    refine ce_g_4_4 hx hb hB hown hK hA hk ce_w110 dX4_valueOf_79 ?_
    cases h
    exact ce_iret hx hb hr hlocks hA hS dX4_valueOf_82
  have h := ce_ie c3 h
  by_cases c4 : a1 = 3
  · have h := ce_it c4 h
    refine lv_tableIn (off := 82) (tgt := 83) hx hb dX4_valueOf_1 (by rw [c4]; decide) (by rw [c4]; decide) (by rw [c4]; rfl) (by decide) ?_
    refine lv_aload_n hx hb dX4_valueOf_83 rfl (lv_at hl 0 rfl) ?_
    refine ce_g_4_5 hx hb hB hown hK hA hk ce_w112 dX4_valueOf_84 ?_
    cases h
    exact ce_iret hx hb hr hlocks hA hS dX4_valueOf_87
  have h := ce_ie c4 h
  by_cases c5 : a1 = 4
  · have h := ce_it c5 h
    refine lv_tableIn (off := 87) (tgt := 88) hx hb dX4_valueOf_1 (by rw [c5]; decide) (by rw [c5]; decide) (by rw [c5]; rfl) (by decide) ?_
    refine lv_aload_n hx hb dX4_valueOf_88 rfl (lv_at hl 0 rfl) ?_
    refine ce_g_4_6 hx hb hB hown hK hA hk ce_w114 dX4_valueOf_89 ?_
    cases h
    exact ce_iret hx hb hr hlocks hA hS dX4_valueOf_92
  have h := ce_ie c5 h
  by_cases c6 : a1 = 5
  · have h := ce_it c6 h
    refine lv_tableIn (off := 92) (tgt := 93) hx hb dX4_valueOf_1 (by rw [c6]; decide) (by rw [c6]; decide) (by rw [c6]; rfl) (by decide) ?_
    refine lv_aload_n hx hb dX4_valueOf_93 rfl (lv_at hl 0 rfl) ?_
    refine ce_g_4_7 hx hb hB hown hK hA hk ce_w116 dX4_valueOf_94 ?_
    refine lv_if_eq (tgt := 104) hx hb dX4_valueOf_97 (by decide) (fun c7 => ?_) (fun c7 => ?_)
    · have h := ce_it c7 h
      refine lv_iconst (v := 0) hx hb dX4_valueOf_104 (by decide) ?_
      cases h
      exact ce_iret hx hb hr hlocks hA hS dX4_valueOf_105
    · have h := ce_ie c7 h
      refine lv_iconst (v := 1) hx hb dX4_valueOf_100 (by decide) ?_
      refine lv_goto (tgt := 105) hx hb dX4_valueOf_101 (by decide) ?_
      cases h
      exact ce_iret hx hb hr hlocks hA hS dX4_valueOf_105
  have h := ce_ie c6 h
  by_cases c8 : a1 = 6
  · have h := ce_it c8 h
    refine lv_tableIn (off := 105) (tgt := 106) hx hb dX4_valueOf_1 (by rw [c8]; decide) (by rw [c8]; decide) (by rw [c8]; rfl) (by decide) ?_
    refine lv_aload_n hx hb dX4_valueOf_106 rfl (lv_at hl 0 rfl) ?_
    refine ce_g_4_1 hx hb hB hown hK hA hk ce_w105 dX4_valueOf_107 ?_
    refine ce_g_2_1 hx hb hB hown hK hA (ce_kf_4_1 hk) ce_w96 dX4_valueOf_110 ?_
    cases h
    exact ce_iret hx hb hr hlocks hA hS dX4_valueOf_113
  have h := ce_ie c8 h
  by_cases c9 : a1 = 7
  · have h := ce_it c9 h
    refine lv_tableIn (off := 113) (tgt := 114) hx hb dX4_valueOf_1 (by rw [c9]; decide) (by rw [c9]; decide) (by rw [c9]; rfl) (by decide) ?_
    refine lv_aload_n hx hb dX4_valueOf_114 rfl (lv_at hl 0 rfl) ?_
    refine ce_g_4_8 hx hb hB hown hK hA hk ce_w118 dX4_valueOf_115 ?_
    cases h
    exact ce_iret hx hb hr hlocks hA hS dX4_valueOf_118
  have h := ce_ie c9 h
  by_cases c10 : a1 = 8
  · have h := ce_it c10 h
    refine lv_tableIn (off := 118) (tgt := 119) hx hb dX4_valueOf_1 (by rw [c10]; decide) (by rw [c10]; decide) (by rw [c10]; rfl) (by decide) ?_
    refine lv_aload_n hx hb dX4_valueOf_119 rfl (lv_at hl 0 rfl) ?_
    refine ce_g_4_9 hx hb hB hown hK hA hk ce_w119 dX4_valueOf_120 ?_
    cases h
    exact ce_iret hx hb hr hlocks hA hS dX4_valueOf_123
  have h := ce_ie c10 h
  by_cases c11 : a1 = 9
  · have h := ce_it c11 h
    refine lv_tableIn (off := 123) (tgt := 124) hx hb dX4_valueOf_1 (by rw [c11]; decide) (by rw [c11]; decide) (by rw [c11]; rfl) (by decide) ?_
    refine lv_aload_n hx hb dX4_valueOf_124 rfl (lv_at hl 0 rfl) ?_
    refine ce_g_4_10 hx hb hB hown hK hA hk ce_w121 dX4_valueOf_125 ?_
    cases h
    exact ce_iret hx hb hr hlocks hA hS dX4_valueOf_128
  have h := ce_ie c11 h
  by_cases c12 : a1 = 10
  · have h := ce_it c12 h
    refine lv_tableIn (off := 128) (tgt := 129) hx hb dX4_valueOf_1 (by rw [c12]; decide) (by rw [c12]; decide) (by rw [c12]; rfl) (by decide) ?_
    refine lv_aload_n hx hb dX4_valueOf_129 rfl (lv_at hl 0 rfl) ?_
    refine ce_g_4_12 hx hb hB hown hK hA hk ce_w123 dX4_valueOf_130 ?_
    cases h
    exact ce_iret hx hb hr hlocks hA hS dX4_valueOf_133
  have h := ce_ie c12 h
  by_cases c13 : a1 = 11
  · have h := ce_it c13 h
    refine lv_tableIn (off := 133) (tgt := 134) hx hb dX4_valueOf_1 (by rw [c13]; decide) (by rw [c13]; decide) (by rw [c13]; rfl) (by decide) ?_
    refine lv_aload_n hx hb dX4_valueOf_134 rfl (lv_at hl 0 rfl) ?_
    refine ce_g_4_13 hx hb hB hown hK hA hk ce_w124 dX4_valueOf_135 ?_
    cases h
    exact ce_iret hx hb hr hlocks hA hS dX4_valueOf_138
  have h := ce_ie c13 h
  by_cases c14 : a1 = 12
  · have h := ce_it c14 h
    refine lv_tableIn (off := 138) (tgt := 139) hx hb dX4_valueOf_1 (by rw [c14]; decide) (by rw [c14]; decide) (by rw [c14]; rfl) (by decide) ?_
    refine lv_aload_n hx hb dX4_valueOf_139 rfl (lv_at hl 0 rfl) ?_
    refine ce_g_4_11 hx hb hB hown hK hA hk ce_w122 dX4_valueOf_140 ?_
    cases h
    exact ce_iret hx hb hr hlocks hA hS dX4_valueOf_143
  have h := ce_ie c14 h
  have nc1 : (a1).toInt ≠ 0 := fun q => c1 (Int32.toInt_inj.mp (q.trans (by decide)))
  have nc2 : (a1).toInt ≠ 1 := fun q => c2 (Int32.toInt_inj.mp (q.trans (by decide)))
  have nc3 : (a1).toInt ≠ 2 := fun q => c3 (Int32.toInt_inj.mp (q.trans (by decide)))
  have nc4 : (a1).toInt ≠ 3 := fun q => c4 (Int32.toInt_inj.mp (q.trans (by decide)))
  have nc5 : (a1).toInt ≠ 4 := fun q => c5 (Int32.toInt_inj.mp (q.trans (by decide)))
  have nc6 : (a1).toInt ≠ 5 := fun q => c6 (Int32.toInt_inj.mp (q.trans (by decide)))
  have nc8 : (a1).toInt ≠ 6 := fun q => c8 (Int32.toInt_inj.mp (q.trans (by decide)))
  have nc9 : (a1).toInt ≠ 7 := fun q => c9 (Int32.toInt_inj.mp (q.trans (by decide)))
  have nc10 : (a1).toInt ≠ 8 := fun q => c10 (Int32.toInt_inj.mp (q.trans (by decide)))
  have nc11 : (a1).toInt ≠ 9 := fun q => c11 (Int32.toInt_inj.mp (q.trans (by decide)))
  have nc12 : (a1).toInt ≠ 10 := fun q => c12 (Int32.toInt_inj.mp (q.trans (by decide)))
  have nc13 : (a1).toInt ≠ 11 := fun q => c13 (Int32.toInt_inj.mp (q.trans (by decide)))
  have nc14 : (a1).toInt ≠ 12 := fun q => c14 (Int32.toInt_inj.mp (q.trans (by decide)))
  refine lv_tableOut (tgt := 144) hx hb dX4_valueOf_1 (by omega) (by decide) ?_
  refine lv_iconst (v := (-1)) hx hb dX4_valueOf_144 (by decide) ?_
  cases h
  exact ce_iret hx hb hr hlocks hA hS dX4_valueOf_145
