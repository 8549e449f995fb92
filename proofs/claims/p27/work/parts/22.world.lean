def f_X6_copyFrom_L16 (k : Nat) (a1 : Nat) (u8 : ce_M → Option ce_M) (rec5 : ce_M → Int32 → Option ce_M) (M3 : ce_M) (x4 : Int32) : Option ce_M :=
  if 8 ≤ x4 then
    u8 M3
  else
    ce_gi x4 8 (ce_nm ((k + 2) + (10 + 7 * (Int32.toNatClampNeg x4))) (fun (k19 : Nat) =>
    ce_gi x4 8 (ce_nm ((a1 + 2) + (10 + 7 * (Int32.toNatClampNeg x4))) (fun (k22 : Nat) =>
    ce_b1 (f_X4_copyFrom k19 M3 k22) (fun (M25 : ce_M) =>
    ce_nm (x4 + 1) (fun (x27 : Int32) =>
    rec5 M25 x27))))))
def f_X6_copyFrom (k : Nat) (M : ce_M) (a1 : Nat) : Option ce_M :=
  ce_nm (ce_cp M (a1 + 1) (k + 1) 4) (fun (M1 : ce_M) =>
  ce_nm (fun (M7 : ce_M) =>
      ce_b1 (f_X1_copyFrom (k + 3) M7 (a1 + 3)) (fun (M9 : ce_M) =>
      ce_nm (ce_cp M9 (a1 + 10) (k + 10) 16) (fun (M11 : ce_M) =>
      ce_nm (ce_wr M11 k 5 (ce_rd M11 a1 5)) (fun (M13 : ce_M) =>
      ce_nm (ce_wr M13 k 6 (ce_rd M13 a1 6)) (fun (M15 : ce_M) =>
      some M15))))) (fun (u8 : ce_M → Option ce_M) =>
  ce_lp2 (f_X6_copyFrom_L16 k a1 u8) ce_FU M1 0))
set_option maxRecDepth 100000 in
set_option maxHeartbeats 4000000 in
theorem c_X6_copyFrom (l : Launch) (X : ce_X) (G : ce_G) (b : Nat) {k : Nat} {a1 : Nat} {M : ce_M} (hk : ce_kd k = 6) (ha1 : ce_kd a1 = 6) {M' : ce_M} (h : f_X6_copyFrom k M a1 = some M') : ce_Ct l yX6_copyFrom cX6_copyFrom 3 none 3 82 X G b [.ref (b + k), .ref (b + a1)] M none M' := by
  refine ce_ofW (own := RX6) (by decide) rfl (Nat.le_of_ble_eq_true rfl) (fun p e s m below meth c ls hx hb hr hlocks hml hown hB hF hA hl hS => ?_)
  have hK := hF.1
  have hl : lv_has ls 3 [(0, .ref (b + k)), (1, .ref (b + a1))] := hl
  unfold f_X6_copyFrom at h
  refine lv_aload_n hx hb dX6_copyFrom_0 rfl (lv_at hl 1 rfl) ?_
  refine ce_g_6_0 hx hb hB hown hK hA ha1 ce_w155 dX6_copyFrom_1 ?_
  refine lv_iconst (v := 0) hx hb dX6_copyFrom_4 (by decide) ?_
  refine lv_aload_n hx hb dX6_copyFrom_5 rfl (lv_at hl 0 rfl) ?_
  refine ce_g_6_0 hx hb hB hown hK hA hk ce_w155 dX6_copyFrom_6 ?_
  refine lv_iconst (v := 0) hx hb dX6_copyFrom_9 (by decide) ?_
  refine lv_iconst (v := 4) hx hb dX6_copyFrom_10 (by decide) ?_
  obtain ⟨M1, e2, h⟩ := ce_nm_e h
  refine ce_copy hx hb hml hl hown (hB _ ce_w419) hB hK hA hS 4 4 (ce_kf_6_0 ha1) (ce_kf_6_0 hk) 4 (by decide) (by decide) (by decide) (by decide) (Nat.le_of_ble_eq_true rfl) (by decide) dX6_copyFrom_11 e2 (fun H locs hA hS => ?_)
  refine lv_iconst (v := 0) hx hb dX6_copyFrom_14 (by decide) ?_
  refine lv_istore_n (lv' := [(2, .int 0), (0, .ref (b + k)), (1, .ref (b + a1))]) hx hb dX6_copyFrom_15 rfl hl (by decide) rfl (fun ls hl => ?_)
  obtain ⟨u8, e17, h⟩ := ce_nm_e h
  have Ju8 : ∀ (M7 : ce_M), u8 M7 = some M' → ce_Wg p l e (ce_R 3 82 0 0) s m (([.ref (b + k), .ref (b + a1)] : List Value).toArray) below meth c 0 0 (MQ below (ce_Q X b M' none) ([.ref (b + k), .ref (b + a1)] : List Value).toArray s 0 0 (ce_Ab b)) X b M7 3 [(0, .ref (b + k)), (1, .ref (b + a1))] 43 [] := by
    intro M7 h  H locs ls hA hS hl
    subst e17
    refine lv_aload_n hx hb dX6_copyFrom_43 rfl (lv_at hl 0 rfl) ?_
    refine ce_g_6_2 hx hb hB hown hK hA hk ce_w158 dX6_copyFrom_44 ?_
    refine lv_aload_n hx hb dX6_copyFrom_47 rfl (lv_at hl 1 rfl) ?_
    refine ce_g_6_2 hx hb hB hown hK hA ha1 ce_w158 dX6_copyFrom_48 ?_
    obtain ⟨M9, g10, h⟩ := ce_b1_e h
    refine ce_callVv (As := [.ref (b + (a1 + 3))]) (rest := []) hx hb hml hown hB (c_X1_copyFrom l X G b (ce_kf_6_2 hk) (ce_kf_6_2 ha1) g10) ce_v_X1_copyFrom ce_w436 ⟨Nat.le_of_ble_eq_true rfl, Nat.le_of_ble_eq_true rfl⟩ hF hA hS (ce_rc_1 hK hA (ce_kf_6_2 hk)) hl rfl rfl (Nat.le_of_ble_eq_true rfl) dX6_copyFrom_51 ⟨Nat.le_of_ble_eq_true rfl, Nat.le_of_ble_eq_true rfl⟩ (fun H locs hA hS => ?_)
    refine lv_aload_n hx hb dX6_copyFrom_54 rfl (lv_at hl 1 rfl) ?_
    refine ce_g_6_3 hx hb hB hown hK hA ha1 ce_w160 dX6_copyFrom_55 ?_
    refine lv_iconst (v := 0) hx hb dX6_copyFrom_58 (by decide) ?_
    refine lv_aload_n hx hb dX6_copyFrom_59 rfl (lv_at hl 0 rfl) ?_
    refine ce_g_6_3 hx hb hB hown hK hA hk ce_w160 dX6_copyFrom_60 ?_
    refine lv_iconst (v := 0) hx hb dX6_copyFrom_63 (by decide) ?_
    refine lv_bipush (v := 16) hx hb dX6_copyFrom_64 (by decide) ?_
    obtain ⟨M11, e12, h⟩ := ce_nm_e h
    refine ce_copy hx hb hml hl hown (hB _ ce_w419) hB hK hA hS 16 16 (ce_kf_6_3 ha1) (ce_kf_6_3 hk) 16 (by decide) (by decide) (by decide) (by decide) (Nat.le_of_ble_eq_true rfl) (by decide) dX6_copyFrom_66 e12 (fun H locs hA hS => ?_)
    refine lv_aload_n hx hb dX6_copyFrom_69 rfl (lv_at hl 0 rfl) ?_
    refine lv_aload_n hx hb dX6_copyFrom_70 rfl (lv_at hl 1 rfl) ?_
    refine ce_g_6_5 hx hb hB hown hK hA ha1 ce_w162 dX6_copyFrom_71 ?_
    obtain ⟨M13, e14, h⟩ := ce_nm_e h
    refine ce_p_6_5 hx hb hB hown hK hA hS hk ce_w162 dX6_copyFrom_74 e14 (fun H locs hA hS => ?_)
    refine lv_aload_n hx hb dX6_copyFrom_77 rfl (lv_at hl 0 rfl) ?_
    refine lv_aload_n hx hb dX6_copyFrom_78 rfl (lv_at hl 1 rfl) ?_
    refine ce_g_6_6 hx hb hB hown hK hA ha1 ce_w163 dX6_copyFrom_79 ?_
    obtain ⟨M15, e16, h⟩ := ce_nm_e h
    refine ce_p_6_6 hx hb hB hown hK hA hS hk ce_w163 dX6_copyFrom_82 e16 (fun H locs hA hS => ?_)
    cases h
    exact ce_vret hx hb hr hlocks hA hS dX6_copyFrom_85
  refine ce_lp2_i (y := M') (P := fun (M3 : ce_M) (x4 : Int32) => ce_Wg p l e (ce_R 3 82 0 0) s m (([.ref (b + k), .ref (b + a1)] : List Value).toArray) below meth c 0 0 (MQ below (ce_Q X b M' none) ([.ref (b + k), .ref (b + a1)] : List Value).toArray s 0 0 (ce_Ab b)) X b M3 3 [(0, .ref (b + k)), (1, .ref (b + a1)), (2, .int x4)] 16 []) (fun rec5 ih6 M3 x4 h => ?_) _ _ _ h _ _ _ hA hS (lv_sub hl [1, 2, 0] rfl)
  intro H locs ls hA hS hl
  unfold f_X6_copyFrom_L16 at h
  refine lv_iload_n hx hb dX6_copyFrom_16 rfl (lv_at hl 2 rfl) ?_
  refine lv_bipush (v := 8) hx hb dX6_copyFrom_17 (by decide) ?_
  refine lv_icmp_ge (tgt := 43) hx hb dX6_copyFrom_19 (by decide) (fun c18 => ?_) (fun c18 => ?_)
  · have h := ce_it c18 h
    exact Ju8 M3 h  _ _ _ hA hS (lv_sub hl [0, 1] rfl)
  · have h := ce_ie c18 h
    refine lv_aload_n hx hb dX6_copyFrom_22 rfl (lv_at hl 0 rfl) ?_
    refine ce_g_6_1 hx hb hB hown hK hA hk ce_w156 dX6_copyFrom_23 ?_
    refine lv_iload_n hx hb dX6_copyFrom_26 rfl (lv_at hl 2 rfl) ?_
    obtain ⟨i20, h⟩ := ce_gi_e h
    obtain ⟨k19, e21, h⟩ := ce_nm_e h
    have hk19 : ce_kd k19 = 4 := e21 ▸ ce_kf_sub (ce_kf_6_1 hk) (ce_in_lt i20)
    refine ce_aaldS hx hb hK hA (ce_kf_6_1 hk) i20 dX6_copyFrom_27 ?_
    refine ce_topr e21 ?_
    refine lv_aload_n hx hb dX6_copyFrom_28 rfl (lv_at hl 1 rfl) ?_
    refine ce_g_6_1 hx hb hB hown hK hA ha1 ce_w156 dX6_copyFrom_29 ?_
    refine lv_iload_n hx hb dX6_copyFrom_32 rfl (lv_at hl 2 rfl) ?_
    obtain ⟨i23, h⟩ := ce_gi_e h
    obtain ⟨k22, e24, h⟩ := ce_nm_e h
    have hk22 : ce_kd k22 = 4 := e24 ▸ ce_kf_sub (ce_kf_6_1 ha1) (ce_in_lt i23)
    refine ce_aaldS hx hb hK hA (ce_kf_6_1 ha1) i23 dX6_copyFrom_33 ?_
    refine ce_topr e24 ?_
    obtain ⟨M25, g26, h⟩ := ce_b1_e h
    refine ce_callVv (As := [.ref (b + k22)]) (rest := []) hx hb hml hown hB (c_X4_copyFrom l X G b hk19 hk22 g26) ce_v_X4_copyFrom ce_w422 ⟨Nat.le_of_ble_eq_true rfl, Nat.le_of_ble_eq_true rfl⟩ hF hA hS (ce_rc_4 hK hA hk19) hl rfl rfl (Nat.le_of_ble_eq_true rfl) dX6_copyFrom_34 ⟨Nat.le_of_ble_eq_true rfl, Nat.le_of_ble_eq_true rfl⟩ (fun H locs hA hS => ?_)
    obtain ⟨x27, e28, h⟩ := ce_nm_e h
    refine lv_iinc (v := x27) (lv' := [(2, .int x27), (0, .ref (b + k)), (1, .ref (b + a1))]) hx hb dX6_copyFrom_37 hl (k := 2) rfl (by rw [← e28]; rfl) (by decide) rfl (fun ls hl => ?_)
    refine lv_goto (tgt := 16) hx hb dX6_copyFrom_40 (by decide) ?_
    exact ih6 M25 x27 h  _ _ _ hA hS (lv_sub hl [1, 2, 0] rfl)
def f_X6_isSubscriber (k : Nat) (M : ce_M) (a1 : Int32) : Option Int32 :=
  ce_b1 (f_X7_isBelow M a1 (ce_rd M k 5)) (fun (x1 : Int32) =>
  ce_gz x1 (
  some x1))
set_option maxRecDepth 100000 in
set_option maxHeartbeats 4000000 in
theorem c_X6_isSubscriber (l : Launch) (X : ce_X) (G : ce_G) (b : Nat) {k : Nat} {a1 : Int32} {M : ce_M} (hk : ce_kd k = 6) {r : Int32} (h : f_X6_isSubscriber k M a1 = some r) : ce_Ct l yX6_isSubscriber cX6_isSubscriber 2 (some .boolean) 1 21 X G b [.ref (b + k), .int a1] M (some (.int r)) M := by
  refine ce_ofW (own := RX6) (by decide) rfl (Nat.le_of_ble_eq_true rfl) (fun p e s m below meth c ls hx hb hr hlocks hml hown hB hF hA hl hS => ?_)
  have hK := hF.1
  have hl : lv_has ls 2 [(0, .ref (b + k)), (1, .int a1)] := hl
  unfold f_X6_isSubscriber at h
  refine lv_iload_n hx hb dX6_isSubscriber_0 rfl (lv_at hl 1 rfl) ?_
  refine lv_aload_n hx hb dX6_isSubscriber_1 rfl (lv_at hl 0 rfl) ?_
  refine ce_g_6_5 hx hb hB hown hK hA hk ce_w162 dX6_isSubscriber_2 ?_
  obtain ⟨x1, g2, h⟩ := ce_b1_e h
  refine ce_callNi (As := [.int a1, .int (ce_rd M k 5)]) (rest := []) hx hb hml hown hB (c_X7_isBelow l X G b  g2) ce_s_X7_isBelow (List.mem_of_getElem? (i := 5) rfl) ⟨Nat.le_of_ble_eq_true rfl, Nat.le_of_ble_eq_true rfl⟩ hF hA hS hl rfl rfl (Nat.le_of_ble_eq_true rfl) dX6_isSubscriber_5 ⟨Nat.le_of_ble_eq_true rfl, Nat.le_of_ble_eq_true rfl⟩ (fun H locs hA hS => ?_)
  obtain ⟨z3, h⟩ := ce_gz_e h
  cases h
  exact ce_zret hx hb hr hlocks z3 hA hS dX6_isSubscriber_8
def f_X6_againstJoining (k : Nat) (M : ce_M) (a1 : Int32) (a2 : Int32) (a3 : Int32) : Option Int32 :=
  ce_b1 (f_X7_isBelow M a3 16) (fun (x1 : Int32) =>
  if x1 = 0 then
    some 1
  else
    ce_b1 (f_X7_isBelow M a1 3) (fun (x4 : Int32) =>
    if x4 = 0 then
      some 2
    else
      ce_b1 (f_X7_isBelow M a2 3) (fun (x7 : Int32) =>
      if x7 = 0 then
        some 2
      else
        if 8 ≤ (ce_rd M k 5) then
          some 3
        else
          some 0)))
set_option maxRecDepth 100000 in
set_option maxHeartbeats 4000000 in
theorem c_X6_againstJoining (l : Launch) (X : ce_X) (G : ce_G) (b : Nat) {k : Nat} {a1 : Int32} {a2 : Int32} {a3 : Int32} {M : ce_M} (hk : ce_kd k = 6) {r : Int32} (h : f_X6_againstJoining k M a1 a2 a3 = some r) : ce_Ct l yX6_againstJoining cX6_againstJoining 4 (some .int) 1 21 X G b [.ref (b + k), .int a1, .int a2, .int a3] M (some (.int r)) M := by
  refine ce_ofW (own := RX6) (by decide) rfl (Nat.le_of_ble_eq_true rfl) (fun p e s m below meth c ls hx hb hr hlocks hml hown hB hF hA hl hS => ?_)
  have hK := hF.1
  have hl : lv_has ls 4 [(0, .ref (b + k)), (1, .int a1), (2, .int a2), (3, .int a3)] := hl
  unfold f_X6_againstJoining at h
  refine lv_iload_n hx hb dX6_againstJoining_0 rfl (lv_at hl 3 rfl) ?_
  refine lv_bipush (v := 16) hx hb dX6_againstJoining_1 (by decide) ?_
  obtain ⟨x1, g2, h⟩ := ce_b1_e h
  refine ce_callNi (As := [.int a3, .int 16]) (rest := []) hx hb hml hown hB (c_X7_isBelow l X G b  g2) ce_s_X7_isBelow (List.mem_of_getElem? (i := 5) rfl) ⟨Nat.le_of_ble_eq_true rfl, Nat.le_of_ble_eq_true rfl⟩ hF hA hS hl rfl rfl (Nat.le_of_ble_eq_true rfl) dX6_againstJoining_3 ⟨Nat.le_of_ble_eq_true rfl, Nat.le_of_ble_eq_true rfl⟩ (fun H locs hA hS => ?_)
  refine lv_if_ne (tgt := 11) hx hb dX6_againstJoining_6 (by decide) (fun c3 => ?_) (fun c3 => ?_)
  · have h := ce_ie c3 h
    refine lv_iload_n hx hb dX6_againstJoining_11 rfl (lv_at hl 1 rfl) ?_
    refine lv_iconst (v := 3) hx hb dX6_againstJoining_12 (by decide) ?_
    obtain ⟨x4, g5, h⟩ := ce_b1_e h
    refine ce_callNi (As := [.int a1, .int 3]) (rest := []) hx hb hml hown hB (c_X7_isBelow l X G b  g5) ce_s_X7_isBelow (List.mem_of_getElem? (i := 5) rfl) ⟨Nat.le_of_ble_eq_true rfl, Nat.le_of_ble_eq_true rfl⟩ hF hA hS hl rfl rfl (Nat.le_of_ble_eq_true rfl) dX6_againstJoining_13 ⟨Nat.le_of_ble_eq_true rfl, Nat.le_of_ble_eq_true rfl⟩ (fun H locs hA hS => ?_)
    refine lv_if_eq (tgt := 27) hx hb dX6_againstJoining_16 (by decide) (fun c6 => ?_) (fun c6 => ?_)
    · have h := ce_it c6 h
      refine lv_iconst (v := 2) hx hb dX6_againstJoining_27 (by decide) ?_
      cases h
      exact ce_iret hx hb hr hlocks hA hS dX6_againstJoining_28
    · have h := ce_ie c6 h
      refine lv_iload_n hx hb dX6_againstJoining_19 rfl (lv_at hl 2 rfl) ?_
      refine lv_iconst (v := 3) hx hb dX6_againstJoining_20 (by decide) ?_
      obtain ⟨x7, g8, h⟩ := ce_b1_e h
      refine ce_callNi (As := [.int a2, .int 3]) (rest := []) hx hb hml hown hB (c_X7_isBelow l X G b  g8) ce_s_X7_isBelow (List.mem_of_getElem? (i := 5) rfl) ⟨Nat.le_of_ble_eq_true rfl, Nat.le_of_ble_eq_true rfl⟩ hF hA hS hl rfl rfl (Nat.le_of_ble_eq_true rfl) dX6_againstJoining_21 ⟨Nat.le_of_ble_eq_true rfl, Nat.le_of_ble_eq_true rfl⟩ (fun H locs hA hS => ?_)
      refine lv_if_ne (tgt := 29) hx hb dX6_againstJoining_24 (by decide) (fun c9 => ?_) (fun c9 => ?_)
      · have h := ce_ie c9 h
        refine lv_aload_n hx hb dX6_againstJoining_29 rfl (lv_at hl 0 rfl) ?_
        refine ce_g_6_5 hx hb hB hown hK hA hk ce_w162 dX6_againstJoining_30 ?_
        refine lv_bipush (v := 8) hx hb dX6_againstJoining_33 (by decide) ?_
        refine lv_icmp_ge (tgt := 42) hx hb dX6_againstJoining_35 (by decide) (fun c10 => ?_) (fun c10 => ?_)
        · have h := ce_it c10 h
          refine lv_iconst (v := 3) hx hb dX6_againstJoining_42 (by decide) ?_
          cases h
          exact ce_iret hx hb hr hlocks hA hS dX6_againstJoining_43
        · have h := ce_ie c10 h
          refine lv_iconst (v := 0) hx hb dX6_againstJoining_38 (by decide) ?_
          refine lv_goto (tgt := 43) hx hb dX6_againstJoining_39 (by decide) ?_
          cases h
          exact ce_iret hx hb hr hlocks hA hS dX6_againstJoining_43
      · have h := ce_it c9 h
        refine lv_iconst (v := 2) hx hb dX6_againstJoining_27 (by decide) ?_
        cases h
        exact ce_iret hx hb hr hlocks hA hS dX6_againstJoining_28
  · have h := ce_it c3 h
    refine lv_iconst (v := 1) hx hb dX6_againstJoining_9 (by decide) ?_
    cases h
    exact ce_iret hx hb hr hlocks hA hS dX6_againstJoining_10
def f_X6_againstMoving (k : Nat) (M : ce_M) (a1 : Int32) (a2 : Int32) : Option Int32 :=
  ce_b1 (f_X6_isSubscriber k M a1) (fun (x1 : Int32) =>
  if x1 = 0 then
    some 1
  else
    ce_b1 (f_X7_isBelow M a2 16) (fun (x4 : Int32) =>
    if x4 = 0 then
      some 1
    else
      ce_gi a1 8 (ce_nm ((k + 2) + (10 + 7 * (Int32.toNatClampNeg a1))) (fun (k7 : Nat) =>
      ce_b1 (f_X4_canGoTo k7 M a2) (fun (x10 : Int32) =>
      if x10 = 0 then
        some 3
      else
        some 0)))))
set_option maxRecDepth 100000 in
set_option maxHeartbeats 4000000 in
theorem c_X6_againstMoving (l : Launch) (X : ce_X) (G : ce_G) (b : Nat) {k : Nat} {a1 : Int32} {a2 : Int32} {M : ce_M} (hk : ce_kd k = 6) {r : Int32} (h : f_X6_againstMoving k M a1 a2 = some r) : ce_Ct l yX6_againstMoving cX6_againstMoving 3 (some .int) 2 42 X G b [.ref (b + k), .int a1, .int a2] M (some (.int r)) M := by
  refine ce_ofW (own := RX6) (by decide) rfl (Nat.le_of_ble_eq_true rfl) (fun p e s m below meth c ls hx hb hr hlocks hml hown hB hF hA hl hS => ?_)
  have hK := hF.1
  have hl : lv_has ls 3 [(0, .ref (b + k)), (1, .int a1), (2, .int a2)] := hl
  unfold f_X6_againstMoving at h
  refine lv_aload_n hx hb dX6_againstMoving_0 rfl (lv_at hl 0 rfl) ?_
  refine lv_iload_n hx hb dX6_againstMoving_1 rfl (lv_at hl 1 rfl) ?_
  obtain ⟨x1, g2, h⟩ := ce_b1_e h
  refine ce_callVi (As := [.int a1]) (rest := []) hx hb hml hown hB (c_X6_isSubscriber l X G b hk g2) ce_v_X6_isSubscriber ce_w273 ⟨Nat.le_of_ble_eq_true rfl, Nat.le_of_ble_eq_true rfl⟩ hF hA hS (ce_rc_6 hK hA hk) hl rfl rfl (Nat.le_of_ble_eq_true rfl) dX6_againstMoving_2 ⟨Nat.le_of_ble_eq_true rfl, Nat.le_of_ble_eq_true rfl⟩ (fun H locs hA hS => ?_)
  refine lv_if_eq (tgt := 17) hx hb dX6_againstMoving_5 (by decide) (fun c3 => ?_) (fun c3 => ?_)
  · have h := ce_it c3 h
    refine lv_iconst (v := 1) hx hb dX6_againstMoving_17 (by decide) ?_
    cases h
    exact ce_iret hx hb hr hlocks hA hS dX6_againstMoving_18
  · have h := ce_ie c3 h
    refine lv_iload_n hx hb dX6_againstMoving_8 rfl (lv_at hl 2 rfl) ?_
    refine lv_bipush (v := 16) hx hb dX6_againstMoving_9 (by decide) ?_
    obtain ⟨x4, g5, h⟩ := ce_b1_e h
    refine ce_callNi (As := [.int a2, .int 16]) (rest := []) hx hb hml hown hB (c_X7_isBelow l X G b  g5) ce_s_X7_isBelow (List.mem_of_getElem? (i := 5) rfl) ⟨Nat.le_of_ble_eq_true rfl, Nat.le_of_ble_eq_true rfl⟩ hF hA hS hl rfl rfl (Nat.le_of_ble_eq_true rfl) dX6_againstMoving_11 ⟨Nat.le_of_ble_eq_true rfl, Nat.le_of_ble_eq_true rfl⟩ (fun H locs hA hS => ?_)
    refine lv_if_ne (tgt := 19) hx hb dX6_againstMoving_14 (by decide) (fun c6 => ?_) (fun c6 => ?_)
    · have h := ce_ie c6 h
      refine lv_aload_n hx hb dX6_againstMoving_19 rfl (lv_at hl 0 rfl) ?_
      refine ce_g_6_1 hx hb hB hown hK hA hk ce_w156 dX6_againstMoving_20 ?_
      refine lv_iload_n hx hb dX6_againstMoving_23 rfl (lv_at hl 1 rfl) ?_
      obtain ⟨i8, h⟩ := ce_gi_e h
      obtain ⟨k7, e9, h⟩ := ce_nm_e h
      have hk7 : ce_kd k7 = 4 := e9 ▸ ce_kf_sub (ce_kf_6_1 hk) (ce_in_lt i8)
      refine ce_aaldS hx hb hK hA (ce_kf_6_1 hk) i8 dX6_againstMoving_24 ?_
      refine ce_topr e9 ?_
      refine lv_iload_n hx hb dX6_againstMoving_25 rfl (lv_at hl 2 rfl) ?_
      obtain ⟨x10, g11, h⟩ := ce_b1_e h
      refine ce_callVi (As := [.int a2]) (rest := []) hx hb hml hown hB (c_X4_canGoTo l X G b hk7 g11) ce_v_X4_canGoTo ce_w277 ⟨Nat.le_of_ble_eq_true rfl, Nat.le_of_ble_eq_true rfl⟩ hF hA hS (ce_rc_4 hK hA hk7) hl rfl rfl (Nat.le_of_ble_eq_true rfl) dX6_againstMoving_26 ⟨Nat.le_of_ble_eq_true rfl, Nat.le_of_ble_eq_true rfl⟩ (fun H locs hA hS => ?_)
      refine lv_if_eq (tgt := 36) hx hb dX6_againstMoving_29 (by decide) (fun c12 => ?_) (fun c12 => ?_)
      · have h := ce_it c12 h
        refine lv_iconst (v := 3) hx hb dX6_againstMoving_36 (by decide) ?_
        cases h
        exact ce_iret hx hb hr hlocks hA hS dX6_againstMoving_37
      · have h := ce_ie c12 h
        refine lv_iconst (v := 0) hx hb dX6_againstMoving_32 (by decide) ?_
        refine lv_goto (tgt := 37) hx hb dX6_againstMoving_33 (by decide) ?_
        cases h
        exact ce_iret hx hb hr hlocks hA hS dX6_againstMoving_37
    · have h := ce_it c6 h
      refine lv_iconst (v := 1) hx hb dX6_againstMoving_17 (by decide) ?_
      cases h
      exact ce_iret hx hb hr hlocks hA hS dX6_againstMoving_18
def f_X6_againstLeaving (k : Nat) (M : ce_M) (a1 : Int32) : Option Int32 :=
  ce_b1 (f_X6_isSubscriber k M a1) (fun (x1 : Int32) =>
  if x1 = 0 then
    some 1
  else
    ce_gi a1 8 (ce_nm ((k + 2) + (10 + 7 * (Int32.toNatClampNeg a1))) (fun (k4 : Nat) =>
    if (ce_rd M k4 7) = 0 then
      some 3
    else
      some 0)))
set_option maxRecDepth 100000 in
set_option maxHeartbeats 4000000 in
theorem c_X6_againstLeaving (l : Launch) (X : ce_X) (G : ce_G) (b : Nat) {k : Nat} {a1 : Int32} {M : ce_M} (hk : ce_kd k = 6) {r : Int32} (h : f_X6_againstLeaving k M a1 = some r) : ce_Ct l yX6_againstLeaving cX6_againstLeaving 2 (some .int) 2 42 X G b [.ref (b + k), .int a1] M (some (.int r)) M := by
  refine ce_ofW (own := RX6) (by decide) rfl (Nat.le_of_ble_eq_true rfl) (fun p e s m below meth c ls hx hb hr hlocks hml hown hB hF hA hl hS => ?_)
  have hK := hF.1
  have hl : lv_has ls 2 [(0, .ref (b + k)), (1, .int a1)] := hl
  unfold f_X6_againstLeaving at h
  refine lv_aload_n hx hb dX6_againstLeaving_0 rfl (lv_at hl 0 rfl) ?_
  refine lv_iload_n hx hb dX6_againstLeaving_1 rfl (lv_at hl 1 rfl) ?_
  obtain ⟨x1, g2, h⟩ := ce_b1_e h
  refine ce_callVi (As := [.int a1]) (rest := []) hx hb hml hown hB (c_X6_isSubscriber l X G b hk g2) ce_v_X6_isSubscriber ce_w273 ⟨Nat.le_of_ble_eq_true rfl, Nat.le_of_ble_eq_true rfl⟩ hF hA hS (ce_rc_6 hK hA hk) hl rfl rfl (Nat.le_of_ble_eq_true rfl) dX6_againstLeaving_2 ⟨Nat.le_of_ble_eq_true rfl, Nat.le_of_ble_eq_true rfl⟩ (fun H locs hA hS => ?_)
  refine lv_if_ne (tgt := 10) hx hb dX6_againstLeaving_5 (by decide) (fun c3 => ?_) (fun c3 => ?_)
  · have h := ce_ie c3 h
    refine lv_aload_n hx hb dX6_againstLeaving_10 rfl (lv_at hl 0 rfl) ?_
    refine ce_g_6_1 hx hb hB hown hK hA hk ce_w156 dX6_againstLeaving_11 ?_
    refine lv_iload_n hx hb dX6_againstLeaving_14 rfl (lv_at hl 1 rfl) ?_
    obtain ⟨i5, h⟩ := ce_gi_e h
    obtain ⟨k4, e6, h⟩ := ce_nm_e h
    have hk4 : ce_kd k4 = 4 := e6 ▸ ce_kf_sub (ce_kf_6_1 hk) (ce_in_lt i5)
    refine ce_aaldS hx hb hK hA (ce_kf_6_1 hk) i5 dX6_againstLeaving_15 ?_
    refine ce_topr e6 ?_
    refine ce_g_4_7 hx hb hB hown hK hA hk4 ce_w117 dX6_againstLeaving_16 ?_
    refine lv_if_eq (tgt := 26) hx hb dX6_againstLeaving_19 (by decide) (fun c7 => ?_) (fun c7 => ?_)
    · have h := ce_it c7 h
      refine lv_iconst (v := 3) hx hb dX6_againstLeaving_26 (by decide) ?_
      cases h
      exact ce_iret hx hb hr hlocks hA hS dX6_againstLeaving_27
    · have h := ce_ie c7 h
      refine lv_iconst (v := 0) hx hb dX6_againstLeaving_22 (by decide) ?_
      refine lv_goto (tgt := 27) hx hb dX6_againstLeaving_23 (by decide) ?_
      cases h
      exact ce_iret hx hb hr hlocks hA hS dX6_againstLeaving_27
  · have h := ce_it c3 h
    refine lv_iconst (v := 1) hx hb dX6_againstLeaving_8 (by decide) ?_
    cases h
    exact ce_iret hx hb hr hlocks hA hS dX6_againstLeaving_9
def f_X6_isTooLate (k : Nat) (M : ce_M) (a1 : Int32) : Option Int32 :=
  ce_gi 3 4 (ce_nm (ce_rd M (k + 1) (Int32.toNatClampNeg 3)) (fun (x1 : Int32) =>
  if x1 < a1 then
    some 1
  else
    if a1 ≤ (ce_rd M k 6) then
      some 0
    else
      some 1))
set_option maxRecDepth 100000 in
set_option maxHeartbeats 4000000 in
theorem c_X6_isTooLate (l : Launch) (X : ce_X) (G : ce_G) (b : Nat) {k : Nat} {a1 : Int32} {M : ce_M} (hk : ce_kd k = 6) {r : Int32} (h : f_X6_isTooLate k M a1 = some r) : ce_Ct l yX6_isTooLate cX6_isTooLate 2 (some .boolean) 0 0 X G b [.ref (b + k), .int a1] M (some (.int r)) M := by
  refine ce_ofW (own := RX6) (by decide) rfl (Nat.le_of_ble_eq_true rfl) (fun p e s m below meth c ls hx hb hr hlocks hml hown hB hF hA hl hS => ?_)
  have hK := hF.1
  have hl : lv_has ls 2 [(0, .ref (b + k)), (1, .int a1)] := hl
  unfold f_X6_isTooLate at h
  refine lv_iload_n hx hb dX6_isTooLate_0 rfl (lv_at hl 1 rfl) ?_
  refine lv_aload_n hx hb dX6_isTooLate_1 rfl (lv_at hl 0 rfl) ?_
  refine ce_g_6_0 hx hb hB hown hK hA hk ce_w155 dX6_isTooLate_2 ?_
  refine lv_iconst (v := 3) hx hb dX6_isTooLate_5 (by decide) ?_
  obtain ⟨i2, h⟩ := ce_gi_e h
  obtain ⟨x1, e3, h⟩ := ce_nm_e h
  refine ce_iald hx hb hK hA 4 (ce_kf_6_0 hk) i2 e3 dX6_isTooLate_6 ?_
  refine lv_icmp_gt (tgt := 18) hx hb dX6_isTooLate_7 (by decide) (fun c4 => ?_) (fun c4 => ?_)
  · have h := ce_it c4 h
    refine lv_iconst (v := 1) hx hb dX6_isTooLate_18 (by decide) ?_
    refine lv_goto (tgt := 23) hx hb dX6_isTooLate_19 (by decide) ?_
    cases h
    exact ce_zret hx hb hr hlocks (Or.inr rfl) hA hS dX6_isTooLate_23
  · have h := ce_ie c4 h
    refine lv_iload_n hx hb dX6_isTooLate_10 rfl (lv_at hl 1 rfl) ?_
    refine lv_aload_n hx hb dX6_isTooLate_11 rfl (lv_at hl 0 rfl) ?_
    refine ce_g_6_6 hx hb hB hown hK hA hk ce_w163 dX6_isTooLate_12 ?_
    refine lv_icmp_le (tgt := 22) hx hb dX6_isTooLate_15 (by decide) (fun c5 => ?_) (fun c5 => ?_)
    · have h := ce_it c5 h
      refine lv_iconst (v := 0) hx hb dX6_isTooLate_22 (by decide) ?_
      cases h
      exact ce_zret hx hb hr hlocks (Or.inl rfl) hA hS dX6_isTooLate_23
    · have h := ce_ie c5 h
      refine lv_iconst (v := 1) hx hb dX6_isTooLate_18 (by decide) ?_
      refine lv_goto (tgt := 23) hx hb dX6_isTooLate_19 (by decide) ?_
      cases h
      exact ce_zret hx hb hr hlocks (Or.inr rfl) hA hS dX6_isTooLate_23
def f_X6_againstPublishing (k : Nat) (M : ce_M) (a1 : Int32) (a2 : Int32) (a3 : Int32) : Option Int32 :=
  ce_b1 (f_X7_isBelow M a1 16) (fun (x1 : Int32) =>
  if x1 = 0 then
    some 1
  else
    ce_b1 (f_X7_isBelow M a2 3) (fun (x4 : Int32) =>
    if x4 = 0 then
      some 2
    else
      if 0 ≤ a3 then
        if 60 ≤ (ce_rd M (k + 3) 6) then
          some 3
        else
          ce_b1 (f_X6_isTooLate k M a3) (fun (x9 : Int32) =>
          if x9 = 0 then
            some 0
          else
            some 3)
      else
        some 2))
set_option maxRecDepth 100000 in
set_option maxHeartbeats 4000000 in
theorem c_X6_againstPublishing (l : Launch) (X : ce_X) (G : ce_G) (b : Nat) {k : Nat} {a1 : Int32} {a2 : Int32} {a3 : Int32} {M : ce_M} (hk : ce_kd k = 6) {r : Int32} (h : f_X6_againstPublishing k M a1 a2 a3 = some r) : ce_Ct l yX6_againstPublishing cX6_againstPublishing 4 (some .int) 1 21 X G b [.ref (b + k), .int a1, .int a2, .int a3] M (some (.int r)) M := by
  refine ce_ofW (own := RX6) (by decide) rfl (Nat.le_of_ble_eq_true rfl) (fun p e s m below meth c ls hx hb hr hlocks hml hown hB hF hA hl hS => ?_)
  have hK := hF.1
  have hl : lv_has ls 4 [(0, .ref (b + k)), (1, .int a1), (2, .int a2), (3, .int a3)] := hl
  unfold f_X6_againstPublishing at h
  refine lv_iload_n hx hb dX6_againstPublishing_0 rfl (lv_at hl 1 rfl) ?_
  refine lv_bipush (v := 16) hx hb dX6_againstPublishing_1 (by decide) ?_
  obtain ⟨x1, g2, h⟩ := ce_b1_e h
  refine ce_callNi (As := [.int a1, .int 16]) (rest := []) hx hb hml hown hB (c_X7_isBelow l X G b  g2) ce_s_X7_isBelow (List.mem_of_getElem? (i := 5) rfl) ⟨Nat.le_of_ble_eq_true rfl, Nat.le_of_ble_eq_true rfl⟩ hF hA hS hl rfl rfl (Nat.le_of_ble_eq_true rfl) dX6_againstPublishing_3 ⟨Nat.le_of_ble_eq_true rfl, Nat.le_of_ble_eq_true rfl⟩ (fun H locs hA hS => ?_)
  refine lv_if_ne (tgt := 11) hx hb dX6_againstPublishing_6 (by decide) (fun c3 => ?_) (fun c3 => ?_)
  · have h := ce_ie c3 h
    refine lv_iload_n hx hb dX6_againstPublishing_11 rfl (lv_at hl 2 rfl) ?_
    refine lv_iconst (v := 3) hx hb dX6_againstPublishing_12 (by decide) ?_
    obtain ⟨x4, g5, h⟩ := ce_b1_e h
    refine ce_callNi (As := [.int a2, .int 3]) (rest := []) hx hb hml hown hB (c_X7_isBelow l X G b  g5) ce_s_X7_isBelow (List.mem_of_getElem? (i := 5) rfl) ⟨Nat.le_of_ble_eq_true rfl, Nat.le_of_ble_eq_true rfl⟩ hF hA hS hl rfl rfl (Nat.le_of_ble_eq_true rfl) dX6_againstPublishing_13 ⟨Nat.le_of_ble_eq_true rfl, Nat.le_of_ble_eq_true rfl⟩ (fun H locs hA hS => ?_)
    refine lv_if_eq (tgt := 23) hx hb dX6_againstPublishing_16 (by decide) (fun c6 => ?_) (fun c6 => ?_)
    · have h := ce_it c6 h
      refine lv_iconst (v := 2) hx hb dX6_againstPublishing_23 (by decide) ?_
      cases h
      exact ce_iret hx hb hr hlocks hA hS dX6_againstPublishing_24
    · have h := ce_ie c6 h
      refine lv_iload_n hx hb dX6_againstPublishing_19 rfl (lv_at hl 3 rfl) ?_
      refine lv_if_ge (tgt := 25) hx hb dX6_againstPublishing_20 (by decide) (fun c7 => ?_) (fun c7 => ?_)
      · have h := ce_it c7 h
        refine lv_aload_n hx hb dX6_againstPublishing_25 rfl (lv_at hl 0 rfl) ?_
        refine ce_g_6_2 hx hb hB hown hK hA hk ce_w158 dX6_againstPublishing_26 ?_
        refine ce_g_1_6 hx hb hB hown hK hA (ce_kf_6_2 hk) ce_w47 dX6_againstPublishing_29 ?_
        refine lv_bipush (v := 60) hx hb dX6_againstPublishing_32 (by decide) ?_
        refine lv_icmp_ge (tgt := 49) hx hb dX6_againstPublishing_34 (by decide) (fun c8 => ?_) (fun c8 => ?_)
        · have h := ce_it c8 h
          refine lv_iconst (v := 3) hx hb dX6_againstPublishing_49 (by decide) ?_
          cases h
          exact ce_iret hx hb hr hlocks hA hS dX6_againstPublishing_50
        · have h := ce_ie c8 h
          refine lv_aload_n hx hb dX6_againstPublishing_37 rfl (lv_at hl 0 rfl) ?_
          refine lv_iload_n hx hb dX6_againstPublishing_38 rfl (lv_at hl 3 rfl) ?_
          obtain ⟨x9, g10, h⟩ := ce_b1_e h
          refine ce_callVi (As := [.int a3]) (rest := []) hx hb hml hown hB (c_X6_isTooLate l X G b hk g10) ce_v_X6_isTooLate ce_w289 ⟨Nat.le_of_ble_eq_true rfl, Nat.le_of_ble_eq_true rfl⟩ hF hA hS (ce_rc_6 hK hA hk) hl rfl rfl (Nat.le_of_ble_eq_true rfl) dX6_againstPublishing_39 ⟨Nat.le_of_ble_eq_true rfl, Nat.le_of_ble_eq_true rfl⟩ (fun H locs hA hS => ?_)
          refine lv_if_ne (tgt := 49) hx hb dX6_againstPublishing_42 (by decide) (fun c11 => ?_) (fun c11 => ?_)
          · have h := ce_ie c11 h
            refine lv_iconst (v := 3) hx hb dX6_againstPublishing_49 (by decide) ?_
            cases h
            exact ce_iret hx hb hr hlocks hA hS dX6_againstPublishing_50
          · have h := ce_it c11 h
            refine lv_iconst (v := 0) hx hb dX6_againstPublishing_45 (by decide) ?_
            refine lv_goto (tgt := 50) hx hb dX6_againstPublishing_46 (by decide) ?_
            cases h
            exact ce_iret hx hb hr hlocks hA hS dX6_againstPublishing_50
      · have h := ce_ie c7 h
        refine lv_iconst (v := 2) hx hb dX6_againstPublishing_23 (by decide) ?_
        cases h
        exact ce_iret hx hb hr hlocks hA hS dX6_againstPublishing_24
  · have h := ce_it c3 h
    refine lv_iconst (v := 1) hx hb dX6_againstPublishing_9 (by decide) ?_
    cases h
    exact ce_iret hx hb hr hlocks hA hS dX6_againstPublishing_10
def f_X6_againstSetting (k : Nat) (M : ce_M) (a1 : Int32) (a2 : Int32) : Option Int32 :=
  ce_b1 (f_X7_isBelow M a1 4) (fun (x1 : Int32) =>
  if x1 = 0 then
    some 2
  else
    ce_gi a1 4 (ce_nm (ce_small (Int32.toNatClampNeg a1)) (fun (x4 : Int32) =>
    ce_nm (fun (x9 : Int32) =>
      if x9 = 0 then
        some 2
      else
        some 0) (fun (u10 : Int32 → Option Int32) =>
    ce_nm (fun (z8 : Unit) =>
      u10 0) (fun (u7 : Unit → Option Int32) =>
    if a2 < x4 then
      u7 ()
    else
      ce_gi a1 4 (ce_nm (ce_large (Int32.toNatClampNeg a1)) (fun (x15 : Int32) =>
      if x15 < a2 then
        u7 ()
      else
        u10 1)))))))
set_option maxRecDepth 100000 in
set_option maxHeartbeats 4000000 in
theorem c_X6_againstSetting (l : Launch) (X : ce_X) (G : ce_G) (b : Nat) {k : Nat} {a1 : Int32} {a2 : Int32} {M : ce_M} (hk : ce_kd k = 6) {r : Int32} (h : f_X6_againstSetting k M a1 a2 = some r) : ce_Ct l yX6_againstSetting cX6_againstSetting 4 (some .int) 1 21 X G b [.ref (b + k), .int a1, .int a2] M (some (.int r)) M := by
  refine ce_ofW (own := RX6) (by decide) rfl (Nat.le_of_ble_eq_true rfl) (fun p e s m below meth c ls hx hb hr hlocks hml hown hB hF hA hl hS => ?_)
  have hK := hF.1
  have hl : lv_has ls 4 [(0, .ref (b + k)), (1, .int a1), (2, .int a2)] := hl
  unfold f_X6_againstSetting at h
  refine lv_iload_n hx hb dX6_againstSetting_0 rfl (lv_at hl 1 rfl) ?_
  refine lv_iconst (v := 4) hx hb dX6_againstSetting_1 (by decide) ?_
  obtain ⟨x1, g2, h⟩ := ce_b1_e h
  refine ce_callNi (As := [.int a1, .int 4]) (rest := []) hx hb hml hown hB (c_X7_isBelow l X G b  g2) ce_s_X7_isBelow (List.mem_of_getElem? (i := 5) rfl) ⟨Nat.le_of_ble_eq_true rfl, Nat.le_of_ble_eq_true rfl⟩ hF hA hS hl rfl rfl (Nat.le_of_ble_eq_true rfl) dX6_againstSetting_2 ⟨Nat.le_of_ble_eq_true rfl, Nat.le_of_ble_eq_true rfl⟩ (fun H locs hA hS => ?_)
  refine lv_if_ne (tgt := 10) hx hb dX6_againstSetting_5 (by decide) (fun c3 => ?_) (fun c3 => ?_)
  · have h := ce_ie c3 h
    refine lv_iload_n hx hb dX6_againstSetting_10 rfl (lv_at hl 2 rfl) ?_
    refine va_getsN hx hb (hF.2.2.1.1.1.narrow (fun _ h => h.1)) hS hown (va_Nw.use rfl (hF.2.1.2 _ (List.mem_of_getElem? (i := 0) rfl))) (fun _ h9 => h9) dX6_againstSetting_11 ?_
    refine lv_iload_n hx hb dX6_againstSetting_14 rfl (lv_at hl 1 rfl) ?_
    obtain ⟨i5, h⟩ := ce_gi_e h
    obtain ⟨x4, e6, h⟩ := ce_nm_e h
    refine va_ti hx hb (hF.2.2.1.1.2.narrow (fun _ h => h.1)) hS i5 (v := .int x4) (by rw [← e6]) dX6_againstSetting_15 ?_
    obtain ⟨u10, e12, h⟩ := ce_nm_e h
    have Ju10 : ∀ (x9 : Int32), u10 x9 = some r → ce_Wg p l e (ce_R 1 21 0 0) s m (([.ref (b + k), .int a1, .int a2] : List Value).toArray) below meth c 0 0 (MQ below (ce_Q X b M (some (.int r))) ([.ref (b + k), .int a1, .int a2] : List Value).toArray s 0 0 (ce_Ab b)) X b M 4 [] 33 [.int x9] := by
      intro x9 h  H locs ls hA hS hl
      subst e12
      refine lv_istore_n (lv' := [(3, .int x9)]) hx hb dX6_againstSetting_33 rfl hl (by decide) rfl (fun ls hl => ?_)
      refine lv_iload_n hx hb dX6_againstSetting_34 rfl (lv_at hl 0 rfl) ?_
      refine lv_if_eq (tgt := 42) hx hb dX6_againstSetting_35 (by decide) (fun c11 => ?_) (fun c11 => ?_)
      · have h := ce_it c11 h
        refine lv_iconst (v := 2) hx hb dX6_againstSetting_42 (by decide) ?_
        cases h
        exact ce_iret hx hb hr hlocks hA hS dX6_againstSetting_43
      · have h := ce_ie c11 h
        refine lv_iconst (v := 0) hx hb dX6_againstSetting_38 (by decide) ?_
        refine lv_goto (tgt := 43) hx hb dX6_againstSetting_39 (by decide) ?_
        cases h
        exact ce_iret hx hb hr hlocks hA hS dX6_againstSetting_43
    obtain ⟨u7, e13, h⟩ := ce_nm_e h
    have Ju7 : ∀ (z8 : Unit), u7 z8 = some r → ce_Wg p l e (ce_R 1 21 0 0) s m (([.ref (b + k), .int a1, .int a2] : List Value).toArray) below meth c 0 0 (MQ below (ce_Q X b M (some (.int r))) ([.ref (b + k), .int a1, .int a2] : List Value).toArray s 0 0 (ce_Ab b)) X b M 4 [] 32 [] := by
      intro z8 h  H locs ls hA hS hl
      subst e13
      refine lv_iconst (v := 0) hx hb dX6_againstSetting_32 (by decide) ?_
      exact Ju10 0 h  _ _ _ hA hS (lv_sub hl [] rfl)
    refine lv_icmp_lt (tgt := 32) hx hb dX6_againstSetting_16 (by decide) (fun c14 => ?_) (fun c14 => ?_)
    · have h := ce_it c14 h
      exact Ju7 () h  _ _ _ hA hS (lv_sub hl [] rfl)
    · have h := ce_ie c14 h
      refine lv_iload_n hx hb dX6_againstSetting_19 rfl (lv_at hl 2 rfl) ?_
      refine va_getsN hx hb (hF.2.2.1.2.1.narrow (fun _ h => h.1)) hS hown (va_Nw.use rfl (hF.2.1.2 _ (List.mem_of_getElem? (i := 1) rfl))) (fun _ h9 => h9) dX6_againstSetting_20 ?_
      refine lv_iload_n hx hb dX6_againstSetting_23 rfl (lv_at hl 1 rfl) ?_
      obtain ⟨i16, h⟩ := ce_gi_e h
      obtain ⟨x15, e17, h⟩ := ce_nm_e h
      refine va_ti hx hb (hF.2.2.1.2.2.narrow (fun _ h => h.1)) hS i16 (v := .int x15) (by rw [← e17]) dX6_againstSetting_24 ?_
      refine lv_icmp_gt (tgt := 32) hx hb dX6_againstSetting_25 (by decide) (fun c18 => ?_) (fun c18 => ?_)
      · have h := ce_it c18 h
        exact Ju7 () h  _ _ _ hA hS (lv_sub hl [] rfl)
      · have h := ce_ie c18 h
        refine lv_iconst (v := 1) hx hb dX6_againstSetting_28 (by decide) ?_
        refine lv_goto (tgt := 33) hx hb dX6_againstSetting_29 (by decide) ?_
        exact Ju10 1 h  _ _ _ hA hS (lv_sub hl [] rfl)
  · have h := ce_it c3 h
    refine lv_iconst (v := 2) hx hb dX6_againstSetting_8 (by decide) ?_
    cases h
    exact ce_iret hx hb hr hlocks hA hS dX6_againstSetting_9
def f_X6_againstPassing (k : Nat) (M : ce_M) (a1 : Int32) : Option Int32 :=
  if a1 < 1 then
    some 2
  else
    if a1 ≤ 50 then
      if 9999 < ((ce_rd M k 6) + a1) then
        some 3
      else
        some 0
    else
      some 2
set_option maxRecDepth 100000 in
set_option maxHeartbeats 4000000 in
theorem c_X6_againstPassing (l : Launch) (X : ce_X) (G : ce_G) (b : Nat) {k : Nat} {a1 : Int32} {M : ce_M} (hk : ce_kd k = 6) {r : Int32} (h : f_X6_againstPassing k M a1 = some r) : ce_Ct l yX6_againstPassing cX6_againstPassing 2 (some .int) 0 0 X G b [.ref (b + k), .int a1] M (some (.int r)) M := by
  refine ce_ofW (own := RX6) (by decide) rfl (Nat.le_of_ble_eq_true rfl) (fun p e s m below meth c ls hx hb hr hlocks hml hown hB hF hA hl hS => ?_)
  have hK := hF.1
  have hl : lv_has ls 2 [(0, .ref (b + k)), (1, .int a1)] := hl
  unfold f_X6_againstPassing at h
  refine lv_iload_n hx hb dX6_againstPassing_0 rfl (lv_at hl 1 rfl) ?_
  refine lv_iconst (v := 1) hx hb dX6_againstPassing_1 (by decide) ?_
  refine lv_icmp_lt (tgt := 11) hx hb dX6_againstPassing_2 (by decide) (fun c1 => ?_) (fun c1 => ?_)
  · have h := ce_it c1 h
    refine lv_iconst (v := 2) hx hb dX6_againstPassing_11 (by decide) ?_
    cases h
    exact ce_iret hx hb hr hlocks hA hS dX6_againstPassing_12
  · have h := ce_ie c1 h
    refine lv_iload_n hx hb dX6_againstPassing_5 rfl (lv_at hl 1 rfl) ?_
    refine lv_bipush (v := 50) hx hb dX6_againstPassing_6 (by decide) ?_
    refine lv_icmp_le (tgt := 13) hx hb dX6_againstPassing_8 (by decide) (fun c2 => ?_) (fun c2 => ?_)
    · have h := ce_it c2 h
      refine lv_aload_n hx hb dX6_againstPassing_13 rfl (lv_at hl 0 rfl) ?_
      refine ce_g_6_6 hx hb hB hown hK hA hk ce_w163 dX6_againstPassing_14 ?_
      refine lv_iload_n hx hb dX6_againstPassing_17 rfl (lv_at hl 1 rfl) ?_
      refine lv_iadd hx hb dX6_againstPassing_18 ?_
      refine lv_sipush (v := 9999) hx hb dX6_againstPassing_19 (by decide) ?_
      refine lv_icmp_gt (tgt := 29) hx hb dX6_againstPassing_22 (by decide) (fun c3 => ?_) (fun c3 => ?_)
      · have h := ce_it c3 h
        refine lv_iconst (v := 3) hx hb dX6_againstPassing_29 (by decide) ?_
        cases h
        exact ce_iret hx hb hr hlocks hA hS dX6_againstPassing_30
      · have h := ce_ie c3 h
        refine lv_iconst (v := 0) hx hb dX6_againstPassing_25 (by decide) ?_
        refine lv_goto (tgt := 30) hx hb dX6_againstPassing_26 (by decide) ?_
        cases h
        exact ce_iret hx hb hr hlocks hA hS dX6_againstPassing_30
    · have h := ce_ie c2 h
      refine lv_iconst (v := 2) hx hb dX6_againstPassing_11 (by decide) ?_
      cases h
      exact ce_iret hx hb hr hlocks hA hS dX6_againstPassing_12
def f_X6_againstRelevelling (k : Nat) (M : ce_M) (a1 : Int32) (a2 : Int32) : Option Int32 :=
  ce_b1 (f_X6_isSubscriber k M a1) (fun (x1 : Int32) =>
  if x1 = 0 then
    some 1
  else
    ce_b1 (f_X7_isBelow M a2 3) (fun (x4 : Int32) =>
    if x4 = 0 then
      some 2
    else
      some 0))
set_option maxRecDepth 100000 in
set_option maxHeartbeats 4000000 in
theorem c_X6_againstRelevelling (l : Launch) (X : ce_X) (G : ce_G) (b : Nat) {k : Nat} {a1 : Int32} {a2 : Int32} {M : ce_M} (hk : ce_kd k = 6) {r : Int32} (h : f_X6_againstRelevelling k M a1 a2 = some r) : ce_Ct l yX6_againstRelevelling cX6_againstRelevelling 3 (some .int) 2 42 X G b [.ref (b + k), .int a1, .int a2] M (some (.int r)) M := by
  refine ce_ofW (own := RX6) (by decide) rfl (Nat.le_of_ble_eq_true rfl) (fun p e s m below meth c ls hx hb hr hlocks hml hown hB hF hA hl hS => ?_)
  have hK := hF.1
  have hl : lv_has ls 3 [(0, .ref (b + k)), (1, .int a1), (2, .int a2)] := hl
  unfold f_X6_againstRelevelling at h
  refine lv_aload_n hx hb dX6_againstRelevelling_0 rfl (lv_at hl 0 rfl) ?_
  refine lv_iload_n hx hb dX6_againstRelevelling_1 rfl (lv_at hl 1 rfl) ?_
  obtain ⟨x1, g2, h⟩ := ce_b1_e h
  refine ce_callVi (As := [.int a1]) (rest := []) hx hb hml hown hB (c_X6_isSubscriber l X G b hk g2) ce_v_X6_isSubscriber ce_w273 ⟨Nat.le_of_ble_eq_true rfl, Nat.le_of_ble_eq_true rfl⟩ hF hA hS (ce_rc_6 hK hA hk) hl rfl rfl (Nat.le_of_ble_eq_true rfl) dX6_againstRelevelling_2 ⟨Nat.le_of_ble_eq_true rfl, Nat.le_of_ble_eq_true rfl⟩ (fun H locs hA hS => ?_)
  refine lv_if_ne (tgt := 10) hx hb dX6_againstRelevelling_5 (by decide) (fun c3 => ?_) (fun c3 => ?_)
  · have h := ce_ie c3 h
    refine lv_iload_n hx hb dX6_againstRelevelling_10 rfl (lv_at hl 2 rfl) ?_
    refine lv_iconst (v := 3) hx hb dX6_againstRelevelling_11 (by decide) ?_
    obtain ⟨x4, g5, h⟩ := ce_b1_e h
    refine ce_callNi (As := [.int a2, .int 3]) (rest := []) hx hb hml hown hB (c_X7_isBelow l X G b  g5) ce_s_X7_isBelow (List.mem_of_getElem? (i := 5) rfl) ⟨Nat.le_of_ble_eq_true rfl, Nat.le_of_ble_eq_true rfl⟩ hF hA hS hl rfl rfl (Nat.le_of_ble_eq_true rfl) dX6_againstRelevelling_12 ⟨Nat.le_of_ble_eq_true rfl, Nat.le_of_ble_eq_true rfl⟩ (fun H locs hA hS => ?_)
    refine lv_if_eq (tgt := 22) hx hb dX6_againstRelevelling_15 (by decide) (fun c6 => ?_) (fun c6 => ?_)
    · have h := ce_it c6 h
      refine lv_iconst (v := 2) hx hb dX6_againstRelevelling_22 (by decide) ?_
      cases h
      exact ce_iret hx hb hr hlocks hA hS dX6_againstRelevelling_23
    · have h := ce_ie c6 h
      refine lv_iconst (v := 0) hx hb dX6_againstRelevelling_18 (by decide) ?_
      refine lv_goto (tgt := 23) hx hb dX6_againstRelevelling_19 (by decide) ?_
      cases h
      exact ce_iret hx hb hr hlocks hA hS dX6_againstRelevelling_23
  · have h := ce_it c3 h
    refine lv_iconst (v := 1) hx hb dX6_againstRelevelling_8 (by decide) ?_
    cases h
    exact ce_iret hx hb hr hlocks hA hS dX6_againstRelevelling_9
def f_X6_against (k : Nat) (M : ce_M) (a1 : Int32) (a2 : Int32) (a3 : Int32) (a4 : Int32) : Option Int32 :=
  if a1 = 0 then
    ce_b1 (f_X6_againstJoining k M a2 a3 a4) (fun (x2 : Int32) =>
    some x2)
  else
  if a1 = 1 then
    ce_b1 (f_X6_againstMoving k M a2 a3) (fun (x5 : Int32) =>
    some x5)
  else
  if a1 = 2 then
    ce_b1 (f_X6_againstLeaving k M a2) (fun (x8 : Int32) =>
    some x8)
  else
  if a1 = 3 then
    ce_b1 (f_X6_againstPublishing k M a2 a3 0) (fun (x11 : Int32) =>
    some x11)
  else
  if a1 = 4 then
    ce_b1 (f_X6_againstPublishing k M a2 a3 a4) (fun (x14 : Int32) =>
    some x14)
  else
  if a1 = 5 then
    ce_b1 (f_X6_againstSetting k M a2 a3) (fun (x17 : Int32) =>
    some x17)
  else
  if a1 = 6 then
    ce_b1 (f_X6_againstPassing k M a2) (fun (x20 : Int32) =>
    some x20)
  else
  if a1 = 7 then
    ce_b1 (f_X6_againstRelevelling k M a2 a3) (fun (x23 : Int32) =>
    some x23)
  else
  some 2
set_option maxRecDepth 100000 in
set_option maxHeartbeats 4000000 in
theorem c_X6_against (l : Launch) (X : ce_X) (G : ce_G) (b : Nat) {k : Nat} {a1 : Int32} {a2 : Int32} {a3 : Int32} {a4 : Int32} {M : ce_M} (hk : ce_kd k = 6) {r : Int32} (h : f_X6_against k M a1 a2 a3 a4 = some r) : ce_Ct l yX6_against cX6_against 5 (some .int) 3 64 X G b [.ref (b + k), .int a1, .int a2, .int a3, .int a4] M (some (.int r)) M := by
  refine ce_ofW (own := RX6) (by decide) rfl (Nat.le_of_ble_eq_true rfl) (fun p e s m below meth c ls hx hb hr hlocks hml hown hB hF hA hl hS => ?_)
  have hK := hF.1
  have hl : lv_has ls 5 [(0, .ref (b + k)), (1, .int a1), (2, .int a2), (3, .int a3), (4, .int a4)] := hl
  unfold f_X6_against at h
  refine lv_iload_n hx hb dX6_against_0 rfl (lv_at hl 1 rfl) ?_
  by_cases c1 : a1 = 0
  · have h := ce_it c1 h
    refine lv_tableIn (off := 47) (tgt := 48) hx hb dX6_against_1 (by rw [c1]; decide) (by rw [c1]; decide) (by rw [c1]; rfl) (by decide) ?_
    refine lv_aload_n hx hb dX6_against_48 rfl (lv_at hl 0 rfl) ?_
    refine lv_iload_n hx hb dX6_against_49 rfl (lv_at hl 2 rfl) ?_
    refine lv_iload_n hx hb dX6_against_50 rfl (lv_at hl 3 rfl) ?_
    refine lv_iload hx hb dX6_against_51 (lv_at hl 4 rfl) ?_
    obtain ⟨x2, g3, h⟩ := ce_b1_e h
    refine ce_callVi (As := [.int a2, .int a3, .int a4]) (rest := []) hx hb hml hown hB (c_X6_againstJoining l X G b hk g3) ce_v_X6_againstJoining ce_w262 ⟨Nat.le_of_ble_eq_true rfl, Nat.le_of_ble_eq_true rfl⟩ hF hA hS (ce_rc_6 hK hA hk) hl rfl rfl (Nat.le_of_ble_eq_true rfl) dX6_against_53 ⟨Nat.le_of_ble_eq_true rfl, Nat.le_of_ble_eq_true rfl⟩ (fun H locs hA hS => ?_)
    cases h
    exact ce_iret hx hb hr hlocks hA hS dX6_against_56
  have h := ce_ie c1 h
  by_cases c4 : a1 = 1
  · have h := ce_it c4 h
    refine lv_tableIn (off := 56) (tgt := 57) hx hb dX6_against_1 (by rw [c4]; decide) (by rw [c4]; decide) (by rw [c4]; rfl) (by decide) ?_
    refine lv_aload_n hx hb dX6_against_57 rfl (lv_at hl 0 rfl) ?_
    refine lv_iload_n hx hb dX6_against_58 rfl (lv_at hl 2 rfl) ?_
    refine lv_iload_n hx hb dX6_against_59 rfl (lv_at hl 3 rfl) ?_
    obtain ⟨x5, g6, h⟩ := ce_b1_e h
    refine ce_callVi (As := [.int a2, .int a3]) (rest := []) hx hb hml hown hB (c_X6_againstMoving l X G b hk g6) ce_v_X6_againstMoving ce_w269 ⟨Nat.le_of_ble_eq_true rfl, Nat.le_of_ble_eq_true rfl⟩ hF hA hS (ce_rc_6 hK hA hk) hl rfl rfl (Nat.le_of_ble_eq_true rfl) dX6_against_60 ⟨Nat.le_of_ble_eq_true rfl, Nat.le_of_ble_eq_true rfl⟩ (fun H locs hA hS => ?_)
    cases h
    exact ce_iret hx hb hr hlocks hA hS dX6_against_63
  have h := ce_ie c4 h
  by_cases c7 : a1 = 2
  · have h := ce_it c7 h
    refine lv_tableIn (off := 63) (tgt := 64) hx hb dX6_against_1 (by rw [c7]; decide) (by rw [c7]; decide) (by rw [c7]; rfl) (by decide) ?_
    refine lv_aload_n hx hb dX6_against_64 rfl (lv_at hl 0 rfl) ?_
    refine lv_iload_n hx hb dX6_against_65 rfl (lv_at hl 2 rfl) ?_
    obtain ⟨x8, g9, h⟩ := ce_b1_e h
    refine ce_callVi (As := [.int a2]) (rest := []) hx hb hml hown hB (c_X6_againstLeaving l X G b hk g9) ce_v_X6_againstLeaving ce_w281 ⟨Nat.le_of_ble_eq_true rfl, Nat.le_of_ble_eq_true rfl⟩ hF hA hS (ce_rc_6 hK hA hk) hl rfl rfl (Nat.le_of_ble_eq_true rfl) dX6_against_66 ⟨Nat.le_of_ble_eq_true rfl, Nat.le_of_ble_eq_true rfl⟩ (fun H locs hA hS => ?_)
    cases h
    exact ce_iret hx hb hr hlocks hA hS dX6_against_69
  have h := ce_ie c7 h
  by_cases c10 : a1 = 3
  · have h := ce_it c10 h
    refine lv_tableIn (off := 69) (tgt := 70) hx hb dX6_against_1 (by rw [c10]; decide) (by rw [c10]; decide) (by rw [c10]; rfl) (by decide) ?_
    refine lv_aload_n hx hb dX6_against_70 rfl (lv_at hl 0 rfl) ?_
    refine lv_iload_n hx hb dX6_against_71 rfl (lv_at hl 2 rfl) ?_
    refine lv_iload_n hx hb dX6_against_72 rfl (lv_at hl 3 rfl) ?_
    refine lv_iconst (v := 0) hx hb dX6_against_73 (by decide) ?_
    obtain ⟨x11, g12, h⟩ := ce_b1_e h
    refine ce_callVi (As := [.int a2, .int a3, .int 0]) (rest := []) hx hb hml hown hB (c_X6_againstPublishing l X G b hk g12) ce_v_X6_againstPublishing ce_w285 ⟨Nat.le_of_ble_eq_true rfl, Nat.le_of_ble_eq_true rfl⟩ hF hA hS (ce_rc_6 hK hA hk) hl rfl rfl (Nat.le_of_ble_eq_true rfl) dX6_against_74 ⟨Nat.le_of_ble_eq_true rfl, Nat.le_of_ble_eq_true rfl⟩ (fun H locs hA hS => ?_)
    cases h
    exact ce_iret hx hb hr hlocks hA hS dX6_against_77
  have h := ce_ie c10 h
  by_cases c13 : a1 = 4
  · have h := ce_it c13 h
    refine lv_tableIn (off := 77) (tgt := 78) hx hb dX6_against_1 (by rw [c13]; decide) (by rw [c13]; decide) (by rw [c13]; rfl) (by decide) ?_
    refine lv_aload_n hx hb dX6_against_78 rfl (lv_at hl 0 rfl) ?_
    refine lv_iload_n hx hb dX6_against_79 rfl (lv_at hl 2 rfl) ?_
    refine lv_iload_n hx hb dX6_against_80 rfl (lv_at hl 3 rfl) ?_
    refine lv_iload hx hb dX6_against_81 (lv_at hl 4 rfl) ?_
    obtain ⟨x14, g15, h⟩ := ce_b1_e h
    refine ce_callVi (As := [.int a2, .int a3, .int a4]) (rest := []) hx hb hml hown hB (c_X6_againstPublishing l X G b hk g15) ce_v_X6_againstPublishing ce_w285 ⟨Nat.le_of_ble_eq_true rfl, Nat.le_of_ble_eq_true rfl⟩ hF hA hS (ce_rc_6 hK hA hk) hl rfl rfl (Nat.le_of_ble_eq_true rfl) dX6_against_83 ⟨Nat.le_of_ble_eq_true rfl, Nat.le_of_ble_eq_true rfl⟩ (fun H locs hA hS => ?_)
    cases h
    exact ce_iret hx hb hr hlocks hA hS dX6_against_86
  have h := ce_ie c13 h
  by_cases c16 : a1 = 5
  · have h := ce_it c16 h
    refine lv_tableIn (off := 86) (tgt := 87) hx hb dX6_against_1 (by rw [c16]; decide) (by rw [c16]; decide) (by rw [c16]; rfl) (by decide) ?_
    refine lv_aload_n hx hb dX6_against_87 rfl (lv_at hl 0 rfl) ?_
    refine lv_iload_n hx hb dX6_against_88 rfl (lv_at hl 2 rfl) ?_
    refine lv_iload_n hx hb dX6_against_89 rfl (lv_at hl 3 rfl) ?_
    obtain ⟨x17, g18, h⟩ := ce_b1_e h
    refine ce_callVi (As := [.int a2, .int a3]) (rest := []) hx hb hml hown hB (c_X6_againstSetting l X G b hk g18) ce_v_X6_againstSetting ce_w293 ⟨Nat.le_of_ble_eq_true rfl, Nat.le_of_ble_eq_true rfl⟩ hF hA hS (ce_rc_6 hK hA hk) hl rfl rfl (Nat.le_of_ble_eq_true rfl) dX6_against_90 ⟨Nat.le_of_ble_eq_true rfl, Nat.le_of_ble_eq_true rfl⟩ (fun H locs hA hS => ?_)
    cases h
    exact ce_iret hx hb hr hlocks hA hS dX6_against_93
  have h := ce_ie c16 h
  by_cases c19 : a1 = 6
  · have h := ce_it c19 h
    refine lv_tableIn (off := 93) (tgt := 94) hx hb dX6_against_1 (by rw [c19]; decide) (by rw [c19]; decide) (by rw [c19]; rfl) (by decide) ?_
    refine lv_aload_n hx hb dX6_against_94 rfl (lv_at hl 0 rfl) ?_
    refine lv_iload_n hx hb dX6_against_95 rfl (lv_at hl 2 rfl) ?_
    obtain ⟨x20, g21, h⟩ := ce_b1_e h
    refine ce_callVi (As := [.int a2]) (rest := []) hx hb hml hown hB (c_X6_againstPassing l X G b hk g21) ce_v_X6_againstPassing ce_w301 ⟨Nat.le_of_ble_eq_true rfl, Nat.le_of_ble_eq_true rfl⟩ hF hA hS (ce_rc_6 hK hA hk) hl rfl rfl (Nat.le_of_ble_eq_true rfl) dX6_against_96 ⟨Nat.le_of_ble_eq_true rfl, Nat.le_of_ble_eq_true rfl⟩ (fun H locs hA hS => ?_)
    cases h
    exact ce_iret hx hb hr hlocks hA hS dX6_against_99
  have h := ce_ie c19 h
  by_cases c22 : a1 = 7
  · have h := ce_it c22 h
    refine lv_tableIn (off := 99) (tgt := 100) hx hb dX6_against_1 (by rw [c22]; decide) (by rw [c22]; decide) (by rw [c22]; rfl) (by decide) ?_
    refine lv_aload_n hx hb dX6_against_100 rfl (lv_at hl 0 rfl) ?_
    refine lv_iload_n hx hb dX6_against_101 rfl (lv_at hl 2 rfl) ?_
    refine lv_iload_n hx hb dX6_against_102 rfl (lv_at hl 3 rfl) ?_
    obtain ⟨x23, g24, h⟩ := ce_b1_e h
    refine ce_callVi (As := [.int a2, .int a3]) (rest := []) hx hb hml hown hB (c_X6_againstRelevelling l X G b hk g24) ce_v_X6_againstRelevelling ce_w305 ⟨Nat.le_of_ble_eq_true rfl, Nat.le_of_ble_eq_true rfl⟩ hF hA hS (ce_rc_6 hK hA hk) hl rfl rfl (Nat.le_of_ble_eq_true rfl) dX6_against_103 ⟨Nat.le_of_ble_eq_true rfl, Nat.le_of_ble_eq_true rfl⟩ (fun H locs hA hS => ?_)
    cases h
    exact ce_iret hx hb hr hlocks hA hS dX6_against_106
  have h := ce_ie c22 h
  have nc1 : (a1).toInt ≠ 0 := fun q => c1 (Int32.toInt_inj.mp (q.trans (by decide)))
  have nc4 : (a1).toInt ≠ 1 := fun q => c4 (Int32.toInt_inj.mp (q.trans (by decide)))
  have nc7 : (a1).toInt ≠ 2 := fun q => c7 (Int32.toInt_inj.mp (q.trans (by decide)))
  have nc10 : (a1).toInt ≠ 3 := fun q => c10 (Int32.toInt_inj.mp (q.trans (by decide)))
  have nc13 : (a1).toInt ≠ 4 := fun q => c13 (Int32.toInt_inj.mp (q.trans (by decide)))
  have nc16 : (a1).toInt ≠ 5 := fun q => c16 (Int32.toInt_inj.mp (q.trans (by decide)))
  have nc19 : (a1).toInt ≠ 6 := fun q => c19 (Int32.toInt_inj.mp (q.trans (by decide)))
  have nc22 : (a1).toInt ≠ 7 := fun q => c22 (Int32.toInt_inj.mp (q.trans (by decide)))
  refine lv_tableOut (tgt := 107) hx hb dX6_against_1 (by omega) (by decide) ?_
  refine lv_iconst (v := 2) hx hb dX6_against_107 (by decide) ?_
  cases h
  exact ce_iret hx hb hr hlocks hA hS dX6_against_108
def f_X6_join (k : Nat) (M : ce_M) (a1 : Int32) (a2 : Int32) (a3 : Int32) : Option (ce_M × Int32) :=
  ce_nm (ce_rd M k 5) (fun (x1 : Int32) =>
  ce_gi x1 8 (ce_nm ((k + 2) + (10 + 7 * (Int32.toNatClampNeg x1))) (fun (k3 : Nat) =>
  ce_b1 (f_X4_begin k3 M a1 a2 a3 (ce_rd M k 6)) (fun (M6 : ce_M) =>
  ce_nm (ce_wr M6 k 5 ((ce_rd M6 k 5) + 1)) (fun (M8 : ce_M) =>
  some (M8, x1))))))
set_option maxRecDepth 100000 in
set_option maxHeartbeats 4000000 in
theorem c_X6_join (l : Launch) (X : ce_X) (G : ce_G) (b : Nat) {k : Nat} {a1 : Int32} {a2 : Int32} {a3 : Int32} {M : ce_M} (hk : ce_kd k = 6) {M' : ce_M} {r : Int32} (h : f_X6_join k M a1 a2 a3 = some (M', r)) : ce_Ct l yX6_join cX6_join 5 (some .int) 2 47 X G b [.ref (b + k), .int a1, .int a2, .int a3] M (some (.int r)) M' := by
  refine ce_ofW (own := RX6) (by decide) rfl (Nat.le_of_ble_eq_true rfl) (fun p e s m below meth c ls hx hb hr hlocks hml hown hB hF hA hl hS => ?_)
  have hK := hF.1
  have hl : lv_has ls 5 [(0, .ref (b + k)), (1, .int a1), (2, .int a2), (3, .int a3)] := hl
  unfold f_X6_join at h
  refine lv_aload_n hx hb dX6_join_0 rfl (lv_at hl 0 rfl) ?_
  refine ce_g_6_5 hx hb hB hown hK hA hk ce_w162 dX6_join_1 ?_
  obtain ⟨x1, e2, h⟩ := ce_nm_e h
  refine ce_top e2 ?_
  refine lv_istore (lv' := [(4, .int x1), (0, .ref (b + k)), (1, .int a1), (2, .int a2), (3, .int a3)]) hx hb dX6_join_4 hl (by decide) rfl (fun ls hl => ?_)
  refine lv_aload_n hx hb dX6_join_6 rfl (lv_at hl 1 rfl) ?_
  refine ce_g_6_1 hx hb hB hown hK hA hk ce_w156 dX6_join_7 ?_
  refine lv_iload hx hb dX6_join_10 (lv_at hl 0 rfl) ?_
  obtain ⟨i4, h⟩ := ce_gi_e h
  obtain ⟨k3, e5, h⟩ := ce_nm_e h
  have hk3 : ce_kd k3 = 4 := e5 ▸ ce_kf_sub (ce_kf_6_1 hk) (ce_in_lt i4)
  refine ce_aaldS hx hb hK hA (ce_kf_6_1 hk) i4 dX6_join_12 ?_
  refine ce_topr e5 ?_
  refine lv_iload_n hx hb dX6_join_13 rfl (lv_at hl 2 rfl) ?_
  refine lv_iload_n hx hb dX6_join_14 rfl (lv_at hl 3 rfl) ?_
  refine lv_iload_n hx hb dX6_join_15 rfl (lv_at hl 4 rfl) ?_
  refine lv_aload_n hx hb dX6_join_16 rfl (lv_at hl 1 rfl) ?_
  refine ce_g_6_6 hx hb hB hown hK hA hk ce_w163 dX6_join_17 ?_
  obtain ⟨M6, g7, h⟩ := ce_b1_e h
  refine ce_callVv (As := [.int a1, .int a2, .int a3, .int (ce_rd M k 6)]) (rest := []) hx hb hml hown hB (c_X4_begin l X G b hk3 g7) ce_v_X4_begin ce_w452 ⟨Nat.le_of_ble_eq_true rfl, Nat.le_of_ble_eq_true rfl⟩ hF hA hS (ce_rc_4 hK hA hk3) hl rfl rfl (Nat.le_of_ble_eq_true rfl) dX6_join_20 ⟨Nat.le_of_ble_eq_true rfl, Nat.le_of_ble_eq_true rfl⟩ (fun H locs hA hS => ?_)
  refine lv_aload_n hx hb dX6_join_23 rfl (lv_at hl 1 rfl) ?_
  refine lv_dup hx hb dX6_join_24 rfl ?_
  refine ce_g_6_5 hx hb hB hown hK hA hk ce_w162 dX6_join_25 ?_
  refine lv_iconst (v := 1) hx hb dX6_join_28 (by decide) ?_
  refine lv_iadd hx hb dX6_join_29 ?_
  obtain ⟨M8, e9, h⟩ := ce_nm_e h
  refine ce_p_6_5 hx hb hB hown hK hA hS hk ce_w162 dX6_join_30 e9 (fun H locs hA hS => ?_)
  refine lv_iload hx hb dX6_join_33 (lv_at hl 0 rfl) ?_
  cases h
  exact ce_iret hx hb hr hlocks hA hS dX6_join_35
def f_X6_reachedBy_L13 (M : ce_M) (k : Nat) (x1 : Int32) (a3 : Int32) (rec5 : Int32 → Int32 → Option Int32) (x3 : Int32) (x4 : Int32) : Option Int32 :=
  if (ce_rd M k 5) ≤ x4 then
    some x3
  else
    ce_gi x4 8 (ce_nm ((k + 2) + (10 + 7 * (Int32.toNatClampNeg x4))) (fun (k8 : Nat) =>
    ce_b1 (f_X4_getsFrom k8 M x1 a3) (fun (x11 : Int32) =>
    if x11 = 0 then
      ce_nm (x4 + 1) (fun (x14 : Int32) =>
      rec5 x3 x14)
    else
      ce_nm (x3 ||| (1 <<< (x4 &&& 31))) (fun (x16 : Int32) =>
      ce_nm (x4 + 1) (fun (x18 : Int32) =>
      rec5 x16 x18)))))
def f_X6_reachedBy (k : Nat) (M : ce_M) (a1 : Int32) (a2 : Int32) (a3 : Int32) : Option Int32 :=
  ce_b1 (f_X7_areaOf M a1 a2) (fun (x1 : Int32) =>
  ce_lp2 (f_X6_reachedBy_L13 M k x1 a3) ce_FU 0 0)
set_option maxRecDepth 100000 in
set_option maxHeartbeats 4000000 in
theorem c_X6_reachedBy (l : Launch) (X : ce_X) (G : ce_G) (b : Nat) {k : Nat} {a1 : Int32} {a2 : Int32} {a3 : Int32} {M : ce_M} (hk : ce_kd k = 6) {r : Int32} (h : f_X6_reachedBy k M a1 a2 a3 = some r) : ce_Ct l yX6_reachedBy cX6_reachedBy 7 (some .int) 2 47 X G b [.ref (b + k), .int a1, .int a2, .int a3] M (some (.int r)) M := by
  refine ce_ofW (own := RX6) (by decide) rfl (Nat.le_of_ble_eq_true rfl) (fun p e s m below meth c ls hx hb hr hlocks hml hown hB hF hA hl hS => ?_)
  have hK := hF.1
  have hl : lv_has ls 7 [(0, .ref (b + k)), (1, .int a1), (2, .int a2), (3, .int a3)] := hl
  unfold f_X6_reachedBy at h
  refine lv_iload_n hx hb dX6_reachedBy_0 rfl (lv_at hl 1 rfl) ?_
  refine lv_iload_n hx hb dX6_reachedBy_1 rfl (lv_at hl 2 rfl) ?_
  obtain ⟨x1, g2, h⟩ := ce_b1_e h
  refine ce_callNi (As := [.int a1, .int a2]) (rest := []) hx hb hml hown hB (c_X7_areaOf l X G b  g2) ce_s_X7_areaOf (List.mem_of_getElem? (i := 6) rfl) ⟨Nat.le_of_ble_eq_true rfl, Nat.le_of_ble_eq_true rfl⟩ hF hA hS hl rfl rfl (Nat.le_of_ble_eq_true rfl) dX6_reachedBy_2 ⟨Nat.le_of_ble_eq_true rfl, Nat.le_of_ble_eq_true rfl⟩ (fun H locs hA hS => ?_)
  refine lv_istore (lv' := [(4, .int x1), (0, .ref (b + k)), (1, .int a1), (2, .int a2), (3, .int a3)]) hx hb dX6_reachedBy_5 hl (by decide) rfl (fun ls hl => ?_)
  refine lv_iconst (v := 0) hx hb dX6_reachedBy_7 (by decide) ?_
  refine lv_istore (lv' := [(5, .int 0), (4, .int x1), (0, .ref (b + k)), (1, .int a1), (2, .int a2), (3, .int a3)]) hx hb dX6_reachedBy_8 hl (by decide) rfl (fun ls hl => ?_)
  refine lv_iconst (v := 0) hx hb dX6_reachedBy_10 (by decide) ?_
  refine lv_istore (lv' := [(6, .int 0), (5, .int 0), (4, .int x1), (0, .ref (b + k)), (1, .int a1), (2, .int a2), (3, .int a3)]) hx hb dX6_reachedBy_11 hl (by decide) rfl (fun ls hl => ?_)
  refine ce_lp2_i (y := r) (P := fun (x3 : Int32) (x4 : Int32) => ce_Wg p l e (ce_R 2 47 0 0) s m (([.ref (b + k), .int a1, .int a2, .int a3] : List Value).toArray) below meth c 0 0 (MQ below (ce_Q X b M (some (.int r))) ([.ref (b + k), .int a1, .int a2, .int a3] : List Value).toArray s 0 0 (ce_Ab b)) X b M 7 [(0, .ref (b + k)), (3, .int a3), (4, .int x1), (5, .int x3), (6, .int x4)] 13 []) (fun rec5 ih6 x3 x4 h => ?_) _ _ _ h _ _ _ hA hS (lv_sub hl [3, 6, 2, 1, 0] rfl)
  intro H locs ls hA hS hl
  unfold f_X6_reachedBy_L13 at h
  refine lv_iload hx hb dX6_reachedBy_13 (lv_at hl 4 rfl) ?_
  refine lv_aload_n hx hb dX6_reachedBy_15 rfl (lv_at hl 0 rfl) ?_
  refine ce_g_6_5 hx hb hB hown hK hA hk ce_w162 dX6_reachedBy_16 ?_
  refine lv_icmp_ge (tgt := 53) hx hb dX6_reachedBy_19 (by decide) (fun c7 => ?_) (fun c7 => ?_)
  · have h := ce_it c7 h
    refine lv_iload hx hb dX6_reachedBy_53 (lv_at hl 3 rfl) ?_
    cases h
    exact ce_iret hx hb hr hlocks hA hS dX6_reachedBy_55
  · have h := ce_ie c7 h
    refine lv_aload_n hx hb dX6_reachedBy_22 rfl (lv_at hl 0 rfl) ?_
    refine ce_g_6_1 hx hb hB hown hK hA hk ce_w156 dX6_reachedBy_23 ?_
    refine lv_iload hx hb dX6_reachedBy_26 (lv_at hl 4 rfl) ?_
    obtain ⟨i9, h⟩ := ce_gi_e h
    obtain ⟨k8, e10, h⟩ := ce_nm_e h
    have hk8 : ce_kd k8 = 4 := e10 ▸ ce_kf_sub (ce_kf_6_1 hk) (ce_in_lt i9)
    refine ce_aaldS hx hb hK hA (ce_kf_6_1 hk) i9 dX6_reachedBy_28 ?_
    refine ce_topr e10 ?_
    refine lv_iload hx hb dX6_reachedBy_29 (lv_at hl 2 rfl) ?_
    refine lv_iload_n hx hb dX6_reachedBy_31 rfl (lv_at hl 1 rfl) ?_
    obtain ⟨x11, g12, h⟩ := ce_b1_e h
    refine ce_callVi (As := [.int x1, .int a3]) (rest := []) hx hb hml hown hB (c_X4_getsFrom l X G b hk8 g12) ce_v_X4_getsFrom ce_w488 ⟨Nat.le_of_ble_eq_true rfl, Nat.le_of_ble_eq_true rfl⟩ hF hA hS (ce_rc_4 hK hA hk8) hl rfl rfl (Nat.le_of_ble_eq_true rfl) dX6_reachedBy_32 ⟨Nat.le_of_ble_eq_true rfl, Nat.le_of_ble_eq_true rfl⟩ (fun H locs hA hS => ?_)
    refine lv_if_eq (tgt := 47) hx hb dX6_reachedBy_35 (by decide) (fun c13 => ?_) (fun c13 => ?_)
    · have h := ce_it c13 h
      obtain ⟨x14, e15, h⟩ := ce_nm_e h
      refine lv_iinc (v := x14) (lv' := [(6, .int x14), (0, .ref (b + k)), (3, .int a3), (4, .int x1), (5, .int x3)]) hx hb dX6_reachedBy_47 hl (k := 4) rfl (by rw [← e15]; rfl) (by decide) rfl (fun ls hl => ?_)
      refine lv_goto (tgt := 13) hx hb dX6_reachedBy_50 (by decide) ?_
      exact ih6 x3 x14 h  _ _ _ hA hS (lv_sub hl [1, 2, 3, 4, 0] rfl)
    · have h := ce_ie c13 h
      refine lv_iload hx hb dX6_reachedBy_38 (lv_at hl 3 rfl) ?_
      refine lv_iconst (v := 1) hx hb dX6_reachedBy_40 (by decide) ?_
      refine lv_iload hx hb dX6_reachedBy_41 (lv_at hl 4 rfl) ?_
      refine lv_ishl hx hb dX6_reachedBy_43 ?_
      refine lv_ior hx hb dX6_reachedBy_44 ?_
      obtain ⟨x16, e17, h⟩ := ce_nm_e h
      refine ce_top e17 ?_
      refine lv_istore (lv' := [(5, .int x16), (0, .ref (b + k)), (3, .int a3), (4, .int x1), (6, .int x4)]) hx hb dX6_reachedBy_45 hl (by decide) rfl (fun ls hl => ?_)
      obtain ⟨x18, e19, h⟩ := ce_nm_e h
      refine lv_iinc (v := x18) (lv' := [(6, .int x18), (5, .int x16), (0, .ref (b + k)), (3, .int a3), (4, .int x1)]) hx hb dX6_reachedBy_47 hl (k := 4) rfl (by rw [← e19]; rfl) (by decide) rfl (fun ls hl => ?_)
      refine lv_goto (tgt := 13) hx hb dX6_reachedBy_50 (by decide) ?_
      exact ih6 x16 x18 h  _ _ _ hA hS (lv_sub hl [2, 3, 4, 1, 0] rfl)
def f_X6_publishEvent_L40 (k : Nat) (x6 : Int32) (x3 : Int32) (rec10 : ce_M → Int32 → Option (ce_M × Int32)) (M8 : ce_M) (x9 : Int32) : Option (ce_M × Int32) :=
  if (ce_rd M8 k 5) ≤ x9 then
    some (M8, x6)
  else
    if ((x3 >>> (x9 &&& 31)) &&& 1) = 1 then
      ce_gi x9 8 (ce_nm ((k + 2) + (10 + 7 * (Int32.toNatClampNeg x9))) (fun (k16 : Nat) =>
      ce_b1 (f_X4_receive k16 M8 x6) (fun (M19 : ce_M) =>
      ce_nm (x9 + 1) (fun (x21 : Int32) =>
      rec10 M19 x21))))
    else
      ce_nm (x9 + 1) (fun (x14 : Int32) =>
      rec10 M8 x14)
def f_X6_publishEvent (k : Nat) (M : ce_M) (a1 : Int32) (a2 : Int32) (a3 : Int32) : Option (ce_M × Int32) :=
  ce_nm ((ce_rd M k 6) - a3) (fun (x1 : Int32) =>
  ce_b1 (f_X6_reachedBy k M a1 a2 x1) (fun (x3 : Int32) =>
  ce_b2 (f_X1_add (k + 3) M a1 a2 x1 (ce_rd M k 6) x3) (fun (M5 : ce_M) (x6 : Int32) =>
  ce_lp2 (f_X6_publishEvent_L40 k x6 x3) ce_FU M5 0)))
set_option maxRecDepth 100000 in
set_option maxHeartbeats 4000000 in
theorem c_X6_publishEvent (l : Launch) (X : ce_X) (G : ce_G) (b : Nat) {k : Nat} {a1 : Int32} {a2 : Int32} {a3 : Int32} {M : ce_M} (hk : ce_kd k = 6) {M' : ce_M} {r : Int32} (h : f_X6_publishEvent k M a1 a2 a3 = some (M', r)) : ce_Ct l yX6_publishEvent cX6_publishEvent 8 (some .int) 3 73 X G b [.ref (b + k), .int a1, .int a2, .int a3] M (some (.int r)) M' := by
  refine ce_ofW (own := RX6) (by decide) rfl (Nat.le_of_ble_eq_true rfl) (fun p e s m below meth c ls hx hb hr hlocks hml hown hB hF hA hl hS => ?_)
  have hK := hF.1
  have hl : lv_has ls 8 [(0, .ref (b + k)), (1, .int a1), (2, .int a2), (3, .int a3)] := hl
  unfold f_X6_publishEvent at h
  refine lv_aload_n hx hb dX6_publishEvent_0 rfl (lv_at hl 0 rfl) ?_
  refine ce_g_6_6 hx hb hB hown hK hA hk ce_w163 dX6_publishEvent_1 ?_
  refine lv_iload_n hx hb dX6_publishEvent_4 rfl (lv_at hl 3 rfl) ?_
  refine lv_isub hx hb dX6_publishEvent_5 ?_
  obtain ⟨x1, e2, h⟩ := ce_nm_e h
  refine ce_top e2 ?_
  refine lv_istore (lv' := [(4, .int x1), (0, .ref (b + k)), (1, .int a1), (2, .int a2), (3, .int a3)]) hx hb dX6_publishEvent_6 hl (by decide) rfl (fun ls hl => ?_)
  refine lv_aload_n hx hb dX6_publishEvent_8 rfl (lv_at hl 1 rfl) ?_
  refine lv_iload_n hx hb dX6_publishEvent_9 rfl (lv_at hl 2 rfl) ?_
  refine lv_iload_n hx hb dX6_publishEvent_10 rfl (lv_at hl 3 rfl) ?_
  refine lv_iload hx hb dX6_publishEvent_11 (lv_at hl 0 rfl) ?_
  obtain ⟨x3, g4, h⟩ := ce_b1_e h
  refine ce_callVi (As := [.int a1, .int a2, .int x1]) (rest := []) hx hb hml hown hB (c_X6_reachedBy l X G b hk g4) ce_v_X6_reachedBy ce_w480 ⟨Nat.le_of_ble_eq_true rfl, Nat.le_of_ble_eq_true rfl⟩ hF hA hS (ce_rc_6 hK hA hk) hl rfl rfl (Nat.le_of_ble_eq_true rfl) dX6_publishEvent_13 ⟨Nat.le_of_ble_eq_true rfl, Nat.le_of_ble_eq_true rfl⟩ (fun H locs hA hS => ?_)
  refine lv_istore (lv' := [(5, .int x3), (4, .int x1), (0, .ref (b + k)), (1, .int a1), (2, .int a2), (3, .int a3)]) hx hb dX6_publishEvent_16 hl (by decide) rfl (fun ls hl => ?_)
  refine lv_aload_n hx hb dX6_publishEvent_18 rfl (lv_at hl 2 rfl) ?_
  refine ce_g_6_2 hx hb hB hown hK hA hk ce_w158 dX6_publishEvent_19 ?_
  refine lv_iload_n hx hb dX6_publishEvent_22 rfl (lv_at hl 3 rfl) ?_
  refine lv_iload_n hx hb dX6_publishEvent_23 rfl (lv_at hl 4 rfl) ?_
  refine lv_iload hx hb dX6_publishEvent_24 (lv_at hl 1 rfl) ?_
  refine lv_aload_n hx hb dX6_publishEvent_26 rfl (lv_at hl 2 rfl) ?_
  refine ce_g_6_6 hx hb hB hown hK hA hk ce_w163 dX6_publishEvent_27 ?_
  refine lv_iload hx hb dX6_publishEvent_30 (lv_at hl 0 rfl) ?_
  obtain ⟨M5, x6, g7, h⟩ := ce_b2_e h
  refine ce_callVi (As := [.int a1, .int a2, .int x1, .int (ce_rd M k 6), .int x3]) (rest := []) hx hb hml hown hB (c_X1_add l X G b (ce_kf_6_2 hk) g7) ce_v_X1_add ce_w497 ⟨Nat.le_of_ble_eq_true rfl, Nat.le_of_ble_eq_true rfl⟩ hF hA hS (ce_rc_1 hK hA (ce_kf_6_2 hk)) hl rfl rfl (Nat.le_of_ble_eq_true rfl) dX6_publishEvent_32 ⟨Nat.le_of_ble_eq_true rfl, Nat.le_of_ble_eq_true rfl⟩ (fun H locs hA hS => ?_)
  refine lv_istore (lv' := [(6, .int x6), (5, .int x3), (4, .int x1), (0, .ref (b + k)), (1, .int a1), (2, .int a2), (3, .int a3)]) hx hb dX6_publishEvent_35 hl (by decide) rfl (fun ls hl => ?_)
  refine lv_iconst (v := 0) hx hb dX6_publishEvent_37 (by decide) ?_
  refine lv_istore (lv' := [(7, .int 0), (6, .int x6), (5, .int x3), (4, .int x1), (0, .ref (b + k)), (1, .int a1), (2, .int a2), (3, .int a3)]) hx hb dX6_publishEvent_38 hl (by decide) rfl (fun ls hl => ?_)
  refine ce_lp2_i (y := (M', r)) (P := fun (M8 : ce_M) (x9 : Int32) => ce_Wg p l e (ce_R 3 73 0 0) s m (([.ref (b + k), .int a1, .int a2, .int a3] : List Value).toArray) below meth c 0 0 (MQ below (ce_Q X b M' (some (.int r))) ([.ref (b + k), .int a1, .int a2, .int a3] : List Value).toArray s 0 0 (ce_Ab b)) X b M8 8 [(0, .ref (b + k)), (5, .int x3), (6, .int x6), (7, .int x9)] 40 []) (fun rec10 ih11 M8 x9 h => ?_) _ _ _ h _ _ _ hA hS (lv_sub hl [4, 2, 1, 0] rfl)
  intro H locs ls hA hS hl
  unfold f_X6_publishEvent_L40 at h
  refine lv_iload hx hb dX6_publishEvent_40 (lv_at hl 3 rfl) ?_
  refine lv_aload_n hx hb dX6_publishEvent_42 rfl (lv_at hl 0 rfl) ?_
  refine ce_g_6_5 hx hb hB hown hK hA hk ce_w162 dX6_publishEvent_43 ?_
  refine lv_icmp_ge (tgt := 78) hx hb dX6_publishEvent_46 (by decide) (fun c12 => ?_) (fun c12 => ?_)
  · have h := ce_it c12 h
    refine lv_iload hx hb dX6_publishEvent_78 (lv_at hl 2 rfl) ?_
    cases h
    exact ce_iret hx hb hr hlocks hA hS dX6_publishEvent_80
  · have h := ce_ie c12 h
    refine lv_iload hx hb dX6_publishEvent_49 (lv_at hl 1 rfl) ?_
    refine lv_iload hx hb dX6_publishEvent_51 (lv_at hl 3 rfl) ?_
    refine lv_ishr hx hb dX6_publishEvent_53 ?_
    refine lv_iconst (v := 1) hx hb dX6_publishEvent_54 (by decide) ?_
    refine lv_iand hx hb dX6_publishEvent_55 ?_
    refine lv_iconst (v := 1) hx hb dX6_publishEvent_56 (by decide) ?_
    refine lv_icmp_ne (tgt := 72) hx hb dX6_publishEvent_57 (by decide) (fun c13 => ?_) (fun c13 => ?_)
    · have h := ce_ie c13 h
      obtain ⟨x14, e15, h⟩ := ce_nm_e h
      refine lv_iinc (v := x14) (lv' := [(7, .int x14), (0, .ref (b + k)), (5, .int x3), (6, .int x6)]) hx hb dX6_publishEvent_72 hl (k := 3) rfl (by rw [← e15]; rfl) (by decide) rfl (fun ls hl => ?_)
      refine lv_goto (tgt := 40) hx hb dX6_publishEvent_75 (by decide) ?_
      exact ih11 M8 x14 h  _ _ _ hA hS (lv_sub hl [1, 2, 3, 0] rfl)
    · have h := ce_it c13 h
      refine lv_aload_n hx hb dX6_publishEvent_60 rfl (lv_at hl 0 rfl) ?_
      refine ce_g_6_1 hx hb hB hown hK hA hk ce_w156 dX6_publishEvent_61 ?_
      refine lv_iload hx hb dX6_publishEvent_64 (lv_at hl 3 rfl) ?_
      obtain ⟨i17, h⟩ := ce_gi_e h
      obtain ⟨k16, e18, h⟩ := ce_nm_e h
      have hk16 : ce_kd k16 = 4 := e18 ▸ ce_kf_sub (ce_kf_6_1 hk) (ce_in_lt i17)
      refine ce_aaldS hx hb hK hA (ce_kf_6_1 hk) i17 dX6_publishEvent_66 ?_
      refine ce_topr e18 ?_
      refine lv_iload hx hb dX6_publishEvent_67 (lv_at hl 2 rfl) ?_
      obtain ⟨M19, g20, h⟩ := ce_b1_e h
      refine ce_callVv (As := [.int x6]) (rest := []) hx hb hml hown hB (c_X4_receive l X G b hk16 g20) ce_v_X4_receive ce_w501 ⟨Nat.le_of_ble_eq_true rfl, Nat.le_of_ble_eq_true rfl⟩ hF hA hS (ce_rc_4 hK hA hk16) hl rfl rfl (Nat.le_of_ble_eq_true rfl) dX6_publishEvent_69 ⟨Nat.le_of_ble_eq_true rfl, Nat.le_of_ble_eq_true rfl⟩ (fun H locs hA hS => ?_)
      obtain ⟨x21, e22, h⟩ := ce_nm_e h
      refine lv_iinc (v := x21) (lv' := [(7, .int x21), (0, .ref (b + k)), (5, .int x3), (6, .int x6)]) hx hb dX6_publishEvent_72 hl (k := 3) rfl (by rw [← e22]; rfl) (by decide) rfl (fun ls hl => ?_)
      refine lv_goto (tgt := 40) hx hb dX6_publishEvent_75 (by decide) ?_
      exact ih11 M19 x21 h  _ _ _ hA hS (lv_sub hl [1, 2, 3, 0] rfl)
def f_X6_changeSetting (k : Nat) (M : ce_M) (a1 : Int32) (a2 : Int32) : Option (ce_M × Int32) :=
  ce_gi a1 4 (ce_nm (ce_rd M (k + 1) (Int32.toNatClampNeg a1)) (fun (x1 : Int32) =>
  ce_gi a1 4 (ce_nm (ce_wr M (k + 1) (Int32.toNatClampNeg a1) a2) (fun (M4 : ce_M) =>
  some (M4, x1)))))
set_option maxRecDepth 100000 in
set_option maxHeartbeats 4000000 in
theorem c_X6_changeSetting (l : Launch) (X : ce_X) (G : ce_G) (b : Nat) {k : Nat} {a1 : Int32} {a2 : Int32} {M : ce_M} (hk : ce_kd k = 6) {M' : ce_M} {r : Int32} (h : f_X6_changeSetting k M a1 a2 = some (M', r)) : ce_Ct l yX6_changeSetting cX6_changeSetting 4 (some .int) 0 0 X G b [.ref (b + k), .int a1, .int a2] M (some (.int r)) M' := by
  refine ce_ofW (own := RX6) (by decide) rfl (Nat.le_of_ble_eq_true rfl) (fun p e s m below meth c ls hx hb hr hlocks hml hown hB hF hA hl hS => ?_)
  have hK := hF.1
  have hl : lv_has ls 4 [(0, .ref (b + k)), (1, .int a1), (2, .int a2)] := hl
  unfold f_X6_changeSetting at h
  refine lv_aload_n hx hb dX6_changeSetting_0 rfl (lv_at hl 0 rfl) ?_
  refine ce_g_6_0 hx hb hB hown hK hA hk ce_w155 dX6_changeSetting_1 ?_
  refine lv_iload_n hx hb dX6_changeSetting_4 rfl (lv_at hl 1 rfl) ?_
  obtain ⟨i2, h⟩ := ce_gi_e h
  obtain ⟨x1, e3, h⟩ := ce_nm_e h
  refine ce_iald hx hb hK hA 4 (ce_kf_6_0 hk) i2 e3 dX6_changeSetting_5 ?_
  refine lv_istore_n (lv' := [(3, .int x1), (0, .ref (b + k)), (1, .int a1), (2, .int a2)]) hx hb dX6_changeSetting_6 rfl hl (by decide) rfl (fun ls hl => ?_)
  refine lv_aload_n hx hb dX6_changeSetting_7 rfl (lv_at hl 1 rfl) ?_
  refine ce_g_6_0 hx hb hB hown hK hA hk ce_w155 dX6_changeSetting_8 ?_
  refine lv_iload_n hx hb dX6_changeSetting_11 rfl (lv_at hl 2 rfl) ?_
  refine lv_iload_n hx hb dX6_changeSetting_12 rfl (lv_at hl 3 rfl) ?_
  obtain ⟨i5, h⟩ := ce_gi_e h
  obtain ⟨M4, e6, h⟩ := ce_nm_e h
  refine ce_iast hx hb hK hA hS 4 (ce_kf_6_0 hk) i5 dX6_changeSetting_13 e6 (fun H locs hA hS => ?_)
  refine lv_iload_n hx hb dX6_changeSetting_14 rfl (lv_at hl 0 rfl) ?_
  cases h
  exact ce_iret hx hb hr hlocks hA hS dX6_changeSetting_15
def f_X6_deliverTo_L60 (x14 : Int32) (k1 : Nat) (k : Nat) (a1 : Int32) (u21 : ce_M → Option (ce_M × Int32)) (rec18 : ce_M → Int32 → Option (ce_M × Int32)) (M16 : ce_M) (x17 : Int32) : Option (ce_M × Int32) :=
  if x14 ≤ x17 then
    u21 M16
  else
    ce_b1 (f_X2_eventAt (k1 + 5) M16 x17) (fun (x40 : Int32) =>
    ce_b1 (f_X1_markDelivered (k + 3) M16 x40 a1) (fun (M42 : ce_M) =>
    ce_nm (x17 + 1) (fun (x44 : Int32) =>
    rec18 M42 x44)))
def f_X6_deliverTo (k : Nat) (M : ce_M) (a1 : Int32) : Option (ce_M × Int32) :=
  ce_gi a1 8 (ce_nm ((k + 2) + (10 + 7 * (Int32.toNatClampNeg a1))) (fun (k1 : Nat) =>
  if (ce_rd M k1 7) = 0 then
    some (M, 0)
  else
    if (ce_rd M k1 13) ≤ (ce_rd M k 6) then
      ce_gi 1 4 (ce_nm (ce_rd M (k + 1) (Int32.toNatClampNeg 1)) (fun (x6 : Int32) =>
      ce_gi (ce_rd M k1 6) 16 (ce_nm (ce_rd M (k + 11) (Int32.toNatClampNeg (ce_rd M k1 6))) (fun (x9 : Int32) =>
      ce_nm (x6 - x9) (fun (x12 : Int32) =>
      ce_nm (ce_min (ce_rd M (k1 + 5) 1) x12) (fun (x14 : Int32) =>
      ce_nm (fun (M20 : ce_M) =>
      ce_b1 (f_X2_removeOldest (k1 + 5) M20 x14) (fun (M22 : ce_M) =>
      ce_nm (ce_wr M22 k1 9 ((ce_rd M22 k1 9) + x14)) (fun (M24 : ce_M) =>
      ce_gi (ce_rd M24 k1 6) 16 (ce_nm (ce_rd M24 (k + 11) (Int32.toNatClampNeg (ce_rd M24 k1 6))) (fun (x26 : Int32) =>
      ce_gi (ce_rd M24 k1 6) 16 (ce_nm (ce_wr M24 (k + 11) (Int32.toNatClampNeg (ce_rd M24 k1 6)) (x26 + x14)) (fun (M29 : ce_M) =>
      ce_gi (ce_rd M29 k1 6) 16 (ce_nm (ce_rd M29 (k + 10) (Int32.toNatClampNeg (ce_rd M29 k1 6))) (fun (x32 : Int32) =>
      ce_gi (ce_rd M29 k1 6) 16 (ce_nm (ce_wr M29 (k + 10) (Int32.toNatClampNeg (ce_rd M29 k1 6)) (x32 + x14)) (fun (M35 : ce_M) =>
      some (M35, x14)))))))))))) (fun (u21 : ce_M → Option (ce_M × Int32)) =>
      ce_lp2 (f_X6_deliverTo_L60 x14 k1 k a1 u21) ce_FU M 0)))))))
    else
      some (M, 0)))
set_option maxRecDepth 100000 in
set_option maxHeartbeats 4000000 in
theorem c_X6_deliverTo (l : Launch) (X : ce_X) (G : ce_G) (b : Nat) {k : Nat} {a1 : Int32} {M : ce_M} (hk : ce_kd k = 6) {M' : ce_M} {r : Int32} (h : f_X6_deliverTo k M a1 = some (M', r)) : ce_Ct l yX6_deliverTo cX6_deliverTo 6 (some .int) 1 40 X G b [.ref (b + k), .int a1] M (some (.int r)) M' := by
  refine ce_ofW (own := RX6) (by decide) rfl (Nat.le_of_ble_eq_true rfl) (fun p e s m below meth c ls hx hb hr hlocks hml hown hB hF hA hl hS => ?_)
  have hK := hF.1
  have hl : lv_has ls 6 [(0, .ref (b + k)), (1, .int a1)] := hl
  unfold f_X6_deliverTo at h
  refine lv_aload_n hx hb dX6_deliverTo_0 rfl (lv_at hl 0 rfl) ?_
  refine ce_g_6_1 hx hb hB hown hK hA hk ce_w156 dX6_deliverTo_1 ?_
  refine lv_iload_n hx hb dX6_deliverTo_4 rfl (lv_at hl 1 rfl) ?_
  obtain ⟨i2, h⟩ := ce_gi_e h
  obtain ⟨k1, e3, h⟩ := ce_nm_e h
  have hk1 : ce_kd k1 = 4 := e3 ▸ ce_kf_sub (ce_kf_6_1 hk) (ce_in_lt i2)
  refine ce_aaldS hx hb hK hA (ce_kf_6_1 hk) i2 dX6_deliverTo_5 ?_
  refine ce_topr e3 ?_
  refine lv_astore_n (lv' := [(2, .ref (b + k1)), (0, .ref (b + k)), (1, .int a1)]) hx hb dX6_deliverTo_6 rfl hl (by decide) rfl (fun ls hl => ?_)
  refine lv_aload_n hx hb dX6_deliverTo_7 rfl (lv_at hl 0 rfl) ?_
  refine ce_g_4_7 hx hb hB hown hK hA hk1 ce_w117 dX6_deliverTo_8 ?_
  refine lv_if_eq (tgt := 25) hx hb dX6_deliverTo_11 (by decide) (fun c4 => ?_) (fun c4 => ?_)
  · have h := ce_it c4 h
    refine lv_iconst (v := 0) hx hb dX6_deliverTo_25 (by decide) ?_
    cases h
    exact ce_iret hx hb hr hlocks hA hS dX6_deliverTo_26
  · have h := ce_ie c4 h
    refine lv_aload_n hx hb dX6_deliverTo_14 rfl (lv_at hl 1 rfl) ?_
    refine ce_g_6_6 hx hb hB hown hK hA hk ce_w163 dX6_deliverTo_15 ?_
    refine lv_aload_n hx hb dX6_deliverTo_18 rfl (lv_at hl 0 rfl) ?_
    refine ce_g_4_13 hx hb hB hown hK hA hk1 ce_w125 dX6_deliverTo_19 ?_
    refine lv_icmp_ge (tgt := 27) hx hb dX6_deliverTo_22 (by decide) (fun c5 => ?_) (fun c5 => ?_)
    · have h := ce_it c5 h
      refine lv_aload_n hx hb dX6_deliverTo_27 rfl (lv_at hl 1 rfl) ?_
      refine ce_g_6_0 hx hb hB hown hK hA hk ce_w155 dX6_deliverTo_28 ?_
      refine lv_iconst (v := 1) hx hb dX6_deliverTo_31 (by decide) ?_
      obtain ⟨i7, h⟩ := ce_gi_e h
      obtain ⟨x6, e8, h⟩ := ce_nm_e h
      refine ce_iald hx hb hK hA 4 (ce_kf_6_0 hk) i7 e8 dX6_deliverTo_32 ?_
      refine lv_aload_n hx hb dX6_deliverTo_33 rfl (lv_at hl 1 rfl) ?_
      refine ce_g_6_4 hx hb hB hown hK hA hk ce_w161 dX6_deliverTo_34 ?_
      refine lv_aload_n hx hb dX6_deliverTo_37 rfl (lv_at hl 0 rfl) ?_
      refine ce_g_4_6 hx hb hB hown hK hA hk1 ce_w115 dX6_deliverTo_38 ?_
      obtain ⟨i10, h⟩ := ce_gi_e h
      obtain ⟨x9, e11, h⟩ := ce_nm_e h
      refine ce_iald hx hb hK hA 16 (ce_kf_6_4 hk) i10 e11 dX6_deliverTo_41 ?_
      refine lv_isub hx hb dX6_deliverTo_42 ?_
      obtain ⟨x12, e13, h⟩ := ce_nm_e h
      refine ce_top e13 ?_
      refine lv_istore_n (lv' := [(3, .int x12), (2, .ref (b + k1)), (0, .ref (b + k)), (1, .int a1)]) hx hb dX6_deliverTo_43 rfl hl (by decide) rfl (fun ls hl => ?_)
      refine lv_aload_n hx hb dX6_deliverTo_44 rfl (lv_at hl 1 rfl) ?_
      refine ce_g_4_1 hx hb hB hown hK hA hk1 ce_w107 dX6_deliverTo_45 ?_
      refine ce_g_2_1 hx hb hB hown hK hA (ce_kf_4_1 hk1) ce_w97 dX6_deliverTo_48 ?_
      refine lv_iload_n hx hb dX6_deliverTo_51 rfl (lv_at hl 0 rfl) ?_
      refine ce_mmin hx hb hml hl hown (hB _ ce_w541) hB (Nat.le_of_ble_eq_true rfl) (Nat.le_of_ble_eq_true rfl) dX6_deliverTo_52 ⟨Nat.le_of_ble_eq_true rfl, Nat.le_of_ble_eq_true rfl⟩ ?_
      obtain ⟨x14, e15, h⟩ := ce_nm_e h
      refine ce_top e15 ?_
      refine lv_istore (lv' := [(4, .int x14), (3, .int x12), (2, .ref (b + k1)), (0, .ref (b + k)), (1, .int a1)]) hx hb dX6_deliverTo_55 hl (by decide) rfl (fun ls hl => ?_)
      refine lv_iconst (v := 0) hx hb dX6_deliverTo_57 (by decide) ?_
      refine lv_istore (lv' := [(5, .int 0), (4, .int x14), (3, .int x12), (2, .ref (b + k1)), (0, .ref (b + k)), (1, .int a1)]) hx hb dX6_deliverTo_58 hl (by decide) rfl (fun ls hl => ?_)
      obtain ⟨u21, e38, h⟩ := ce_nm_e h
      have Ju21 : ∀ (M20 : ce_M), u21 M20 = some (M', r) → ce_Wg p l e (ce_R 1 40 0 0) s m (([.ref (b + k), .int a1] : List Value).toArray) below meth c 0 0 (MQ below (ce_Q X b M' (some (.int r))) ([.ref (b + k), .int a1] : List Value).toArray s 0 0 (ce_Ab b)) X b M20 6 [(0, .ref (b + k)), (2, .ref (b + k1)), (4, .int x14)] 90 [] := by
        intro M20 h  H locs ls hA hS hl
        subst e38
        refine lv_aload_n hx hb dX6_deliverTo_90 rfl (lv_at hl 1 rfl) ?_
        refine ce_g_4_1 hx hb hB hown hK hA hk1 ce_w107 dX6_deliverTo_91 ?_
        refine lv_iload hx hb dX6_deliverTo_94 (lv_at hl 2 rfl) ?_
        obtain ⟨M22, g23, h⟩ := ce_b1_e h
        refine ce_callVv (As := [.int x14]) (rest := []) hx hb hml hown hB (c_X2_removeOldest l X G b (ce_kf_4_1 hk1) g23) ce_v_X2_removeOldest ce_w550 ⟨Nat.le_of_ble_eq_true rfl, Nat.le_of_ble_eq_true rfl⟩ hF hA hS (ce_rc_2 hK hA (ce_kf_4_1 hk1)) hl rfl rfl (Nat.le_of_ble_eq_true rfl) dX6_deliverTo_96 ⟨Nat.le_of_ble_eq_true rfl, Nat.le_of_ble_eq_true rfl⟩ (fun H locs hA hS => ?_)
        refine lv_aload_n hx hb dX6_deliverTo_99 rfl (lv_at hl 1 rfl) ?_
        refine lv_dup hx hb dX6_deliverTo_100 rfl ?_
        refine ce_g_4_9 hx hb hB hown hK hA hk1 ce_w120 dX6_deliverTo_101 ?_
        refine lv_iload hx hb dX6_deliverTo_104 (lv_at hl 2 rfl) ?_
        refine lv_iadd hx hb dX6_deliverTo_106 ?_
        obtain ⟨M24, e25, h⟩ := ce_nm_e h
        refine ce_p_4_9 hx hb hB hown hK hA hS hk1 ce_w120 dX6_deliverTo_107 e25 (fun H locs hA hS => ?_)
        refine lv_aload_n hx hb dX6_deliverTo_110 rfl (lv_at hl 0 rfl) ?_
        refine ce_g_6_4 hx hb hB hown hK hA hk ce_w161 dX6_deliverTo_111 ?_
        refine lv_aload_n hx hb dX6_deliverTo_114 rfl (lv_at hl 1 rfl) ?_
        refine ce_g_4_6 hx hb hB hown hK hA hk1 ce_w115 dX6_deliverTo_115 ?_
        refine lv_dup2_11 hx hb dX6_deliverTo_118 rfl rfl ?_
        obtain ⟨i27, h⟩ := ce_gi_e h
        obtain ⟨x26, e28, h⟩ := ce_nm_e h
        refine ce_iald hx hb hK hA 16 (ce_kf_6_4 hk) i27 e28 dX6_deliverTo_119 ?_
        refine lv_iload hx hb dX6_deliverTo_120 (lv_at hl 2 rfl) ?_
        refine lv_iadd hx hb dX6_deliverTo_122 ?_
        obtain ⟨i30, h⟩ := ce_gi_e h
        obtain ⟨M29, e31, h⟩ := ce_nm_e h
        refine ce_iast hx hb hK hA hS 16 (ce_kf_6_4 hk) i30 dX6_deliverTo_123 e31 (fun H locs hA hS => ?_)
        refine lv_aload_n hx hb dX6_deliverTo_124 rfl (lv_at hl 0 rfl) ?_
        refine ce_g_6_3 hx hb hB hown hK hA hk ce_w160 dX6_deliverTo_125 ?_
        refine lv_aload_n hx hb dX6_deliverTo_128 rfl (lv_at hl 1 rfl) ?_
        refine ce_g_4_6 hx hb hB hown hK hA hk1 ce_w115 dX6_deliverTo_129 ?_
        refine lv_dup2_11 hx hb dX6_deliverTo_132 rfl rfl ?_
        obtain ⟨i33, h⟩ := ce_gi_e h
        obtain ⟨x32, e34, h⟩ := ce_nm_e h
        refine ce_iald hx hb hK hA 16 (ce_kf_6_3 hk) i33 e34 dX6_deliverTo_133 ?_
        refine lv_iload hx hb dX6_deliverTo_134 (lv_at hl 2 rfl) ?_
        refine lv_iadd hx hb dX6_deliverTo_136 ?_
        obtain ⟨i36, h⟩ := ce_gi_e h
        obtain ⟨M35, e37, h⟩ := ce_nm_e h
        refine ce_iast hx hb hK hA hS 16 (ce_kf_6_3 hk) i36 dX6_deliverTo_137 e37 (fun H locs hA hS => ?_)
        refine lv_iload hx hb dX6_deliverTo_138 (lv_at hl 2 rfl) ?_
        cases h
        exact ce_iret hx hb hr hlocks hA hS dX6_deliverTo_140
      refine ce_lp2_i (y := (M', r)) (P := fun (M16 : ce_M) (x17 : Int32) => ce_Wg p l e (ce_R 1 40 0 0) s m (([.ref (b + k), .int a1] : List Value).toArray) below meth c 0 0 (MQ below (ce_Q X b M' (some (.int r))) ([.ref (b + k), .int a1] : List Value).toArray s 0 0 (ce_Ab b)) X b M16 6 [(0, .ref (b + k)), (1, .int a1), (2, .ref (b + k1)), (4, .int x14), (5, .int x17)] 60 []) (fun rec18 ih19 M16 x17 h => ?_) _ _ _ h _ _ _ hA hS (lv_sub hl [4, 5, 3, 1, 0] rfl)
      intro H locs ls hA hS hl
      unfold f_X6_deliverTo_L60 at h
      refine lv_iload hx hb dX6_deliverTo_60 (lv_at hl 4 rfl) ?_
      refine lv_iload hx hb dX6_deliverTo_62 (lv_at hl 3 rfl) ?_
      refine lv_icmp_ge (tgt := 90) hx hb dX6_deliverTo_64 (by decide) (fun c39 => ?_) (fun c39 => ?_)
      · have h := ce_it c39 h
        exact Ju21 M16 h  _ _ _ hA hS (lv_sub hl [0, 2, 3] rfl)
      · have h := ce_ie c39 h
        refine lv_aload_n hx hb dX6_deliverTo_67 rfl (lv_at hl 0 rfl) ?_
        refine ce_g_6_2 hx hb hB hown hK hA hk ce_w158 dX6_deliverTo_68 ?_
        refine lv_aload_n hx hb dX6_deliverTo_71 rfl (lv_at hl 2 rfl) ?_
        refine ce_g_4_1 hx hb hB hown hK hA hk1 ce_w107 dX6_deliverTo_72 ?_
        refine lv_iload hx hb dX6_deliverTo_75 (lv_at hl 4 rfl) ?_
        obtain ⟨x40, g41, h⟩ := ce_b1_e h
        refine ce_callVi (As := [.int x17]) (rest := [.ref (b + (k + 3))]) hx hb hml hown hB (c_X2_eventAt l X G b (ce_kf_4_1 hk1) g41) ce_v_X2_eventAt ce_w542 ⟨Nat.le_of_ble_eq_true rfl, Nat.le_of_ble_eq_true rfl⟩ hF hA hS (ce_rc_2 hK hA (ce_kf_4_1 hk1)) hl rfl rfl (Nat.le_of_ble_eq_true rfl) dX6_deliverTo_77 ⟨Nat.le_of_ble_eq_true rfl, Nat.le_of_ble_eq_true rfl⟩ (fun H locs hA hS => ?_)
        refine lv_iload_n hx hb dX6_deliverTo_80 rfl (lv_at hl 1 rfl) ?_
        obtain ⟨M42, g43, h⟩ := ce_b1_e h
        refine ce_callVv (As := [.int x40, .int a1]) (rest := []) hx hb hml hown hB (c_X1_markDelivered l X G b (ce_kf_6_2 hk) g43) ce_v_X1_markDelivered ce_w546 ⟨Nat.le_of_ble_eq_true rfl, Nat.le_of_ble_eq_true rfl⟩ hF hA hS (ce_rc_1 hK hA (ce_kf_6_2 hk)) hl rfl rfl (Nat.le_of_ble_eq_true rfl) dX6_deliverTo_81 ⟨Nat.le_of_ble_eq_true rfl, Nat.le_of_ble_eq_true rfl⟩ (fun H locs hA hS => ?_)
        obtain ⟨x44, e45, h⟩ := ce_nm_e h
        refine lv_iinc (v := x44) (lv' := [(5, .int x44), (0, .ref (b + k)), (1, .int a1), (2, .ref (b + k1)), (4, .int x14)]) hx hb dX6_deliverTo_84 hl (k := 4) rfl (by rw [← e45]; rfl) (by decide) rfl (fun ls hl => ?_)
        refine lv_goto (tgt := 60) hx hb dX6_deliverTo_87 (by decide) ?_
        exact ih19 M42 x44 h  _ _ _ hA hS (lv_sub hl [1, 2, 3, 4, 0] rfl)
    · have h := ce_ie c5 h
      refine lv_iconst (v := 0) hx hb dX6_deliverTo_25 (by decide) ?_
      cases h
      exact ce_iret hx hb hr hlocks hA hS dX6_deliverTo_26
def f_X6_passTick_L79 (k : Nat) (u20 : ce_M → Int32 → Option (ce_M × Int32)) (rec16 : ce_M → Int32 → Int32 → Option (ce_M × Int32)) (M13 : ce_M) (x14 : Int32) (x15 : Int32) : Option (ce_M × Int32) :=
  if (ce_rd M13 k 5) ≤ x15 then
    u20 M13 x14
  else
    ce_b2 (f_X6_deliverTo k M13 x15) (fun (M25 : ce_M) (x26 : Int32) =>
    ce_nm (x14 + x26) (fun (x28 : Int32) =>
    ce_nm (x15 + 1) (fun (x30 : Int32) =>
    rec16 M25 x28 x30)))
def f_X6_passTick_L56 (k : Nat) (u12 : ce_M → Option (ce_M × Int32)) (rec9 : ce_M → Int32 → Option (ce_M × Int32)) (M7 : ce_M) (x8 : Int32) : Option (ce_M × Int32) :=
  if 16 ≤ x8 then
    u12 M7
  else
    ce_gi x8 16 (ce_nm (ce_wr M7 (k + 11) (Int32.toNatClampNeg x8) 0) (fun (M34 : ce_M) =>
    ce_nm (x8 + 1) (fun (x37 : Int32) =>
    rec9 M34 x37)))
def f_X6_passTick_L2 (k : Nat) (u6 : ce_M → Option (ce_M × Int32)) (rec3 : ce_M → Int32 → Option (ce_M × Int32)) (M1 : ce_M) (x2 : Int32) : Option (ce_M × Int32) :=
  if (ce_rd M1 k 5) ≤ x2 then
    u6 M1
  else
    ce_gi x2 8 (ce_nm ((k + 2) + (10 + 7 * (Int32.toNatClampNeg x2))) (fun (k41 : Nat) =>
    ce_gi 0 4 (ce_nm (ce_rd M1 (k + 1) (Int32.toNatClampNeg 0)) (fun (x44 : Int32) =>
    ce_b1 (f_X4_isDue k41 M1 (ce_rd M1 k 6) x44) (fun (x47 : Int32) =>
    if x47 = 0 then
      ce_nm (x2 + 1) (fun (x50 : Int32) =>
      rec3 M1 x50)
    else
      ce_gi 2 4 (ce_nm (ce_rd M1 (k + 1) (Int32.toNatClampNeg 2)) (fun (x52 : Int32) =>
      ce_b1 (f_X4_handOver k41 M1 (ce_rd M1 k 6) x52) (fun (M55 : ce_M) =>
      ce_nm (x2 + 1) (fun (x57 : Int32) =>
      rec3 M55 x57)))))))))
def f_X6_passTick (k : Nat) (M : ce_M) : Option (ce_M × Int32) :=
  ce_nm (fun (M5 : ce_M) =>
      ce_nm (fun (M11 : ce_M) =>
          ce_nm (fun (M18 : ce_M) (x19 : Int32) =>
              ce_nm (ce_wr M18 k 6 ((ce_rd M18 k 6) + 1)) (fun (M21 : ce_M) =>
              some (M21, x19))) (fun (u20 : ce_M → Int32 → Option (ce_M × Int32)) =>
          ce_lp3 (f_X6_passTick_L79 k u20) ce_FU M11 0 0)) (fun (u12 : ce_M → Option (ce_M × Int32)) =>
      ce_lp2 (f_X6_passTick_L56 k u12) ce_FU M5 0)) (fun (u6 : ce_M → Option (ce_M × Int32)) =>
  ce_lp2 (f_X6_passTick_L2 k u6) ce_FU M 0)
set_option maxRecDepth 100000 in
set_option maxHeartbeats 4000000 in
theorem c_X6_passTick (l : Launch) (X : ce_X) (G : ce_G) (b : Nat) {k : Nat} {M : ce_M} (hk : ce_kd k = 6) {M' : ce_M} {r : Int32} (h : f_X6_passTick k M = some (M', r)) : ce_Ct l yX6_passTick cX6_passTick 3 (some .int) 2 65 X G b [.ref (b + k)] M (some (.int r)) M' := by
  refine ce_ofW (own := RX6) (by decide) rfl (Nat.le_of_ble_eq_true rfl) (fun p e s m below meth c ls hx hb hr hlocks hml hown hB hF hA hl hS => ?_)
  have hK := hF.1
  have hl : lv_has ls 3 [(0, .ref (b + k))] := hl
  unfold f_X6_passTick at h
  refine lv_iconst (v := 0) hx hb dX6_passTick_0 (by decide) ?_
  refine lv_istore_n (lv' := [(1, .int 0), (0, .ref (b + k))]) hx hb dX6_passTick_1 rfl hl (by decide) rfl (fun ls hl => ?_)
  obtain ⟨u6, e39, h⟩ := ce_nm_e h
  have Ju6 : ∀ (M5 : ce_M), u6 M5 = some (M', r) → ce_Wg p l e (ce_R 2 65 0 0) s m (([.ref (b + k)] : List Value).toArray) below meth c 0 0 (MQ below (ce_Q X b M' (some (.int r))) ([.ref (b + k)] : List Value).toArray s 0 0 (ce_Ab b)) X b M5 3 [(0, .ref (b + k))] 54 [] := by
    intro M5 h  H locs ls hA hS hl
    subst e39
    refine lv_iconst (v := 0) hx hb dX6_passTick_54 (by decide) ?_
    refine lv_istore_n (lv' := [(1, .int 0), (0, .ref (b + k))]) hx hb dX6_passTick_55 rfl hl (by decide) rfl (fun ls hl => ?_)
    obtain ⟨u12, e32, h⟩ := ce_nm_e h
    have Ju12 : ∀ (M11 : ce_M), u12 M11 = some (M', r) → ce_Wg p l e (ce_R 2 65 0 0) s m (([.ref (b + k)] : List Value).toArray) below meth c 0 0 (MQ below (ce_Q X b M' (some (.int r))) ([.ref (b + k)] : List Value).toArray s 0 0 (ce_Ab b)) X b M11 3 [(0, .ref (b + k))] 75 [] := by
      intro M11 h  H locs ls hA hS hl
      subst e32
      refine lv_iconst (v := 0) hx hb dX6_passTick_75 (by decide) ?_
      refine lv_istore_n (lv' := [(1, .int 0), (0, .ref (b + k))]) hx hb dX6_passTick_76 rfl hl (by decide) rfl (fun ls hl => ?_)
      refine lv_iconst (v := 0) hx hb dX6_passTick_77 (by decide) ?_
      refine lv_istore_n (lv' := [(2, .int 0), (1, .int 0), (0, .ref (b + k))]) hx hb dX6_passTick_78 rfl hl (by decide) rfl (fun ls hl => ?_)
      obtain ⟨u20, e23, h⟩ := ce_nm_e h
      have Ju20 : ∀ (M18 : ce_M) (x19 : Int32), u20 M18 x19 = some (M', r) → ce_Wg p l e (ce_R 2 65 0 0) s m (([.ref (b + k)] : List Value).toArray) below meth c 0 0 (MQ below (ce_Q X b M' (some (.int r))) ([.ref (b + k)] : List Value).toArray s 0 0 (ce_Ab b)) X b M18 3 [(0, .ref (b + k)), (1, .int x19)] 101 [] := by
        intro M18 x19 h  H locs ls hA hS hl
        subst e23
        refine lv_aload_n hx hb dX6_passTick_101 rfl (lv_at hl 0 rfl) ?_
        refine lv_dup hx hb dX6_passTick_102 rfl ?_
        refine ce_g_6_6 hx hb hB hown hK hA hk ce_w163 dX6_passTick_103 ?_
        refine lv_iconst (v := 1) hx hb dX6_passTick_106 (by decide) ?_
        refine lv_iadd hx hb dX6_passTick_107 ?_
        obtain ⟨M21, e22, h⟩ := ce_nm_e h
        refine ce_p_6_6 hx hb hB hown hK hA hS hk ce_w163 dX6_passTick_108 e22 (fun H locs hA hS => ?_)
        refine lv_iload_n hx hb dX6_passTick_111 rfl (lv_at hl 1 rfl) ?_
        cases h
        exact ce_iret hx hb hr hlocks hA hS dX6_passTick_112
      refine ce_lp3_i (y := (M', r)) (P := fun (M13 : ce_M) (x14 : Int32) (x15 : Int32) => ce_Wg p l e (ce_R 2 65 0 0) s m (([.ref (b + k)] : List Value).toArray) below meth c 0 0 (MQ below (ce_Q X b M' (some (.int r))) ([.ref (b + k)] : List Value).toArray s 0 0 (ce_Ab b)) X b M13 3 [(0, .ref (b + k)), (1, .int x14), (2, .int x15)] 79 []) (fun rec16 ih17 M13 x14 x15 h => ?_) _ _ _ _ h _ _ _ hA hS (lv_sub hl [2, 1, 0] rfl)
      intro H locs ls hA hS hl
      unfold f_X6_passTick_L79 at h
      refine lv_iload_n hx hb dX6_passTick_79 rfl (lv_at hl 2 rfl) ?_
      refine lv_aload_n hx hb dX6_passTick_80 rfl (lv_at hl 0 rfl) ?_
      refine ce_g_6_5 hx hb hB hown hK hA hk ce_w162 dX6_passTick_81 ?_
      refine lv_icmp_ge (tgt := 101) hx hb dX6_passTick_84 (by decide) (fun c24 => ?_) (fun c24 => ?_)
      · have h := ce_it c24 h
        exact Ju20 M13 x14 h  _ _ _ hA hS (lv_sub hl [0, 1] rfl)
      · have h := ce_ie c24 h
        refine lv_iload_n hx hb dX6_passTick_87 rfl (lv_at hl 1 rfl) ?_
        refine lv_aload_n hx hb dX6_passTick_88 rfl (lv_at hl 0 rfl) ?_
        refine lv_iload_n hx hb dX6_passTick_89 rfl (lv_at hl 2 rfl) ?_
        obtain ⟨M25, x26, g27, h⟩ := ce_b2_e h
        refine ce_callVi (As := [.int x15]) (rest := [.int x14]) hx hb hml hown hB (c_X6_deliverTo l X G b hk g27) ce_v_X6_deliverTo ce_w537 ⟨Nat.le_of_ble_eq_true rfl, Nat.le_of_ble_eq_true rfl⟩ hF hA hS (ce_rc_6 hK hA hk) hl rfl rfl (Nat.le_of_ble_eq_true rfl) dX6_passTick_90 ⟨Nat.le_of_ble_eq_true rfl, Nat.le_of_ble_eq_true rfl⟩ (fun H locs hA hS => ?_)
        refine lv_iadd hx hb dX6_passTick_93 ?_
        obtain ⟨x28, e29, h⟩ := ce_nm_e h
        refine ce_top e29 ?_
        refine lv_istore_n (lv' := [(1, .int x28), (0, .ref (b + k)), (2, .int x15)]) hx hb dX6_passTick_94 rfl hl (by decide) rfl (fun ls hl => ?_)
        obtain ⟨x30, e31, h⟩ := ce_nm_e h
        refine lv_iinc (v := x30) (lv' := [(2, .int x30), (1, .int x28), (0, .ref (b + k))]) hx hb dX6_passTick_95 hl (k := 2) rfl (by rw [← e31]; rfl) (by decide) rfl (fun ls hl => ?_)
        refine lv_goto (tgt := 79) hx hb dX6_passTick_98 (by decide) ?_
        exact ih17 M25 x28 x30 h  _ _ _ hA hS (lv_sub hl [2, 1, 0] rfl)
    refine ce_lp2_i (y := (M', r)) (P := fun (M7 : ce_M) (x8 : Int32) => ce_Wg p l e (ce_R 2 65 0 0) s m (([.ref (b + k)] : List Value).toArray) below meth c 0 0 (MQ below (ce_Q X b M' (some (.int r))) ([.ref (b + k)] : List Value).toArray s 0 0 (ce_Ab b)) X b M7 3 [(0, .ref (b + k)), (1, .int x8)] 56 []) (fun rec9 ih10 M7 x8 h => ?_) _ _ _ h _ _ _ hA hS (lv_sub hl [1, 0] rfl)
    intro H locs ls hA hS hl
    unfold f_X6_passTick_L56 at h
    refine lv_iload_n hx hb dX6_passTick_56 rfl (lv_at hl 1 rfl) ?_
    refine lv_bipush (v := 16) hx hb dX6_passTick_57 (by decide) ?_
    refine lv_icmp_ge (tgt := 75) hx hb dX6_passTick_59 (by decide) (fun c33 => ?_) (fun c33 => ?_)
    · have h := ce_it c33 h
      exact Ju12 M7 h  _ _ _ hA hS (lv_sub hl [0] rfl)
    · have h := ce_ie c33 h
      refine lv_aload_n hx hb dX6_passTick_62 rfl (lv_at hl 0 rfl) ?_
      refine ce_g_6_4 hx hb hB hown hK hA hk ce_w161 dX6_passTick_63 ?_
      refine lv_iload_n hx hb dX6_passTick_66 rfl (lv_at hl 1 rfl) ?_
      refine lv_iconst (v := 0) hx hb dX6_passTick_67 (by decide) ?_
      obtain ⟨i35, h⟩ := ce_gi_e h
      obtain ⟨M34, e36, h⟩ := ce_nm_e h
      refine ce_iast hx hb hK hA hS 16 (ce_kf_6_4 hk) i35 dX6_passTick_68 e36 (fun H locs hA hS => ?_)
      obtain ⟨x37, e38, h⟩ := ce_nm_e h
      refine lv_iinc (v := x37) (lv' := [(1, .int x37), (0, .ref (b + k))]) hx hb dX6_passTick_69 hl (k := 1) rfl (by rw [← e38]; rfl) (by decide) rfl (fun ls hl => ?_)
      refine lv_goto (tgt := 56) hx hb dX6_passTick_72 (by decide) ?_
      exact ih10 M34 x37 h  _ _ _ hA hS (lv_sub hl [1, 0] rfl)
  refine ce_lp2_i (y := (M', r)) (P := fun (M1 : ce_M) (x2 : Int32) => ce_Wg p l e (ce_R 2 65 0 0) s m (([.ref (b + k)] : List Value).toArray) below meth c 0 0 (MQ below (ce_Q X b M' (some (.int r))) ([.ref (b + k)] : List Value).toArray s 0 0 (ce_Ab b)) X b M1 3 [(0, .ref (b + k)), (1, .int x2)] 2 []) (fun rec3 ih4 M1 x2 h => ?_) _ _ _ h _ _ _ hA hS (lv_sub hl [1, 0] rfl)
  intro H locs ls hA hS hl
  unfold f_X6_passTick_L2 at h
  refine lv_iload_n hx hb dX6_passTick_2 rfl (lv_at hl 1 rfl) ?_
  refine lv_aload_n hx hb dX6_passTick_3 rfl (lv_at hl 0 rfl) ?_
  refine ce_g_6_5 hx hb hB hown hK hA hk ce_w162 dX6_passTick_4 ?_
  refine lv_icmp_ge (tgt := 54) hx hb dX6_passTick_7 (by decide) (fun c40 => ?_) (fun c40 => ?_)
  · have h := ce_it c40 h
    exact Ju6 M1 h  _ _ _ hA hS (lv_sub hl [0] rfl)
  · have h := ce_ie c40 h
    refine lv_aload_n hx hb dX6_passTick_10 rfl (lv_at hl 0 rfl) ?_
    refine ce_g_6_1 hx hb hB hown hK hA hk ce_w156 dX6_passTick_11 ?_
    refine lv_iload_n hx hb dX6_passTick_14 rfl (lv_at hl 1 rfl) ?_
    obtain ⟨i42, h⟩ := ce_gi_e h
    obtain ⟨k41, e43, h⟩ := ce_nm_e h
    have hk41 : ce_kd k41 = 4 := e43 ▸ ce_kf_sub (ce_kf_6_1 hk) (ce_in_lt i42)
    refine ce_aaldS hx hb hK hA (ce_kf_6_1 hk) i42 dX6_passTick_15 ?_
    refine ce_topr e43 ?_
    refine lv_astore_n (lv' := [(2, .ref (b + k41)), (0, .ref (b + k)), (1, .int x2)]) hx hb dX6_passTick_16 rfl hl (by decide) rfl (fun ls hl => ?_)
    refine lv_aload_n hx hb dX6_passTick_17 rfl (lv_at hl 0 rfl) ?_
    refine lv_aload_n hx hb dX6_passTick_18 rfl (lv_at hl 1 rfl) ?_
    refine ce_g_6_6 hx hb hB hown hK hA hk ce_w163 dX6_passTick_19 ?_
    refine lv_aload_n hx hb dX6_passTick_22 rfl (lv_at hl 1 rfl) ?_
    refine ce_g_6_0 hx hb hB hown hK hA hk ce_w155 dX6_passTick_23 ?_
    refine lv_iconst (v := 0) hx hb dX6_passTick_26 (by decide) ?_
    obtain ⟨i45, h⟩ := ce_gi_e h
    obtain ⟨x44, e46, h⟩ := ce_nm_e h
    refine ce_iald hx hb hK hA 4 (ce_kf_6_0 hk) i45 e46 dX6_passTick_27 ?_
    obtain ⟨x47, g48, h⟩ := ce_b1_e h
    refine ce_callVi (As := [.int (ce_rd M1 k 6), .int x44]) (rest := []) hx hb hml hown hB (c_X4_isDue l X G b hk41 g48) ce_v_X4_isDue ce_w525 ⟨Nat.le_of_ble_eq_true rfl, Nat.le_of_ble_eq_true rfl⟩ hF hA hS (ce_rc_4 hK hA hk41) hl rfl rfl (Nat.le_of_ble_eq_true rfl) dX6_passTick_28 ⟨Nat.le_of_ble_eq_true rfl, Nat.le_of_ble_eq_true rfl⟩ (fun H locs hA hS => ?_)
    refine lv_if_eq (tgt := 48) hx hb dX6_passTick_31 (by decide) (fun c49 => ?_) (fun c49 => ?_)
    · have h := ce_it c49 h
      obtain ⟨x50, e51, h⟩ := ce_nm_e h
      refine lv_iinc (v := x50) (lv' := [(1, .int x50), (2, .ref (b + k41)), (0, .ref (b + k))]) hx hb dX6_passTick_48 hl (k := 2) rfl (by rw [← e51]; rfl) (by decide) rfl (fun ls hl => ?_)
      refine lv_goto (tgt := 2) hx hb dX6_passTick_51 (by decide) ?_
      exact ih4 M1 x50 h  _ _ _ hA hS (lv_sub hl [2, 0] rfl)
    · have h := ce_ie c49 h
      refine lv_aload_n hx hb dX6_passTick_34 rfl (lv_at hl 0 rfl) ?_
      refine lv_aload_n hx hb dX6_passTick_35 rfl (lv_at hl 1 rfl) ?_
      refine ce_g_6_6 hx hb hB hown hK hA hk ce_w163 dX6_passTick_36 ?_
      refine lv_aload_n hx hb dX6_passTick_39 rfl (lv_at hl 1 rfl) ?_
      refine ce_g_6_0 hx hb hB hown hK hA hk ce_w155 dX6_passTick_40 ?_
      refine lv_iconst (v := 2) hx hb dX6_passTick_43 (by decide) ?_
      obtain ⟨i53, h⟩ := ce_gi_e h
      obtain ⟨x52, e54, h⟩ := ce_nm_e h
      refine ce_iald hx hb hK hA 4 (ce_kf_6_0 hk) i53 e54 dX6_passTick_44 ?_
      obtain ⟨M55, g56, h⟩ := ce_b1_e h
      refine ce_callVv (As := [.int (ce_rd M1 k 6), .int x52]) (rest := []) hx hb hml hown hB (c_X4_handOver l X G b hk41 g56) ce_v_X4_handOver ce_w533 ⟨Nat.le_of_ble_eq_true rfl, Nat.le_of_ble_eq_true rfl⟩ hF hA hS (ce_rc_4 hK hA hk41) hl rfl rfl (Nat.le_of_ble_eq_true rfl) dX6_passTick_45 ⟨Nat.le_of_ble_eq_true rfl, Nat.le_of_ble_eq_true rfl⟩ (fun H locs hA hS => ?_)
      obtain ⟨x57, e58, h⟩ := ce_nm_e h
      refine lv_iinc (v := x57) (lv' := [(1, .int x57), (2, .ref (b + k41)), (0, .ref (b + k))]) hx hb dX6_passTick_48 hl (k := 2) rfl (by rw [← e58]; rfl) (by decide) rfl (fun ls hl => ?_)
      refine lv_goto (tgt := 2) hx hb dX6_passTick_51 (by decide) ?_
      exact ih4 M55 x57 h  _ _ _ hA hS (lv_sub hl [2, 0] rfl)
def f_X6_passTicks_L4 (a1 : Int32) (k : Nat) (rec4 : ce_M → Int32 → Int32 → Option (ce_M × Int32)) (M1 : ce_M) (x2 : Int32) (x3 : Int32) : Option (ce_M × Int32) :=
  if a1 ≤ x3 then
    some (M1, x2)
  else
    ce_b2 (f_X6_passTick k M1) (fun (M7 : ce_M) (x8 : Int32) =>
    ce_nm (x2 + x8) (fun (x10 : Int32) =>
    ce_nm (x3 + 1) (fun (x12 : Int32) =>
    rec4 M7 x10 x12)))
def f_X6_passTicks (k : Nat) (M : ce_M) (a1 : Int32) : Option (ce_M × Int32) :=
  ce_lp3 (f_X6_passTicks_L4 a1 k) ce_FU M 0 0
set_option maxRecDepth 100000 in
set_option maxHeartbeats 4000000 in
theorem c_X6_passTicks (l : Launch) (X : ce_X) (G : ce_G) (b : Nat) {k : Nat} {a1 : Int32} {M : ce_M} (hk : ce_kd k = 6) {M' : ce_M} {r : Int32} (h : f_X6_passTicks k M a1 = some (M', r)) : ce_Ct l yX6_passTicks cX6_passTicks 4 (some .int) 3 87 X G b [.ref (b + k), .int a1] M (some (.int r)) M' := by
  refine ce_ofW (own := RX6) (by decide) rfl (Nat.le_of_ble_eq_true rfl) (fun p e s m below meth c ls hx hb hr hlocks hml hown hB hF hA hl hS => ?_)
  have hK := hF.1
  have hl : lv_has ls 4 [(0, .ref (b + k)), (1, .int a1)] := hl
  unfold f_X6_passTicks at h
  refine lv_iconst (v := 0) hx hb dX6_passTicks_0 (by decide) ?_
  refine lv_istore_n (lv' := [(2, .int 0), (0, .ref (b + k)), (1, .int a1)]) hx hb dX6_passTicks_1 rfl hl (by decide) rfl (fun ls hl => ?_)
  refine lv_iconst (v := 0) hx hb dX6_passTicks_2 (by decide) ?_
  refine lv_istore_n (lv' := [(3, .int 0), (2, .int 0), (0, .ref (b + k)), (1, .int a1)]) hx hb dX6_passTicks_3 rfl hl (by decide) rfl (fun ls hl => ?_)
  refine ce_lp3_i (y := (M', r)) (P := fun (M1 : ce_M) (x2 : Int32) (x3 : Int32) => ce_Wg p l e (ce_R 3 87 0 0) s m (([.ref (b + k), .int a1] : List Value).toArray) below meth c 0 0 (MQ below (ce_Q X b M' (some (.int r))) ([.ref (b + k), .int a1] : List Value).toArray s 0 0 (ce_Ab b)) X b M1 4 [(0, .ref (b + k)), (1, .int a1), (2, .int x2), (3, .int x3)] 4 []) (fun rec4 ih5 M1 x2 x3 h => ?_) _ _ _ _ h _ _ _ hA hS (lv_sub hl [2, 3, 1, 0] rfl)
  intro H locs ls hA hS hl
  unfold f_X6_passTicks_L4 at h
  refine lv_iload_n hx hb dX6_passTicks_4 rfl (lv_at hl 3 rfl) ?_
  refine lv_iload_n hx hb dX6_passTicks_5 rfl (lv_at hl 1 rfl) ?_
  refine lv_icmp_ge (tgt := 22) hx hb dX6_passTicks_6 (by decide) (fun c6 => ?_) (fun c6 => ?_)
  · have h := ce_it c6 h
    refine lv_iload_n hx hb dX6_passTicks_22 rfl (lv_at hl 2 rfl) ?_
    cases h
    exact ce_iret hx hb hr hlocks hA hS dX6_passTicks_23
  · have h := ce_ie c6 h
    refine lv_iload_n hx hb dX6_passTicks_9 rfl (lv_at hl 2 rfl) ?_
    refine lv_aload_n hx hb dX6_passTicks_10 rfl (lv_at hl 0 rfl) ?_
    obtain ⟨M7, x8, g9, h⟩ := ce_b2_e h
    refine ce_callVi (As := []) (rest := [.int x2]) hx hb hml hown hB (c_X6_passTick l X G b hk g9) ce_v_X6_passTick ce_w521 ⟨Nat.le_of_ble_eq_true rfl, Nat.le_of_ble_eq_true rfl⟩ hF hA hS (ce_rc_6 hK hA hk) hl rfl rfl (Nat.le_of_ble_eq_true rfl) dX6_passTicks_11 ⟨Nat.le_of_ble_eq_true rfl, Nat.le_of_ble_eq_true rfl⟩ (fun H locs hA hS => ?_)
    refine lv_iadd hx hb dX6_passTicks_14 ?_
    obtain ⟨x10, e11, h⟩ := ce_nm_e h
    refine ce_top e11 ?_
    refine lv_istore_n (lv' := [(2, .int x10), (0, .ref (b + k)), (1, .int a1), (3, .int x3)]) hx hb dX6_passTicks_15 rfl hl (by decide) rfl (fun ls hl => ?_)
    obtain ⟨x12, e13, h⟩ := ce_nm_e h
    refine lv_iinc (v := x12) (lv' := [(3, .int x12), (2, .int x10), (0, .ref (b + k)), (1, .int a1)]) hx hb dX6_passTicks_16 hl (k := 3) rfl (by rw [← e13]; rfl) (by decide) rfl (fun ls hl => ?_)
    refine lv_goto (tgt := 4) hx hb dX6_passTicks_19 (by decide) ?_
    exact ih5 M7 x10 x12 h  _ _ _ hA hS (lv_sub hl [2, 3, 1, 0] rfl)
def f_X6_perform (k : Nat) (M : ce_M) (a1 : Int32) (a2 : Int32) (a3 : Int32) (a4 : Int32) : Option (ce_M × Int32) :=
  if a1 = 0 then
    ce_b2 (f_X6_join k M a2 a3 a4) (fun (M2 : ce_M) (x3 : Int32) =>
    some (M2, x3))
  else
  if a1 = 1 then
    ce_gi a2 8 (ce_nm ((k + 2) + (10 + 7 * (Int32.toNatClampNeg a2))) (fun (k6 : Nat) =>
    ce_b2 (f_X4_goTo k6 M a3 (ce_rd M k 6)) (fun (M9 : ce_M) (x10 : Int32) =>
    some (M9, x10))))
  else
  if a1 = 2 then
    ce_gi a2 8 (ce_nm ((k + 2) + (10 + 7 * (Int32.toNatClampNeg a2))) (fun (k13 : Nat) =>
    ce_b2 (f_X4_quit k13 M (ce_rd M k 6)) (fun (M16 : ce_M) (x17 : Int32) =>
    some (M16, x17))))
  else
  if a1 = 3 then
    ce_b2 (f_X6_publishEvent k M a2 a3 0) (fun (M20 : ce_M) (x21 : Int32) =>
    some (M20, x21))
  else
  if a1 = 4 then
    ce_b2 (f_X6_publishEvent k M a2 a3 a4) (fun (M24 : ce_M) (x25 : Int32) =>
    some (M24, x25))
  else
  if a1 = 5 then
    ce_b2 (f_X6_changeSetting k M a2 a3) (fun (M28 : ce_M) (x29 : Int32) =>
    some (M28, x29))
  else
  if a1 = 6 then
    ce_b2 (f_X6_passTicks k M a2) (fun (M32 : ce_M) (x33 : Int32) =>
    some (M32, x33))
  else
  if a1 = 7 then
    ce_gi a2 8 (ce_nm ((k + 2) + (10 + 7 * (Int32.toNatClampNeg a2))) (fun (k36 : Nat) =>
    ce_b2 (f_X4_relevel k36 M a3) (fun (M39 : ce_M) (x40 : Int32) =>
    some (M39, x40))))
  else
  some (M, (-1))
set_option maxRecDepth 100000 in
set_option maxHeartbeats 4000000 in
theorem c_X6_perform (l : Launch) (X : ce_X) (G : ce_G) (b : Nat) {k : Nat} {a1 : Int32} {a2 : Int32} {a3 : Int32} {a4 : Int32} {M : ce_M} (hk : ce_kd k = 6) {M' : ce_M} {r : Int32} (h : f_X6_perform k M a1 a2 a3 a4 = some (M', r)) : ce_Ct l yX6_perform cX6_perform 5 (some .int) 4 110 X G b [.ref (b + k), .int a1, .int a2, .int a3, .int a4] M (some (.int r)) M' := by
  refine ce_ofW (own := RX6) (by decide) rfl (Nat.le_of_ble_eq_true rfl) (fun p e s m below meth c ls hx hb hr hlocks hml hown hB hF hA hl hS => ?_)
  have hK := hF.1
  have hl : lv_has ls 5 [(0, .ref (b + k)), (1, .int a1), (2, .int a2), (3, .int a3), (4, .int a4)] := hl
  unfold f_X6_perform at h
  refine lv_iload_n hx hb dX6_perform_0 rfl (lv_at hl 1 rfl) ?_
  by_cases c1 : a1 = 0
  · have h := ce_it c1 h
    refine lv_tableIn (off := 47) (tgt := 48) hx hb dX6_perform_1 (by rw [c1]; decide) (by rw [c1]; decide) (by rw [c1]; rfl) (by decide) ?_
    refine lv_aload_n hx hb dX6_perform_48 rfl (lv_at hl 0 rfl) ?_
    refine lv_iload_n hx hb dX6_perform_49 rfl (lv_at hl 2 rfl) ?_
    refine lv_iload_n hx hb dX6_perform_50 rfl (lv_at hl 3 rfl) ?_
    refine lv_iload hx hb dX6_perform_51 (lv_at hl 4 rfl) ?_
    obtain ⟨M2, x3, g4, h⟩ := ce_b2_e h
    refine ce_callVi (As := [.int a2, .int a3, .int a4]) (rest := []) hx hb hml hown hB (c_X6_join l X G b hk g4) ce_v_X6_join ce_w448 ⟨Nat.le_of_ble_eq_true rfl, Nat.le_of_ble_eq_true rfl⟩ hF hA hS (ce_rc_6 hK hA hk) hl rfl rfl (Nat.le_of_ble_eq_true rfl) dX6_perform_53 ⟨Nat.le_of_ble_eq_true rfl, Nat.le_of_ble_eq_true rfl⟩ (fun H locs hA hS => ?_)
    cases h
    exact ce_iret hx hb hr hlocks hA hS dX6_perform_56
  have h := ce_ie c1 h
  by_cases c5 : a1 = 1
  · have h := ce_it c5 h
    refine lv_tableIn (off := 56) (tgt := 57) hx hb dX6_perform_1 (by rw [c5]; decide) (by rw [c5]; decide) (by rw [c5]; rfl) (by decide) ?_
    refine lv_aload_n hx hb dX6_perform_57 rfl (lv_at hl 0 rfl) ?_
    refine ce_g_6_1 hx hb hB hown hK hA hk ce_w156 dX6_perform_58 ?_
    refine lv_iload_n hx hb dX6_perform_61 rfl (lv_at hl 2 rfl) ?_
    obtain ⟨i7, h⟩ := ce_gi_e h
    obtain ⟨k6, e8, h⟩ := ce_nm_e h
    have hk6 : ce_kd k6 = 4 := e8 ▸ ce_kf_sub (ce_kf_6_1 hk) (ce_in_lt i7)
    refine ce_aaldS hx hb hK hA (ce_kf_6_1 hk) i7 dX6_perform_62 ?_
    refine ce_topr e8 ?_
    refine lv_iload_n hx hb dX6_perform_63 rfl (lv_at hl 3 rfl) ?_
    refine lv_aload_n hx hb dX6_perform_64 rfl (lv_at hl 0 rfl) ?_
    refine ce_g_6_6 hx hb hB hown hK hA hk ce_w163 dX6_perform_65 ?_
    obtain ⟨M9, x10, g11, h⟩ := ce_b2_e h
    refine ce_callVi (As := [.int a3, .int (ce_rd M k 6)]) (rest := []) hx hb hml hown hB (c_X4_goTo l X G b hk6 g11) ce_v_X4_goTo ce_w460 ⟨Nat.le_of_ble_eq_true rfl, Nat.le_of_ble_eq_true rfl⟩ hF hA hS (ce_rc_4 hK hA hk6) hl rfl rfl (Nat.le_of_ble_eq_true rfl) dX6_perform_68 ⟨Nat.le_of_ble_eq_true rfl, Nat.le_of_ble_eq_true rfl⟩ (fun H locs hA hS => ?_)
    cases h
    exact ce_iret hx hb hr hlocks hA hS dX6_perform_71
  have h := ce_ie c5 h
  by_cases c12 : a1 = 2
  · have h := ce_it c12 h
    refine lv_tableIn (off := 71) (tgt := 72) hx hb dX6_perform_1 (by rw [c12]; decide) (by rw [c12]; decide) (by rw [c12]; rfl) (by decide) ?_
    refine lv_aload_n hx hb dX6_perform_72 rfl (lv_at hl 0 rfl) ?_
    refine ce_g_6_1 hx hb hB hown hK hA hk ce_w156 dX6_perform_73 ?_
    refine lv_iload_n hx hb dX6_perform_76 rfl (lv_at hl 2 rfl) ?_
    obtain ⟨i14, h⟩ := ce_gi_e h
    obtain ⟨k13, e15, h⟩ := ce_nm_e h
    have hk13 : ce_kd k13 = 4 := e15 ▸ ce_kf_sub (ce_kf_6_1 hk) (ce_in_lt i14)
    refine ce_aaldS hx hb hK hA (ce_kf_6_1 hk) i14 dX6_perform_77 ?_
    refine ce_topr e15 ?_
    refine lv_aload_n hx hb dX6_perform_78 rfl (lv_at hl 0 rfl) ?_
    refine ce_g_6_6 hx hb hB hown hK hA hk ce_w163 dX6_perform_79 ?_
    obtain ⟨M16, x17, g18, h⟩ := ce_b2_e h
    refine ce_callVi (As := [.int (ce_rd M k 6)]) (rest := []) hx hb hml hown hB (c_X4_quit l X G b hk13 g18) ce_v_X4_quit ce_w464 ⟨Nat.le_of_ble_eq_true rfl, Nat.le_of_ble_eq_true rfl⟩ hF hA hS (ce_rc_4 hK hA hk13) hl rfl rfl (Nat.le_of_ble_eq_true rfl) dX6_perform_82 ⟨Nat.le_of_ble_eq_true rfl, Nat.le_of_ble_eq_true rfl⟩ (fun H locs hA hS => ?_)
    cases h
    exact ce_iret hx hb hr hlocks hA hS dX6_perform_85
  have h := ce_ie c12 h
  by_cases c19 : a1 = 3
  · have h := ce_it c19 h
    refine lv_tableIn (off := 85) (tgt := 86) hx hb dX6_perform_1 (by rw [c19]; decide) (by rw [c19]; decide) (by rw [c19]; rfl) (by decide) ?_
    refine lv_aload_n hx hb dX6_perform_86 rfl (lv_at hl 0 rfl) ?_
    refine lv_iload_n hx hb dX6_perform_87 rfl (lv_at hl 2 rfl) ?_
    refine lv_iload_n hx hb dX6_perform_88 rfl (lv_at hl 3 rfl) ?_
    refine lv_iconst (v := 0) hx hb dX6_perform_89 (by decide) ?_
    obtain ⟨M20, x21, g22, h⟩ := ce_b2_e h
    refine ce_callVi (As := [.int a2, .int a3, .int 0]) (rest := []) hx hb hml hown hB (c_X6_publishEvent l X G b hk g22) ce_v_X6_publishEvent ce_w476 ⟨Nat.le_of_ble_eq_true rfl, Nat.le_of_ble_eq_true rfl⟩ hF hA hS (ce_rc_6 hK hA hk) hl rfl rfl (Nat.le_of_ble_eq_true rfl) dX6_perform_90 ⟨Nat.le_of_ble_eq_true rfl, Nat.le_of_ble_eq_true rfl⟩ (fun H locs hA hS => ?_)
    cases h
    exact ce_iret hx hb hr hlocks hA hS dX6_perform_93
  have h := ce_ie c19 h
  by_cases c23 : a1 = 4
  · have h := ce_it c23 h
    refine lv_tableIn (off := 93) (tgt := 94) hx hb dX6_perform_1 (by rw [c23]; decide) (by rw [c23]; decide) (by rw [c23]; rfl) (by decide) ?_
    refine lv_aload_n hx hb dX6_perform_94 rfl (lv_at hl 0 rfl) ?_
    refine lv_iload_n hx hb dX6_perform_95 rfl (lv_at hl 2 rfl) ?_
    refine lv_iload_n hx hb dX6_perform_96 rfl (lv_at hl 3 rfl) ?_
    refine lv_iload hx hb dX6_perform_97 (lv_at hl 4 rfl) ?_
    obtain ⟨M24, x25, g26, h⟩ := ce_b2_e h
    refine ce_callVi (As := [.int a2, .int a3, .int a4]) (rest := []) hx hb hml hown hB (c_X6_publishEvent l X G b hk g26) ce_v_X6_publishEvent ce_w476 ⟨Nat.le_of_ble_eq_true rfl, Nat.le_of_ble_eq_true rfl⟩ hF hA hS (ce_rc_6 hK hA hk) hl rfl rfl (Nat.le_of_ble_eq_true rfl) dX6_perform_99 ⟨Nat.le_of_ble_eq_true rfl, Nat.le_of_ble_eq_true rfl⟩ (fun H locs hA hS => ?_)
    cases h
    exact ce_iret hx hb hr hlocks hA hS dX6_perform_102
  have h := ce_ie c23 h
  by_cases c27 : a1 = 5
  · have h := ce_it c27 h
    refine lv_tableIn (off := 102) (tgt := 103) hx hb dX6_perform_1 (by rw [c27]; decide) (by rw [c27]; decide) (by rw [c27]; rfl) (by decide) ?_
    refine lv_aload_n hx hb dX6_perform_103 rfl (lv_at hl 0 rfl) ?_
    refine lv_iload_n hx hb dX6_perform_104 rfl (lv_at hl 2 rfl) ?_
    refine lv_iload_n hx hb dX6_perform_105 rfl (lv_at hl 3 rfl) ?_
    obtain ⟨M28, x29, g30, h⟩ := ce_b2_e h
    refine ce_callVi (As := [.int a2, .int a3]) (rest := []) hx hb hml hown hB (c_X6_changeSetting l X G b hk g30) ce_v_X6_changeSetting ce_w513 ⟨Nat.le_of_ble_eq_true rfl, Nat.le_of_ble_eq_true rfl⟩ hF hA hS (ce_rc_6 hK hA hk) hl rfl rfl (Nat.le_of_ble_eq_true rfl) dX6_perform_106 ⟨Nat.le_of_ble_eq_true rfl, Nat.le_of_ble_eq_true rfl⟩ (fun H locs hA hS => ?_)
    cases h
    exact ce_iret hx hb hr hlocks hA hS dX6_perform_109
  have h := ce_ie c27 h
  by_cases c31 : a1 = 6
  · have h := ce_it c31 h
    refine lv_tableIn (off := 109) (tgt := 110) hx hb dX6_perform_1 (by rw [c31]; decide) (by rw [c31]; decide) (by rw [c31]; rfl) (by decide) ?_
    refine lv_aload_n hx hb dX6_perform_110 rfl (lv_at hl 0 rfl) ?_
    refine lv_iload_n hx hb dX6_perform_111 rfl (lv_at hl 2 rfl) ?_
    obtain ⟨M32, x33, g34, h⟩ := ce_b2_e h
    refine ce_callVi (As := [.int a2]) (rest := []) hx hb hml hown hB (c_X6_passTicks l X G b hk g34) ce_v_X6_passTicks ce_w517 ⟨Nat.le_of_ble_eq_true rfl, Nat.le_of_ble_eq_true rfl⟩ hF hA hS (ce_rc_6 hK hA hk) hl rfl rfl (Nat.le_of_ble_eq_true rfl) dX6_perform_112 ⟨Nat.le_of_ble_eq_true rfl, Nat.le_of_ble_eq_true rfl⟩ (fun H locs hA hS => ?_)
    cases h
    exact ce_iret hx hb hr hlocks hA hS dX6_perform_115
  have h := ce_ie c31 h
  by_cases c35 : a1 = 7
  · have h := ce_it c35 h
    refine lv_tableIn (off := 115) (tgt := 116) hx hb dX6_perform_1 (by rw [c35]; decide) (by rw [c35]; decide) (by rw [c35]; rfl) (by decide) ?_
    refine lv_aload_n hx hb dX6_perform_116 rfl (lv_at hl 0 rfl) ?_
    refine ce_g_6_1 hx hb hB hown hK hA hk ce_w156 dX6_perform_117 ?_
    refine lv_iload_n hx hb dX6_perform_120 rfl (lv_at hl 2 rfl) ?_
    obtain ⟨i37, h⟩ := ce_gi_e h
    obtain ⟨k36, e38, h⟩ := ce_nm_e h
    have hk36 : ce_kd k36 = 4 := e38 ▸ ce_kf_sub (ce_kf_6_1 hk) (ce_in_lt i37)
    refine ce_aaldS hx hb hK hA (ce_kf_6_1 hk) i37 dX6_perform_121 ?_
    refine ce_topr e38 ?_
    refine lv_iload_n hx hb dX6_perform_122 rfl (lv_at hl 3 rfl) ?_
    obtain ⟨M39, x40, g41, h⟩ := ce_b2_e h
    refine ce_callVi (As := [.int a3]) (rest := []) hx hb hml hown hB (c_X4_relevel l X G b hk36 g41) ce_v_X4_relevel ce_w551 ⟨Nat.le_of_ble_eq_true rfl, Nat.le_of_ble_eq_true rfl⟩ hF hA hS (ce_rc_4 hK hA hk36) hl rfl rfl (Nat.le_of_ble_eq_true rfl) dX6_perform_123 ⟨Nat.le_of_ble_eq_true rfl, Nat.le_of_ble_eq_true rfl⟩ (fun H locs hA hS => ?_)
    cases h
    exact ce_iret hx hb hr hlocks hA hS dX6_perform_126
  have h := ce_ie c35 h
  have nc1 : (a1).toInt ≠ 0 := fun q => c1 (Int32.toInt_inj.mp (q.trans (by decide)))
  have nc5 : (a1).toInt ≠ 1 := fun q => c5 (Int32.toInt_inj.mp (q.trans (by decide)))
  have nc12 : (a1).toInt ≠ 2 := fun q => c12 (Int32.toInt_inj.mp (q.trans (by decide)))
  have nc19 : (a1).toInt ≠ 3 := fun q => c19 (Int32.toInt_inj.mp (q.trans (by decide)))
  have nc23 : (a1).toInt ≠ 4 := fun q => c23 (Int32.toInt_inj.mp (q.trans (by decide)))
  have nc27 : (a1).toInt ≠ 5 := fun q => c27 (Int32.toInt_inj.mp (q.trans (by decide)))
  have nc31 : (a1).toInt ≠ 6 := fun q => c31 (Int32.toInt_inj.mp (q.trans (by decide)))
  have nc35 : (a1).toInt ≠ 7 := fun q => c35 (Int32.toInt_inj.mp (q.trans (by decide)))
  refine lv_tableOut (tgt := 127) hx hb dX6_perform_1 (by omega) (by decide) ?_
  refine lv_iconst (v := (-1)) hx hb dX6_perform_127 (by decide) ?_
  cases h
  exact ce_iret hx hb hr hlocks hA hS dX6_perform_128
def f_X6_ticksUntilServed (k : Nat) (M : ce_M) (a1 : Int32) : Option Int32 :=
  ce_gi a1 8 (ce_nm ((k + 2) + (10 + 7 * (Int32.toNatClampNeg a1))) (fun (k1 : Nat) =>
  if (ce_rd M k1 7) = 0 then
    some (-1)
  else
    if (ce_rd M k1 4) = (ce_rd M k1 6) then
      some 0
    else
      ce_gi 0 4 (ce_nm (ce_rd M (k + 1) (Int32.toNatClampNeg 0)) (fun (x6 : Int32) =>
      ce_b1 (f_X4_dwellTime k1 M x6) (fun (x9 : Int32) =>
      ce_nm ((ce_rd M k1 5) + x9) (fun (x11 : Int32) =>
      some (((ce_max x11 (ce_rd M k 6)) - (ce_rd M k 6)) + 1)))))))
set_option maxRecDepth 100000 in
set_option maxHeartbeats 4000000 in
theorem c_X6_ticksUntilServed (l : Launch) (X : ce_X) (G : ce_G) (b : Nat) {k : Nat} {a1 : Int32} {M : ce_M} (hk : ce_kd k = 6) {r : Int32} (h : f_X6_ticksUntilServed k M a1 = some r) : ce_Ct l yX6_ticksUntilServed cX6_ticksUntilServed 4 (some .int) 1 40 X G b [.ref (b + k), .int a1] M (some (.int r)) M := by
  refine ce_ofW (own := RX6) (by decide) rfl (Nat.le_of_ble_eq_true rfl) (fun p e s m below meth c ls hx hb hr hlocks hml hown hB hF hA hl hS => ?_)
  have hK := hF.1
  have hl : lv_has ls 4 [(0, .ref (b + k)), (1, .int a1)] := hl
  unfold f_X6_ticksUntilServed at h
  refine lv_aload_n hx hb dX6_ticksUntilServed_0 rfl (lv_at hl 0 rfl) ?_
  refine ce_g_6_1 hx hb hB hown hK hA hk ce_w156 dX6_ticksUntilServed_1 ?_
  refine lv_iload_n hx hb dX6_ticksUntilServed_4 rfl (lv_at hl 1 rfl) ?_
  obtain ⟨i2, h⟩ := ce_gi_e h
  obtain ⟨k1, e3, h⟩ := ce_nm_e h
  have hk1 : ce_kd k1 = 4 := e3 ▸ ce_kf_sub (ce_kf_6_1 hk) (ce_in_lt i2)
  refine ce_aaldS hx hb hK hA (ce_kf_6_1 hk) i2 dX6_ticksUntilServed_5 ?_
  refine ce_topr e3 ?_
  refine lv_astore_n (lv' := [(2, .ref (b + k1)), (0, .ref (b + k)), (1, .int a1)]) hx hb dX6_ticksUntilServed_6 rfl hl (by decide) rfl (fun ls hl => ?_)
  refine lv_aload_n hx hb dX6_ticksUntilServed_7 rfl (lv_at hl 0 rfl) ?_
  refine ce_g_4_7 hx hb hB hown hK hA hk1 ce_w117 dX6_ticksUntilServed_8 ?_
  refine lv_if_ne (tgt := 16) hx hb dX6_ticksUntilServed_11 (by decide) (fun c4 => ?_) (fun c4 => ?_)
  · have h := ce_ie c4 h
    refine lv_aload_n hx hb dX6_ticksUntilServed_16 rfl (lv_at hl 0 rfl) ?_
    refine ce_g_4_4 hx hb hB hown hK hA hk1 ce_w111 dX6_ticksUntilServed_17 ?_
    refine lv_aload_n hx hb dX6_ticksUntilServed_20 rfl (lv_at hl 0 rfl) ?_
    refine ce_g_4_6 hx hb hB hown hK hA hk1 ce_w115 dX6_ticksUntilServed_21 ?_
    refine lv_icmp_ne (tgt := 29) hx hb dX6_ticksUntilServed_24 (by decide) (fun c5 => ?_) (fun c5 => ?_)
    · have h := ce_ie c5 h
      refine lv_aload_n hx hb dX6_ticksUntilServed_29 rfl (lv_at hl 0 rfl) ?_
      refine ce_g_4_5 hx hb hB hown hK hA hk1 ce_w113 dX6_ticksUntilServed_30 ?_
      refine lv_aload_n hx hb dX6_ticksUntilServed_33 rfl (lv_at hl 0 rfl) ?_
      refine lv_aload_n hx hb dX6_ticksUntilServed_34 rfl (lv_at hl 1 rfl) ?_
      refine ce_g_6_0 hx hb hB hown hK hA hk ce_w155 dX6_ticksUntilServed_35 ?_
      refine lv_iconst (v := 0) hx hb dX6_ticksUntilServed_38 (by decide) ?_
      obtain ⟨i7, h⟩ := ce_gi_e h
      obtain ⟨x6, e8, h⟩ := ce_nm_e h
      refine ce_iald hx hb hK hA 4 (ce_kf_6_0 hk) i7 e8 dX6_ticksUntilServed_39 ?_
      obtain ⟨x9, g10, h⟩ := ce_b1_e h
      refine ce_callVi (As := [.int x6]) (rest := [.int (ce_rd M k1 5)]) hx hb hml hown hB (c_X4_dwellTime l X G b hk1 g10) ce_v_X4_dwellTime ce_w749 ⟨Nat.le_of_ble_eq_true rfl, Nat.le_of_ble_eq_true rfl⟩ hF hA hS (ce_rc_4 hK hA hk1) hl rfl rfl (Nat.le_of_ble_eq_true rfl) dX6_ticksUntilServed_40 ⟨Nat.le_of_ble_eq_true rfl, Nat.le_of_ble_eq_true rfl⟩ (fun H locs hA hS => ?_)
      refine lv_iadd hx hb dX6_ticksUntilServed_43 ?_
      obtain ⟨x11, e12, h⟩ := ce_nm_e h
      refine ce_top e12 ?_
      refine lv_istore_n (lv' := [(3, .int x11), (2, .ref (b + k1)), (0, .ref (b + k)), (1, .int a1)]) hx hb dX6_ticksUntilServed_44 rfl hl (by decide) rfl (fun ls hl => ?_)
      refine lv_iload_n hx hb dX6_ticksUntilServed_45 rfl (lv_at hl 0 rfl) ?_
      refine lv_aload_n hx hb dX6_ticksUntilServed_46 rfl (lv_at hl 2 rfl) ?_
      refine ce_g_6_6 hx hb hB hown hK hA hk ce_w163 dX6_ticksUntilServed_47 ?_
      refine ce_mmax hx hb hml hl hown (hB _ ce_w750) hB (Nat.le_of_ble_eq_true rfl) (Nat.le_of_ble_eq_true rfl) dX6_ticksUntilServed_50 ⟨Nat.le_of_ble_eq_true rfl, Nat.le_of_ble_eq_true rfl⟩ ?_
      refine lv_aload_n hx hb dX6_ticksUntilServed_53 rfl (lv_at hl 2 rfl) ?_
      refine ce_g_6_6 hx hb hB hown hK hA hk ce_w163 dX6_ticksUntilServed_54 ?_
      refine lv_isub hx hb dX6_ticksUntilServed_57 ?_
      refine lv_iconst (v := 1) hx hb dX6_ticksUntilServed_58 (by decide) ?_
      refine lv_iadd hx hb dX6_ticksUntilServed_59 ?_
      cases h
      exact ce_iret hx hb hr hlocks hA hS dX6_ticksUntilServed_60
    · have h := ce_it c5 h
      refine lv_iconst (v := 0) hx hb dX6_ticksUntilServed_27 (by decide) ?_
      cases h
      exact ce_iret hx hb hr hlocks hA hS dX6_ticksUntilServed_28
  · have h := ce_it c4 h
    refine lv_iconst (v := (-1)) hx hb dX6_ticksUntilServed_14 (by decide) ?_
    cases h
    exact ce_iret hx hb hr hlocks hA hS dX6_ticksUntilServed_15
def f_X6_passUntilEmpty_L12 (k1 : Nat) (k : Nat) (u9 : ce_M → Option (ce_M × Int32)) (rec6 : ce_M → Int32 → Option (ce_M × Int32)) (M4 : ce_M) (x5 : Int32) : Option (ce_M × Int32) :=
  if 200 ≤ x5 then
    u9 M4
  else
    if (ce_rd M4 (k1 + 5) 1) = 0 then
      some (M4, x5)
    else
      ce_b2 (f_X6_passTick k M4) (fun (M14 : ce_M) (x15 : Int32) =>
      ce_nm (x5 + 1) (fun (x17 : Int32) =>
      rec6 M14 x17))
def f_X6_passUntilEmpty (k : Nat) (M : ce_M) (a1 : Int32) : Option (ce_M × Int32) :=
  ce_gi a1 8 (ce_nm ((k + 2) + (10 + 7 * (Int32.toNatClampNeg a1))) (fun (k1 : Nat) =>
  ce_nm (fun (M8 : ce_M) =>
      if (ce_rd M8 (k1 + 5) 1) = 0 then
        some (M8, 200)
      else
        some (M8, (-1))) (fun (u9 : ce_M → Option (ce_M × Int32)) =>
  ce_lp2 (f_X6_passUntilEmpty_L12 k1 k u9) ce_FU M 0)))
set_option maxRecDepth 100000 in
set_option maxHeartbeats 4000000 in
theorem c_X6_passUntilEmpty (l : Launch) (X : ce_X) (G : ce_G) (b : Nat) {k : Nat} {a1 : Int32} {M : ce_M} (hk : ce_kd k = 6) {M' : ce_M} {r : Int32} (h : f_X6_passUntilEmpty k M a1 = some (M', r)) : ce_Ct l yX6_passUntilEmpty cX6_passUntilEmpty 4 (some .int) 3 87 X G b [.ref (b + k), .int a1] M (some (.int r)) M' := by
  refine ce_ofW (own := RX6) (by decide) rfl (Nat.le_of_ble_eq_true rfl) (fun p e s m below meth c ls hx hb hr hlocks hml hown hB hF hA hl hS => ?_)
  have hK := hF.1
  have hl : lv_has ls 4 [(0, .ref (b + k)), (1, .int a1)] := hl
  unfold f_X6_passUntilEmpty at h
  refine lv_aload_n hx hb dX6_passUntilEmpty_0 rfl (lv_at hl 0 rfl) ?_
  refine ce_g_6_1 hx hb hB hown hK hA hk ce_w156 dX6_passUntilEmpty_1 ?_
  refine lv_iload_n hx hb dX6_passUntilEmpty_4 rfl (lv_at hl 1 rfl) ?_
  obtain ⟨i2, h⟩ := ce_gi_e h
  obtain ⟨k1, e3, h⟩ := ce_nm_e h
  have hk1 : ce_kd k1 = 4 := e3 ▸ ce_kf_sub (ce_kf_6_1 hk) (ce_in_lt i2)
  refine ce_aaldS hx hb hK hA (ce_kf_6_1 hk) i2 dX6_passUntilEmpty_5 ?_
  refine ce_topr e3 ?_
  refine ce_g_4_1 hx hb hB hown hK hA hk1 ce_w107 dX6_passUntilEmpty_6 ?_
  refine lv_astore_n (lv' := [(2, .ref (b + (k1 + 5))), (0, .ref (b + k)), (1, .int a1)]) hx hb dX6_passUntilEmpty_9 rfl hl (by decide) rfl (fun ls hl => ?_)
  refine lv_iconst (v := 0) hx hb dX6_passUntilEmpty_10 (by decide) ?_
  refine lv_istore_n (lv' := [(3, .int 0), (2, .ref (b + (k1 + 5))), (0, .ref (b + k)), (1, .int a1)]) hx hb dX6_passUntilEmpty_11 rfl hl (by decide) rfl (fun ls hl => ?_)
  obtain ⟨u9, e11, h⟩ := ce_nm_e h
  have Ju9 : ∀ (M8 : ce_M), u9 M8 = some (M', r) → ce_Wg p l e (ce_R 3 87 0 0) s m (([.ref (b + k), .int a1] : List Value).toArray) below meth c 0 0 (MQ below (ce_Q X b M' (some (.int r))) ([.ref (b + k), .int a1] : List Value).toArray s 0 0 (ce_Ab b)) X b M8 4 [(2, .ref (b + (k1 + 5)))] 39 [] := by
    intro M8 h  H locs ls hA hS hl
    subst e11
    refine lv_aload_n hx hb dX6_passUntilEmpty_39 rfl (lv_at hl 0 rfl) ?_
    refine ce_g_2_1 hx hb hB hown hK hA (ce_kf_4_1 hk1) ce_w97 dX6_passUntilEmpty_40 ?_
    refine lv_if_ne (tgt := 52) hx hb dX6_passUntilEmpty_43 (by decide) (fun c10 => ?_) (fun c10 => ?_)
    · have h := ce_ie c10 h
      refine lv_iconst (v := (-1)) hx hb dX6_passUntilEmpty_52 (by decide) ?_
      cases h
      exact ce_iret hx hb hr hlocks hA hS dX6_passUntilEmpty_53
    · have h := ce_it c10 h
      refine lv_sipush (v := 200) hx hb dX6_passUntilEmpty_46 (by decide) ?_
      refine lv_goto (tgt := 53) hx hb dX6_passUntilEmpty_49 (by decide) ?_
      cases h
      exact ce_iret hx hb hr hlocks hA hS dX6_passUntilEmpty_53
  refine ce_lp2_i (y := (M', r)) (P := fun (M4 : ce_M) (x5 : Int32) => ce_Wg p l e (ce_R 3 87 0 0) s m (([.ref (b + k), .int a1] : List Value).toArray) below meth c 0 0 (MQ below (ce_Q X b M' (some (.int r))) ([.ref (b + k), .int a1] : List Value).toArray s 0 0 (ce_Ab b)) X b M4 4 [(0, .ref (b + k)), (2, .ref (b + (k1 + 5))), (3, .int x5)] 12 []) (fun rec6 ih7 M4 x5 h => ?_) _ _ _ h _ _ _ hA hS (lv_sub hl [2, 1, 0] rfl)
  intro H locs ls hA hS hl
  unfold f_X6_passUntilEmpty_L12 at h
  refine lv_iload_n hx hb dX6_passUntilEmpty_12 rfl (lv_at hl 2 rfl) ?_
  refine lv_sipush (v := 200) hx hb dX6_passUntilEmpty_13 (by decide) ?_
  refine lv_icmp_ge (tgt := 39) hx hb dX6_passUntilEmpty_16 (by decide) (fun c12 => ?_) (fun c12 => ?_)
  · have h := ce_it c12 h
    exact Ju9 M4 h  _ _ _ hA hS (lv_sub hl [1] rfl)
  · have h := ce_ie c12 h
    refine lv_aload_n hx hb dX6_passUntilEmpty_19 rfl (lv_at hl 1 rfl) ?_
    refine ce_g_2_1 hx hb hB hown hK hA (ce_kf_4_1 hk1) ce_w97 dX6_passUntilEmpty_20 ?_
    refine lv_if_ne (tgt := 28) hx hb dX6_passUntilEmpty_23 (by decide) (fun c13 => ?_) (fun c13 => ?_)
    · have h := ce_ie c13 h
      refine lv_aload_n hx hb dX6_passUntilEmpty_28 rfl (lv_at hl 0 rfl) ?_
      obtain ⟨M14, x15, g16, h⟩ := ce_b2_e h
      refine ce_callVi (As := []) (rest := []) hx hb hml hown hB (c_X6_passTick l X G b hk g16) ce_v_X6_passTick ce_w521 ⟨Nat.le_of_ble_eq_true rfl, Nat.le_of_ble_eq_true rfl⟩ hF hA hS (ce_rc_6 hK hA hk) hl rfl rfl (Nat.le_of_ble_eq_true rfl) dX6_passUntilEmpty_29 ⟨Nat.le_of_ble_eq_true rfl, Nat.le_of_ble_eq_true rfl⟩ (fun H locs hA hS => ?_)
      refine lv_pop hx hb dX6_passUntilEmpty_32 rfl ?_
      obtain ⟨x17, e18, h⟩ := ce_nm_e h
      refine lv_iinc (v := x17) (lv' := [(3, .int x17), (0, .ref (b + k)), (2, .ref (b + (k1 + 5)))]) hx hb dX6_passUntilEmpty_33 hl (k := 2) rfl (by rw [← e18]; rfl) (by decide) rfl (fun ls hl => ?_)
      refine lv_goto (tgt := 12) hx hb dX6_passUntilEmpty_36 (by decide) ?_
      exact ih7 M14 x17 h  _ _ _ hA hS (lv_sub hl [1, 2, 0] rfl)
    · have h := ce_it c13 h
      refine lv_iload_n hx hb dX6_passUntilEmpty_26 rfl (lv_at hl 2 rfl) ?_
      cases h
      exact ce_iret hx hb hr hlocks hA hS dX6_passUntilEmpty_27
def f_X6_waitingIn_L4 (M : ce_M) (k : Nat) (a1 : Int32) (rec3 : Int32 → Int32 → Option Int32) (x1 : Int32) (x2 : Int32) : Option Int32 :=
  if (ce_rd M k 5) ≤ x2 then
    some x1
  else
    ce_gi x2 8 (ce_nm ((k + 2) + (10 + 7 * (Int32.toNatClampNeg x2))) (fun (k6 : Nat) =>
    if (ce_rd M k6 6) = a1 then
      ce_gi x2 8 (ce_nm ((k + 2) + (10 + 7 * (Int32.toNatClampNeg x2))) (fun (k12 : Nat) =>
      ce_nm (x1 + (ce_rd M (k12 + 5) 1)) (fun (x15 : Int32) =>
      ce_nm (x2 + 1) (fun (x17 : Int32) =>
      rec3 x15 x17))))
    else
      ce_nm (x2 + 1) (fun (x10 : Int32) =>
      rec3 x1 x10)))
def f_X6_waitingIn (k : Nat) (M : ce_M) (a1 : Int32) : Option Int32 :=
  ce_lp2 (f_X6_waitingIn_L4 M k a1) ce_FU 0 0
set_option maxRecDepth 100000 in
set_option maxHeartbeats 4000000 in
theorem c_X6_waitingIn (l : Launch) (X : ce_X) (G : ce_G) (b : Nat) {k : Nat} {a1 : Int32} {M : ce_M} (hk : ce_kd k = 6) {r : Int32} (h : f_X6_waitingIn k M a1 = some r) : ce_Ct l yX6_waitingIn cX6_waitingIn 4 (some .int) 0 0 X G b [.ref (b + k), .int a1] M (some (.int r)) M := by
  refine ce_ofW (own := RX6) (by decide) rfl (Nat.le_of_ble_eq_true rfl) (fun p e s m below meth c ls hx hb hr hlocks hml hown hB hF hA hl hS => ?_)
  have hK := hF.1
  have hl : lv_has ls 4 [(0, .ref (b + k)), (1, .int a1)] := hl
  unfold f_X6_waitingIn at h
  refine lv_iconst (v := 0) hx hb dX6_waitingIn_0 (by decide) ?_
  refine lv_istore_n (lv' := [(2, .int 0), (0, .ref (b + k)), (1, .int a1)]) hx hb dX6_waitingIn_1 rfl hl (by decide) rfl (fun ls hl => ?_)
  refine lv_iconst (v := 0) hx hb dX6_waitingIn_2 (by decide) ?_
  refine lv_istore_n (lv' := [(3, .int 0), (2, .int 0), (0, .ref (b + k)), (1, .int a1)]) hx hb dX6_waitingIn_3 rfl hl (by decide) rfl (fun ls hl => ?_)
  refine ce_lp2_i (y := r) (P := fun (x1 : Int32) (x2 : Int32) => ce_Wg p l e (ce_R 0 0 0 0) s m (([.ref (b + k), .int a1] : List Value).toArray) below meth c 0 0 (MQ below (ce_Q X b M (some (.int r))) ([.ref (b + k), .int a1] : List Value).toArray s 0 0 (ce_Ab b)) X b M 4 [(0, .ref (b + k)), (1, .int a1), (2, .int x1), (3, .int x2)] 4 []) (fun rec3 ih4 x1 x2 h => ?_) _ _ _ h _ _ _ hA hS (lv_sub hl [2, 3, 1, 0] rfl)
  intro H locs ls hA hS hl
  unfold f_X6_waitingIn_L4 at h
  refine lv_iload_n hx hb dX6_waitingIn_4 rfl (lv_at hl 3 rfl) ?_
  refine lv_aload_n hx hb dX6_waitingIn_5 rfl (lv_at hl 0 rfl) ?_
  refine ce_g_6_5 hx hb hB hown hK hA hk ce_w162 dX6_waitingIn_6 ?_
  refine lv_icmp_ge (tgt := 46) hx hb dX6_waitingIn_9 (by decide) (fun c5 => ?_) (fun c5 => ?_)
  · have h := ce_it c5 h
    refine lv_iload_n hx hb dX6_waitingIn_46 rfl (lv_at hl 2 rfl) ?_
    cases h
    exact ce_iret hx hb hr hlocks hA hS dX6_waitingIn_47
  · have h := ce_ie c5 h
    refine lv_aload_n hx hb dX6_waitingIn_12 rfl (lv_at hl 0 rfl) ?_
    refine ce_g_6_1 hx hb hB hown hK hA hk ce_w156 dX6_waitingIn_13 ?_
    refine lv_iload_n hx hb dX6_waitingIn_16 rfl (lv_at hl 3 rfl) ?_
    obtain ⟨i7, h⟩ := ce_gi_e h
    obtain ⟨k6, e8, h⟩ := ce_nm_e h
    have hk6 : ce_kd k6 = 4 := e8 ▸ ce_kf_sub (ce_kf_6_1 hk) (ce_in_lt i7)
    refine ce_aaldS hx hb hK hA (ce_kf_6_1 hk) i7 dX6_waitingIn_17 ?_
    refine ce_topr e8 ?_
    refine ce_g_4_6 hx hb hB hown hK hA hk6 ce_w115 dX6_waitingIn_18 ?_
    refine lv_iload_n hx hb dX6_waitingIn_21 rfl (lv_at hl 1 rfl) ?_
    refine lv_icmp_ne (tgt := 40) hx hb dX6_waitingIn_22 (by decide) (fun c9 => ?_) (fun c9 => ?_)
    · have h := ce_ie c9 h
      obtain ⟨x10, e11, h⟩ := ce_nm_e h
      refine lv_iinc (v := x10) (lv' := [(3, .int x10), (0, .ref (b + k)), (1, .int a1), (2, .int x1)]) hx hb dX6_waitingIn_40 hl (k := 3) rfl (by rw [← e11]; rfl) (by decide) rfl (fun ls hl => ?_)
      refine lv_goto (tgt := 4) hx hb dX6_waitingIn_43 (by decide) ?_
      exact ih4 x1 x10 h  _ _ _ hA hS (lv_sub hl [1, 2, 3, 0] rfl)
    · have h := ce_it c9 h
      refine lv_iload_n hx hb dX6_waitingIn_25 rfl (lv_at hl 2 rfl) ?_
      refine lv_aload_n hx hb dX6_waitingIn_26 rfl (lv_at hl 0 rfl) ?_
      refine ce_g_6_1 hx hb hB hown hK hA hk ce_w156 dX6_waitingIn_27 ?_
      refine lv_iload_n hx hb dX6_waitingIn_30 rfl (lv_at hl 3 rfl) ?_
      obtain ⟨i13, h⟩ := ce_gi_e h
      obtain ⟨k12, e14, h⟩ := ce_nm_e h
      have hk12 : ce_kd k12 = 4 := e14 ▸ ce_kf_sub (ce_kf_6_1 hk) (ce_in_lt i13)
      refine ce_aaldS hx hb hK hA (ce_kf_6_1 hk) i13 dX6_waitingIn_31 ?_
      refine ce_topr e14 ?_
      refine ce_g_4_1 hx hb hB hown hK hA hk12 ce_w107 dX6_waitingIn_32 ?_
      refine ce_g_2_1 hx hb hB hown hK hA (ce_kf_4_1 hk12) ce_w97 dX6_waitingIn_35 ?_
      refine lv_iadd hx hb dX6_waitingIn_38 ?_
      obtain ⟨x15, e16, h⟩ := ce_nm_e h
      refine ce_top e16 ?_
      refine lv_istore_n (lv' := [(2, .int x15), (0, .ref (b + k)), (1, .int a1), (3, .int x2)]) hx hb dX6_waitingIn_39 rfl hl (by decide) rfl (fun ls hl => ?_)
      obtain ⟨x17, e18, h⟩ := ce_nm_e h
      refine lv_iinc (v := x17) (lv' := [(3, .int x17), (2, .int x15), (0, .ref (b + k)), (1, .int a1)]) hx hb dX6_waitingIn_40 hl (k := 3) rfl (by rw [← e18]; rfl) (by decide) rfl (fun ls hl => ?_)
      refine lv_goto (tgt := 4) hx hb dX6_waitingIn_43 (by decide) ?_
      exact ih4 x15 x17 h  _ _ _ hA hS (lv_sub hl [2, 3, 1, 0] rfl)
def f_X6_busiestLeaf_L6 (k : Nat) (M : ce_M) (rec4 : Int32 → Int32 → Int32 → Option Int32) (x1 : Int32) (x2 : Int32) (x3 : Int32) : Option Int32 :=
  if 16 ≤ x3 then
    some x1
  else
    ce_b1 (f_X6_waitingIn k M x3) (fun (x7 : Int32) =>
    if x7 ≤ x2 then
      ce_nm (x3 + 1) (fun (x10 : Int32) =>
      rec4 x1 x2 x10)
    else
      ce_nm (x3 + 1) (fun (x12 : Int32) =>
      rec4 x3 x7 x12))
def f_X6_busiestLeaf (k : Nat) (M : ce_M) : Option Int32 :=
  ce_lp3 (f_X6_busiestLeaf_L6 k M) ce_FU (-1) 0 0
set_option maxRecDepth 100000 in
set_option maxHeartbeats 4000000 in
theorem c_X6_busiestLeaf (l : Launch) (X : ce_X) (G : ce_G) (b : Nat) {k : Nat} {M : ce_M} (hk : ce_kd k = 6) {r : Int32} (h : f_X6_busiestLeaf k M = some r) : ce_Ct l yX6_busiestLeaf cX6_busiestLeaf 5 (some .int) 1 23 X G b [.ref (b + k)] M (some (.int r)) M := by
  refine ce_ofW (own := RX6) (by decide) rfl (Nat.le_of_ble_eq_true rfl) (fun p e s m below meth c ls hx hb hr hlocks hml hown hB hF hA hl hS => ?_)
  have hK := hF.1
  have hl : lv_has ls 5 [(0, .ref (b + k))] := hl
  unfold f_X6_busiestLeaf at h
  refine lv_iconst (v := (-1)) hx hb dX6_busiestLeaf_0 (by decide) ?_
  refine lv_istore_n (lv' := [(1, .int (-1)), (0, .ref (b + k))]) hx hb dX6_busiestLeaf_1 rfl hl (by decide) rfl (fun ls hl => ?_)
  refine lv_iconst (v := 0) hx hb dX6_busiestLeaf_2 (by decide) ?_
  refine lv_istore_n (lv' := [(2, .int 0), (1, .int (-1)), (0, .ref (b + k))]) hx hb dX6_busiestLeaf_3 rfl hl (by decide) rfl (fun ls hl => ?_)
  refine lv_iconst (v := 0) hx hb dX6_busiestLeaf_4 (by decide) ?_
  refine lv_istore_n (lv' := [(3, .int 0), (2, .int 0), (1, .int (-1)), (0, .ref (b + k))]) hx hb dX6_busiestLeaf_5 rfl hl (by decide) rfl (fun ls hl => ?_)
  refine ce_lp3_i (y := r) (P := fun (x1 : Int32) (x2 : Int32) (x3 : Int32) => ce_Wg p l e (ce_R 1 23 0 0) s m (([.ref (b + k)] : List Value).toArray) below meth c 0 0 (MQ below (ce_Q X b M (some (.int r))) ([.ref (b + k)] : List Value).toArray s 0 0 (ce_Ab b)) X b M 5 [(0, .ref (b + k)), (1, .int x1), (2, .int x2), (3, .int x3)] 6 []) (fun rec4 ih5 x1 x2 x3 h => ?_) _ _ _ _ h _ _ _ hA hS (lv_sub hl [3, 2, 1, 0] rfl)
  intro H locs ls hA hS hl
  unfold f_X6_busiestLeaf_L6 at h
  refine lv_iload_n hx hb dX6_busiestLeaf_6 rfl (lv_at hl 3 rfl) ?_
  refine lv_bipush (v := 16) hx hb dX6_busiestLeaf_7 (by decide) ?_
  refine lv_icmp_ge (tgt := 36) hx hb dX6_busiestLeaf_9 (by decide) (fun c6 => ?_) (fun c6 => ?_)
  · have h := ce_it c6 h
    refine lv_iload_n hx hb dX6_busiestLeaf_36 rfl (lv_at hl 1 rfl) ?_
    cases h
    exact ce_iret hx hb hr hlocks hA hS dX6_busiestLeaf_37
  · have h := ce_ie c6 h
    refine lv_aload_n hx hb dX6_busiestLeaf_12 rfl (lv_at hl 0 rfl) ?_
    refine lv_iload_n hx hb dX6_busiestLeaf_13 rfl (lv_at hl 3 rfl) ?_
    obtain ⟨x7, g8, h⟩ := ce_b1_e h
    refine ce_callVi (As := [.int x3]) (rest := []) hx hb hml hown hB (c_X6_waitingIn l X G b hk g8) ce_v_X6_waitingIn ce_w685 ⟨Nat.le_of_ble_eq_true rfl, Nat.le_of_ble_eq_true rfl⟩ hF hA hS (ce_rc_6 hK hA hk) hl rfl rfl (Nat.le_of_ble_eq_true rfl) dX6_busiestLeaf_14 ⟨Nat.le_of_ble_eq_true rfl, Nat.le_of_ble_eq_true rfl⟩ (fun H locs hA hS => ?_)
    refine lv_istore (lv' := [(4, .int x7), (0, .ref (b + k)), (1, .int x1), (2, .int x2), (3, .int x3)]) hx hb dX6_busiestLeaf_17 hl (by decide) rfl (fun ls hl => ?_)
    refine lv_iload hx hb dX6_busiestLeaf_19 (lv_at hl 0 rfl) ?_
    refine lv_iload_n hx hb dX6_busiestLeaf_21 rfl (lv_at hl 3 rfl) ?_
    refine lv_icmp_le (tgt := 30) hx hb dX6_busiestLeaf_22 (by decide) (fun c9 => ?_) (fun c9 => ?_)
    · have h := ce_it c9 h
      obtain ⟨x10, e11, h⟩ := ce_nm_e h
      refine lv_iinc (v := x10) (lv' := [(3, .int x10), (4, .int x7), (0, .ref (b + k)), (1, .int x1), (2, .int x2)]) hx hb dX6_busiestLeaf_30 hl (k := 4) rfl (by rw [← e11]; rfl) (by decide) rfl (fun ls hl => ?_)
      refine lv_goto (tgt := 6) hx hb dX6_busiestLeaf_33 (by decide) ?_
      exact ih5 x1 x2 x10 h  _ _ _ hA hS (lv_sub hl [2, 3, 4, 0] rfl)
    · have h := ce_ie c9 h
      refine lv_iload_n hx hb dX6_busiestLeaf_25 rfl (lv_at hl 4 rfl) ?_
      refine lv_istore_n (lv' := [(1, .int x3), (4, .int x7), (0, .ref (b + k)), (2, .int x2), (3, .int x3)]) hx hb dX6_busiestLeaf_26 rfl hl (by decide) rfl (fun ls hl => ?_)
      refine lv_iload hx hb dX6_busiestLeaf_27 (lv_at hl 1 rfl) ?_
      refine lv_istore_n (lv' := [(2, .int x7), (1, .int x3), (4, .int x7), (0, .ref (b + k)), (3, .int x3)]) hx hb dX6_busiestLeaf_29 rfl hl (by decide) rfl (fun ls hl => ?_)
      obtain ⟨x12, e13, h⟩ := ce_nm_e h
      refine lv_iinc (v := x12) (lv' := [(3, .int x12), (2, .int x7), (1, .int x3), (4, .int x7), (0, .ref (b + k))]) hx hb dX6_busiestLeaf_30 hl (k := 4) rfl (by rw [← e13]; rfl) (by decide) rfl (fun ls hl => ?_)
      refine lv_goto (tgt := 6) hx hb dX6_busiestLeaf_33 (by decide) ?_
      exact ih5 x3 x7 x12 h  _ _ _ hA hS (lv_sub hl [4, 2, 1, 0] rfl)
def f_X6_inboxesWith_L4 (M : ce_M) (k : Nat) (a1 : Int32) (rec3 : Int32 → Int32 → Option Int32) (x1 : Int32) (x2 : Int32) : Option Int32 :=
  if (ce_rd M k 5) ≤ x2 then
    some x1
  else
    ce_gi x2 8 (ce_nm ((k + 2) + (10 + 7 * (Int32.toNatClampNeg x2))) (fun (k6 : Nat) =>
    ce_b1 (f_X2_holds (k6 + 5) M a1) (fun (x9 : Int32) =>
    if x9 = 0 then
      ce_nm (x2 + 1) (fun (x12 : Int32) =>
      rec3 x1 x12)
    else
      ce_nm (x1 + 1) (fun (x14 : Int32) =>
      ce_nm (x2 + 1) (fun (x16 : Int32) =>
      rec3 x14 x16)))))
def f_X6_inboxesWith (k : Nat) (M : ce_M) (a1 : Int32) : Option Int32 :=
  ce_lp2 (f_X6_inboxesWith_L4 M k a1) ce_FU 0 0
set_option maxRecDepth 100000 in
set_option maxHeartbeats 4000000 in
theorem c_X6_inboxesWith (l : Launch) (X : ce_X) (G : ce_G) (b : Nat) {k : Nat} {a1 : Int32} {M : ce_M} (hk : ce_kd k = 6) {r : Int32} (h : f_X6_inboxesWith k M a1 = some r) : ce_Ct l yX6_inboxesWith cX6_inboxesWith 4 (some .int) 1 22 X G b [.ref (b + k), .int a1] M (some (.int r)) M := by
  refine ce_ofW (own := RX6) (by decide) rfl (Nat.le_of_ble_eq_true rfl) (fun p e s m below meth c ls hx hb hr hlocks hml hown hB hF hA hl hS => ?_)
  have hK := hF.1
  have hl : lv_has ls 4 [(0, .ref (b + k)), (1, .int a1)] := hl
  unfold f_X6_inboxesWith at h
  refine lv_iconst (v := 0) hx hb dX6_inboxesWith_0 (by decide) ?_
  refine lv_istore_n (lv' := [(2, .int 0), (0, .ref (b + k)), (1, .int a1)]) hx hb dX6_inboxesWith_1 rfl hl (by decide) rfl (fun ls hl => ?_)
  refine lv_iconst (v := 0) hx hb dX6_inboxesWith_2 (by decide) ?_
  refine lv_istore_n (lv' := [(3, .int 0), (2, .int 0), (0, .ref (b + k)), (1, .int a1)]) hx hb dX6_inboxesWith_3 rfl hl (by decide) rfl (fun ls hl => ?_)
  refine ce_lp2_i (y := r) (P := fun (x1 : Int32) (x2 : Int32) => ce_Wg p l e (ce_R 1 22 0 0) s m (([.ref (b + k), .int a1] : List Value).toArray) below meth c 0 0 (MQ below (ce_Q X b M (some (.int r))) ([.ref (b + k), .int a1] : List Value).toArray s 0 0 (ce_Ab b)) X b M 4 [(0, .ref (b + k)), (1, .int a1), (2, .int x1), (3, .int x2)] 4 []) (fun rec3 ih4 x1 x2 h => ?_) _ _ _ h _ _ _ hA hS (lv_sub hl [2, 3, 1, 0] rfl)
  intro H locs ls hA hS hl
  unfold f_X6_inboxesWith_L4 at h
  refine lv_iload_n hx hb dX6_inboxesWith_4 rfl (lv_at hl 3 rfl) ?_
  refine lv_aload_n hx hb dX6_inboxesWith_5 rfl (lv_at hl 0 rfl) ?_
  refine ce_g_6_5 hx hb hB hown hK hA hk ce_w162 dX6_inboxesWith_6 ?_
  refine lv_icmp_ge (tgt := 37) hx hb dX6_inboxesWith_9 (by decide) (fun c5 => ?_) (fun c5 => ?_)
  · have h := ce_it c5 h
    refine lv_iload_n hx hb dX6_inboxesWith_37 rfl (lv_at hl 2 rfl) ?_
    cases h
    exact ce_iret hx hb hr hlocks hA hS dX6_inboxesWith_38
  · have h := ce_ie c5 h
    refine lv_aload_n hx hb dX6_inboxesWith_12 rfl (lv_at hl 0 rfl) ?_
    refine ce_g_6_1 hx hb hB hown hK hA hk ce_w156 dX6_inboxesWith_13 ?_
    refine lv_iload_n hx hb dX6_inboxesWith_16 rfl (lv_at hl 3 rfl) ?_
    obtain ⟨i7, h⟩ := ce_gi_e h
    obtain ⟨k6, e8, h⟩ := ce_nm_e h
    have hk6 : ce_kd k6 = 4 := e8 ▸ ce_kf_sub (ce_kf_6_1 hk) (ce_in_lt i7)
    refine ce_aaldS hx hb hK hA (ce_kf_6_1 hk) i7 dX6_inboxesWith_17 ?_
    refine ce_topr e8 ?_
    refine ce_g_4_1 hx hb hB hown hK hA hk6 ce_w107 dX6_inboxesWith_18 ?_
    refine lv_iload_n hx hb dX6_inboxesWith_21 rfl (lv_at hl 1 rfl) ?_
    obtain ⟨x9, g10, h⟩ := ce_b1_e h
    refine ce_callVi (As := [.int a1]) (rest := []) hx hb hml hown hB (c_X2_holds l X G b (ce_kf_4_1 hk6) g10) ce_v_X2_holds ce_w666 ⟨Nat.le_of_ble_eq_true rfl, Nat.le_of_ble_eq_true rfl⟩ hF hA hS (ce_rc_2 hK hA (ce_kf_4_1 hk6)) hl rfl rfl (Nat.le_of_ble_eq_true rfl) dX6_inboxesWith_22 ⟨Nat.le_of_ble_eq_true rfl, Nat.le_of_ble_eq_true rfl⟩ (fun H locs hA hS => ?_)
    refine lv_if_eq (tgt := 31) hx hb dX6_inboxesWith_25 (by decide) (fun c11 => ?_) (fun c11 => ?_)
    · have h := ce_it c11 h
      obtain ⟨x12, e13, h⟩ := ce_nm_e h
      refine lv_iinc (v := x12) (lv' := [(3, .int x12), (0, .ref (b + k)), (1, .int a1), (2, .int x1)]) hx hb dX6_inboxesWith_31 hl (k := 3) rfl (by rw [← e13]; rfl) (by decide) rfl (fun ls hl => ?_)
      refine lv_goto (tgt := 4) hx hb dX6_inboxesWith_34 (by decide) ?_
      exact ih4 x1 x12 h  _ _ _ hA hS (lv_sub hl [1, 2, 3, 0] rfl)
    · have h := ce_ie c11 h
      obtain ⟨x14, e15, h⟩ := ce_nm_e h
      refine lv_iinc (v := x14) (lv' := [(2, .int x14), (0, .ref (b + k)), (1, .int a1), (3, .int x2)]) hx hb dX6_inboxesWith_28 hl (k := 2) rfl (by rw [← e15]; rfl) (by decide) rfl (fun ls hl => ?_)
      obtain ⟨x16, e17, h⟩ := ce_nm_e h
      refine lv_iinc (v := x16) (lv' := [(3, .int x16), (2, .int x14), (0, .ref (b + k)), (1, .int a1)]) hx hb dX6_inboxesWith_31 hl (k := 3) rfl (by rw [← e17]; rfl) (by decide) rfl (fun ls hl => ?_)
      refine lv_goto (tgt := 4) hx hb dX6_inboxesWith_34 (by decide) ?_
      exact ih4 x14 x16 h  _ _ _ hA hS (lv_sub hl [2, 3, 1, 0] rfl)
def f_X6_valueOfEvent (k : Nat) (M : ce_M) (a1 : Int32) (a2 : Int32) : Option Int32 :=
  if 6 ≤ a2 then
    ce_b1 (f_X6_inboxesWith k M a1) (fun (x2 : Int32) =>
    some x2)
  else
    ce_b1 (f_X1_valueOf (k + 3) M a1 a2) (fun (x4 : Int32) =>
    some x4)
set_option maxRecDepth 100000 in
set_option maxHeartbeats 4000000 in
theorem c_X6_valueOfEvent (l : Launch) (X : ce_X) (G : ce_G) (b : Nat) {k : Nat} {a1 : Int32} {a2 : Int32} {M : ce_M} (hk : ce_kd k = 6) {r : Int32} (h : f_X6_valueOfEvent k M a1 a2 = some r) : ce_Ct l yX6_valueOfEvent cX6_valueOfEvent 3 (some .int) 2 45 X G b [.ref (b + k), .int a1, .int a2] M (some (.int r)) M := by
  refine ce_ofW (own := RX6) (by decide) rfl (Nat.le_of_ble_eq_true rfl) (fun p e s m below meth c ls hx hb hr hlocks hml hown hB hF hA hl hS => ?_)
  have hK := hF.1
  have hl : lv_has ls 3 [(0, .ref (b + k)), (1, .int a1), (2, .int a2)] := hl
  unfold f_X6_valueOfEvent at h
  refine lv_iload_n hx hb dX6_valueOfEvent_0 rfl (lv_at hl 2 rfl) ?_
  refine lv_bipush (v := 6) hx hb dX6_valueOfEvent_1 (by decide) ?_
  refine lv_icmp_ge (tgt := 18) hx hb dX6_valueOfEvent_3 (by decide) (fun c1 => ?_) (fun c1 => ?_)
  · have h := ce_it c1 h
    refine lv_aload_n hx hb dX6_valueOfEvent_18 rfl (lv_at hl 0 rfl) ?_
    refine lv_iload_n hx hb dX6_valueOfEvent_19 rfl (lv_at hl 1 rfl) ?_
    obtain ⟨x2, g3, h⟩ := ce_b1_e h
    refine ce_callVi (As := [.int a1]) (rest := []) hx hb hml hown hB (c_X6_inboxesWith l X G b hk g3) ce_v_X6_inboxesWith ce_w662 ⟨Nat.le_of_ble_eq_true rfl, Nat.le_of_ble_eq_true rfl⟩ hF hA hS (ce_rc_6 hK hA hk) hl rfl rfl (Nat.le_of_ble_eq_true rfl) dX6_valueOfEvent_20 ⟨Nat.le_of_ble_eq_true rfl, Nat.le_of_ble_eq_true rfl⟩ (fun H locs hA hS => ?_)
    cases h
    exact ce_iret hx hb hr hlocks hA hS dX6_valueOfEvent_23
  · have h := ce_ie c1 h
    refine lv_aload_n hx hb dX6_valueOfEvent_6 rfl (lv_at hl 0 rfl) ?_
    refine ce_g_6_2 hx hb hB hown hK hA hk ce_w158 dX6_valueOfEvent_7 ?_
    refine lv_iload_n hx hb dX6_valueOfEvent_10 rfl (lv_at hl 1 rfl) ?_
    refine lv_iload_n hx hb dX6_valueOfEvent_11 rfl (lv_at hl 2 rfl) ?_
    obtain ⟨x4, g5, h⟩ := ce_b1_e h
    refine ce_callVi (As := [.int a1, .int a2]) (rest := []) hx hb hml hown hB (c_X1_valueOf l X G b (ce_kf_6_2 hk) g5) ce_v_X1_valueOf ce_w658 ⟨Nat.le_of_ble_eq_true rfl, Nat.le_of_ble_eq_true rfl⟩ hF hA hS (ce_rc_1 hK hA (ce_kf_6_2 hk)) hl rfl rfl (Nat.le_of_ble_eq_true rfl) dX6_valueOfEvent_12 ⟨Nat.le_of_ble_eq_true rfl, Nat.le_of_ble_eq_true rfl⟩ (fun H locs hA hS => ?_)
    refine lv_goto (tgt := 23) hx hb dX6_valueOfEvent_15 (by decide) ?_
    cases h
    exact ce_iret hx hb hr hlocks hA hS dX6_valueOfEvent_23
def f_X6_servedBy_L4 (M : ce_M) (k : Nat) (a1 : Int32) (rec3 : Int32 → Int32 → Option Int32) (x1 : Int32) (x2 : Int32) : Option Int32 :=
  if (ce_rd M k 5) ≤ x2 then
    some x1
  else
    ce_gi x2 8 (ce_nm ((k + 2) + (10 + 7 * (Int32.toNatClampNeg x2))) (fun (k6 : Nat) =>
    if (ce_rd M k6 7) = 0 then
      ce_nm (x2 + 1) (fun (x10 : Int32) =>
      rec3 x1 x10)
    else
      if (ce_rd M k6 6) = a1 then
        ce_nm (x1 + 1) (fun (x15 : Int32) =>
        ce_nm (x2 + 1) (fun (x17 : Int32) =>
        rec3 x15 x17))
      else
        ce_nm (x2 + 1) (fun (x13 : Int32) =>
        rec3 x1 x13)))
def f_X6_servedBy (k : Nat) (M : ce_M) (a1 : Int32) : Option Int32 :=
  ce_lp2 (f_X6_servedBy_L4 M k a1) ce_FU 0 0
set_option maxRecDepth 100000 in
set_option maxHeartbeats 4000000 in
theorem c_X6_servedBy (l : Launch) (X : ce_X) (G : ce_G) (b : Nat) {k : Nat} {a1 : Int32} {M : ce_M} (hk : ce_kd k = 6) {r : Int32} (h : f_X6_servedBy k M a1 = some r) : ce_Ct l yX6_servedBy cX6_servedBy 5 (some .int) 0 0 X G b [.ref (b + k), .int a1] M (some (.int r)) M := by
  refine ce_ofW (own := RX6) (by decide) rfl (Nat.le_of_ble_eq_true rfl) (fun p e s m below meth c ls hx hb hr hlocks hml hown hB hF hA hl hS => ?_)
  have hK := hF.1
  have hl : lv_has ls 5 [(0, .ref (b + k)), (1, .int a1)] := hl
  unfold f_X6_servedBy at h
  refine lv_iconst (v := 0) hx hb dX6_servedBy_0 (by decide) ?_
  refine lv_istore_n (lv' := [(2, .int 0), (0, .ref (b + k)), (1, .int a1)]) hx hb dX6_servedBy_1 rfl hl (by decide) rfl (fun ls hl => ?_)
  refine lv_iconst (v := 0) hx hb dX6_servedBy_2 (by decide) ?_
  refine lv_istore_n (lv' := [(3, .int 0), (2, .int 0), (0, .ref (b + k)), (1, .int a1)]) hx hb dX6_servedBy_3 rfl hl (by decide) rfl (fun ls hl => ?_)
  refine ce_lp2_i (y := r) (P := fun (x1 : Int32) (x2 : Int32) => ce_Wg p l e (ce_R 0 0 0 0) s m (([.ref (b + k), .int a1] : List Value).toArray) below meth c 0 0 (MQ below (ce_Q X b M (some (.int r))) ([.ref (b + k), .int a1] : List Value).toArray s 0 0 (ce_Ab b)) X b M 5 [(0, .ref (b + k)), (1, .int a1), (2, .int x1), (3, .int x2)] 4 []) (fun rec3 ih4 x1 x2 h => ?_) _ _ _ h _ _ _ hA hS (lv_sub hl [2, 3, 1, 0] rfl)
  intro H locs ls hA hS hl
  unfold f_X6_servedBy_L4 at h
  refine lv_iload_n hx hb dX6_servedBy_4 rfl (lv_at hl 3 rfl) ?_
  refine lv_aload_n hx hb dX6_servedBy_5 rfl (lv_at hl 0 rfl) ?_
  refine ce_g_6_5 hx hb hB hown hK hA hk ce_w162 dX6_servedBy_6 ?_
  refine lv_icmp_ge (tgt := 46) hx hb dX6_servedBy_9 (by decide) (fun c5 => ?_) (fun c5 => ?_)
  · have h := ce_it c5 h
    refine lv_iload_n hx hb dX6_servedBy_46 rfl (lv_at hl 2 rfl) ?_
    cases h
    exact ce_iret hx hb hr hlocks hA hS dX6_servedBy_47
  · have h := ce_ie c5 h
    refine lv_aload_n hx hb dX6_servedBy_12 rfl (lv_at hl 0 rfl) ?_
    refine ce_g_6_1 hx hb hB hown hK hA hk ce_w156 dX6_servedBy_13 ?_
    refine lv_iload_n hx hb dX6_servedBy_16 rfl (lv_at hl 3 rfl) ?_
    obtain ⟨i7, h⟩ := ce_gi_e h
    obtain ⟨k6, e8, h⟩ := ce_nm_e h
    have hk6 : ce_kd k6 = 4 := e8 ▸ ce_kf_sub (ce_kf_6_1 hk) (ce_in_lt i7)
    refine ce_aaldS hx hb hK hA (ce_kf_6_1 hk) i7 dX6_servedBy_17 ?_
    refine ce_topr e8 ?_
    refine lv_astore (lv' := [(4, .ref (b + k6)), (0, .ref (b + k)), (1, .int a1), (2, .int x1), (3, .int x2)]) hx hb dX6_servedBy_18 hl (by decide) rfl (fun ls hl => ?_)
    refine lv_aload hx hb dX6_servedBy_20 (lv_at hl 0 rfl) ?_
    refine ce_g_4_7 hx hb hB hown hK hA hk6 ce_w117 dX6_servedBy_22 ?_
    refine lv_if_eq (tgt := 40) hx hb dX6_servedBy_25 (by decide) (fun c9 => ?_) (fun c9 => ?_)
    · have h := ce_it c9 h
      obtain ⟨x10, e11, h⟩ := ce_nm_e h
      refine lv_iinc (v := x10) (lv' := [(3, .int x10), (4, .ref (b + k6)), (0, .ref (b + k)), (1, .int a1), (2, .int x1)]) hx hb dX6_servedBy_40 hl (k := 4) rfl (by rw [← e11]; rfl) (by decide) rfl (fun ls hl => ?_)
      refine lv_goto (tgt := 4) hx hb dX6_servedBy_43 (by decide) ?_
      exact ih4 x1 x10 h  _ _ _ hA hS (lv_sub hl [2, 3, 4, 0] rfl)
    · have h := ce_ie c9 h
      refine lv_aload hx hb dX6_servedBy_28 (lv_at hl 0 rfl) ?_
      refine ce_g_4_6 hx hb hB hown hK hA hk6 ce_w115 dX6_servedBy_30 ?_
      refine lv_iload_n hx hb dX6_servedBy_33 rfl (lv_at hl 2 rfl) ?_
      refine lv_icmp_ne (tgt := 40) hx hb dX6_servedBy_34 (by decide) (fun c12 => ?_) (fun c12 => ?_)
      · have h := ce_ie c12 h
        obtain ⟨x13, e14, h⟩ := ce_nm_e h
        refine lv_iinc (v := x13) (lv' := [(3, .int x13), (4, .ref (b + k6)), (0, .ref (b + k)), (1, .int a1), (2, .int x1)]) hx hb dX6_servedBy_40 hl (k := 4) rfl (by rw [← e14]; rfl) (by decide) rfl (fun ls hl => ?_)
        refine lv_goto (tgt := 4) hx hb dX6_servedBy_43 (by decide) ?_
        exact ih4 x1 x13 h  _ _ _ hA hS (lv_sub hl [2, 3, 4, 0] rfl)
      · have h := ce_it c12 h
        obtain ⟨x15, e16, h⟩ := ce_nm_e h
        refine lv_iinc (v := x15) (lv' := [(2, .int x15), (4, .ref (b + k6)), (0, .ref (b + k)), (1, .int a1), (3, .int x2)]) hx hb dX6_servedBy_37 hl (k := 3) rfl (by rw [← e16]; rfl) (by decide) rfl (fun ls hl => ?_)
        obtain ⟨x17, e18, h⟩ := ce_nm_e h
        refine lv_iinc (v := x17) (lv' := [(3, .int x17), (2, .int x15), (4, .ref (b + k6)), (0, .ref (b + k)), (1, .int a1)]) hx hb dX6_servedBy_40 hl (k := 4) rfl (by rw [← e18]; rfl) (by decide) rfl (fun ls hl => ?_)
        refine lv_goto (tgt := 4) hx hb dX6_servedBy_43 (by decide) ?_
        exact ih4 x15 x17 h  _ _ _ hA hS (lv_sub hl [3, 4, 1, 0] rfl)
def f_X6_standingIn_L4 (M : ce_M) (k : Nat) (a1 : Int32) (rec3 : Int32 → Int32 → Option Int32) (x1 : Int32) (x2 : Int32) : Option Int32 :=
  if (ce_rd M k 5) ≤ x2 then
    some x1
  else
    ce_gi x2 8 (ce_nm ((k + 2) + (10 + 7 * (Int32.toNatClampNeg x2))) (fun (k6 : Nat) =>
    if (ce_rd M k6 7) = 0 then
      ce_nm (x2 + 1) (fun (x10 : Int32) =>
      rec3 x1 x10)
    else
      if (ce_rd M k6 4) = a1 then
        ce_nm (x1 + 1) (fun (x15 : Int32) =>
        ce_nm (x2 + 1) (fun (x17 : Int32) =>
        rec3 x15 x17))
      else
        ce_nm (x2 + 1) (fun (x13 : Int32) =>
        rec3 x1 x13)))
def f_X6_standingIn (k : Nat) (M : ce_M) (a1 : Int32) : Option Int32 :=
  ce_lp2 (f_X6_standingIn_L4 M k a1) ce_FU 0 0
set_option maxRecDepth 100000 in
set_option maxHeartbeats 4000000 in
theorem c_X6_standingIn (l : Launch) (X : ce_X) (G : ce_G) (b : Nat) {k : Nat} {a1 : Int32} {M : ce_M} (hk : ce_kd k = 6) {r : Int32} (h : f_X6_standingIn k M a1 = some r) : ce_Ct l yX6_standingIn cX6_standingIn 5 (some .int) 0 0 X G b [.ref (b + k), .int a1] M (some (.int r)) M := by
  refine ce_ofW (own := RX6) (by decide) rfl (Nat.le_of_ble_eq_true rfl) (fun p e s m below meth c ls hx hb hr hlocks hml hown hB hF hA hl hS => ?_)
  have hK := hF.1
  have hl : lv_has ls 5 [(0, .ref (b + k)), (1, .int a1)] := hl
  unfold f_X6_standingIn at h
  refine lv_iconst (v := 0) hx hb dX6_standingIn_0 (by decide) ?_
  refine lv_istore_n (lv' := [(2, .int 0), (0, .ref (b + k)), (1, .int a1)]) hx hb dX6_standingIn_1 rfl hl (by decide) rfl (fun ls hl => ?_)
  refine lv_iconst (v := 0) hx hb dX6_standingIn_2 (by decide) ?_
  refine lv_istore_n (lv' := [(3, .int 0), (2, .int 0), (0, .ref (b + k)), (1, .int a1)]) hx hb dX6_standingIn_3 rfl hl (by decide) rfl (fun ls hl => ?_)
  refine ce_lp2_i (y := r) (P := fun (x1 : Int32) (x2 : Int32) => ce_Wg p l e (ce_R 0 0 0 0) s m (([.ref (b + k), .int a1] : List Value).toArray) below meth c 0 0 (MQ below (ce_Q X b M (some (.int r))) ([.ref (b + k), .int a1] : List Value).toArray s 0 0 (ce_Ab b)) X b M 5 [(0, .ref (b + k)), (1, .int a1), (2, .int x1), (3, .int x2)] 4 []) (fun rec3 ih4 x1 x2 h => ?_) _ _ _ h _ _ _ hA hS (lv_sub hl [2, 3, 1, 0] rfl)
  intro H locs ls hA hS hl
  unfold f_X6_standingIn_L4 at h
  refine lv_iload_n hx hb dX6_standingIn_4 rfl (lv_at hl 3 rfl) ?_
  refine lv_aload_n hx hb dX6_standingIn_5 rfl (lv_at hl 0 rfl) ?_
  refine ce_g_6_5 hx hb hB hown hK hA hk ce_w162 dX6_standingIn_6 ?_
  refine lv_icmp_ge (tgt := 46) hx hb dX6_standingIn_9 (by decide) (fun c5 => ?_) (fun c5 => ?_)
  · have h := ce_it c5 h
    refine lv_iload_n hx hb dX6_standingIn_46 rfl (lv_at hl 2 rfl) ?_
    cases h
    exact ce_iret hx hb hr hlocks hA hS dX6_standingIn_47
  · have h := ce_ie c5 h
    refine lv_aload_n hx hb dX6_standingIn_12 rfl (lv_at hl 0 rfl) ?_
    refine ce_g_6_1 hx hb hB hown hK hA hk ce_w156 dX6_standingIn_13 ?_
    refine lv_iload_n hx hb dX6_standingIn_16 rfl (lv_at hl 3 rfl) ?_
    obtain ⟨i7, h⟩ := ce_gi_e h
    obtain ⟨k6, e8, h⟩ := ce_nm_e h
    have hk6 : ce_kd k6 = 4 := e8 ▸ ce_kf_sub (ce_kf_6_1 hk) (ce_in_lt i7)
    refine ce_aaldS hx hb hK hA (ce_kf_6_1 hk) i7 dX6_standingIn_17 ?_
    refine ce_topr e8 ?_
    refine lv_astore (lv' := [(4, .ref (b + k6)), (0, .ref (b + k)), (1, .int a1), (2, .int x1), (3, .int x2)]) hx hb dX6_standingIn_18 hl (by decide) rfl (fun ls hl => ?_)
    refine lv_aload hx hb dX6_standingIn_20 (lv_at hl 0 rfl) ?_
    refine ce_g_4_7 hx hb hB hown hK hA hk6 ce_w117 dX6_standingIn_22 ?_
    refine lv_if_eq (tgt := 40) hx hb dX6_standingIn_25 (by decide) (fun c9 => ?_) (fun c9 => ?_)
    · have h := ce_it c9 h
      obtain ⟨x10, e11, h⟩ := ce_nm_e h
      refine lv_iinc (v := x10) (lv' := [(3, .int x10), (4, .ref (b + k6)), (0, .ref (b + k)), (1, .int a1), (2, .int x1)]) hx hb dX6_standingIn_40 hl (k := 4) rfl (by rw [← e11]; rfl) (by decide) rfl (fun ls hl => ?_)
      refine lv_goto (tgt := 4) hx hb dX6_standingIn_43 (by decide) ?_
      exact ih4 x1 x10 h  _ _ _ hA hS (lv_sub hl [2, 3, 4, 0] rfl)
    · have h := ce_ie c9 h
      refine lv_aload hx hb dX6_standingIn_28 (lv_at hl 0 rfl) ?_
      refine ce_g_4_4 hx hb hB hown hK hA hk6 ce_w111 dX6_standingIn_30 ?_
      refine lv_iload_n hx hb dX6_standingIn_33 rfl (lv_at hl 2 rfl) ?_
      refine lv_icmp_ne (tgt := 40) hx hb dX6_standingIn_34 (by decide) (fun c12 => ?_) (fun c12 => ?_)
      · have h := ce_ie c12 h
        obtain ⟨x13, e14, h⟩ := ce_nm_e h
        refine lv_iinc (v := x13) (lv' := [(3, .int x13), (4, .ref (b + k6)), (0, .ref (b + k)), (1, .int a1), (2, .int x1)]) hx hb dX6_standingIn_40 hl (k := 4) rfl (by rw [← e14]; rfl) (by decide) rfl (fun ls hl => ?_)
        refine lv_goto (tgt := 4) hx hb dX6_standingIn_43 (by decide) ?_
        exact ih4 x1 x13 h  _ _ _ hA hS (lv_sub hl [2, 3, 4, 0] rfl)
      · have h := ce_it c12 h
        obtain ⟨x15, e16, h⟩ := ce_nm_e h
        refine lv_iinc (v := x15) (lv' := [(2, .int x15), (4, .ref (b + k6)), (0, .ref (b + k)), (1, .int a1), (3, .int x2)]) hx hb dX6_standingIn_37 hl (k := 3) rfl (by rw [← e16]; rfl) (by decide) rfl (fun ls hl => ?_)
        obtain ⟨x17, e18, h⟩ := ce_nm_e h
        refine lv_iinc (v := x17) (lv' := [(3, .int x17), (2, .int x15), (4, .ref (b + k6)), (0, .ref (b + k)), (1, .int a1)]) hx hb dX6_standingIn_40 hl (k := 4) rfl (by rw [← e18]; rfl) (by decide) rfl (fun ls hl => ?_)
        refine lv_goto (tgt := 4) hx hb dX6_standingIn_43 (by decide) ?_
        exact ih4 x15 x17 h  _ _ _ hA hS (lv_sub hl [3, 4, 1, 0] rfl)
def f_X6_valueOfLeaf (k : Nat) (M : ce_M) (a1 : Int32) (a2 : Int32) : Option Int32 :=
  if a2 = 0 then
    ce_b1 (f_X6_servedBy k M a1) (fun (x2 : Int32) =>
    some x2)
  else
  if a2 = 1 then
    ce_gi a1 16 (ce_nm (ce_rd M (k + 10) (Int32.toNatClampNeg a1)) (fun (x5 : Int32) =>
    some x5))
  else
  if a2 = 2 then
    ce_b1 (f_X6_waitingIn k M a1) (fun (x9 : Int32) =>
    some x9)
  else
  ce_b1 (f_X6_standingIn k M a1) (fun (x11 : Int32) =>
  some x11)
set_option maxRecDepth 100000 in
set_option maxHeartbeats 4000000 in
theorem c_X6_valueOfLeaf (l : Launch) (X : ce_X) (G : ce_G) (b : Nat) {k : Nat} {a1 : Int32} {a2 : Int32} {M : ce_M} (hk : ce_kd k = 6) {r : Int32} (h : f_X6_valueOfLeaf k M a1 a2 = some r) : ce_Ct l yX6_valueOfLeaf cX6_valueOfLeaf 3 (some .int) 1 24 X G b [.ref (b + k), .int a1, .int a2] M (some (.int r)) M := by
  refine ce_ofW (own := RX6) (by decide) rfl (Nat.le_of_ble_eq_true rfl) (fun p e s m below meth c ls hx hb hr hlocks hml hown hB hF hA hl hS => ?_)
  have hK := hF.1
  have hl : lv_has ls 3 [(0, .ref (b + k)), (1, .int a1), (2, .int a2)] := hl
  unfold f_X6_valueOfLeaf at h
  refine lv_iload_n hx hb dX6_valueOfLeaf_0 rfl (lv_at hl 2 rfl) ?_
  by_cases c1 : a2 = 0
  · have h := ce_it c1 h
    refine lv_tableIn (off := 27) (tgt := 28) hx hb dX6_valueOfLeaf_1 (by rw [c1]; decide) (by rw [c1]; decide) (by rw [c1]; rfl) (by decide) ?_
    refine lv_aload_n hx hb dX6_valueOfLeaf_28 rfl (lv_at hl 0 rfl) ?_
    refine lv_iload_n hx hb dX6_valueOfLeaf_29 rfl (lv_at hl 1 rfl) ?_
    obtain ⟨x2, g3, h⟩ := ce_b1_e h
    refine ce_callVi (As := [.int a1]) (rest := []) hx hb hml hown hB (c_X6_servedBy l X G b hk g3) ce_v_X6_servedBy ce_w681 ⟨Nat.le_of_ble_eq_true rfl, Nat.le_of_ble_eq_true rfl⟩ hF hA hS (ce_rc_6 hK hA hk) hl rfl rfl (Nat.le_of_ble_eq_true rfl) dX6_valueOfLeaf_30 ⟨Nat.le_of_ble_eq_true rfl, Nat.le_of_ble_eq_true rfl⟩ (fun H locs hA hS => ?_)
    cases h
    exact ce_iret hx hb hr hlocks hA hS dX6_valueOfLeaf_33
  have h := ce_ie c1 h
  by_cases c4 : a2 = 1
  · have h := ce_it c4 h
    refine lv_tableIn (off := 33) (tgt := 34) hx hb dX6_valueOfLeaf_1 (by rw [c4]; decide) (by rw [c4]; decide) (by rw [c4]; rfl) (by decide) ?_
    refine lv_aload_n hx hb dX6_valueOfLeaf_34 rfl (lv_at hl 0 rfl) ?_
    refine ce_g_6_3 hx hb hB hown hK hA hk ce_w160 dX6_valueOfLeaf_35 ?_
    refine lv_iload_n hx hb dX6_valueOfLeaf_38 rfl (lv_at hl 1 rfl) ?_
    obtain ⟨i6, h⟩ := ce_gi_e h
    obtain ⟨x5, e7, h⟩ := ce_nm_e h
    refine ce_iald hx hb hK hA 16 (ce_kf_6_3 hk) i6 e7 dX6_valueOfLeaf_39 ?_
    cases h
    exact ce_iret hx hb hr hlocks hA hS dX6_valueOfLeaf_40
  have h := ce_ie c4 h
  by_cases c8 : a2 = 2
  · have h := ce_it c8 h
    refine lv_tableIn (off := 40) (tgt := 41) hx hb dX6_valueOfLeaf_1 (by rw [c8]; decide) (by rw [c8]; decide) (by rw [c8]; rfl) (by decide) ?_
    refine lv_aload_n hx hb dX6_valueOfLeaf_41 rfl (lv_at hl 0 rfl) ?_
    refine lv_iload_n hx hb dX6_valueOfLeaf_42 rfl (lv_at hl 1 rfl) ?_
    obtain ⟨x9, g10, h⟩ := ce_b1_e h
    refine ce_callVi (As := [.int a1]) (rest := []) hx hb hml hown hB (c_X6_waitingIn l X G b hk g10) ce_v_X6_waitingIn ce_w685 ⟨Nat.le_of_ble_eq_true rfl, Nat.le_of_ble_eq_true rfl⟩ hF hA hS (ce_rc_6 hK hA hk) hl rfl rfl (Nat.le_of_ble_eq_true rfl) dX6_valueOfLeaf_43 ⟨Nat.le_of_ble_eq_true rfl, Nat.le_of_ble_eq_true rfl⟩ (fun H locs hA hS => ?_)
    cases h
    exact ce_iret hx hb hr hlocks hA hS dX6_valueOfLeaf_46
  have h := ce_ie c8 h
  have nc1 : (a2).toInt ≠ 0 := fun q => c1 (Int32.toInt_inj.mp (q.trans (by decide)))
  have nc4 : (a2).toInt ≠ 1 := fun q => c4 (Int32.toInt_inj.mp (q.trans (by decide)))
  have nc8 : (a2).toInt ≠ 2 := fun q => c8 (Int32.toInt_inj.mp (q.trans (by decide)))
  refine lv_tableOut (tgt := 47) hx hb dX6_valueOfLeaf_1 (by omega) (by decide) ?_
  refine lv_aload_n hx hb dX6_valueOfLeaf_47 rfl (lv_at hl 0 rfl) ?_
  refine lv_iload_n hx hb dX6_valueOfLeaf_48 rfl (lv_at hl 1 rfl) ?_
  obtain ⟨x11, g12, h⟩ := ce_b1_e h
  refine ce_callVi (As := [.int a1]) (rest := []) hx hb hml hown hB (c_X6_standingIn l X G b hk g12) ce_v_X6_standingIn ce_w689 ⟨Nat.le_of_ble_eq_true rfl, Nat.le_of_ble_eq_true rfl⟩ hF hA hS (ce_rc_6 hK hA hk) hl rfl rfl (Nat.le_of_ble_eq_true rfl) dX6_valueOfLeaf_49 ⟨Nat.le_of_ble_eq_true rfl, Nat.le_of_ble_eq_true rfl⟩ (fun H locs hA hS => ?_)
  cases h
  exact ce_iret hx hb hr hlocks hA hS dX6_valueOfLeaf_52
def f_X6_sumOf_L4 (M : ce_M) (k : Nat) (a1 : Int32) (rec3 : Int32 → Int32 → Option Int32) (x1 : Int32) (x2 : Int32) : Option Int32 :=
  if (ce_rd M k 5) ≤ x2 then
    some x1
  else
    ce_gi x2 8 (ce_nm ((k + 2) + (10 + 7 * (Int32.toNatClampNeg x2))) (fun (k6 : Nat) =>
    ce_b1 (f_X4_valueOf k6 M a1) (fun (x9 : Int32) =>
    ce_nm (x1 + x9) (fun (x11 : Int32) =>
    ce_nm (x2 + 1) (fun (x13 : Int32) =>
    rec3 x11 x13)))))
def f_X6_sumOf (k : Nat) (M : ce_M) (a1 : Int32) : Option Int32 :=
  ce_lp2 (f_X6_sumOf_L4 M k a1) ce_FU 0 0
set_option maxRecDepth 100000 in
set_option maxHeartbeats 4000000 in
theorem c_X6_sumOf (l : Launch) (X : ce_X) (G : ce_G) (b : Nat) {k : Nat} {a1 : Int32} {M : ce_M} (hk : ce_kd k = 6) {r : Int32} (h : f_X6_sumOf k M a1 = some r) : ce_Ct l yX6_sumOf cX6_sumOf 4 (some .int) 1 21 X G b [.ref (b + k), .int a1] M (some (.int r)) M := by
  refine ce_ofW (own := RX6) (by decide) rfl (Nat.le_of_ble_eq_true rfl) (fun p e s m below meth c ls hx hb hr hlocks hml hown hB hF hA hl hS => ?_)
  have hK := hF.1
  have hl : lv_has ls 4 [(0, .ref (b + k)), (1, .int a1)] := hl
  unfold f_X6_sumOf at h
  refine lv_iconst (v := 0) hx hb dX6_sumOf_0 (by decide) ?_
  refine lv_istore_n (lv' := [(2, .int 0), (0, .ref (b + k)), (1, .int a1)]) hx hb dX6_sumOf_1 rfl hl (by decide) rfl (fun ls hl => ?_)
  refine lv_iconst (v := 0) hx hb dX6_sumOf_2 (by decide) ?_
  refine lv_istore_n (lv' := [(3, .int 0), (2, .int 0), (0, .ref (b + k)), (1, .int a1)]) hx hb dX6_sumOf_3 rfl hl (by decide) rfl (fun ls hl => ?_)
  refine ce_lp2_i (y := r) (P := fun (x1 : Int32) (x2 : Int32) => ce_Wg p l e (ce_R 1 21 0 0) s m (([.ref (b + k), .int a1] : List Value).toArray) below meth c 0 0 (MQ below (ce_Q X b M (some (.int r))) ([.ref (b + k), .int a1] : List Value).toArray s 0 0 (ce_Ab b)) X b M 4 [(0, .ref (b + k)), (1, .int a1), (2, .int x1), (3, .int x2)] 4 []) (fun rec3 ih4 x1 x2 h => ?_) _ _ _ h _ _ _ hA hS (lv_sub hl [2, 3, 1, 0] rfl)
  intro H locs ls hA hS hl
  unfold f_X6_sumOf_L4 at h
  refine lv_iload_n hx hb dX6_sumOf_4 rfl (lv_at hl 3 rfl) ?_
  refine lv_aload_n hx hb dX6_sumOf_5 rfl (lv_at hl 0 rfl) ?_
  refine ce_g_6_5 hx hb hB hown hK hA hk ce_w162 dX6_sumOf_6 ?_
  refine lv_icmp_ge (tgt := 31) hx hb dX6_sumOf_9 (by decide) (fun c5 => ?_) (fun c5 => ?_)
  · have h := ce_it c5 h
    refine lv_iload_n hx hb dX6_sumOf_31 rfl (lv_at hl 2 rfl) ?_
    cases h
    exact ce_iret hx hb hr hlocks hA hS dX6_sumOf_32
  · have h := ce_ie c5 h
    refine lv_iload_n hx hb dX6_sumOf_12 rfl (lv_at hl 2 rfl) ?_
    refine lv_aload_n hx hb dX6_sumOf_13 rfl (lv_at hl 0 rfl) ?_
    refine ce_g_6_1 hx hb hB hown hK hA hk ce_w156 dX6_sumOf_14 ?_
    refine lv_iload_n hx hb dX6_sumOf_17 rfl (lv_at hl 3 rfl) ?_
    obtain ⟨i7, h⟩ := ce_gi_e h
    obtain ⟨k6, e8, h⟩ := ce_nm_e h
    have hk6 : ce_kd k6 = 4 := e8 ▸ ce_kf_sub (ce_kf_6_1 hk) (ce_in_lt i7)
    refine ce_aaldS hx hb hK hA (ce_kf_6_1 hk) i7 dX6_sumOf_18 ?_
    refine ce_topr e8 ?_
    refine lv_iload_n hx hb dX6_sumOf_19 rfl (lv_at hl 1 rfl) ?_
    obtain ⟨x9, g10, h⟩ := ce_b1_e h
    refine ce_callVi (As := [.int a1]) (rest := [.int x1]) hx hb hml hown hB (c_X4_valueOf l X G b hk6 g10) ce_v_X4_valueOf ce_w599 ⟨Nat.le_of_ble_eq_true rfl, Nat.le_of_ble_eq_true rfl⟩ hF hA hS (ce_rc_4 hK hA hk6) hl rfl rfl (Nat.le_of_ble_eq_true rfl) dX6_sumOf_20 ⟨Nat.le_of_ble_eq_true rfl, Nat.le_of_ble_eq_true rfl⟩ (fun H locs hA hS => ?_)
    refine lv_iadd hx hb dX6_sumOf_23 ?_
    obtain ⟨x11, e12, h⟩ := ce_nm_e h
    refine ce_top e12 ?_
    refine lv_istore_n (lv' := [(2, .int x11), (0, .ref (b + k)), (1, .int a1), (3, .int x2)]) hx hb dX6_sumOf_24 rfl hl (by decide) rfl (fun ls hl => ?_)
    obtain ⟨x13, e14, h⟩ := ce_nm_e h
    refine lv_iinc (v := x13) (lv' := [(3, .int x13), (2, .int x11), (0, .ref (b + k)), (1, .int a1)]) hx hb dX6_sumOf_25 hl (k := 3) rfl (by rw [← e14]; rfl) (by decide) rfl (fun ls hl => ?_)
    refine lv_goto (tgt := 4) hx hb dX6_sumOf_28 (by decide) ?_
    exact ih4 x11 x13 h  _ _ _ hA hS (lv_sub hl [2, 3, 1, 0] rfl)
def f_X6_valueOfWhole (k : Nat) (M : ce_M) (a1 : Int32) : Option Int32 :=
  if a1 = 0 then
    some (ce_rd M k 5)
  else
  if a1 = 1 then
    ce_b1 (f_X6_sumOf k M 5) (fun (x3 : Int32) =>
    some x3)
  else
  if a1 = 2 then
    some (ce_rd M (k + 3) 6)
  else
  if a1 = 3 then
    some (ce_rd M k 6)
  else
  if a1 = 4 then
    ce_gi (a1 - 4) 4 (ce_nm (ce_rd M (k + 1) (Int32.toNatClampNeg (a1 - 4))) (fun (x8 : Int32) =>
    some x8))
  else
  if a1 = 5 then
    ce_gi (a1 - 4) 4 (ce_nm (ce_rd M (k + 1) (Int32.toNatClampNeg (a1 - 4))) (fun (x12 : Int32) =>
    some x12))
  else
  if a1 = 6 then
    ce_gi (a1 - 4) 4 (ce_nm (ce_rd M (k + 1) (Int32.toNatClampNeg (a1 - 4))) (fun (x16 : Int32) =>
    some x16))
  else
  if a1 = 7 then
    ce_gi (a1 - 4) 4 (ce_nm (ce_rd M (k + 1) (Int32.toNatClampNeg (a1 - 4))) (fun (x20 : Int32) =>
    some x20))
  else
  if a1 = 8 then
    ce_b1 (f_X6_sumOf k M 6) (fun (x24 : Int32) =>
    some x24)
  else
  if a1 = 9 then
    ce_b1 (f_X6_sumOf k M 8) (fun (x27 : Int32) =>
    some x27)
  else
  if a1 = 10 then
    ce_b1 (f_X6_sumOf k M 9) (fun (x30 : Int32) =>
    some x30)
  else
  if a1 = 11 then
    ce_b1 (f_X6_sumOf k M 12) (fun (x33 : Int32) =>
    some x33)
  else
  ce_b1 (f_X6_sumOf k M 10) (fun (x35 : Int32) =>
  some x35)
set_option maxRecDepth 100000 in
set_option maxHeartbeats 4000000 in
theorem c_X6_valueOfWhole (l : Launch) (X : ce_X) (G : ce_G) (b : Nat) {k : Nat} {a1 : Int32} {M : ce_M} (hk : ce_kd k = 6) {r : Int32} (h : f_X6_valueOfWhole k M a1 = some r) : ce_Ct l yX6_valueOfWhole cX6_valueOfWhole 2 (some .int) 2 44 X G b [.ref (b + k), .int a1] M (some (.int r)) M := by
  refine ce_ofW (own := RX6) (by decide) rfl (Nat.le_of_ble_eq_true rfl) (fun p e s m below meth c ls hx hb hr hlocks hml hown hB hF hA hl hS => ?_)
  have hK := hF.1
  have hl : lv_has ls 2 [(0, .ref (b + k)), (1, .int a1)] := hl
  unfold f_X6_valueOfWhole at h
  refine lv_iload_n hx hb dX6_valueOfWhole_0 rfl (lv_at hl 1 rfl) ?_
  by_cases c1 : a1 = 0
  · have h := ce_it c1 h
    refine lv_tableIn (off := 63) (tgt := 64) hx hb dX6_valueOfWhole_1 (by rw [c1]; decide) (by rw [c1]; decide) (by rw [c1]; rfl) (by decide) ?_
    refine lv_aload_n hx hb dX6_valueOfWhole_64 rfl (lv_at hl 0 rfl) ?_
    refine ce_g_6_5 hx hb hB hown hK hA hk ce_w162 dX6_valueOfWhole_65 ?_
    cases h
    exact ce_iret hx hb hr hlocks hA hS dX6_valueOfWhole_68
  have h := ce_ie c1 h
  by_cases c2 : a1 = 1
  · have h := ce_it c2 h
    refine lv_tableIn (off := 68) (tgt := 69) hx hb dX6_valueOfWhole_1 (by rw [c2]; decide) (by rw [c2]; decide) (by rw [c2]; rfl) (by decide) ?_
    refine lv_aload_n hx hb dX6_valueOfWhole_69 rfl (lv_at hl 0 rfl) ?_
    refine lv_iconst (v := 5) hx hb dX6_valueOfWhole_70 (by decide) ?_
    obtain ⟨x3, g4, h⟩ := ce_b1_e h
    refine ce_callVi (As := [.int 5]) (rest := []) hx hb hml hown hB (c_X6_sumOf l X G b hk g4) ce_v_X6_sumOf ce_w595 ⟨Nat.le_of_ble_eq_true rfl, Nat.le_of_ble_eq_true rfl⟩ hF hA hS (ce_rc_6 hK hA hk) hl rfl rfl (Nat.le_of_ble_eq_true rfl) dX6_valueOfWhole_71 ⟨Nat.le_of_ble_eq_true rfl, Nat.le_of_ble_eq_true rfl⟩ (fun H locs hA hS => ?_)
    cases h
    exact ce_iret hx hb hr hlocks hA hS dX6_valueOfWhole_74
  have h := ce_ie c2 h
  by_cases c5 : a1 = 2
  · have h := ce_it c5 h
    refine lv_tableIn (off := 74) (tgt := 75) hx hb dX6_valueOfWhole_1 (by rw [c5]; decide) (by rw [c5]; decide) (by rw [c5]; rfl) (by decide) ?_
    refine lv_aload_n hx hb dX6_valueOfWhole_75 rfl (lv_at hl 0 rfl) ?_
    refine ce_g_6_2 hx hb hB hown hK hA hk ce_w158 dX6_valueOfWhole_76 ?_
    refine ce_g_1_6 hx hb hB hown hK hA (ce_kf_6_2 hk) ce_w47 dX6_valueOfWhole_79 ?_
    cases h
    exact ce_iret hx hb hr hlocks hA hS dX6_valueOfWhole_82
  have h := ce_ie c5 h
  by_cases c6 : a1 = 3
  · have h := ce_it c6 h
    refine lv_tableIn (off := 82) (tgt := 83) hx hb dX6_valueOfWhole_1 (by rw [c6]; decide) (by rw [c6]; decide) (by rw [c6]; rfl) (by decide) ?_
    refine lv_aload_n hx hb dX6_valueOfWhole_83 rfl (lv_at hl 0 rfl) ?_
    refine ce_g_6_6 hx hb hB hown hK hA hk ce_w163 dX6_valueOfWhole_84 ?_
    cases h
    exact ce_iret hx hb hr hlocks hA hS dX6_valueOfWhole_87
  have h := ce_ie c6 h
  by_cases c7 : a1 = 4
  · have h := ce_it c7 h
    refine lv_tableIn (off := 87) (tgt := 88) hx hb dX6_valueOfWhole_1 (by rw [c7]; decide) (by rw [c7]; decide) (by rw [c7]; rfl) (by decide) ?_
    refine lv_aload_n hx hb dX6_valueOfWhole_88 rfl (lv_at hl 0 rfl) ?_
    refine ce_g_6_0 hx hb hB hown hK hA hk ce_w155 dX6_valueOfWhole_89 ?_
    refine lv_iload_n hx hb dX6_valueOfWhole_92 rfl (lv_at hl 1 rfl) ?_
    refine lv_iconst (v := 4) hx hb dX6_valueOfWhole_93 (by decide) ?_
    refine lv_isub hx hb dX6_valueOfWhole_94 ?_
    obtain ⟨i9, h⟩ := ce_gi_e h
    obtain ⟨x8, e10, h⟩ := ce_nm_e h
    refine ce_iald hx hb hK hA 4 (ce_kf_6_0 hk) i9 e10 dX6_valueOfWhole_95 ?_
    cases h
    exact ce_iret hx hb hr hlocks hA hS dX6_valueOfWhole_96
  have h := ce_ie c7 h
  by_cases c11 : a1 = 5
  · have h := ce_it c11 h
    refine lv_tableIn (off := 87) (tgt := 88) hx hb dX6_valueOfWhole_1 (by rw [c11]; decide) (by rw [c11]; decide) (by rw [c11]; rfl) (by decide) ?_
    refine lv_aload_n hx hb dX6_valueOfWhole_88 rfl (lv_at hl 0 rfl) ?_
    refine ce_g_6_0 hx hb hB hown hK hA hk ce_w155 dX6_valueOfWhole_89 ?_
    refine lv_iload_n hx hb dX6_valueOfWhole_92 rfl (lv_at hl 1 rfl) ?_
    refine lv_iconst (v := 4) hx hb dX6_valueOfWhole_93 (by decide) ?_
    refine lv_isub hx hb dX6_valueOfWhole_94 ?_
    obtain ⟨i13, h⟩ := ce_gi_e h
    obtain ⟨x12, e14, h⟩ := ce_nm_e h
    refine ce_iald hx hb hK hA 4 (ce_kf_6_0 hk) i13 e14 dX6_valueOfWhole_95 ?_
    cases h
    exact ce_iret hx hb hr hlocks hA hS dX6_valueOfWhole_96
  have h := ce_ie c11 h
  by_cases c15 : a1 = 6
  · have h := ce_it c15 h
    refine lv_tableIn (off := 87) (tgt := 88) hx hb dX6_valueOfWhole_1 (by rw [c15]; decide) (by rw [c15]; decide) (by rw [c15]; rfl) (by decide) ?_
    refine lv_aload_n hx hb dX6_valueOfWhole_88 rfl (lv_at hl 0 rfl) ?_
    refine ce_g_6_0 hx hb hB hown hK hA hk ce_w155 dX6_valueOfWhole_89 ?_
    refine lv_iload_n hx hb dX6_valueOfWhole_92 rfl (lv_at hl 1 rfl) ?_
    refine lv_iconst (v := 4) hx hb dX6_valueOfWhole_93 (by decide) ?_
    refine lv_isub hx hb dX6_valueOfWhole_94 ?_
    obtain ⟨i17, h⟩ := ce_gi_e h
    obtain ⟨x16, e18, h⟩ := ce_nm_e h
    refine ce_iald hx hb hK hA 4 (ce_kf_6_0 hk) i17 e18 dX6_valueOfWhole_95 ?_
    cases h
    exact ce_iret hx hb hr hlocks hA hS dX6_valueOfWhole_96
  have h := ce_ie c15 h
  by_cases c19 : a1 = 7
  · have h := ce_it c19 h
    refine lv_tableIn (off := 87) (tgt := 88) hx hb dX6_valueOfWhole_1 (by rw [c19]; decide) (by rw [c19]; decide) (by rw [c19]; rfl) (by decide) ?_
    refine lv_aload_n hx hb dX6_valueOfWhole_88 rfl (lv_at hl 0 rfl) ?_
    refine ce_g_6_0 hx hb hB hown hK hA hk ce_w155 dX6_valueOfWhole_89 ?_
    refine lv_iload_n hx hb dX6_valueOfWhole_92 rfl (lv_at hl 1 rfl) ?_
    refine lv_iconst (v := 4) hx hb dX6_valueOfWhole_93 (by decide) ?_
    refine lv_isub hx hb dX6_valueOfWhole_94 ?_
    obtain ⟨i21, h⟩ := ce_gi_e h
    obtain ⟨x20, e22, h⟩ := ce_nm_e h
    refine ce_iald hx hb hK hA 4 (ce_kf_6_0 hk) i21 e22 dX6_valueOfWhole_95 ?_
    cases h
    exact ce_iret hx hb hr hlocks hA hS dX6_valueOfWhole_96
  have h := ce_ie c19 h
  by_cases c23 : a1 = 8
  · have h := ce_it c23 h
    refine lv_tableIn (off := 96) (tgt := 97) hx hb dX6_valueOfWhole_1 (by rw [c23]; decide) (by rw [c23]; decide) (by rw [c23]; rfl) (by decide) ?_
    refine lv_aload_n hx hb dX6_valueOfWhole_97 rfl (lv_at hl 0 rfl) ?_
    refine lv_bipush (v := 6) hx hb dX6_valueOfWhole_98 (by decide) ?_
    obtain ⟨x24, g25, h⟩ := ce_b1_e h
    refine ce_callVi (As := [.int 6]) (rest := []) hx hb hml hown hB (c_X6_sumOf l X G b hk g25) ce_v_X6_sumOf ce_w595 ⟨Nat.le_of_ble_eq_true rfl, Nat.le_of_ble_eq_true rfl⟩ hF hA hS (ce_rc_6 hK hA hk) hl rfl rfl (Nat.le_of_ble_eq_true rfl) dX6_valueOfWhole_100 ⟨Nat.le_of_ble_eq_true rfl, Nat.le_of_ble_eq_true rfl⟩ (fun H locs hA hS => ?_)
    cases h
    exact ce_iret hx hb hr hlocks hA hS dX6_valueOfWhole_103
  have h := ce_ie c23 h
  by_cases c26 : a1 = 9
  · have h := ce_it c26 h
    refine lv_tableIn (off := 103) (tgt := 104) hx hb dX6_valueOfWhole_1 (by rw [c26]; decide) (by rw [c26]; decide) (by rw [c26]; rfl) (by decide) ?_
    refine lv_aload_n hx hb dX6_valueOfWhole_104 rfl (lv_at hl 0 rfl) ?_
    refine lv_bipush (v := 8) hx hb dX6_valueOfWhole_105 (by decide) ?_
    obtain ⟨x27, g28, h⟩ := ce_b1_e h
    refine ce_callVi (As := [.int 8]) (rest := []) hx hb hml hown hB (c_X6_sumOf l X G b hk g28) ce_v_X6_sumOf ce_w595 ⟨Nat.le_of_ble_eq_true rfl, Nat.le_of_ble_eq_true rfl⟩ hF hA hS (ce_rc_6 hK hA hk) hl rfl rfl (Nat.le_of_ble_eq_true rfl) dX6_valueOfWhole_107 ⟨Nat.le_of_ble_eq_true rfl, Nat.le_of_ble_eq_true rfl⟩ (fun H locs hA hS => ?_)
    cases h
    exact ce_iret hx hb hr hlocks hA hS dX6_valueOfWhole_110
  have h := ce_ie c26 h
  by_cases c29 : a1 = 10
  · have h := ce_it c29 h
    refine lv_tableIn (off := 110) (tgt := 111) hx hb dX6_valueOfWhole_1 (by rw [c29]; decide) (by rw [c29]; decide) (by rw [c29]; rfl) (by decide) ?_
    refine lv_aload_n hx hb dX6_valueOfWhole_111 rfl (lv_at hl 0 rfl) ?_
    refine lv_bipush (v := 9) hx hb dX6_valueOfWhole_112 (by decide) ?_
    obtain ⟨x30, g31, h⟩ := ce_b1_e h
    refine ce_callVi (As := [.int 9]) (rest := []) hx hb hml hown hB (c_X6_sumOf l X G b hk g31) ce_v_X6_sumOf ce_w595 ⟨Nat.le_of_ble_eq_true rfl, Nat.le_of_ble_eq_true rfl⟩ hF hA hS (ce_rc_6 hK hA hk) hl rfl rfl (Nat.le_of_ble_eq_true rfl) dX6_valueOfWhole_114 ⟨Nat.le_of_ble_eq_true rfl, Nat.le_of_ble_eq_true rfl⟩ (fun H locs hA hS => ?_)
    cases h
    exact ce_iret hx hb hr hlocks hA hS dX6_valueOfWhole_117
  have h := ce_ie c29 h
  by_cases c32 : a1 = 11
  · have h := ce_it c32 h
    refine lv_tableIn (off := 117) (tgt := 118) hx hb dX6_valueOfWhole_1 (by rw [c32]; decide) (by rw [c32]; decide) (by rw [c32]; rfl) (by decide) ?_
    refine lv_aload_n hx hb dX6_valueOfWhole_118 rfl (lv_at hl 0 rfl) ?_
    refine lv_bipush (v := 12) hx hb dX6_valueOfWhole_119 (by decide) ?_
    obtain ⟨x33, g34, h⟩ := ce_b1_e h
    refine ce_callVi (As := [.int 12]) (rest := []) hx hb hml hown hB (c_X6_sumOf l X G b hk g34) ce_v_X6_sumOf ce_w595 ⟨Nat.le_of_ble_eq_true rfl, Nat.le_of_ble_eq_true rfl⟩ hF hA hS (ce_rc_6 hK hA hk) hl rfl rfl (Nat.le_of_ble_eq_true rfl) dX6_valueOfWhole_121 ⟨Nat.le_of_ble_eq_true rfl, Nat.le_of_ble_eq_true rfl⟩ (fun H locs hA hS => ?_)
    cases h
    exact ce_iret hx hb hr hlocks hA hS dX6_valueOfWhole_124
  have h := ce_ie c32 h
  have nc1 : (a1).toInt ≠ 0 := fun q => c1 (Int32.toInt_inj.mp (q.trans (by decide)))
  have nc2 : (a1).toInt ≠ 1 := fun q => c2 (Int32.toInt_inj.mp (q.trans (by decide)))
  have nc5 : (a1).toInt ≠ 2 := fun q => c5 (Int32.toInt_inj.mp (q.trans (by decide)))
  have nc6 : (a1).toInt ≠ 3 := fun q => c6 (Int32.toInt_inj.mp (q.trans (by decide)))
  have nc7 : (a1).toInt ≠ 4 := fun q => c7 (Int32.toInt_inj.mp (q.trans (by decide)))
  have nc11 : (a1).toInt ≠ 5 := fun q => c11 (Int32.toInt_inj.mp (q.trans (by decide)))
  have nc15 : (a1).toInt ≠ 6 := fun q => c15 (Int32.toInt_inj.mp (q.trans (by decide)))
  have nc19 : (a1).toInt ≠ 7 := fun q => c19 (Int32.toInt_inj.mp (q.trans (by decide)))
  have nc23 : (a1).toInt ≠ 8 := fun q => c23 (Int32.toInt_inj.mp (q.trans (by decide)))
  have nc26 : (a1).toInt ≠ 9 := fun q => c26 (Int32.toInt_inj.mp (q.trans (by decide)))
  have nc29 : (a1).toInt ≠ 10 := fun q => c29 (Int32.toInt_inj.mp (q.trans (by decide)))
  have nc32 : (a1).toInt ≠ 11 := fun q => c32 (Int32.toInt_inj.mp (q.trans (by decide)))
  refine lv_tableOut (tgt := 125) hx hb dX6_valueOfWhole_1 (by omega) (by decide) ?_
  refine lv_aload_n hx hb dX6_valueOfWhole_125 rfl (lv_at hl 0 rfl) ?_
  refine lv_bipush (v := 10) hx hb dX6_valueOfWhole_126 (by decide) ?_
  obtain ⟨x35, g36, h⟩ := ce_b1_e h
  refine ce_callVi (As := [.int 10]) (rest := []) hx hb hml hown hB (c_X6_sumOf l X G b hk g36) ce_v_X6_sumOf ce_w595 ⟨Nat.le_of_ble_eq_true rfl, Nat.le_of_ble_eq_true rfl⟩ hF hA hS (ce_rc_6 hK hA hk) hl rfl rfl (Nat.le_of_ble_eq_true rfl) dX6_valueOfWhole_128 ⟨Nat.le_of_ble_eq_true rfl, Nat.le_of_ble_eq_true rfl⟩ (fun H locs hA hS => ?_)
  cases h
  exact ce_iret hx hb hr hlocks hA hS dX6_valueOfWhole_131
def f_X5_keep (k : Nat) (M : ce_M) (a1 : Nat) : Option ce_M :=
  ce_gi (ce_rd M k 1) 4 (ce_nm ((k + 1) + (1 + 68 * (Int32.toNatClampNeg (ce_rd M k 1)))) (fun (k1 : Nat) =>
  ce_b1 (f_X6_copyFrom k1 M a1) (fun (M4 : ce_M) =>
  ce_nm (ce_wr M4 k 1 (((ce_rd M4 k 1) + 1) - ((ce_rd M4 k 1) + 1) / 4 * 4)) (fun (M6 : ce_M) =>
  ce_nm (ce_wr M6 k 2 (ce_min ((ce_rd M6 k 2) + 1) 4)) (fun (M8 : ce_M) =>
  some M8)))))
set_option maxRecDepth 100000 in
set_option maxHeartbeats 4000000 in
theorem c_X5_keep (l : Launch) (X : ce_X) (G : ce_G) (b : Nat) {k : Nat} {a1 : Nat} {M : ce_M} (hk : ce_kd k = 5) (ha1 : ce_kd a1 = 6) {M' : ce_M} (h : f_X5_keep k M a1 = some M') : ce_Ct l yX5_keep cX5_keep 2 none 4 104 X G b [.ref (b + k), .ref (b + a1)] M none M' := by
  refine ce_ofW (own := RX5) (by decide) rfl (Nat.le_of_ble_eq_true rfl) (fun p e s m below meth c ls hx hb hr hlocks hml hown hB hF hA hl hS => ?_)
  have hK := hF.1
  have hl : lv_has ls 2 [(0, .ref (b + k)), (1, .ref (b + a1))] := hl
  unfold f_X5_keep at h
  refine lv_aload_n hx hb dX5_keep_0 rfl (lv_at hl 0 rfl) ?_
  refine ce_g_5_0 hx hb hB hown hK hA hk ce_w189 dX5_keep_1 ?_
  refine lv_aload_n hx hb dX5_keep_4 rfl (lv_at hl 0 rfl) ?_
  refine ce_g_5_1 hx hb hB hown hK hA hk ce_w190 dX5_keep_5 ?_
  obtain ⟨i2, h⟩ := ce_gi_e h
  obtain ⟨k1, e3, h⟩ := ce_nm_e h
  have hk1 : ce_kd k1 = 6 := e3 ▸ ce_kf_world (ce_kf_5_0 hk) (ce_in_lt i2)
  refine ce_aaldW hx hb hK hA (ce_kf_5_0 hk) i2 dX5_keep_8 ?_
  refine ce_topr e3 ?_
  refine lv_aload_n hx hb dX5_keep_9 rfl (lv_at hl 1 rfl) ?_
  obtain ⟨M4, g5, h⟩ := ce_b1_e h
  refine ce_callVv (As := [.ref (b + a1)]) (rest := []) hx hb hml hown hB (c_X6_copyFrom l X G b hk1 ha1 g5) ce_v_X6_copyFrom ce_w415 ⟨Nat.le_of_ble_eq_true rfl, Nat.le_of_ble_eq_true rfl⟩ hF hA hS (ce_rc_6 hK hA hk1) hl rfl rfl (Nat.le_of_ble_eq_true rfl) dX5_keep_10 ⟨Nat.le_of_ble_eq_true rfl, Nat.le_of_ble_eq_true rfl⟩ (fun H locs hA hS => ?_)
  refine lv_aload_n hx hb dX5_keep_13 rfl (lv_at hl 0 rfl) ?_
  refine lv_aload_n hx hb dX5_keep_14 rfl (lv_at hl 0 rfl) ?_
  refine ce_g_5_1 hx hb hB hown hK hA hk ce_w190 dX5_keep_15 ?_
  refine lv_iconst (v := 1) hx hb dX5_keep_18 (by decide) ?_
  refine lv_iadd hx hb dX5_keep_19 ?_
  refine lv_iconst (v := 4) hx hb dX5_keep_20 (by decide) ?_
  refine lv_irem hx hb dX5_keep_21 (by decide) ?_
  obtain ⟨M6, e7, h⟩ := ce_nm_e h
  refine ce_p_5_1 hx hb hB hown hK hA hS hk ce_w190 dX5_keep_22 e7 (fun H locs hA hS => ?_)
  refine lv_aload_n hx hb dX5_keep_25 rfl (lv_at hl 0 rfl) ?_
  refine lv_aload_n hx hb dX5_keep_26 rfl (lv_at hl 0 rfl) ?_
  refine ce_g_5_2 hx hb hB hown hK hA hk ce_w191 dX5_keep_27 ?_
  refine lv_iconst (v := 1) hx hb dX5_keep_30 (by decide) ?_
  refine lv_iadd hx hb dX5_keep_31 ?_
  refine lv_iconst (v := 4) hx hb dX5_keep_32 (by decide) ?_
  refine ce_mmin hx hb hml hl hown (hB _ ce_w441) hB (Nat.le_of_ble_eq_true rfl) (Nat.le_of_ble_eq_true rfl) dX5_keep_33 ⟨Nat.le_of_ble_eq_true rfl, Nat.le_of_ble_eq_true rfl⟩ ?_
  obtain ⟨M8, e9, h⟩ := ce_nm_e h
  refine ce_p_5_2 hx hb hB hown hK hA hS hk ce_w191 dX5_keep_36 e9 (fun H locs hA hS => ?_)
  cases h
  exact ce_vret hx hb hr hlocks hA hS dX5_keep_39
def f_X5_restoreTo (k : Nat) (M : ce_M) (a1 : Nat) : Option (ce_M × Int32) :=
  ce_nm (ce_wr M k 1 ((((ce_rd M k 1) + 4) - 1) - (((ce_rd M k 1) + 4) - 1) / 4 * 4)) (fun (M1 : ce_M) =>
  ce_gi (ce_rd M1 k 1) 4 (ce_nm ((k + 1) + (1 + 68 * (Int32.toNatClampNeg (ce_rd M1 k 1)))) (fun (k3 : Nat) =>
  ce_b1 (f_X6_copyFrom a1 M1 k3) (fun (M6 : ce_M) =>
  ce_nm (ce_wr M6 k 2 ((ce_rd M6 k 2) - 1)) (fun (M8 : ce_M) =>
  some (M8, (ce_rd M8 k 2)))))))
set_option maxRecDepth 100000 in
set_option maxHeartbeats 4000000 in
theorem c_X5_restoreTo (l : Launch) (X : ce_X) (G : ce_G) (b : Nat) {k : Nat} {a1 : Nat} {M : ce_M} (hk : ce_kd k = 5) (ha1 : ce_kd a1 = 6) {M' : ce_M} {r : Int32} (h : f_X5_restoreTo k M a1 = some (M', r)) : ce_Ct l yX5_restoreTo cX5_restoreTo 2 (some .int) 4 104 X G b [.ref (b + k), .ref (b + a1)] M (some (.int r)) M' := by
  refine ce_ofW (own := RX5) (by decide) rfl (Nat.le_of_ble_eq_true rfl) (fun p e s m below meth c ls hx hb hr hlocks hml hown hB hF hA hl hS => ?_)
  have hK := hF.1
  have hl : lv_has ls 2 [(0, .ref (b + k)), (1, .ref (b + a1))] := hl
  unfold f_X5_restoreTo at h
  refine lv_aload_n hx hb dX5_restoreTo_0 rfl (lv_at hl 0 rfl) ?_
  refine lv_aload_n hx hb dX5_restoreTo_1 rfl (lv_at hl 0 rfl) ?_
  refine ce_g_5_1 hx hb hB hown hK hA hk ce_w190 dX5_restoreTo_2 ?_
  refine lv_iconst (v := 4) hx hb dX5_restoreTo_5 (by decide) ?_
  refine lv_iadd hx hb dX5_restoreTo_6 ?_
  refine lv_iconst (v := 1) hx hb dX5_restoreTo_7 (by decide) ?_
  refine lv_isub hx hb dX5_restoreTo_8 ?_
  refine lv_iconst (v := 4) hx hb dX5_restoreTo_9 (by decide) ?_
  refine lv_irem hx hb dX5_restoreTo_10 (by decide) ?_
  obtain ⟨M1, e2, h⟩ := ce_nm_e h
  refine ce_p_5_1 hx hb hB hown hK hA hS hk ce_w190 dX5_restoreTo_11 e2 (fun H locs hA hS => ?_)
  refine lv_aload_n hx hb dX5_restoreTo_14 rfl (lv_at hl 1 rfl) ?_
  refine lv_aload_n hx hb dX5_restoreTo_15 rfl (lv_at hl 0 rfl) ?_
  refine ce_g_5_0 hx hb hB hown hK hA hk ce_w189 dX5_restoreTo_16 ?_
  refine lv_aload_n hx hb dX5_restoreTo_19 rfl (lv_at hl 0 rfl) ?_
  refine ce_g_5_1 hx hb hB hown hK hA hk ce_w190 dX5_restoreTo_20 ?_
  obtain ⟨i4, h⟩ := ce_gi_e h
  obtain ⟨k3, e5, h⟩ := ce_nm_e h
  have hk3 : ce_kd k3 = 6 := e5 ▸ ce_kf_world (ce_kf_5_0 hk) (ce_in_lt i4)
  refine ce_aaldW hx hb hK hA (ce_kf_5_0 hk) i4 dX5_restoreTo_23 ?_
  refine ce_topr e5 ?_
  obtain ⟨M6, g7, h⟩ := ce_b1_e h
  refine ce_callVv (As := [.ref (b + k3)]) (rest := []) hx hb hml hown hB (c_X6_copyFrom l X G b ha1 hk3 g7) ce_v_X6_copyFrom ce_w415 ⟨Nat.le_of_ble_eq_true rfl, Nat.le_of_ble_eq_true rfl⟩ hF hA hS (ce_rc_6 hK hA ha1) hl rfl rfl (Nat.le_of_ble_eq_true rfl) dX5_restoreTo_24 ⟨Nat.le_of_ble_eq_true rfl, Nat.le_of_ble_eq_true rfl⟩ (fun H locs hA hS => ?_)
  refine lv_aload_n hx hb dX5_restoreTo_27 rfl (lv_at hl 0 rfl) ?_
  refine lv_dup hx hb dX5_restoreTo_28 rfl ?_
  refine ce_g_5_2 hx hb hB hown hK hA hk ce_w191 dX5_restoreTo_29 ?_
  refine lv_iconst (v := 1) hx hb dX5_restoreTo_32 (by decide) ?_
  refine lv_isub hx hb dX5_restoreTo_33 ?_
  obtain ⟨M8, e9, h⟩ := ce_nm_e h
  refine ce_p_5_2 hx hb hB hown hK hA hS hk ce_w191 dX5_restoreTo_34 e9 (fun H locs hA hS => ?_)
  refine lv_aload_n hx hb dX5_restoreTo_37 rfl (lv_at hl 0 rfl) ?_
  refine ce_g_5_2 hx hb hB hown hK hA hk ce_w191 dX5_restoreTo_38 ?_
  cases h
  exact ce_iret hx hb hr hlocks hA hS dX5_restoreTo_41
