def f_X2_isFull (k : Nat) (M : ce_M) : Option Int32 :=
  if (ce_rd M k 1) < 12 then
    some 0
  else
    some 1
set_option maxRecDepth 100000 in
set_option maxHeartbeats 4000000 in
theorem c_X2_isFull (l : Launch) (X : ce_X) (G : ce_G) (b : Nat) {k : Nat} {M : ce_M} (hk : ce_kd k = 2) {r : Int32} (h : f_X2_isFull k M = some r) : ce_Ct l yX2_isFull cX2_isFull 1 (some .boolean) 0 0 X G b [.ref (b + k)] M (some (.int r)) M := by
  refine ce_ofW (own := RX2) (by decide) rfl (Nat.le_of_ble_eq_true rfl) (fun p e s m below meth c ls hx hb hr hlocks hml hown hB hF hA hl hS => ?_)
  have hK := hF.1
  have hl : lv_has ls 1 [(0, .ref (b + k))] := hl
  unfold f_X2_isFull at h
  refine lv_aload_n hx hb dX2_isFull_0 rfl (lv_at hl 0 rfl) ?_
  refine ce_g_2_1 hx hb hB hown hK hA hk ce_w95 dX2_isFull_1 ?_
  refine lv_bipush (v := 12) hx hb dX2_isFull_4 (by decide) ?_
  refine lv_icmp_lt (tgt := 13) hx hb dX2_isFull_6 (by decide) (fun c1 => ?_) (fun c1 => ?_)
  · have h := ce_it c1 h
    refine lv_iconst (v := 0) hx hb dX2_isFull_13 (by decide) ?_
    cases h
    exact ce_zret hx hb hr hlocks (Or.inl rfl) hA hS dX2_isFull_14
  · have h := ce_ie c1 h
    refine lv_iconst (v := 1) hx hb dX2_isFull_9 (by decide) ?_
    refine lv_goto (tgt := 14) hx hb dX2_isFull_10 (by decide) ?_
    cases h
    exact ce_zret hx hb hr hlocks (Or.inr rfl) hA hS dX2_isFull_14
def f_X2_add (k : Nat) (M : ce_M) (a1 : Int32) : Option ce_M :=
  if 12 ≤ (ce_rd M k 1) then
    some M
  else
    ce_gi (ce_rd M k 1) 12 (ce_nm (ce_wr M (k + 1) (Int32.toNatClampNeg (ce_rd M k 1)) a1) (fun (M2 : ce_M) =>
    ce_nm (ce_wr M2 k 1 ((ce_rd M2 k 1) + 1)) (fun (M5 : ce_M) =>
    some M5)))
set_option maxRecDepth 100000 in
set_option maxHeartbeats 4000000 in
theorem c_X2_add (l : Launch) (X : ce_X) (G : ce_G) (b : Nat) {k : Nat} {a1 : Int32} {M : ce_M} (hk : ce_kd k = 2) {M' : ce_M} (h : f_X2_add k M a1 = some M') : ce_Ct l yX2_add cX2_add 2 none 0 0 X G b [.ref (b + k), .int a1] M none M' := by
  refine ce_ofW (own := RX2) (by decide) rfl (Nat.le_of_ble_eq_true rfl) (fun p e s m below meth c ls hx hb hr hlocks hml hown hB hF hA hl hS => ?_)
  have hK := hF.1
  have hl : lv_has ls 2 [(0, .ref (b + k)), (1, .int a1)] := hl
  unfold f_X2_add at h
  refine lv_aload_n hx hb dX2_add_0 rfl (lv_at hl 0 rfl) ?_
  refine ce_g_2_1 hx hb hB hown hK hA hk ce_w95 dX2_add_1 ?_
  refine lv_bipush (v := 12) hx hb dX2_add_4 (by decide) ?_
  refine lv_icmp_ge (tgt := 29) hx hb dX2_add_6 (by decide) (fun c1 => ?_) (fun c1 => ?_)
  · have h := ce_it c1 h
    cases h
    exact ce_vret hx hb hr hlocks hA hS dX2_add_29
  · have h := ce_ie c1 h
    refine lv_aload_n hx hb dX2_add_9 rfl (lv_at hl 0 rfl) ?_
    refine ce_g_2_0 hx hb hB hown hK hA hk ce_w94 dX2_add_10 ?_
    refine lv_aload_n hx hb dX2_add_13 rfl (lv_at hl 0 rfl) ?_
    refine ce_g_2_1 hx hb hB hown hK hA hk ce_w95 dX2_add_14 ?_
    refine lv_iload_n hx hb dX2_add_17 rfl (lv_at hl 1 rfl) ?_
    obtain ⟨i3, h⟩ := ce_gi_e h
    obtain ⟨M2, e4, h⟩ := ce_nm_e h
    refine ce_iast hx hb hK hA hS 12 (ce_kf_2_0 hk) i3 dX2_add_18 e4 (fun H locs hA hS => ?_)
    refine lv_aload_n hx hb dX2_add_19 rfl (lv_at hl 0 rfl) ?_
    refine lv_dup hx hb dX2_add_20 rfl ?_
    refine ce_g_2_1 hx hb hB hown hK hA hk ce_w95 dX2_add_21 ?_
    refine lv_iconst (v := 1) hx hb dX2_add_24 (by decide) ?_
    refine lv_iadd hx hb dX2_add_25 ?_
    obtain ⟨M5, e6, h⟩ := ce_nm_e h
    refine ce_p_2_1 hx hb hB hown hK hA hS hk ce_w95 dX2_add_26 e6 (fun H locs hA hS => ?_)
    cases h
    exact ce_vret hx hb hr hlocks hA hS dX2_add_29
def f_X2_removeOldest_L2 (k : Nat) (a1 : Int32) (u7 : ce_M → Int32 → Option ce_M) (rec3 : ce_M → Int32 → Option ce_M) (M1 : ce_M) (x2 : Int32) : Option ce_M :=
  if (ce_rd M1 k 1) ≤ x2 then
    u7 M1 a1
  else
    ce_gi x2 12 (ce_nm (ce_rd M1 (k + 1) (Int32.toNatClampNeg x2)) (fun (x12 : Int32) =>
    ce_gi (x2 - a1) 12 (ce_nm (ce_wr M1 (k + 1) (Int32.toNatClampNeg (x2 - a1)) x12) (fun (M15 : ce_M) =>
    ce_nm (x2 + 1) (fun (x18 : Int32) =>
    rec3 M15 x18)))))
def f_X2_removeOldest (k : Nat) (M : ce_M) (a1 : Int32) : Option ce_M :=
  ce_nm (fun (M5 : ce_M) (x6 : Int32) =>
      ce_nm (ce_wr M5 k 1 ((ce_rd M5 k 1) - x6)) (fun (M8 : ce_M) =>
      some M8)) (fun (u7 : ce_M → Int32 → Option ce_M) =>
  ce_lp2 (f_X2_removeOldest_L2 k a1 u7) ce_FU M a1)
set_option maxRecDepth 100000 in
set_option maxHeartbeats 4000000 in
theorem c_X2_removeOldest (l : Launch) (X : ce_X) (G : ce_G) (b : Nat) {k : Nat} {a1 : Int32} {M : ce_M} (hk : ce_kd k = 2) {M' : ce_M} (h : f_X2_removeOldest k M a1 = some M') : ce_Ct l yX2_removeOldest cX2_removeOldest 3 none 0 0 X G b [.ref (b + k), .int a1] M none M' := by
  refine ce_ofW (own := RX2) (by decide) rfl (Nat.le_of_ble_eq_true rfl) (fun p e s m below meth c ls hx hb hr hlocks hml hown hB hF hA hl hS => ?_)
  have hK := hF.1
  have hl : lv_has ls 3 [(0, .ref (b + k)), (1, .int a1)] := hl
  unfold f_X2_removeOldest at h
  refine lv_iload_n hx hb dX2_removeOldest_0 rfl (lv_at hl 1 rfl) ?_
  refine lv_istore_n (lv' := [(2, .int a1), (0, .ref (b + k)), (1, .int a1)]) hx hb dX2_removeOldest_1 rfl hl (by decide) rfl (fun ls hl => ?_)
  obtain ⟨u7, e10, h⟩ := ce_nm_e h
  have Ju7 : ∀ (M5 : ce_M) (x6 : Int32), u7 M5 x6 = some M' → ce_Wg p l e (ce_R 0 0 0 0) s m (([.ref (b + k), .int a1] : List Value).toArray) below meth c 0 0 (MQ below (ce_Q X b M' none) ([.ref (b + k), .int a1] : List Value).toArray s 0 0 (ce_Ab b)) X b M5 3 [(0, .ref (b + k)), (1, .int x6)] 30 [] := by
    intro M5 x6 h  H locs ls hA hS hl
    subst e10
    refine lv_aload_n hx hb dX2_removeOldest_30 rfl (lv_at hl 0 rfl) ?_
    refine lv_dup hx hb dX2_removeOldest_31 rfl ?_
    refine ce_g_2_1 hx hb hB hown hK hA hk ce_w95 dX2_removeOldest_32 ?_
    refine lv_iload_n hx hb dX2_removeOldest_35 rfl (lv_at hl 1 rfl) ?_
    refine lv_isub hx hb dX2_removeOldest_36 ?_
    obtain ⟨M8, e9, h⟩ := ce_nm_e h
    refine ce_p_2_1 hx hb hB hown hK hA hS hk ce_w95 dX2_removeOldest_37 e9 (fun H locs hA hS => ?_)
    cases h
    exact ce_vret hx hb hr hlocks hA hS dX2_removeOldest_40
  refine ce_lp2_i (y := M') (P := fun (M1 : ce_M) (x2 : Int32) => ce_Wg p l e (ce_R 0 0 0 0) s m (([.ref (b + k), .int a1] : List Value).toArray) below meth c 0 0 (MQ below (ce_Q X b M' none) ([.ref (b + k), .int a1] : List Value).toArray s 0 0 (ce_Ab b)) X b M1 3 [(0, .ref (b + k)), (1, .int a1), (2, .int x2)] 2 []) (fun rec3 ih4 M1 x2 h => ?_) _ _ _ h _ _ _ hA hS (lv_sub hl [1, 2, 0] rfl)
  intro H locs ls hA hS hl
  unfold f_X2_removeOldest_L2 at h
  refine lv_iload_n hx hb dX2_removeOldest_2 rfl (lv_at hl 2 rfl) ?_
  refine lv_aload_n hx hb dX2_removeOldest_3 rfl (lv_at hl 0 rfl) ?_
  refine ce_g_2_1 hx hb hB hown hK hA hk ce_w95 dX2_removeOldest_4 ?_
  refine lv_icmp_ge (tgt := 30) hx hb dX2_removeOldest_7 (by decide) (fun c11 => ?_) (fun c11 => ?_)
  · have h := ce_it c11 h
    exact Ju7 M1 a1 h  _ _ _ hA hS (lv_sub hl [0, 1] rfl)
  · have h := ce_ie c11 h
    refine lv_aload_n hx hb dX2_removeOldest_10 rfl (lv_at hl 0 rfl) ?_
    refine ce_g_2_0 hx hb hB hown hK hA hk ce_w94 dX2_removeOldest_11 ?_
    refine lv_iload_n hx hb dX2_removeOldest_14 rfl (lv_at hl 2 rfl) ?_
    refine lv_iload_n hx hb dX2_removeOldest_15 rfl (lv_at hl 1 rfl) ?_
    refine lv_isub hx hb dX2_removeOldest_16 ?_
    refine lv_aload_n hx hb dX2_removeOldest_17 rfl (lv_at hl 0 rfl) ?_
    refine ce_g_2_0 hx hb hB hown hK hA hk ce_w94 dX2_removeOldest_18 ?_
    refine lv_iload_n hx hb dX2_removeOldest_21 rfl (lv_at hl 2 rfl) ?_
    obtain ⟨i13, h⟩ := ce_gi_e h
    obtain ⟨x12, e14, h⟩ := ce_nm_e h
    refine ce_iald hx hb hK hA 12 (ce_kf_2_0 hk) i13 e14 dX2_removeOldest_22 ?_
    obtain ⟨i16, h⟩ := ce_gi_e h
    obtain ⟨M15, e17, h⟩ := ce_nm_e h
    refine ce_iast hx hb hK hA hS 12 (ce_kf_2_0 hk) i16 dX2_removeOldest_23 e17 (fun H locs hA hS => ?_)
    obtain ⟨x18, e19, h⟩ := ce_nm_e h
    refine lv_iinc (v := x18) (lv' := [(2, .int x18), (0, .ref (b + k)), (1, .int a1)]) hx hb dX2_removeOldest_24 hl (k := 2) rfl (by rw [← e19]; rfl) (by decide) rfl (fun ls hl => ?_)
    refine lv_goto (tgt := 2) hx hb dX2_removeOldest_27 (by decide) ?_
    exact ih4 M15 x18 h  _ _ _ hA hS (lv_sub hl [1, 2, 0] rfl)
def f_X2_eventAt (k : Nat) (M : ce_M) (a1 : Int32) : Option Int32 :=
  if (ce_rd M k 1) ≤ a1 then
    some (-1)
  else
    ce_gi a1 12 (ce_nm (ce_rd M (k + 1) (Int32.toNatClampNeg a1)) (fun (x2 : Int32) =>
    some x2))
set_option maxRecDepth 100000 in
set_option maxHeartbeats 4000000 in
theorem c_X2_eventAt (l : Launch) (X : ce_X) (G : ce_G) (b : Nat) {k : Nat} {a1 : Int32} {M : ce_M} (hk : ce_kd k = 2) {r : Int32} (h : f_X2_eventAt k M a1 = some r) : ce_Ct l yX2_eventAt cX2_eventAt 2 (some .int) 0 0 X G b [.ref (b + k), .int a1] M (some (.int r)) M := by
  refine ce_ofW (own := RX2) (by decide) rfl (Nat.le_of_ble_eq_true rfl) (fun p e s m below meth c ls hx hb hr hlocks hml hown hB hF hA hl hS => ?_)
  have hK := hF.1
  have hl : lv_has ls 2 [(0, .ref (b + k)), (1, .int a1)] := hl
  unfold f_X2_eventAt at h
  refine lv_iload_n hx hb dX2_eventAt_0 rfl (lv_at hl 1 rfl) ?_
  refine lv_aload_n hx hb dX2_eventAt_1 rfl (lv_at hl 0 rfl) ?_
  refine ce_g_2_1 hx hb hB hown hK hA hk ce_w95 dX2_eventAt_2 ?_
  refine lv_icmp_ge (tgt := 17) hx hb dX2_eventAt_5 (by decide) (fun c1 => ?_) (fun c1 => ?_)
  · have h := ce_it c1 h
    refine lv_iconst (v := (-1)) hx hb dX2_eventAt_17 (by decide) ?_
    cases h
    exact ce_iret hx hb hr hlocks hA hS dX2_eventAt_18
  · have h := ce_ie c1 h
    refine lv_aload_n hx hb dX2_eventAt_8 rfl (lv_at hl 0 rfl) ?_
    refine ce_g_2_0 hx hb hB hown hK hA hk ce_w94 dX2_eventAt_9 ?_
    refine lv_iload_n hx hb dX2_eventAt_12 rfl (lv_at hl 1 rfl) ?_
    obtain ⟨i3, h⟩ := ce_gi_e h
    obtain ⟨x2, e4, h⟩ := ce_nm_e h
    refine ce_iald hx hb hK hA 12 (ce_kf_2_0 hk) i3 e4 dX2_eventAt_13 ?_
    refine lv_goto (tgt := 18) hx hb dX2_eventAt_14 (by decide) ?_
    cases h
    exact ce_iret hx hb hr hlocks hA hS dX2_eventAt_18
def f_X2_holds_L2 (M : ce_M) (k : Nat) (a1 : Int32) (rec2 : Int32 → Option Int32) (x1 : Int32) : Option Int32 :=
  if (ce_rd M k 1) ≤ x1 then
    some 0
  else
    ce_gi x1 12 (ce_nm (ce_rd M (k + 1) (Int32.toNatClampNeg x1)) (fun (x5 : Int32) =>
    if x5 = a1 then
      some 1
    else
      ce_nm (x1 + 1) (fun (x9 : Int32) =>
      rec2 x9)))
def f_X2_holds (k : Nat) (M : ce_M) (a1 : Int32) : Option Int32 :=
  ce_lp1 (f_X2_holds_L2 M k a1) ce_FU 0
set_option maxRecDepth 100000 in
set_option maxHeartbeats 4000000 in
theorem c_X2_holds (l : Launch) (X : ce_X) (G : ce_G) (b : Nat) {k : Nat} {a1 : Int32} {M : ce_M} (hk : ce_kd k = 2) {r : Int32} (h : f_X2_holds k M a1 = some r) : ce_Ct l yX2_holds cX2_holds 3 (some .boolean) 0 0 X G b [.ref (b + k), .int a1] M (some (.int r)) M := by
  refine ce_ofW (own := RX2) (by decide) rfl (Nat.le_of_ble_eq_true rfl) (fun p e s m below meth c ls hx hb hr hlocks hml hown hB hF hA hl hS => ?_)
  have hK := hF.1
  have hl : lv_has ls 3 [(0, .ref (b + k)), (1, .int a1)] := hl
  unfold f_X2_holds at h
  refine lv_iconst (v := 0) hx hb dX2_holds_0 (by decide) ?_
  refine lv_istore_n (lv' := [(2, .int 0), (0, .ref (b + k)), (1, .int a1)]) hx hb dX2_holds_1 rfl hl (by decide) rfl (fun ls hl => ?_)
  refine ce_lp1_i (y := r) (P := fun (x1 : Int32) => ce_Wg p l e (ce_R 0 0 0 0) s m (([.ref (b + k), .int a1] : List Value).toArray) below meth c 0 0 (MQ below (ce_Q X b M (some (.int r))) ([.ref (b + k), .int a1] : List Value).toArray s 0 0 (ce_Ab b)) X b M 3 [(0, .ref (b + k)), (1, .int a1), (2, .int x1)] 2 []) (fun rec2 ih3 x1 h => ?_) _ _ h _ _ _ hA hS (lv_sub hl [1, 2, 0] rfl)
  intro H locs ls hA hS hl
  unfold f_X2_holds_L2 at h
  refine lv_iload_n hx hb dX2_holds_2 rfl (lv_at hl 2 rfl) ?_
  refine lv_aload_n hx hb dX2_holds_3 rfl (lv_at hl 0 rfl) ?_
  refine ce_g_2_1 hx hb hB hown hK hA hk ce_w95 dX2_holds_4 ?_
  refine lv_icmp_ge (tgt := 28) hx hb dX2_holds_7 (by decide) (fun c4 => ?_) (fun c4 => ?_)
  · have h := ce_it c4 h
    refine lv_iconst (v := 0) hx hb dX2_holds_28 (by decide) ?_
    cases h
    exact ce_zret hx hb hr hlocks (Or.inl rfl) hA hS dX2_holds_29
  · have h := ce_ie c4 h
    refine lv_aload_n hx hb dX2_holds_10 rfl (lv_at hl 0 rfl) ?_
    refine ce_g_2_0 hx hb hB hown hK hA hk ce_w94 dX2_holds_11 ?_
    refine lv_iload_n hx hb dX2_holds_14 rfl (lv_at hl 2 rfl) ?_
    obtain ⟨i6, h⟩ := ce_gi_e h
    obtain ⟨x5, e7, h⟩ := ce_nm_e h
    refine ce_iald hx hb hK hA 12 (ce_kf_2_0 hk) i6 e7 dX2_holds_15 ?_
    refine lv_iload_n hx hb dX2_holds_16 rfl (lv_at hl 1 rfl) ?_
    refine lv_icmp_ne (tgt := 22) hx hb dX2_holds_17 (by decide) (fun c8 => ?_) (fun c8 => ?_)
    · have h := ce_ie c8 h
      obtain ⟨x9, e10, h⟩ := ce_nm_e h
      refine lv_iinc (v := x9) (lv' := [(2, .int x9), (0, .ref (b + k)), (1, .int a1)]) hx hb dX2_holds_22 hl (k := 2) rfl (by rw [← e10]; rfl) (by decide) rfl (fun ls hl => ?_)
      refine lv_goto (tgt := 2) hx hb dX2_holds_25 (by decide) ?_
      exact ih3 x9 h  _ _ _ hA hS (lv_sub hl [1, 2, 0] rfl)
    · have h := ce_it c8 h
      refine lv_iconst (v := 1) hx hb dX2_holds_20 (by decide) ?_
      cases h
      exact ce_zret hx hb hr hlocks (Or.inr rfl) hA hS dX2_holds_21
def f_X2_copyFrom (k : Nat) (M : ce_M) (a1 : Nat) : Option ce_M :=
  ce_nm (ce_cp M (a1 + 1) (k + 1) 12) (fun (M1 : ce_M) =>
  ce_nm (ce_wr M1 k 1 (ce_rd M1 a1 1)) (fun (M3 : ce_M) =>
  some M3))
set_option maxRecDepth 100000 in
set_option maxHeartbeats 4000000 in
theorem c_X2_copyFrom (l : Launch) (X : ce_X) (G : ce_G) (b : Nat) {k : Nat} {a1 : Nat} {M : ce_M} (hk : ce_kd k = 2) (ha1 : ce_kd a1 = 2) {M' : ce_M} (h : f_X2_copyFrom k M a1 = some M') : ce_Ct l yX2_copyFrom cX2_copyFrom 2 none 1 40 X G b [.ref (b + k), .ref (b + a1)] M none M' := by
  refine ce_ofW (own := RX2) (by decide) rfl (Nat.le_of_ble_eq_true rfl) (fun p e s m below meth c ls hx hb hr hlocks hml hown hB hF hA hl hS => ?_)
  have hK := hF.1
  have hl : lv_has ls 2 [(0, .ref (b + k)), (1, .ref (b + a1))] := hl
  unfold f_X2_copyFrom at h
  refine lv_aload_n hx hb dX2_copyFrom_0 rfl (lv_at hl 1 rfl) ?_
  refine ce_g_2_0 hx hb hB hown hK hA ha1 ce_w94 dX2_copyFrom_1 ?_
  refine lv_iconst (v := 0) hx hb dX2_copyFrom_4 (by decide) ?_
  refine lv_aload_n hx hb dX2_copyFrom_5 rfl (lv_at hl 0 rfl) ?_
  refine ce_g_2_0 hx hb hB hown hK hA hk ce_w94 dX2_copyFrom_6 ?_
  refine lv_iconst (v := 0) hx hb dX2_copyFrom_9 (by decide) ?_
  refine lv_bipush (v := 12) hx hb dX2_copyFrom_10 (by decide) ?_
  obtain ⟨M1, e2, h⟩ := ce_nm_e h
  refine ce_copy hx hb hml hl hown (hB _ ce_w435) hB hK hA hS 12 12 (ce_kf_2_0 ha1) (ce_kf_2_0 hk) 12 (by decide) (by decide) (by decide) (by decide) (Nat.le_of_ble_eq_true rfl) (by decide) dX2_copyFrom_12 e2 (fun H locs hA hS => ?_)
  refine lv_aload_n hx hb dX2_copyFrom_15 rfl (lv_at hl 0 rfl) ?_
  refine lv_aload_n hx hb dX2_copyFrom_16 rfl (lv_at hl 1 rfl) ?_
  refine ce_g_2_1 hx hb hB hown hK hA ha1 ce_w95 dX2_copyFrom_17 ?_
  obtain ⟨M3, e4, h⟩ := ce_nm_e h
  refine ce_p_2_1 hx hb hB hown hK hA hS hk ce_w95 dX2_copyFrom_20 e4 (fun H locs hA hS => ?_)
  cases h
  exact ce_vret hx hb hr hlocks hA hS dX2_copyFrom_23
def f_X1_copyFrom (k : Nat) (M : ce_M) (a1 : Nat) : Option ce_M :=
  ce_nm (ce_cp M (a1 + 1) (k + 1) 60) (fun (M1 : ce_M) =>
  ce_nm (ce_cp M1 (a1 + 2) (k + 2) 60) (fun (M3 : ce_M) =>
  ce_nm (ce_cp M3 (a1 + 3) (k + 3) 60) (fun (M5 : ce_M) =>
  ce_nm (ce_cp M5 (a1 + 4) (k + 4) 60) (fun (M7 : ce_M) =>
  ce_nm (ce_cp M7 (a1 + 5) (k + 5) 60) (fun (M9 : ce_M) =>
  ce_nm (ce_cp M9 (a1 + 6) (k + 6) 60) (fun (M11 : ce_M) =>
  ce_nm (ce_wr M11 k 6 (ce_rd M11 a1 6)) (fun (M13 : ce_M) =>
  some M13)))))))
set_option maxRecDepth 100000 in
set_option maxHeartbeats 4000000 in
theorem c_X1_copyFrom (l : Launch) (X : ce_X) (G : ce_G) (b : Nat) {k : Nat} {a1 : Nat} {M : ce_M} (hk : ce_kd k = 1) (ha1 : ce_kd a1 = 1) {M' : ce_M} (h : f_X1_copyFrom k M a1 = some M') : ce_Ct l yX1_copyFrom cX1_copyFrom 2 none 1 40 X G b [.ref (b + k), .ref (b + a1)] M none M' := by
  refine ce_ofW (own := RX1) (by decide) rfl (Nat.le_of_ble_eq_true rfl) (fun p e s m below meth c ls hx hb hr hlocks hml hown hB hF hA hl hS => ?_)
  have hK := hF.1
  have hl : lv_has ls 2 [(0, .ref (b + k)), (1, .ref (b + a1))] := hl
  unfold f_X1_copyFrom at h
  refine lv_aload_n hx hb dX1_copyFrom_0 rfl (lv_at hl 1 rfl) ?_
  refine ce_g_1_0 hx hb hB hown hK hA ha1 ce_w39 dX1_copyFrom_1 ?_
  refine lv_iconst (v := 0) hx hb dX1_copyFrom_4 (by decide) ?_
  refine lv_aload_n hx hb dX1_copyFrom_5 rfl (lv_at hl 0 rfl) ?_
  refine ce_g_1_0 hx hb hB hown hK hA hk ce_w39 dX1_copyFrom_6 ?_
  refine lv_iconst (v := 0) hx hb dX1_copyFrom_9 (by decide) ?_
  refine lv_bipush (v := 60) hx hb dX1_copyFrom_10 (by decide) ?_
  obtain ⟨M1, e2, h⟩ := ce_nm_e h
  refine ce_copy hx hb hml hl hown (hB _ ce_w440) hB hK hA hS 60 60 (ce_kf_1_0 ha1) (ce_kf_1_0 hk) 60 (by decide) (by decide) (by decide) (by decide) (Nat.le_of_ble_eq_true rfl) (by decide) dX1_copyFrom_12 e2 (fun H locs hA hS => ?_)
  refine lv_aload_n hx hb dX1_copyFrom_15 rfl (lv_at hl 1 rfl) ?_
  refine ce_g_1_1 hx hb hB hown hK hA ha1 ce_w40 dX1_copyFrom_16 ?_
  refine lv_iconst (v := 0) hx hb dX1_copyFrom_19 (by decide) ?_
  refine lv_aload_n hx hb dX1_copyFrom_20 rfl (lv_at hl 0 rfl) ?_
  refine ce_g_1_1 hx hb hB hown hK hA hk ce_w40 dX1_copyFrom_21 ?_
  refine lv_iconst (v := 0) hx hb dX1_copyFrom_24 (by decide) ?_
  refine lv_bipush (v := 60) hx hb dX1_copyFrom_25 (by decide) ?_
  obtain ⟨M3, e4, h⟩ := ce_nm_e h
  refine ce_copy hx hb hml hl hown (hB _ ce_w440) hB hK hA hS 60 60 (ce_kf_1_1 ha1) (ce_kf_1_1 hk) 60 (by decide) (by decide) (by decide) (by decide) (Nat.le_of_ble_eq_true rfl) (by decide) dX1_copyFrom_27 e4 (fun H locs hA hS => ?_)
  refine lv_aload_n hx hb dX1_copyFrom_30 rfl (lv_at hl 1 rfl) ?_
  refine ce_g_1_2 hx hb hB hown hK hA ha1 ce_w41 dX1_copyFrom_31 ?_
  refine lv_iconst (v := 0) hx hb dX1_copyFrom_34 (by decide) ?_
  refine lv_aload_n hx hb dX1_copyFrom_35 rfl (lv_at hl 0 rfl) ?_
  refine ce_g_1_2 hx hb hB hown hK hA hk ce_w41 dX1_copyFrom_36 ?_
  refine lv_iconst (v := 0) hx hb dX1_copyFrom_39 (by decide) ?_
  refine lv_bipush (v := 60) hx hb dX1_copyFrom_40 (by decide) ?_
  obtain ⟨M5, e6, h⟩ := ce_nm_e h
  refine ce_copy hx hb hml hl hown (hB _ ce_w440) hB hK hA hS 60 60 (ce_kf_1_2 ha1) (ce_kf_1_2 hk) 60 (by decide) (by decide) (by decide) (by decide) (Nat.le_of_ble_eq_true rfl) (by decide) dX1_copyFrom_42 e6 (fun H locs hA hS => ?_)
  refine lv_aload_n hx hb dX1_copyFrom_45 rfl (lv_at hl 1 rfl) ?_
  refine ce_g_1_3 hx hb hB hown hK hA ha1 ce_w42 dX1_copyFrom_46 ?_
  refine lv_iconst (v := 0) hx hb dX1_copyFrom_49 (by decide) ?_
  refine lv_aload_n hx hb dX1_copyFrom_50 rfl (lv_at hl 0 rfl) ?_
  refine ce_g_1_3 hx hb hB hown hK hA hk ce_w42 dX1_copyFrom_51 ?_
  refine lv_iconst (v := 0) hx hb dX1_copyFrom_54 (by decide) ?_
  refine lv_bipush (v := 60) hx hb dX1_copyFrom_55 (by decide) ?_
  obtain ⟨M7, e8, h⟩ := ce_nm_e h
  refine ce_copy hx hb hml hl hown (hB _ ce_w440) hB hK hA hS 60 60 (ce_kf_1_3 ha1) (ce_kf_1_3 hk) 60 (by decide) (by decide) (by decide) (by decide) (Nat.le_of_ble_eq_true rfl) (by decide) dX1_copyFrom_57 e8 (fun H locs hA hS => ?_)
  refine lv_aload_n hx hb dX1_copyFrom_60 rfl (lv_at hl 1 rfl) ?_
  refine ce_g_1_4 hx hb hB hown hK hA ha1 ce_w43 dX1_copyFrom_61 ?_
  refine lv_iconst (v := 0) hx hb dX1_copyFrom_64 (by decide) ?_
  refine lv_aload_n hx hb dX1_copyFrom_65 rfl (lv_at hl 0 rfl) ?_
  refine ce_g_1_4 hx hb hB hown hK hA hk ce_w43 dX1_copyFrom_66 ?_
  refine lv_iconst (v := 0) hx hb dX1_copyFrom_69 (by decide) ?_
  refine lv_bipush (v := 60) hx hb dX1_copyFrom_70 (by decide) ?_
  obtain ⟨M9, e10, h⟩ := ce_nm_e h
  refine ce_copy hx hb hml hl hown (hB _ ce_w440) hB hK hA hS 60 60 (ce_kf_1_4 ha1) (ce_kf_1_4 hk) 60 (by decide) (by decide) (by decide) (by decide) (Nat.le_of_ble_eq_true rfl) (by decide) dX1_copyFrom_72 e10 (fun H locs hA hS => ?_)
  refine lv_aload_n hx hb dX1_copyFrom_75 rfl (lv_at hl 1 rfl) ?_
  refine ce_g_1_5 hx hb hB hown hK hA ha1 ce_w44 dX1_copyFrom_76 ?_
  refine lv_iconst (v := 0) hx hb dX1_copyFrom_79 (by decide) ?_
  refine lv_aload_n hx hb dX1_copyFrom_80 rfl (lv_at hl 0 rfl) ?_
  refine ce_g_1_5 hx hb hB hown hK hA hk ce_w44 dX1_copyFrom_81 ?_
  refine lv_iconst (v := 0) hx hb dX1_copyFrom_84 (by decide) ?_
  refine lv_bipush (v := 60) hx hb dX1_copyFrom_85 (by decide) ?_
  obtain ⟨M11, e12, h⟩ := ce_nm_e h
  refine ce_copy hx hb hml hl hown (hB _ ce_w440) hB hK hA hS 60 60 (ce_kf_1_5 ha1) (ce_kf_1_5 hk) 60 (by decide) (by decide) (by decide) (by decide) (Nat.le_of_ble_eq_true rfl) (by decide) dX1_copyFrom_87 e12 (fun H locs hA hS => ?_)
  refine lv_aload_n hx hb dX1_copyFrom_90 rfl (lv_at hl 0 rfl) ?_
  refine lv_aload_n hx hb dX1_copyFrom_91 rfl (lv_at hl 1 rfl) ?_
  refine ce_g_1_6 hx hb hB hown hK hA ha1 ce_w45 dX1_copyFrom_92 ?_
  obtain ⟨M13, e14, h⟩ := ce_nm_e h
  refine ce_p_1_6 hx hb hB hown hK hA hS hk ce_w45 dX1_copyFrom_95 e14 (fun H locs hA hS => ?_)
  cases h
  exact ce_vret hx hb hr hlocks hA hS dX1_copyFrom_98
def f_X1_add (k : Nat) (M : ce_M) (a1 : Int32) (a2 : Int32) (a3 : Int32) (a4 : Int32) (a5 : Int32) : Option (ce_M × Int32) :=
  if (ce_rd M k 6) < 60 then
    ce_nm (ce_rd M k 6) (fun (x2 : Int32) =>
    ce_gi x2 60 (ce_nm (ce_wr M (k + 1) (Int32.toNatClampNeg x2) a1) (fun (M4 : ce_M) =>
    ce_gi x2 60 (ce_nm (ce_wr M4 (k + 2) (Int32.toNatClampNeg x2) a2) (fun (M7 : ce_M) =>
    ce_gi x2 60 (ce_nm (ce_wr M7 (k + 3) (Int32.toNatClampNeg x2) a3) (fun (M10 : ce_M) =>
    ce_gi x2 60 (ce_nm (ce_wr M10 (k + 4) (Int32.toNatClampNeg x2) a4) (fun (M13 : ce_M) =>
    ce_gi x2 60 (ce_nm (ce_wr M13 (k + 5) (Int32.toNatClampNeg x2) a5) (fun (M16 : ce_M) =>
    ce_nm (ce_wr M16 k 6 ((ce_rd M16 k 6) + 1)) (fun (M19 : ce_M) =>
    some (M19, x2)))))))))))))
  else
    some (M, (-1))
set_option maxRecDepth 100000 in
set_option maxHeartbeats 4000000 in
theorem c_X1_add (l : Launch) (X : ce_X) (G : ce_G) (b : Nat) {k : Nat} {a1 : Int32} {a2 : Int32} {a3 : Int32} {a4 : Int32} {a5 : Int32} {M : ce_M} (hk : ce_kd k = 1) {M' : ce_M} {r : Int32} (h : f_X1_add k M a1 a2 a3 a4 a5 = some (M', r)) : ce_Ct l yX1_add cX1_add 7 (some .int) 0 0 X G b [.ref (b + k), .int a1, .int a2, .int a3, .int a4, .int a5] M (some (.int r)) M' := by
  refine ce_ofW (own := RX1) (by decide) rfl (Nat.le_of_ble_eq_true rfl) (fun p e s m below meth c ls hx hb hr hlocks hml hown hB hF hA hl hS => ?_)
  have hK := hF.1
  have hl : lv_has ls 7 [(0, .ref (b + k)), (1, .int a1), (2, .int a2), (3, .int a3), (4, .int a4), (5, .int a5)] := hl
  unfold f_X1_add at h
  refine lv_aload_n hx hb dX1_add_0 rfl (lv_at hl 0 rfl) ?_
  refine ce_g_1_6 hx hb hB hown hK hA hk ce_w45 dX1_add_1 ?_
  refine lv_bipush (v := 60) hx hb dX1_add_4 (by decide) ?_
  refine lv_icmp_lt (tgt := 11) hx hb dX1_add_6 (by decide) (fun c1 => ?_) (fun c1 => ?_)
  · have h := ce_it c1 h
    refine lv_aload_n hx hb dX1_add_11 rfl (lv_at hl 0 rfl) ?_
    refine ce_g_1_6 hx hb hB hown hK hA hk ce_w45 dX1_add_12 ?_
    obtain ⟨x2, e3, h⟩ := ce_nm_e h
    refine ce_top e3 ?_
    refine lv_istore (lv' := [(6, .int x2), (0, .ref (b + k)), (1, .int a1), (2, .int a2), (3, .int a3), (4, .int a4), (5, .int a5)]) hx hb dX1_add_15 hl (by decide) rfl (fun ls hl => ?_)
    refine lv_aload_n hx hb dX1_add_17 rfl (lv_at hl 1 rfl) ?_
    refine ce_g_1_0 hx hb hB hown hK hA hk ce_w39 dX1_add_18 ?_
    refine lv_iload hx hb dX1_add_21 (lv_at hl 0 rfl) ?_
    refine lv_iload_n hx hb dX1_add_23 rfl (lv_at hl 2 rfl) ?_
    obtain ⟨i5, h⟩ := ce_gi_e h
    obtain ⟨M4, e6, h⟩ := ce_nm_e h
    refine ce_iast hx hb hK hA hS 60 (ce_kf_1_0 hk) i5 dX1_add_24 e6 (fun H locs hA hS => ?_)
    refine lv_aload_n hx hb dX1_add_25 rfl (lv_at hl 1 rfl) ?_
    refine ce_g_1_1 hx hb hB hown hK hA hk ce_w40 dX1_add_26 ?_
    refine lv_iload hx hb dX1_add_29 (lv_at hl 0 rfl) ?_
    refine lv_iload_n hx hb dX1_add_31 rfl (lv_at hl 3 rfl) ?_
    obtain ⟨i8, h⟩ := ce_gi_e h
    obtain ⟨M7, e9, h⟩ := ce_nm_e h
    refine ce_iast hx hb hK hA hS 60 (ce_kf_1_1 hk) i8 dX1_add_32 e9 (fun H locs hA hS => ?_)
    refine lv_aload_n hx hb dX1_add_33 rfl (lv_at hl 1 rfl) ?_
    refine ce_g_1_2 hx hb hB hown hK hA hk ce_w41 dX1_add_34 ?_
    refine lv_iload hx hb dX1_add_37 (lv_at hl 0 rfl) ?_
    refine lv_iload_n hx hb dX1_add_39 rfl (lv_at hl 4 rfl) ?_
    obtain ⟨i11, h⟩ := ce_gi_e h
    obtain ⟨M10, e12, h⟩ := ce_nm_e h
    refine ce_iast hx hb hK hA hS 60 (ce_kf_1_2 hk) i11 dX1_add_40 e12 (fun H locs hA hS => ?_)
    refine lv_aload_n hx hb dX1_add_41 rfl (lv_at hl 1 rfl) ?_
    refine ce_g_1_3 hx hb hB hown hK hA hk ce_w42 dX1_add_42 ?_
    refine lv_iload hx hb dX1_add_45 (lv_at hl 0 rfl) ?_
    refine lv_iload hx hb dX1_add_47 (lv_at hl 5 rfl) ?_
    obtain ⟨i14, h⟩ := ce_gi_e h
    obtain ⟨M13, e15, h⟩ := ce_nm_e h
    refine ce_iast hx hb hK hA hS 60 (ce_kf_1_3 hk) i14 dX1_add_49 e15 (fun H locs hA hS => ?_)
    refine lv_aload_n hx hb dX1_add_50 rfl (lv_at hl 1 rfl) ?_
    refine ce_g_1_4 hx hb hB hown hK hA hk ce_w43 dX1_add_51 ?_
    refine lv_iload hx hb dX1_add_54 (lv_at hl 0 rfl) ?_
    refine lv_iload hx hb dX1_add_56 (lv_at hl 6 rfl) ?_
    obtain ⟨i17, h⟩ := ce_gi_e h
    obtain ⟨M16, e18, h⟩ := ce_nm_e h
    refine ce_iast hx hb hK hA hS 60 (ce_kf_1_4 hk) i17 dX1_add_58 e18 (fun H locs hA hS => ?_)
    refine lv_aload_n hx hb dX1_add_59 rfl (lv_at hl 1 rfl) ?_
    refine lv_dup hx hb dX1_add_60 rfl ?_
    refine ce_g_1_6 hx hb hB hown hK hA hk ce_w45 dX1_add_61 ?_
    refine lv_iconst (v := 1) hx hb dX1_add_64 (by decide) ?_
    refine lv_iadd hx hb dX1_add_65 ?_
    obtain ⟨M19, e20, h⟩ := ce_nm_e h
    refine ce_p_1_6 hx hb hB hown hK hA hS hk ce_w45 dX1_add_66 e20 (fun H locs hA hS => ?_)
    refine lv_iload hx hb dX1_add_69 (lv_at hl 0 rfl) ?_
    cases h
    exact ce_iret hx hb hr hlocks hA hS dX1_add_71
  · have h := ce_ie c1 h
    refine lv_iconst (v := (-1)) hx hb dX1_add_9 (by decide) ?_
    cases h
    exact ce_iret hx hb hr hlocks hA hS dX1_add_10
def f_X1_markDelivered (k : Nat) (M : ce_M) (a1 : Int32) (a2 : Int32) : Option ce_M :=
  if a1 < 0 then
    some M
  else
    if (ce_rd M k 6) ≤ a1 then
      some M
    else
      ce_gi a1 60 (ce_nm (ce_rd M (k + 6) (Int32.toNatClampNeg a1)) (fun (x3 : Int32) =>
      ce_gi a1 60 (ce_nm (ce_wr M (k + 6) (Int32.toNatClampNeg a1) (x3 ||| (1 <<< (a2 &&& 31)))) (fun (M6 : ce_M) =>
      some M6))))
set_option maxRecDepth 100000 in
set_option maxHeartbeats 4000000 in
theorem c_X1_markDelivered (l : Launch) (X : ce_X) (G : ce_G) (b : Nat) {k : Nat} {a1 : Int32} {a2 : Int32} {M : ce_M} (hk : ce_kd k = 1) {M' : ce_M} (h : f_X1_markDelivered k M a1 a2 = some M') : ce_Ct l yX1_markDelivered cX1_markDelivered 3 none 0 0 X G b [.ref (b + k), .int a1, .int a2] M none M' := by
  refine ce_ofW (own := RX1) (by decide) rfl (Nat.le_of_ble_eq_true rfl) (fun p e s m below meth c ls hx hb hr hlocks hml hown hB hF hA hl hS => ?_)
  have hK := hF.1
  have hl : lv_has ls 3 [(0, .ref (b + k)), (1, .int a1), (2, .int a2)] := hl
  unfold f_X1_markDelivered at h
  refine lv_iload_n hx hb dX1_markDelivered_0 rfl (lv_at hl 1 rfl) ?_
  refine lv_if_lt (tgt := 24) hx hb dX1_markDelivered_1 (by decide) (fun c1 => ?_) (fun c1 => ?_)
  · have h := ce_it c1 h
    cases h
    exact ce_vret hx hb hr hlocks hA hS dX1_markDelivered_24
  · have h := ce_ie c1 h
    refine lv_iload_n hx hb dX1_markDelivered_4 rfl (lv_at hl 1 rfl) ?_
    refine lv_aload_n hx hb dX1_markDelivered_5 rfl (lv_at hl 0 rfl) ?_
    refine ce_g_1_6 hx hb hB hown hK hA hk ce_w45 dX1_markDelivered_6 ?_
    refine lv_icmp_ge (tgt := 24) hx hb dX1_markDelivered_9 (by decide) (fun c2 => ?_) (fun c2 => ?_)
    · have h := ce_it c2 h
      cases h
      exact ce_vret hx hb hr hlocks hA hS dX1_markDelivered_24
    · have h := ce_ie c2 h
      refine lv_aload_n hx hb dX1_markDelivered_12 rfl (lv_at hl 0 rfl) ?_
      refine ce_g_1_5 hx hb hB hown hK hA hk ce_w44 dX1_markDelivered_13 ?_
      refine lv_iload_n hx hb dX1_markDelivered_16 rfl (lv_at hl 1 rfl) ?_
      refine lv_dup2_11 hx hb dX1_markDelivered_17 rfl rfl ?_
      obtain ⟨i4, h⟩ := ce_gi_e h
      obtain ⟨x3, e5, h⟩ := ce_nm_e h
      refine ce_iald hx hb hK hA 60 (ce_kf_1_5 hk) i4 e5 dX1_markDelivered_18 ?_
      refine lv_iconst (v := 1) hx hb dX1_markDelivered_19 (by decide) ?_
      refine lv_iload_n hx hb dX1_markDelivered_20 rfl (lv_at hl 2 rfl) ?_
      refine lv_ishl hx hb dX1_markDelivered_21 ?_
      refine lv_ior hx hb dX1_markDelivered_22 ?_
      obtain ⟨i7, h⟩ := ce_gi_e h
      obtain ⟨M6, e8, h⟩ := ce_nm_e h
      refine ce_iast hx hb hK hA hS 60 (ce_kf_1_5 hk) i7 dX1_markDelivered_23 e8 (fun H locs hA hS => ?_)
      cases h
      exact ce_vret hx hb hr hlocks hA hS dX1_markDelivered_24
def f_X1_valueOf (k : Nat) (M : ce_M) (a1 : Int32) (a2 : Int32) : Option Int32 :=
  if a2 = 0 then
    ce_gi a1 60 (ce_nm (ce_rd M (k + 1) (Int32.toNatClampNeg a1)) (fun (x2 : Int32) =>
    some x2))
  else
  if a2 = 1 then
    ce_gi a1 60 (ce_nm (ce_rd M (k + 2) (Int32.toNatClampNeg a1)) (fun (x6 : Int32) =>
    some x6))
  else
  if a2 = 2 then
    ce_gi a1 60 (ce_nm (ce_rd M (k + 3) (Int32.toNatClampNeg a1)) (fun (x10 : Int32) =>
    some x10))
  else
  if a2 = 3 then
    ce_gi a1 60 (ce_nm (ce_rd M (k + 4) (Int32.toNatClampNeg a1)) (fun (x14 : Int32) =>
    some x14))
  else
  if a2 = 4 then
    ce_gi a1 60 (ce_nm (ce_rd M (k + 5) (Int32.toNatClampNeg a1)) (fun (x18 : Int32) =>
    some x18))
  else
  ce_gi a1 60 (ce_nm (ce_rd M (k + 6) (Int32.toNatClampNeg a1)) (fun (x21 : Int32) =>
  some x21))
set_option maxRecDepth 100000 in
set_option maxHeartbeats 4000000 in
theorem c_X1_valueOf (l : Launch) (X : ce_X) (G : ce_G) (b : Nat) {k : Nat} {a1 : Int32} {a2 : Int32} {M : ce_M} (hk : ce_kd k = 1) {r : Int32} (h : f_X1_valueOf k M a1 a2 = some r) : ce_Ct l yX1_valueOf cX1_valueOf 3 (some .int) 0 0 X G b [.ref (b + k), .int a1, .int a2] M (some (.int r)) M := by
  refine ce_ofW (own := RX1) (by decide) rfl (Nat.le_of_ble_eq_true rfl) (fun p e s m below meth c ls hx hb hr hlocks hml hown hB hF hA hl hS => ?_)
  have hK := hF.1
  have hl : lv_has ls 3 [(0, .ref (b + k)), (1, .int a1), (2, .int a2)] := hl
  unfold f_X1_valueOf at h
  refine lv_iload_n hx hb dX1_valueOf_0 rfl (lv_at hl 2 rfl) ?_
  by_cases c1 : a2 = 0
  · have h := ce_it c1 h
    refine lv_tableIn (off := 35) (tgt := 36) hx hb dX1_valueOf_1 (by rw [c1]; decide) (by rw [c1]; decide) (by rw [c1]; rfl) (by decide) ?_
    refine lv_aload_n hx hb dX1_valueOf_36 rfl (lv_at hl 0 rfl) ?_
    refine ce_g_1_0 hx hb hB hown hK hA hk ce_w39 dX1_valueOf_37 ?_
    refine lv_iload_n hx hb dX1_valueOf_40 rfl (lv_at hl 1 rfl) ?_
    obtain ⟨i3, h⟩ := ce_gi_e h
    obtain ⟨x2, e4, h⟩ := ce_nm_e h
    refine ce_iald hx hb hK hA 60 (ce_kf_1_0 hk) i3 e4 dX1_valueOf_41 ?_
    cases h
    exact ce_iret hx hb hr hlocks hA hS dX1_valueOf_42
  have h := ce_ie c1 h
  by_cases c5 : a2 = 1
  · have h := ce_it c5 h
    refine lv_tableIn (off := 42) (tgt := 43) hx hb dX1_valueOf_1 (by rw [c5]; decide) (by rw [c5]; decide) (by rw [c5]; rfl) (by decide) ?_
    refine lv_aload_n hx hb dX1_valueOf_43 rfl (lv_at hl 0 rfl) ?_
    refine ce_g_1_1 hx hb hB hown hK hA hk ce_w40 dX1_valueOf_44 ?_
    refine lv_iload_n hx hb dX1_valueOf_47 rfl (lv_at hl 1 rfl) ?_
    obtain ⟨i7, h⟩ := ce_gi_e h
    obtain ⟨x6, e8, h⟩ := ce_nm_e h
    refine ce_iald hx hb hK hA 60 (ce_kf_1_1 hk) i7 e8 dX1_valueOf_48 ?_
    cases h
    exact ce_iret hx hb hr hlocks hA hS dX1_valueOf_49
  have h := ce_ie c5 h
  by_cases c9 : a2 = 2
  · have h := ce_it c9 h
    refine lv_tableIn (off := 49) (tgt := 50) hx hb dX1_valueOf_1 (by rw [c9]; decide) (by rw [c9]; decide) (by rw [c9]; rfl) (by decide) ?_
    refine lv_aload_n hx hb dX1_valueOf_50 rfl (lv_at hl 0 rfl) ?_
    refine ce_g_1_2 hx hb hB hown hK hA hk ce_w41 dX1_valueOf_51 ?_
    refine lv_iload_n hx hb dX1_valueOf_54 rfl (lv_at hl 1 rfl) ?_
    obtain ⟨i11, h⟩ := ce_gi_e h
    obtain ⟨x10, e12, h⟩ := ce_nm_e h
    refine ce_iald hx hb hK hA 60 (ce_kf_1_2 hk) i11 e12 dX1_valueOf_55 ?_
    cases h
    exact ce_iret hx hb hr hlocks hA hS dX1_valueOf_56
  have h := ce_ie c9 h
  by_cases c13 : a2 = 3
  · have h := ce_it c13 h
    refine lv_tableIn (off := 56) (tgt := 57) hx hb dX1_valueOf_1 (by rw [c13]; decide) (by rw [c13]; decide) (by rw [c13]; rfl) (by decide) ?_
    refine lv_aload_n hx hb dX1_valueOf_57 rfl (lv_at hl 0 rfl) ?_
    refine ce_g_1_3 hx hb hB hown hK hA hk ce_w42 dX1_valueOf_58 ?_
    refine lv_iload_n hx hb dX1_valueOf_61 rfl (lv_at hl 1 rfl) ?_
    obtain ⟨i15, h⟩ := ce_gi_e h
    obtain ⟨x14, e16, h⟩ := ce_nm_e h
    refine ce_iald hx hb hK hA 60 (ce_kf_1_3 hk) i15 e16 dX1_valueOf_62 ?_
    cases h
    exact ce_iret hx hb hr hlocks hA hS dX1_valueOf_63
  have h := ce_ie c13 h
  by_cases c17 : a2 = 4
  · have h := ce_it c17 h
    refine lv_tableIn (off := 63) (tgt := 64) hx hb dX1_valueOf_1 (by rw [c17]; decide) (by rw [c17]; decide) (by rw [c17]; rfl) (by decide) ?_
    refine lv_aload_n hx hb dX1_valueOf_64 rfl (lv_at hl 0 rfl) ?_
    refine ce_g_1_4 hx hb hB hown hK hA hk ce_w43 dX1_valueOf_65 ?_
    refine lv_iload_n hx hb dX1_valueOf_68 rfl (lv_at hl 1 rfl) ?_
    obtain ⟨i19, h⟩ := ce_gi_e h
    obtain ⟨x18, e20, h⟩ := ce_nm_e h
    refine ce_iald hx hb hK hA 60 (ce_kf_1_4 hk) i19 e20 dX1_valueOf_69 ?_
    cases h
    exact ce_iret hx hb hr hlocks hA hS dX1_valueOf_70
  have h := ce_ie c17 h
  have nc1 : (a2).toInt ≠ 0 := fun q => c1 (Int32.toInt_inj.mp (q.trans (by decide)))
  have nc5 : (a2).toInt ≠ 1 := fun q => c5 (Int32.toInt_inj.mp (q.trans (by decide)))
  have nc9 : (a2).toInt ≠ 2 := fun q => c9 (Int32.toInt_inj.mp (q.trans (by decide)))
  have nc13 : (a2).toInt ≠ 3 := fun q => c13 (Int32.toInt_inj.mp (q.trans (by decide)))
  have nc17 : (a2).toInt ≠ 4 := fun q => c17 (Int32.toInt_inj.mp (q.trans (by decide)))
  refine lv_tableOut (tgt := 71) hx hb dX1_valueOf_1 (by omega) (by decide) ?_
  refine lv_aload_n hx hb dX1_valueOf_71 rfl (lv_at hl 0 rfl) ?_
  refine ce_g_1_5 hx hb hB hown hK hA hk ce_w44 dX1_valueOf_72 ?_
  refine lv_iload_n hx hb dX1_valueOf_75 rfl (lv_at hl 1 rfl) ?_
  obtain ⟨i22, h⟩ := ce_gi_e h
  obtain ⟨x21, e23, h⟩ := ce_nm_e h
  refine ce_iald hx hb hK hA 60 (ce_kf_1_5 hk) i22 e23 dX1_valueOf_76 ?_
  cases h
  exact ce_iret hx hb hr hlocks hA hS dX1_valueOf_77
def f_X3_copyFrom (k : Nat) (M : ce_M) (a1 : Nat) : Option ce_M :=
  ce_nm (ce_cp M (a1 + 1) (k + 1) 10) (fun (M1 : ce_M) =>
  ce_nm (ce_cp M1 (a1 + 2) (k + 2) 10) (fun (M3 : ce_M) =>
  ce_nm (ce_cp M3 (a1 + 3) (k + 3) 10) (fun (M5 : ce_M) =>
  ce_nm (ce_wr M5 k 3 (ce_rd M5 a1 3)) (fun (M7 : ce_M) =>
  some M7))))
set_option maxRecDepth 100000 in
set_option maxHeartbeats 4000000 in
theorem c_X3_copyFrom (l : Launch) (X : ce_X) (G : ce_G) (b : Nat) {k : Nat} {a1 : Nat} {M : ce_M} (hk : ce_kd k = 3) (ha1 : ce_kd a1 = 3) {M' : ce_M} (h : f_X3_copyFrom k M a1 = some M') : ce_Ct l yX3_copyFrom cX3_copyFrom 2 none 1 40 X G b [.ref (b + k), .ref (b + a1)] M none M' := by
  refine ce_ofW (own := RX3) (by decide) rfl (Nat.le_of_ble_eq_true rfl) (fun p e s m below meth c ls hx hb hr hlocks hml hown hB hF hA hl hS => ?_)
  have hK := hF.1
  have hl : lv_has ls 2 [(0, .ref (b + k)), (1, .ref (b + a1))] := hl
  unfold f_X3_copyFrom at h
  refine lv_aload_n hx hb dX3_copyFrom_0 rfl (lv_at hl 1 rfl) ?_
  refine ce_g_3_0 hx hb hB hown hK hA ha1 ce_w75 dX3_copyFrom_1 ?_
  refine lv_iconst (v := 0) hx hb dX3_copyFrom_4 (by decide) ?_
  refine lv_aload_n hx hb dX3_copyFrom_5 rfl (lv_at hl 0 rfl) ?_
  refine ce_g_3_0 hx hb hB hown hK hA hk ce_w75 dX3_copyFrom_6 ?_
  refine lv_iconst (v := 0) hx hb dX3_copyFrom_9 (by decide) ?_
  refine lv_bipush (v := 10) hx hb dX3_copyFrom_10 (by decide) ?_
  obtain ⟨M1, e2, h⟩ := ce_nm_e h
  refine ce_copy hx hb hml hl hown (hB _ ce_w430) hB hK hA hS 10 10 (ce_kf_3_0 ha1) (ce_kf_3_0 hk) 10 (by decide) (by decide) (by decide) (by decide) (Nat.le_of_ble_eq_true rfl) (by decide) dX3_copyFrom_12 e2 (fun H locs hA hS => ?_)
  refine lv_aload_n hx hb dX3_copyFrom_15 rfl (lv_at hl 1 rfl) ?_
  refine ce_g_3_1 hx hb hB hown hK hA ha1 ce_w76 dX3_copyFrom_16 ?_
  refine lv_iconst (v := 0) hx hb dX3_copyFrom_19 (by decide) ?_
  refine lv_aload_n hx hb dX3_copyFrom_20 rfl (lv_at hl 0 rfl) ?_
  refine ce_g_3_1 hx hb hB hown hK hA hk ce_w76 dX3_copyFrom_21 ?_
  refine lv_iconst (v := 0) hx hb dX3_copyFrom_24 (by decide) ?_
  refine lv_bipush (v := 10) hx hb dX3_copyFrom_25 (by decide) ?_
  obtain ⟨M3, e4, h⟩ := ce_nm_e h
  refine ce_copy hx hb hml hl hown (hB _ ce_w430) hB hK hA hS 10 10 (ce_kf_3_1 ha1) (ce_kf_3_1 hk) 10 (by decide) (by decide) (by decide) (by decide) (Nat.le_of_ble_eq_true rfl) (by decide) dX3_copyFrom_27 e4 (fun H locs hA hS => ?_)
  refine lv_aload_n hx hb dX3_copyFrom_30 rfl (lv_at hl 1 rfl) ?_
  refine ce_g_3_2 hx hb hB hown hK hA ha1 ce_w77 dX3_copyFrom_31 ?_
  refine lv_iconst (v := 0) hx hb dX3_copyFrom_34 (by decide) ?_
  refine lv_aload_n hx hb dX3_copyFrom_35 rfl (lv_at hl 0 rfl) ?_
  refine ce_g_3_2 hx hb hB hown hK hA hk ce_w77 dX3_copyFrom_36 ?_
  refine lv_iconst (v := 0) hx hb dX3_copyFrom_39 (by decide) ?_
  refine lv_bipush (v := 10) hx hb dX3_copyFrom_40 (by decide) ?_
  obtain ⟨M5, e6, h⟩ := ce_nm_e h
  refine ce_copy hx hb hml hl hown (hB _ ce_w430) hB hK hA hS 10 10 (ce_kf_3_2 ha1) (ce_kf_3_2 hk) 10 (by decide) (by decide) (by decide) (by decide) (Nat.le_of_ble_eq_true rfl) (by decide) dX3_copyFrom_42 e6 (fun H locs hA hS => ?_)
  refine lv_aload_n hx hb dX3_copyFrom_45 rfl (lv_at hl 0 rfl) ?_
  refine lv_aload_n hx hb dX3_copyFrom_46 rfl (lv_at hl 1 rfl) ?_
  refine ce_g_3_3 hx hb hB hown hK hA ha1 ce_w78 dX3_copyFrom_47 ?_
  obtain ⟨M7, e8, h⟩ := ce_nm_e h
  refine ce_p_3_3 hx hb hB hown hK hA hS hk ce_w78 dX3_copyFrom_50 e8 (fun H locs hA hS => ?_)
  cases h
  exact ce_vret hx hb hr hlocks hA hS dX3_copyFrom_53
def f_X3_open_L3 (a1 : Int32) (a2 : Int32) (k : Nat) (u8 : ce_M → Int32 → Int32 → Option ce_M) (rec3 : ce_M → Int32 → Option ce_M) (M1 : ce_M) (x2 : Int32) : Option ce_M :=
  if x2 ≤ 0 then
    u8 M1 a1 a2
  else
    ce_gi (x2 - 1) 10 (ce_nm (ce_rd M1 (k + 1) (Int32.toNatClampNeg (x2 - 1))) (fun (x23 : Int32) =>
    ce_gi x2 10 (ce_nm (ce_wr M1 (k + 1) (Int32.toNatClampNeg x2) x23) (fun (M26 : ce_M) =>
    ce_gi (x2 - 1) 10 (ce_nm (ce_rd M26 (k + 2) (Int32.toNatClampNeg (x2 - 1))) (fun (x29 : Int32) =>
    ce_gi x2 10 (ce_nm (ce_wr M26 (k + 2) (Int32.toNatClampNeg x2) x29) (fun (M32 : ce_M) =>
    ce_gi (x2 - 1) 10 (ce_nm (ce_rd M32 (k + 3) (Int32.toNatClampNeg (x2 - 1))) (fun (x35 : Int32) =>
    ce_gi x2 10 (ce_nm (ce_wr M32 (k + 3) (Int32.toNatClampNeg x2) x35) (fun (M38 : ce_M) =>
    ce_nm (x2 + (-1)) (fun (x41 : Int32) =>
    rec3 M38 x41)))))))))))))
def f_X3_open (k : Nat) (M : ce_M) (a1 : Int32) (a2 : Int32) : Option ce_M :=
  ce_nm (fun (M5 : ce_M) (x6 : Int32) (x7 : Int32) =>
      ce_gi 0 10 (ce_nm (ce_wr M5 (k + 1) (Int32.toNatClampNeg 0) x6) (fun (M9 : ce_M) =>
      ce_gi 0 10 (ce_nm (ce_wr M9 (k + 2) (Int32.toNatClampNeg 0) x7) (fun (M12 : ce_M) =>
      ce_gi 0 10 (ce_nm (ce_wr M12 (k + 3) (Int32.toNatClampNeg 0) (-1)) (fun (M15 : ce_M) =>
      if 10 ≤ (ce_rd M15 k 3) then
        some M15
      else
        ce_nm (ce_wr M15 k 3 ((ce_rd M15 k 3) + 1)) (fun (M19 : ce_M) =>
        some M19)))))))) (fun (u8 : ce_M → Int32 → Int32 → Option ce_M) =>
  ce_lp2 (f_X3_open_L3 a1 a2 k u8) ce_FU M 9)
set_option maxRecDepth 100000 in
set_option maxHeartbeats 4000000 in
theorem c_X3_open (l : Launch) (X : ce_X) (G : ce_G) (b : Nat) {k : Nat} {a1 : Int32} {a2 : Int32} {M : ce_M} (hk : ce_kd k = 3) {M' : ce_M} (h : f_X3_open k M a1 a2 = some M') : ce_Ct l yX3_open cX3_open 4 none 0 0 X G b [.ref (b + k), .int a1, .int a2] M none M' := by
  refine ce_ofW (own := RX3) (by decide) rfl (Nat.le_of_ble_eq_true rfl) (fun p e s m below meth c ls hx hb hr hlocks hml hown hB hF hA hl hS => ?_)
  have hK := hF.1
  have hl : lv_has ls 4 [(0, .ref (b + k)), (1, .int a1), (2, .int a2)] := hl
  unfold f_X3_open at h
  refine lv_bipush (v := 9) hx hb dX3_open_0 (by decide) ?_
  refine lv_istore_n (lv' := [(3, .int 9), (0, .ref (b + k)), (1, .int a1), (2, .int a2)]) hx hb dX3_open_2 rfl hl (by decide) rfl (fun ls hl => ?_)
  obtain ⟨u8, e21, h⟩ := ce_nm_e h
  have Ju8 : ∀ (M5 : ce_M) (x6 : Int32) (x7 : Int32), u8 M5 x6 x7 = some M' → ce_Wg p l e (ce_R 0 0 0 0) s m (([.ref (b + k), .int a1, .int a2] : List Value).toArray) below meth c 0 0 (MQ below (ce_Q X b M' none) ([.ref (b + k), .int a1, .int a2] : List Value).toArray s 0 0 (ce_Ab b)) X b M5 4 [(0, .ref (b + k)), (1, .int x6), (2, .int x7)] 55 [] := by
    intro M5 x6 x7 h  H locs ls hA hS hl
    subst e21
    refine lv_aload_n hx hb dX3_open_55 rfl (lv_at hl 0 rfl) ?_
    refine ce_g_3_0 hx hb hB hown hK hA hk ce_w75 dX3_open_56 ?_
    refine lv_iconst (v := 0) hx hb dX3_open_59 (by decide) ?_
    refine lv_iload_n hx hb dX3_open_60 rfl (lv_at hl 1 rfl) ?_
    obtain ⟨i10, h⟩ := ce_gi_e h
    obtain ⟨M9, e11, h⟩ := ce_nm_e h
    refine ce_iast hx hb hK hA hS 10 (ce_kf_3_0 hk) i10 dX3_open_61 e11 (fun H locs hA hS => ?_)
    refine lv_aload_n hx hb dX3_open_62 rfl (lv_at hl 0 rfl) ?_
    refine ce_g_3_1 hx hb hB hown hK hA hk ce_w76 dX3_open_63 ?_
    refine lv_iconst (v := 0) hx hb dX3_open_66 (by decide) ?_
    refine lv_iload_n hx hb dX3_open_67 rfl (lv_at hl 2 rfl) ?_
    obtain ⟨i13, h⟩ := ce_gi_e h
    obtain ⟨M12, e14, h⟩ := ce_nm_e h
    refine ce_iast hx hb hK hA hS 10 (ce_kf_3_1 hk) i13 dX3_open_68 e14 (fun H locs hA hS => ?_)
    refine lv_aload_n hx hb dX3_open_69 rfl (lv_at hl 0 rfl) ?_
    refine ce_g_3_2 hx hb hB hown hK hA hk ce_w77 dX3_open_70 ?_
    refine lv_iconst (v := 0) hx hb dX3_open_73 (by decide) ?_
    refine lv_iconst (v := (-1)) hx hb dX3_open_74 (by decide) ?_
    obtain ⟨i16, h⟩ := ce_gi_e h
    obtain ⟨M15, e17, h⟩ := ce_nm_e h
    refine ce_iast hx hb hK hA hS 10 (ce_kf_3_2 hk) i16 dX3_open_75 e17 (fun H locs hA hS => ?_)
    refine lv_aload_n hx hb dX3_open_76 rfl (lv_at hl 0 rfl) ?_
    refine ce_g_3_3 hx hb hB hown hK hA hk ce_w78 dX3_open_77 ?_
    refine lv_bipush (v := 10) hx hb dX3_open_80 (by decide) ?_
    refine lv_icmp_ge (tgt := 95) hx hb dX3_open_82 (by decide) (fun c18 => ?_) (fun c18 => ?_)
    · have h := ce_it c18 h
      cases h
      exact ce_vret hx hb hr hlocks hA hS dX3_open_95
    · have h := ce_ie c18 h
      refine lv_aload_n hx hb dX3_open_85 rfl (lv_at hl 0 rfl) ?_
      refine lv_dup hx hb dX3_open_86 rfl ?_
      refine ce_g_3_3 hx hb hB hown hK hA hk ce_w78 dX3_open_87 ?_
      refine lv_iconst (v := 1) hx hb dX3_open_90 (by decide) ?_
      refine lv_iadd hx hb dX3_open_91 ?_
      obtain ⟨M19, e20, h⟩ := ce_nm_e h
      refine ce_p_3_3 hx hb hB hown hK hA hS hk ce_w78 dX3_open_92 e20 (fun H locs hA hS => ?_)
      cases h
      exact ce_vret hx hb hr hlocks hA hS dX3_open_95
  refine ce_lp2_i (y := M') (P := fun (M1 : ce_M) (x2 : Int32) => ce_Wg p l e (ce_R 0 0 0 0) s m (([.ref (b + k), .int a1, .int a2] : List Value).toArray) below meth c 0 0 (MQ below (ce_Q X b M' none) ([.ref (b + k), .int a1, .int a2] : List Value).toArray s 0 0 (ce_Ab b)) X b M1 4 [(0, .ref (b + k)), (1, .int a1), (2, .int a2), (3, .int x2)] 3 []) (fun rec3 ih4 M1 x2 h => ?_) _ _ _ h _ _ _ hA hS (lv_sub hl [1, 2, 3, 0] rfl)
  intro H locs ls hA hS hl
  unfold f_X3_open_L3 at h
  refine lv_iload_n hx hb dX3_open_3 rfl (lv_at hl 3 rfl) ?_
  refine lv_if_le (tgt := 55) hx hb dX3_open_4 (by decide) (fun c22 => ?_) (fun c22 => ?_)
  · have h := ce_it c22 h
    exact Ju8 M1 a1 a2 h  _ _ _ hA hS (lv_sub hl [0, 1, 2] rfl)
  · have h := ce_ie c22 h
    refine lv_aload_n hx hb dX3_open_7 rfl (lv_at hl 0 rfl) ?_
    refine ce_g_3_0 hx hb hB hown hK hA hk ce_w75 dX3_open_8 ?_
    refine lv_iload_n hx hb dX3_open_11 rfl (lv_at hl 3 rfl) ?_
    refine lv_aload_n hx hb dX3_open_12 rfl (lv_at hl 0 rfl) ?_
    refine ce_g_3_0 hx hb hB hown hK hA hk ce_w75 dX3_open_13 ?_
    refine lv_iload_n hx hb dX3_open_16 rfl (lv_at hl 3 rfl) ?_
    refine lv_iconst (v := 1) hx hb dX3_open_17 (by decide) ?_
    refine lv_isub hx hb dX3_open_18 ?_
    obtain ⟨i24, h⟩ := ce_gi_e h
    obtain ⟨x23, e25, h⟩ := ce_nm_e h
    refine ce_iald hx hb hK hA 10 (ce_kf_3_0 hk) i24 e25 dX3_open_19 ?_
    obtain ⟨i27, h⟩ := ce_gi_e h
    obtain ⟨M26, e28, h⟩ := ce_nm_e h
    refine ce_iast hx hb hK hA hS 10 (ce_kf_3_0 hk) i27 dX3_open_20 e28 (fun H locs hA hS => ?_)
    refine lv_aload_n hx hb dX3_open_21 rfl (lv_at hl 0 rfl) ?_
    refine ce_g_3_1 hx hb hB hown hK hA hk ce_w76 dX3_open_22 ?_
    refine lv_iload_n hx hb dX3_open_25 rfl (lv_at hl 3 rfl) ?_
    refine lv_aload_n hx hb dX3_open_26 rfl (lv_at hl 0 rfl) ?_
    refine ce_g_3_1 hx hb hB hown hK hA hk ce_w76 dX3_open_27 ?_
    refine lv_iload_n hx hb dX3_open_30 rfl (lv_at hl 3 rfl) ?_
    refine lv_iconst (v := 1) hx hb dX3_open_31 (by decide) ?_
    refine lv_isub hx hb dX3_open_32 ?_
    obtain ⟨i30, h⟩ := ce_gi_e h
    obtain ⟨x29, e31, h⟩ := ce_nm_e h
    refine ce_iald hx hb hK hA 10 (ce_kf_3_1 hk) i30 e31 dX3_open_33 ?_
    obtain ⟨i33, h⟩ := ce_gi_e h
    obtain ⟨M32, e34, h⟩ := ce_nm_e h
    refine ce_iast hx hb hK hA hS 10 (ce_kf_3_1 hk) i33 dX3_open_34 e34 (fun H locs hA hS => ?_)
    refine lv_aload_n hx hb dX3_open_35 rfl (lv_at hl 0 rfl) ?_
    refine ce_g_3_2 hx hb hB hown hK hA hk ce_w77 dX3_open_36 ?_
    refine lv_iload_n hx hb dX3_open_39 rfl (lv_at hl 3 rfl) ?_
    refine lv_aload_n hx hb dX3_open_40 rfl (lv_at hl 0 rfl) ?_
    refine ce_g_3_2 hx hb hB hown hK hA hk ce_w77 dX3_open_41 ?_
    refine lv_iload_n hx hb dX3_open_44 rfl (lv_at hl 3 rfl) ?_
    refine lv_iconst (v := 1) hx hb dX3_open_45 (by decide) ?_
    refine lv_isub hx hb dX3_open_46 ?_
    obtain ⟨i36, h⟩ := ce_gi_e h
    obtain ⟨x35, e37, h⟩ := ce_nm_e h
    refine ce_iald hx hb hK hA 10 (ce_kf_3_2 hk) i36 e37 dX3_open_47 ?_
    obtain ⟨i39, h⟩ := ce_gi_e h
    obtain ⟨M38, e40, h⟩ := ce_nm_e h
    refine ce_iast hx hb hK hA hS 10 (ce_kf_3_2 hk) i39 dX3_open_48 e40 (fun H locs hA hS => ?_)
    obtain ⟨x41, e42, h⟩ := ce_nm_e h
    refine lv_iinc (v := x41) (lv' := [(3, .int x41), (0, .ref (b + k)), (1, .int a1), (2, .int a2)]) hx hb dX3_open_49 hl (k := 3) rfl (by rw [← e42]; rfl) (by decide) rfl (fun ls hl => ?_)
    refine lv_goto (tgt := 3) hx hb dX3_open_52 (by decide) ?_
    exact ih4 M38 x41 h  _ _ _ hA hS (lv_sub hl [1, 2, 3, 0] rfl)
def f_X3_close (k : Nat) (M : ce_M) (a1 : Int32) : Option ce_M :=
  ce_gi 0 10 (ce_nm (ce_wr M (k + 3) (Int32.toNatClampNeg 0) a1) (fun (M1 : ce_M) =>
  some M1))
set_option maxRecDepth 100000 in
set_option maxHeartbeats 4000000 in
theorem c_X3_close (l : Launch) (X : ce_X) (G : ce_G) (b : Nat) {k : Nat} {a1 : Int32} {M : ce_M} (hk : ce_kd k = 3) {M' : ce_M} (h : f_X3_close k M a1 = some M') : ce_Ct l yX3_close cX3_close 2 none 0 0 X G b [.ref (b + k), .int a1] M none M' := by
  refine ce_ofW (own := RX3) (by decide) rfl (Nat.le_of_ble_eq_true rfl) (fun p e s m below meth c ls hx hb hr hlocks hml hown hB hF hA hl hS => ?_)
  have hK := hF.1
  have hl : lv_has ls 2 [(0, .ref (b + k)), (1, .int a1)] := hl
  unfold f_X3_close at h
  refine lv_aload_n hx hb dX3_close_0 rfl (lv_at hl 0 rfl) ?_
  refine ce_g_3_2 hx hb hB hown hK hA hk ce_w77 dX3_close_1 ?_
  refine lv_iconst (v := 0) hx hb dX3_close_4 (by decide) ?_
  refine lv_iload_n hx hb dX3_close_5 rfl (lv_at hl 1 rfl) ?_
  obtain ⟨i2, h⟩ := ce_gi_e h
  obtain ⟨M1, e3, h⟩ := ce_nm_e h
  refine ce_iast hx hb hK hA hS 10 (ce_kf_3_2 hk) i2 dX3_close_6 e3 (fun H locs hA hS => ?_)
  cases h
  exact ce_vret hx hb hr hlocks hA hS dX3_close_7
def f_X3_leafAt_L2 (M : ce_M) (k : Nat) (a1 : Int32) (rec2 : Int32 → Option Int32) (x1 : Int32) : Option Int32 :=
  if (ce_rd M k 3) ≤ x1 then
    some (-1)
  else
    ce_gi x1 10 (ce_nm (ce_rd M (k + 3) (Int32.toNatClampNeg x1)) (fun (x5 : Int32) =>
    ce_nm (fun (x10 : Int32) =>
      ce_gi x1 10 (ce_nm (ce_rd M (k + 2) (Int32.toNatClampNeg x1)) (fun (x12 : Int32) =>
      if a1 < x12 then
        ce_nm (x1 + 1) (fun (x16 : Int32) =>
        rec2 x16)
      else
        if x10 = 0 then
          ce_nm (x1 + 1) (fun (x19 : Int32) =>
          rec2 x19)
        else
          ce_gi x1 10 (ce_nm (ce_rd M (k + 1) (Int32.toNatClampNeg x1)) (fun (x21 : Int32) =>
          some x21))))) (fun (u11 : Int32 → Option Int32) =>
    ce_nm (fun (z9 : Unit) =>
      u11 1) (fun (u8 : Unit → Option Int32) =>
    if x5 = (-1) then
      u8 ()
    else
      ce_gi x1 10 (ce_nm (ce_rd M (k + 3) (Int32.toNatClampNeg x1)) (fun (x27 : Int32) =>
      if x27 ≤ a1 then
        u11 0
      else
        u8 ()))))))
def f_X3_leafAt (k : Nat) (M : ce_M) (a1 : Int32) : Option Int32 :=
  ce_lp1 (f_X3_leafAt_L2 M k a1) ce_FU 0
set_option maxRecDepth 100000 in
set_option maxHeartbeats 4000000 in
theorem c_X3_leafAt (l : Launch) (X : ce_X) (G : ce_G) (b : Nat) {k : Nat} {a1 : Int32} {M : ce_M} (hk : ce_kd k = 3) {r : Int32} (h : f_X3_leafAt k M a1 = some r) : ce_Ct l yX3_leafAt cX3_leafAt 4 (some .int) 0 0 X G b [.ref (b + k), .int a1] M (some (.int r)) M := by
  refine ce_ofW (own := RX3) (by decide) rfl (Nat.le_of_ble_eq_true rfl) (fun p e s m below meth c ls hx hb hr hlocks hml hown hB hF hA hl hS => ?_)
  have hK := hF.1
  have hl : lv_has ls 4 [(0, .ref (b + k)), (1, .int a1)] := hl
  unfold f_X3_leafAt at h
  refine lv_iconst (v := 0) hx hb dX3_leafAt_0 (by decide) ?_
  refine lv_istore_n (lv' := [(2, .int 0), (0, .ref (b + k)), (1, .int a1)]) hx hb dX3_leafAt_1 rfl hl (by decide) rfl (fun ls hl => ?_)
  refine ce_lp1_i (y := r) (P := fun (x1 : Int32) => ce_Wg p l e (ce_R 0 0 0 0) s m (([.ref (b + k), .int a1] : List Value).toArray) below meth c 0 0 (MQ below (ce_Q X b M (some (.int r))) ([.ref (b + k), .int a1] : List Value).toArray s 0 0 (ce_Ab b)) X b M 4 [(0, .ref (b + k)), (1, .int a1), (2, .int x1)] 2 []) (fun rec2 ih3 x1 h => ?_) _ _ h _ _ _ hA hS (lv_sub hl [1, 2, 0] rfl)
  intro H locs ls hA hS hl
  unfold f_X3_leafAt_L2 at h
  refine lv_iload_n hx hb dX3_leafAt_2 rfl (lv_at hl 2 rfl) ?_
  refine lv_aload_n hx hb dX3_leafAt_3 rfl (lv_at hl 0 rfl) ?_
  refine ce_g_3_3 hx hb hB hown hK hA hk ce_w78 dX3_leafAt_4 ?_
  refine lv_icmp_ge (tgt := 63) hx hb dX3_leafAt_7 (by decide) (fun c4 => ?_) (fun c4 => ?_)
  · have h := ce_it c4 h
    refine lv_iconst (v := (-1)) hx hb dX3_leafAt_63 (by decide) ?_
    cases h
    exact ce_iret hx hb hr hlocks hA hS dX3_leafAt_64
  · have h := ce_ie c4 h
    refine lv_aload_n hx hb dX3_leafAt_10 rfl (lv_at hl 0 rfl) ?_
    refine ce_g_3_2 hx hb hB hown hK hA hk ce_w77 dX3_leafAt_11 ?_
    refine lv_iload_n hx hb dX3_leafAt_14 rfl (lv_at hl 2 rfl) ?_
    obtain ⟨i6, h⟩ := ce_gi_e h
    obtain ⟨x5, e7, h⟩ := ce_nm_e h
    refine ce_iald hx hb hK hA 10 (ce_kf_3_2 hk) i6 e7 dX3_leafAt_15 ?_
    refine lv_iconst (v := (-1)) hx hb dX3_leafAt_16 (by decide) ?_
    obtain ⟨u11, e24, h⟩ := ce_nm_e h
    have Ju11 : ∀ (x10 : Int32), u11 x10 = some r → ce_Wg p l e (ce_R 0 0 0 0) s m (([.ref (b + k), .int a1] : List Value).toArray) below meth c 0 0 (MQ below (ce_Q X b M (some (.int r))) ([.ref (b + k), .int a1] : List Value).toArray s 0 0 (ce_Ab b)) X b M 4 [(0, .ref (b + k)), (1, .int a1), (2, .int x1)] 35 [.int x10] := by
      intro x10 h  H locs ls hA hS hl
      subst e24
      refine lv_istore_n (lv' := [(3, .int x10), (0, .ref (b + k)), (1, .int a1), (2, .int x1)]) hx hb dX3_leafAt_35 rfl hl (by decide) rfl (fun ls hl => ?_)
      refine lv_iload_n hx hb dX3_leafAt_36 rfl (lv_at hl 2 rfl) ?_
      refine lv_aload_n hx hb dX3_leafAt_37 rfl (lv_at hl 1 rfl) ?_
      refine ce_g_3_1 hx hb hB hown hK hA hk ce_w76 dX3_leafAt_38 ?_
      refine lv_iload_n hx hb dX3_leafAt_41 rfl (lv_at hl 3 rfl) ?_
      obtain ⟨i13, h⟩ := ce_gi_e h
      obtain ⟨x12, e14, h⟩ := ce_nm_e h
      refine ce_iald hx hb hK hA 10 (ce_kf_3_1 hk) i13 e14 dX3_leafAt_42 ?_
      refine lv_icmp_lt (tgt := 57) hx hb dX3_leafAt_43 (by decide) (fun c15 => ?_) (fun c15 => ?_)
      · have h := ce_it c15 h
        obtain ⟨x16, e17, h⟩ := ce_nm_e h
        refine lv_iinc (v := x16) (lv' := [(2, .int x16), (3, .int x10), (0, .ref (b + k)), (1, .int a1)]) hx hb dX3_leafAt_57 hl (k := 3) rfl (by rw [← e17]; rfl) (by decide) rfl (fun ls hl => ?_)
        refine lv_goto (tgt := 2) hx hb dX3_leafAt_60 (by decide) ?_
        exact ih3 x16 h  _ _ _ hA hS (lv_sub hl [2, 3, 0] rfl)
      · have h := ce_ie c15 h
        refine lv_iload_n hx hb dX3_leafAt_46 rfl (lv_at hl 0 rfl) ?_
        refine lv_if_eq (tgt := 57) hx hb dX3_leafAt_47 (by decide) (fun c18 => ?_) (fun c18 => ?_)
        · have h := ce_it c18 h
          obtain ⟨x19, e20, h⟩ := ce_nm_e h
          refine lv_iinc (v := x19) (lv' := [(2, .int x19), (3, .int x10), (0, .ref (b + k)), (1, .int a1)]) hx hb dX3_leafAt_57 hl (k := 3) rfl (by rw [← e20]; rfl) (by decide) rfl (fun ls hl => ?_)
          refine lv_goto (tgt := 2) hx hb dX3_leafAt_60 (by decide) ?_
          exact ih3 x19 h  _ _ _ hA hS (lv_sub hl [2, 3, 0] rfl)
        · have h := ce_ie c18 h
          refine lv_aload_n hx hb dX3_leafAt_50 rfl (lv_at hl 1 rfl) ?_
          refine ce_g_3_0 hx hb hB hown hK hA hk ce_w75 dX3_leafAt_51 ?_
          refine lv_iload_n hx hb dX3_leafAt_54 rfl (lv_at hl 3 rfl) ?_
          obtain ⟨i22, h⟩ := ce_gi_e h
          obtain ⟨x21, e23, h⟩ := ce_nm_e h
          refine ce_iald hx hb hK hA 10 (ce_kf_3_0 hk) i22 e23 dX3_leafAt_55 ?_
          cases h
          exact ce_iret hx hb hr hlocks hA hS dX3_leafAt_56
    obtain ⟨u8, e25, h⟩ := ce_nm_e h
    have Ju8 : ∀ (z9 : Unit), u8 z9 = some r → ce_Wg p l e (ce_R 0 0 0 0) s m (([.ref (b + k), .int a1] : List Value).toArray) below meth c 0 0 (MQ below (ce_Q X b M (some (.int r))) ([.ref (b + k), .int a1] : List Value).toArray s 0 0 (ce_Ab b)) X b M 4 [(0, .ref (b + k)), (1, .int a1), (2, .int x1)] 30 [] := by
      intro z9 h  H locs ls hA hS hl
      subst e25
      refine lv_iconst (v := 1) hx hb dX3_leafAt_30 (by decide) ?_
      refine lv_goto (tgt := 35) hx hb dX3_leafAt_31 (by decide) ?_
      exact Ju11 1 h  _ _ _ hA hS (lv_sub hl [0, 1, 2] rfl)
    refine lv_icmp_eq (tgt := 30) hx hb dX3_leafAt_17 (by decide) (fun c26 => ?_) (fun c26 => ?_)
    · have h := ce_it c26 h
      exact Ju8 () h  _ _ _ hA hS (lv_sub hl [0, 1, 2] rfl)
    · have h := ce_ie c26 h
      refine lv_iload_n hx hb dX3_leafAt_20 rfl (lv_at hl 1 rfl) ?_
      refine lv_aload_n hx hb dX3_leafAt_21 rfl (lv_at hl 0 rfl) ?_
      refine ce_g_3_2 hx hb hB hown hK hA hk ce_w77 dX3_leafAt_22 ?_
      refine lv_iload_n hx hb dX3_leafAt_25 rfl (lv_at hl 2 rfl) ?_
      obtain ⟨i28, h⟩ := ce_gi_e h
      obtain ⟨x27, e29, h⟩ := ce_nm_e h
      refine ce_iald hx hb hK hA 10 (ce_kf_3_2 hk) i28 e29 dX3_leafAt_26 ?_
      refine lv_icmp_ge (tgt := 34) hx hb dX3_leafAt_27 (by decide) (fun c30 => ?_) (fun c30 => ?_)
      · have h := ce_it c30 h
        refine lv_iconst (v := 0) hx hb dX3_leafAt_34 (by decide) ?_
        exact Ju11 0 h  _ _ _ hA hS (lv_sub hl [0, 1, 2] rfl)
      · have h := ce_ie c30 h
        exact Ju8 () h  _ _ _ hA hS (lv_sub hl [0, 1, 2] rfl)
def f_X3_valueOf (k : Nat) (M : ce_M) (a1 : Int32) (a2 : Int32) : Option Int32 :=
  if a1 < (ce_rd M k 3) then
    if a2 = 0 then
      ce_gi a1 10 (ce_nm (ce_rd M (k + 1) (Int32.toNatClampNeg a1)) (fun (x10 : Int32) =>
      some x10))
    else
      if a2 = 1 then
        ce_gi a1 10 (ce_nm (ce_rd M (k + 2) (Int32.toNatClampNeg a1)) (fun (x7 : Int32) =>
        some x7))
      else
        ce_gi a1 10 (ce_nm (ce_rd M (k + 3) (Int32.toNatClampNeg a1)) (fun (x4 : Int32) =>
        some x4))
  else
    some (-1)
set_option maxRecDepth 100000 in
set_option maxHeartbeats 4000000 in
theorem c_X3_valueOf (l : Launch) (X : ce_X) (G : ce_G) (b : Nat) {k : Nat} {a1 : Int32} {a2 : Int32} {M : ce_M} (hk : ce_kd k = 3) {r : Int32} (h : f_X3_valueOf k M a1 a2 = some r) : ce_Ct l yX3_valueOf cX3_valueOf 3 (some .int) 0 0 X G b [.ref (b + k), .int a1, .int a2] M (some (.int r)) M := by
  refine ce_ofW (own := RX3) (by decide) rfl (Nat.le_of_ble_eq_true rfl) (fun p e s m below meth c ls hx hb hr hlocks hml hown hB hF hA hl hS => ?_)
  have hK := hF.1
  have hl : lv_has ls 3 [(0, .ref (b + k)), (1, .int a1), (2, .int a2)] := hl
  unfold f_X3_valueOf at h
  refine lv_iload_n hx hb dX3_valueOf_0 rfl (lv_at hl 1 rfl) ?_
  refine lv_aload_n hx hb dX3_valueOf_1 rfl (lv_at hl 0 rfl) ?_
  refine ce_g_3_3 hx hb hB hown hK hA hk ce_w78 dX3_valueOf_2 ?_
  refine lv_icmp_lt (tgt := 10) hx hb dX3_valueOf_5 (by decide) (fun c1 => ?_) (fun c1 => ?_)
  · have h := ce_it c1 h
    refine lv_iload_n hx hb dX3_valueOf_10 rfl (lv_at hl 2 rfl) ?_
    refine lv_if_ne (tgt := 21) hx hb dX3_valueOf_11 (by decide) (fun c2 => ?_) (fun c2 => ?_)
    · have h := ce_ie c2 h
      refine lv_iload_n hx hb dX3_valueOf_21 rfl (lv_at hl 2 rfl) ?_
      refine lv_iconst (v := 1) hx hb dX3_valueOf_22 (by decide) ?_
      refine lv_icmp_ne (tgt := 35) hx hb dX3_valueOf_23 (by decide) (fun c3 => ?_) (fun c3 => ?_)
      · have h := ce_ie c3 h
        refine lv_aload_n hx hb dX3_valueOf_35 rfl (lv_at hl 0 rfl) ?_
        refine ce_g_3_2 hx hb hB hown hK hA hk ce_w77 dX3_valueOf_36 ?_
        refine lv_iload_n hx hb dX3_valueOf_39 rfl (lv_at hl 1 rfl) ?_
        obtain ⟨i5, h⟩ := ce_gi_e h
        obtain ⟨x4, e6, h⟩ := ce_nm_e h
        refine ce_iald hx hb hK hA 10 (ce_kf_3_2 hk) i5 e6 dX3_valueOf_40 ?_
        cases h
        exact ce_iret hx hb hr hlocks hA hS dX3_valueOf_41
      · have h := ce_it c3 h
        refine lv_aload_n hx hb dX3_valueOf_26 rfl (lv_at hl 0 rfl) ?_
        refine ce_g_3_1 hx hb hB hown hK hA hk ce_w76 dX3_valueOf_27 ?_
        refine lv_iload_n hx hb dX3_valueOf_30 rfl (lv_at hl 1 rfl) ?_
        obtain ⟨i8, h⟩ := ce_gi_e h
        obtain ⟨x7, e9, h⟩ := ce_nm_e h
        refine ce_iald hx hb hK hA 10 (ce_kf_3_1 hk) i8 e9 dX3_valueOf_31 ?_
        refine lv_goto (tgt := 41) hx hb dX3_valueOf_32 (by decide) ?_
        cases h
        exact ce_iret hx hb hr hlocks hA hS dX3_valueOf_41
    · have h := ce_it c2 h
      refine lv_aload_n hx hb dX3_valueOf_14 rfl (lv_at hl 0 rfl) ?_
      refine ce_g_3_0 hx hb hB hown hK hA hk ce_w75 dX3_valueOf_15 ?_
      refine lv_iload_n hx hb dX3_valueOf_18 rfl (lv_at hl 1 rfl) ?_
      obtain ⟨i11, h⟩ := ce_gi_e h
      obtain ⟨x10, e12, h⟩ := ce_nm_e h
      refine ce_iald hx hb hK hA 10 (ce_kf_3_0 hk) i11 e12 dX3_valueOf_19 ?_
      cases h
      exact ce_iret hx hb hr hlocks hA hS dX3_valueOf_20
  · have h := ce_ie c1 h
    refine lv_iconst (v := (-1)) hx hb dX3_valueOf_8 (by decide) ?_
    cases h
    exact ce_iret hx hb hr hlocks hA hS dX3_valueOf_9
