def f_X8_thrown (k : Nat) (M : ce_M) : Option Int32 :=
  some (ce_rd M k 4)
set_option maxRecDepth 100000 in
set_option maxHeartbeats 4000000 in
theorem c_X8_thrown (l : Launch) (X : ce_X) (G : ce_G) (b : Nat) {k : Nat} {M : ce_M} (hk : ce_kd k = 8) {r : Int32} (h : f_X8_thrown k M = some r) : ce_Ct l yX8_thrown cX8_thrown 1 (some .int) 0 0 X G b [.ref (b + k)] M (some (.int r)) M := by
  refine ce_ofW (own := RX8) (by decide) rfl (Nat.le_of_ble_eq_true rfl) (fun p e s m below meth c ls hx hb hr hlocks hml hown hB hF hA hl hS => ?_)
  have hK := hF.1
  have hl : lv_has ls 1 [(0, .ref (b + k))] := hl
  unfold f_X8_thrown at h
  refine lv_aload_n hx hb dX8_thrown_0 rfl (lv_at hl 0 rfl) ?_
  refine ce_g_8_4 hx hb hB hown hK hA hk ce_w948 dX8_thrown_1 ?_
  cases h
  exact ce_iret hx hb hr hlocks hA hS dX8_thrown_4
def f_X8_in (M : ce_M) (a1 : Int32) (a2 : Int32) (a3 : Int32) : Option Int32 :=
  if a1 < a2 then
    some 0
  else
    if a3 < a1 then
      some 0
    else
      some 1
set_option maxRecDepth 100000 in
set_option maxHeartbeats 4000000 in
theorem c_X8_in (l : Launch) (X : ce_X) (G : ce_G) (b : Nat) {a1 : Int32} {a2 : Int32} {a3 : Int32} {M : ce_M}  {r : Int32} (h : f_X8_in M a1 a2 a3 = some r) : ce_Ct l yX8_in cX8_in 3 (some .boolean) 0 0 X G b [.int a1, .int a2, .int a3] M (some (.int r)) M := by
  refine ce_ofW (own := RX8) (by decide) rfl (Nat.le_of_ble_eq_true rfl) (fun p e s m below meth c ls hx hb hr hlocks hml hown hB hF hA hl hS => ?_)
  have hK := hF.1
  have hl : lv_has ls 3 [(0, .int a1), (1, .int a2), (2, .int a3)] := hl
  unfold f_X8_in at h
  refine lv_iload_n hx hb dX8_in_0 rfl (lv_at hl 0 rfl) ?_
  refine lv_iload_n hx hb dX8_in_1 rfl (lv_at hl 1 rfl) ?_
  refine lv_icmp_lt (tgt := 14) hx hb dX8_in_2 (by decide) (fun c1 => ?_) (fun c1 => ?_)
  · have h := ce_it c1 h
    refine lv_iconst (v := 0) hx hb dX8_in_14 (by decide) ?_
    cases h
    exact ce_zret hx hb hr hlocks (Or.inl rfl) hA hS dX8_in_15
  · have h := ce_ie c1 h
    refine lv_iload_n hx hb dX8_in_5 rfl (lv_at hl 0 rfl) ?_
    refine lv_iload_n hx hb dX8_in_6 rfl (lv_at hl 2 rfl) ?_
    refine lv_icmp_gt (tgt := 14) hx hb dX8_in_7 (by decide) (fun c2 => ?_) (fun c2 => ?_)
    · have h := ce_it c2 h
      refine lv_iconst (v := 0) hx hb dX8_in_14 (by decide) ?_
      cases h
      exact ce_zret hx hb hr hlocks (Or.inl rfl) hA hS dX8_in_15
    · have h := ce_ie c2 h
      refine lv_iconst (v := 1) hx hb dX8_in_10 (by decide) ?_
      refine lv_goto (tgt := 15) hx hb dX8_in_11 (by decide) ?_
      cases h
      exact ce_zret hx hb hr hlocks (Or.inr rfl) hA hS dX8_in_15
def f_X8_fails (k : Nat) (M : ce_M) (a1 : Int32) : Option (ce_M × Int32) :=
  ce_nm (ce_wr M k 4 a1) (fun (M1 : ce_M) =>
  some (M1, 0))
set_option maxRecDepth 100000 in
set_option maxHeartbeats 4000000 in
theorem c_X8_fails (l : Launch) (X : ce_X) (G : ce_G) (b : Nat) {k : Nat} {a1 : Int32} {M : ce_M} (hk : ce_kd k = 8) {M' : ce_M} {r : Int32} (h : f_X8_fails k M a1 = some (M', r)) : ce_Ct l yX8_fails cX8_fails 2 (some .int) 0 0 X G b [.ref (b + k), .int a1] M (some (.int r)) M' := by
  refine ce_ofW (own := RX8) (by decide) rfl (Nat.le_of_ble_eq_true rfl) (fun p e s m below meth c ls hx hb hr hlocks hml hown hB hF hA hl hS => ?_)
  have hK := hF.1
  have hl : lv_has ls 2 [(0, .ref (b + k)), (1, .int a1)] := hl
  unfold f_X8_fails at h
  refine lv_aload_n hx hb dX8_fails_0 rfl (lv_at hl 0 rfl) ?_
  refine lv_iload_n hx hb dX8_fails_1 rfl (lv_at hl 1 rfl) ?_
  obtain ⟨M1, e2, h⟩ := ce_nm_e h
  refine ce_p_8_4 hx hb hB hown hK hA hS hk ce_w948 dX8_fails_2 e2 (fun H locs hA hS => ?_)
  refine lv_iconst (v := 0) hx hb dX8_fails_5 (by decide) ?_
  cases h
  exact ce_iret hx hb hr hlocks hA hS dX8_fails_6
def f_X8_tells (k : Nat) (M : ce_M) (a1 : Int32) : Option (ce_M × Int32) :=
  ce_nm (ce_wr M k 4 0) (fun (M1 : ce_M) =>
  some (M1, a1))
set_option maxRecDepth 100000 in
set_option maxHeartbeats 4000000 in
theorem c_X8_tells (l : Launch) (X : ce_X) (G : ce_G) (b : Nat) {k : Nat} {a1 : Int32} {M : ce_M} (hk : ce_kd k = 8) {M' : ce_M} {r : Int32} (h : f_X8_tells k M a1 = some (M', r)) : ce_Ct l yX8_tells cX8_tells 2 (some .int) 0 0 X G b [.ref (b + k), .int a1] M (some (.int r)) M' := by
  refine ce_ofW (own := RX8) (by decide) rfl (Nat.le_of_ble_eq_true rfl) (fun p e s m below meth c ls hx hb hr hlocks hml hown hB hF hA hl hS => ?_)
  have hK := hF.1
  have hl : lv_has ls 2 [(0, .ref (b + k)), (1, .int a1)] := hl
  unfold f_X8_tells at h
  refine lv_aload_n hx hb dX8_tells_0 rfl (lv_at hl 0 rfl) ?_
  refine lv_iconst (v := 0) hx hb dX8_tells_1 (by decide) ?_
  obtain ⟨M1, e2, h⟩ := ce_nm_e h
  refine ce_p_8_4 hx hb hB hown hK hA hS hk ce_w948 dX8_tells_2 e2 (fun H locs hA hS => ?_)
  refine lv_iload_n hx hb dX8_tells_5 rfl (lv_at hl 1 rfl) ?_
  cases h
  exact ce_iret hx hb hr hlocks hA hS dX8_tells_6
def f_X8_laysAside_L2 (k : Nat) (rec3 : ce_M → Int32 → Option ce_M) (M1 : ce_M) (x2 : Int32) : Option ce_M :=
  if 816 ≤ x2 then
    some M1
  else
    ce_gi x2 816 (ce_nm (ce_rd M1 (k + 1) (Int32.toNatClampNeg x2)) (fun (x6 : Int32) =>
    ce_gi x2 816 (ce_nm (ce_wr M1 (k + 3) (Int32.toNatClampNeg x2) x6) (fun (M9 : ce_M) =>
    ce_nm (x2 + 1) (fun (x12 : Int32) =>
    rec3 M9 x12)))))
def f_X8_laysAside (k : Nat) (M : ce_M) : Option ce_M :=
  ce_lp2 (f_X8_laysAside_L2 k) ce_FU M 0
set_option maxRecDepth 100000 in
set_option maxHeartbeats 4000000 in
theorem c_X8_laysAside (l : Launch) (X : ce_X) (G : ce_G) (b : Nat) {k : Nat} {M : ce_M} (hk : ce_kd k = 8) {M' : ce_M} (h : f_X8_laysAside k M = some M') : ce_Ct l yX8_laysAside cX8_laysAside 2 none 0 0 X G b [.ref (b + k)] M none M' := by
  refine ce_ofW (own := RX8) (by decide) rfl (Nat.le_of_ble_eq_true rfl) (fun p e s m below meth c ls hx hb hr hlocks hml hown hB hF hA hl hS => ?_)
  have hK := hF.1
  have hl : lv_has ls 2 [(0, .ref (b + k))] := hl
  unfold f_X8_laysAside at h
  refine lv_iconst (v := 0) hx hb dX8_laysAside_0 (by decide) ?_
  refine lv_istore_n (lv' := [(1, .int 0), (0, .ref (b + k))]) hx hb dX8_laysAside_1 rfl hl (by decide) rfl (fun ls hl => ?_)
  refine ce_lp2_i (y := M') (P := fun (M1 : ce_M) (x2 : Int32) => ce_Wg p l e (ce_R 0 0 0 0) s m (([.ref (b + k)] : List Value).toArray) below meth c 0 0 (MQ below (ce_Q X b M' none) ([.ref (b + k)] : List Value).toArray s 0 0 (ce_Ab b)) X b M1 2 [(0, .ref (b + k)), (1, .int x2)] 2 []) (fun rec3 ih4 M1 x2 h => ?_) _ _ _ h _ _ _ hA hS (lv_sub hl [1, 0] rfl)
  intro H locs ls hA hS hl
  unfold f_X8_laysAside_L2 at h
  refine lv_iload_n hx hb dX8_laysAside_2 rfl (lv_at hl 1 rfl) ?_
  refine lv_sipush (v := 816) hx hb dX8_laysAside_3 (by decide) ?_
  refine lv_icmp_ge (tgt := 27) hx hb dX8_laysAside_6 (by decide) (fun c5 => ?_) (fun c5 => ?_)
  · have h := ce_it c5 h
    cases h
    exact ce_vret hx hb hr hlocks hA hS dX8_laysAside_27
  · have h := ce_ie c5 h
    refine lv_aload_n hx hb dX8_laysAside_9 rfl (lv_at hl 0 rfl) ?_
    refine ce_g_8_2 hx hb hB hown hK hA hk ce_w946 dX8_laysAside_10 ?_
    refine lv_iload_n hx hb dX8_laysAside_13 rfl (lv_at hl 1 rfl) ?_
    refine lv_aload_n hx hb dX8_laysAside_14 rfl (lv_at hl 0 rfl) ?_
    refine ce_g_8_0 hx hb hB hown hK hA hk ce_w944 dX8_laysAside_15 ?_
    refine lv_iload_n hx hb dX8_laysAside_18 rfl (lv_at hl 1 rfl) ?_
    obtain ⟨i7, h⟩ := ce_gi_e h
    obtain ⟨x6, e8, h⟩ := ce_nm_e h
    refine ce_iald hx hb hK hA 816 (ce_kf_8_0 hk) i7 e8 dX8_laysAside_19 ?_
    obtain ⟨i10, h⟩ := ce_gi_e h
    obtain ⟨M9, e11, h⟩ := ce_nm_e h
    refine ce_iast hx hb hK hA hS 816 (ce_kf_8_2 hk) i10 dX8_laysAside_20 e11 (fun H locs hA hS => ?_)
    obtain ⟨x12, e13, h⟩ := ce_nm_e h
    refine lv_iinc (v := x12) (lv' := [(1, .int x12), (0, .ref (b + k))]) hx hb dX8_laysAside_21 hl (k := 1) rfl (by rw [← e13]; rfl) (by decide) rfl (fun ls hl => ?_)
    refine lv_goto (tgt := 2) hx hb dX8_laysAside_24 (by decide) ?_
    exact ih4 M9 x12 h  _ _ _ hA hS (lv_sub hl [1, 0] rfl)
def f_X8_bringsBack_L2 (k : Nat) (rec3 : ce_M → Int32 → Option ce_M) (M1 : ce_M) (x2 : Int32) : Option ce_M :=
  if 816 ≤ x2 then
    some M1
  else
    ce_gi x2 816 (ce_nm (ce_rd M1 (k + 3) (Int32.toNatClampNeg x2)) (fun (x6 : Int32) =>
    ce_gi x2 816 (ce_nm (ce_wr M1 (k + 1) (Int32.toNatClampNeg x2) x6) (fun (M9 : ce_M) =>
    ce_nm (x2 + 1) (fun (x12 : Int32) =>
    rec3 M9 x12)))))
def f_X8_bringsBack (k : Nat) (M : ce_M) : Option ce_M :=
  ce_lp2 (f_X8_bringsBack_L2 k) ce_FU M 0
set_option maxRecDepth 100000 in
set_option maxHeartbeats 4000000 in
theorem c_X8_bringsBack (l : Launch) (X : ce_X) (G : ce_G) (b : Nat) {k : Nat} {M : ce_M} (hk : ce_kd k = 8) {M' : ce_M} (h : f_X8_bringsBack k M = some M') : ce_Ct l yX8_bringsBack cX8_bringsBack 2 none 0 0 X G b [.ref (b + k)] M none M' := by
  refine ce_ofW (own := RX8) (by decide) rfl (Nat.le_of_ble_eq_true rfl) (fun p e s m below meth c ls hx hb hr hlocks hml hown hB hF hA hl hS => ?_)
  have hK := hF.1
  have hl : lv_has ls 2 [(0, .ref (b + k))] := hl
  unfold f_X8_bringsBack at h
  refine lv_iconst (v := 0) hx hb dX8_bringsBack_0 (by decide) ?_
  refine lv_istore_n (lv' := [(1, .int 0), (0, .ref (b + k))]) hx hb dX8_bringsBack_1 rfl hl (by decide) rfl (fun ls hl => ?_)
  refine ce_lp2_i (y := M') (P := fun (M1 : ce_M) (x2 : Int32) => ce_Wg p l e (ce_R 0 0 0 0) s m (([.ref (b + k)] : List Value).toArray) below meth c 0 0 (MQ below (ce_Q X b M' none) ([.ref (b + k)] : List Value).toArray s 0 0 (ce_Ab b)) X b M1 2 [(0, .ref (b + k)), (1, .int x2)] 2 []) (fun rec3 ih4 M1 x2 h => ?_) _ _ _ h _ _ _ hA hS (lv_sub hl [1, 0] rfl)
  intro H locs ls hA hS hl
  unfold f_X8_bringsBack_L2 at h
  refine lv_iload_n hx hb dX8_bringsBack_2 rfl (lv_at hl 1 rfl) ?_
  refine lv_sipush (v := 816) hx hb dX8_bringsBack_3 (by decide) ?_
  refine lv_icmp_ge (tgt := 27) hx hb dX8_bringsBack_6 (by decide) (fun c5 => ?_) (fun c5 => ?_)
  · have h := ce_it c5 h
    cases h
    exact ce_vret hx hb hr hlocks hA hS dX8_bringsBack_27
  · have h := ce_ie c5 h
    refine lv_aload_n hx hb dX8_bringsBack_9 rfl (lv_at hl 0 rfl) ?_
    refine ce_g_8_0 hx hb hB hown hK hA hk ce_w944 dX8_bringsBack_10 ?_
    refine lv_iload_n hx hb dX8_bringsBack_13 rfl (lv_at hl 1 rfl) ?_
    refine lv_aload_n hx hb dX8_bringsBack_14 rfl (lv_at hl 0 rfl) ?_
    refine ce_g_8_2 hx hb hB hown hK hA hk ce_w946 dX8_bringsBack_15 ?_
    refine lv_iload_n hx hb dX8_bringsBack_18 rfl (lv_at hl 1 rfl) ?_
    obtain ⟨i7, h⟩ := ce_gi_e h
    obtain ⟨x6, e8, h⟩ := ce_nm_e h
    refine ce_iald hx hb hK hA 816 (ce_kf_8_2 hk) i7 e8 dX8_bringsBack_19 ?_
    obtain ⟨i10, h⟩ := ce_gi_e h
    obtain ⟨M9, e11, h⟩ := ce_nm_e h
    refine ce_iast hx hb hK hA hS 816 (ce_kf_8_0 hk) i10 dX8_bringsBack_20 e11 (fun H locs hA hS => ?_)
    obtain ⟨x12, e13, h⟩ := ce_nm_e h
    refine lv_iinc (v := x12) (lv' := [(1, .int x12), (0, .ref (b + k))]) hx hb dX8_bringsBack_21 hl (k := 1) rfl (by rw [← e13]; rfl) (by decide) rfl (fun ls hl => ?_)
    refine lv_goto (tgt := 2) hx hb dX8_bringsBack_24 (by decide) ?_
    exact ih4 M9 x12 h  _ _ _ hA hS (lv_sub hl [1, 0] rfl)
def f_X8_keeps_L51 (k : Nat) (u8 : ce_M → Option ce_M) (rec5 : ce_M → Int32 → Option ce_M) (M3 : ce_M) (x4 : Int32) : Option ce_M :=
  if 816 ≤ x4 then
    u8 M3
  else
    ce_gi x4 816 (ce_nm (ce_rd M3 (k + 3) (Int32.toNatClampNeg x4)) (fun (x13 : Int32) =>
    ce_gi ((816 * (ce_rd M3 k 3)) + x4) 3264 (ce_nm (ce_wr M3 (k + 2) (Int32.toNatClampNeg ((816 * (ce_rd M3 k 3)) + x4)) x13) (fun (M16 : ce_M) =>
    ce_nm (x4 + 1) (fun (x19 : Int32) =>
    rec5 M16 x19)))))
def f_X8_keeps_L10 (k : Nat) (u28 : ce_M → Option ce_M) (rec25 : ce_M → Int32 → Option ce_M) (M23 : ce_M) (x24 : Int32) : Option ce_M :=
  if 2448 ≤ x24 then
    u28 M23
  else
    ce_gi (x24 + 816) 3264 (ce_nm (ce_rd M23 (k + 2) (Int32.toNatClampNeg (x24 + 816))) (fun (x33 : Int32) =>
    ce_gi x24 3264 (ce_nm (ce_wr M23 (k + 2) (Int32.toNatClampNeg x24) x33) (fun (M36 : ce_M) =>
    ce_nm (x24 + 1) (fun (x39 : Int32) =>
    rec25 M36 x39)))))
def f_X8_keeps (k : Nat) (M : ce_M) : Option ce_M :=
  ce_nm (fun (M1 : ce_M) =>
      ce_nm (fun (M7 : ce_M) =>
          ce_nm (ce_wr M7 k 3 ((ce_rd M7 k 3) + 1)) (fun (M9 : ce_M) =>
          some M9)) (fun (u8 : ce_M → Option ce_M) =>
      ce_lp2 (f_X8_keeps_L51 k u8) ce_FU M1 0)) (fun (u2 : ce_M → Option ce_M) =>
  if (ce_rd M k 3) = 4 then
    ce_nm (fun (M27 : ce_M) =>
      ce_nm (ce_wr M27 k 3 ((ce_rd M27 k 3) - 1)) (fun (M29 : ce_M) =>
      u2 M29)) (fun (u28 : ce_M → Option ce_M) =>
    ce_lp2 (f_X8_keeps_L10 k u28) ce_FU M 0)
  else
    u2 M)
set_option maxRecDepth 100000 in
set_option maxHeartbeats 4000000 in
theorem c_X8_keeps (l : Launch) (X : ce_X) (G : ce_G) (b : Nat) {k : Nat} {M : ce_M} (hk : ce_kd k = 8) {M' : ce_M} (h : f_X8_keeps k M = some M') : ce_Ct l yX8_keeps cX8_keeps 2 none 0 0 X G b [.ref (b + k)] M none M' := by
  refine ce_ofW (own := RX8) (by decide) rfl (Nat.le_of_ble_eq_true rfl) (fun p e s m below meth c ls hx hb hr hlocks hml hown hB hF hA hl hS => ?_)
  have hK := hF.1
  have hl : lv_has ls 2 [(0, .ref (b + k))] := hl
  unfold f_X8_keeps at h
  refine lv_aload_n hx hb dX8_keeps_0 rfl (lv_at hl 0 rfl) ?_
  refine ce_g_8_3 hx hb hB hown hK hA hk ce_w947 dX8_keeps_1 ?_
  refine lv_iconst (v := 4) hx hb dX8_keeps_4 (by decide) ?_
  obtain ⟨u2, e21, h⟩ := ce_nm_e h
  have Ju2 : ∀ (M1 : ce_M), u2 M1 = some M' → ce_Wg p l e (ce_R 0 0 0 0) s m (([.ref (b + k)] : List Value).toArray) below meth c 0 0 (MQ below (ce_Q X b M' none) ([.ref (b + k)] : List Value).toArray s 0 0 (ce_Ab b)) X b M1 2 [(0, .ref (b + k))] 49 [] := by
    intro M1 h  H locs ls hA hS hl
    subst e21
    refine lv_iconst (v := 0) hx hb dX8_keeps_49 (by decide) ?_
    refine lv_istore_n (lv' := [(1, .int 0), (0, .ref (b + k))]) hx hb dX8_keeps_50 rfl hl (by decide) rfl (fun ls hl => ?_)
    obtain ⟨u8, e11, h⟩ := ce_nm_e h
    have Ju8 : ∀ (M7 : ce_M), u8 M7 = some M' → ce_Wg p l e (ce_R 0 0 0 0) s m (([.ref (b + k)] : List Value).toArray) below meth c 0 0 (MQ below (ce_Q X b M' none) ([.ref (b + k)] : List Value).toArray s 0 0 (ce_Ab b)) X b M7 2 [(0, .ref (b + k))] 85 [] := by
      intro M7 h  H locs ls hA hS hl
      subst e11
      refine lv_aload_n hx hb dX8_keeps_85 rfl (lv_at hl 0 rfl) ?_
      refine lv_dup hx hb dX8_keeps_86 rfl ?_
      refine ce_g_8_3 hx hb hB hown hK hA hk ce_w947 dX8_keeps_87 ?_
      refine lv_iconst (v := 1) hx hb dX8_keeps_90 (by decide) ?_
      refine lv_iadd hx hb dX8_keeps_91 ?_
      obtain ⟨M9, e10, h⟩ := ce_nm_e h
      refine ce_p_8_3 hx hb hB hown hK hA hS hk ce_w947 dX8_keeps_92 e10 (fun H locs hA hS => ?_)
      cases h
      exact ce_vret hx hb hr hlocks hA hS dX8_keeps_95
    refine ce_lp2_i (y := M') (P := fun (M3 : ce_M) (x4 : Int32) => ce_Wg p l e (ce_R 0 0 0 0) s m (([.ref (b + k)] : List Value).toArray) below meth c 0 0 (MQ below (ce_Q X b M' none) ([.ref (b + k)] : List Value).toArray s 0 0 (ce_Ab b)) X b M3 2 [(0, .ref (b + k)), (1, .int x4)] 51 []) (fun rec5 ih6 M3 x4 h => ?_) _ _ _ h _ _ _ hA hS (lv_sub hl [1, 0] rfl)
    intro H locs ls hA hS hl
    unfold f_X8_keeps_L51 at h
    refine lv_iload_n hx hb dX8_keeps_51 rfl (lv_at hl 1 rfl) ?_
    refine lv_sipush (v := 816) hx hb dX8_keeps_52 (by decide) ?_
    refine lv_icmp_ge (tgt := 85) hx hb dX8_keeps_55 (by decide) (fun c12 => ?_) (fun c12 => ?_)
    · have h := ce_it c12 h
      exact Ju8 M3 h  _ _ _ hA hS (lv_sub hl [0] rfl)
    · have h := ce_ie c12 h
      refine lv_aload_n hx hb dX8_keeps_58 rfl (lv_at hl 0 rfl) ?_
      refine ce_g_8_1 hx hb hB hown hK hA hk ce_w945 dX8_keeps_59 ?_
      refine lv_sipush (v := 816) hx hb dX8_keeps_62 (by decide) ?_
      refine lv_aload_n hx hb dX8_keeps_65 rfl (lv_at hl 0 rfl) ?_
      refine ce_g_8_3 hx hb hB hown hK hA hk ce_w947 dX8_keeps_66 ?_
      refine lv_imul hx hb dX8_keeps_69 ?_
      refine lv_iload_n hx hb dX8_keeps_70 rfl (lv_at hl 1 rfl) ?_
      refine lv_iadd hx hb dX8_keeps_71 ?_
      refine lv_aload_n hx hb dX8_keeps_72 rfl (lv_at hl 0 rfl) ?_
      refine ce_g_8_2 hx hb hB hown hK hA hk ce_w946 dX8_keeps_73 ?_
      refine lv_iload_n hx hb dX8_keeps_76 rfl (lv_at hl 1 rfl) ?_
      obtain ⟨i14, h⟩ := ce_gi_e h
      obtain ⟨x13, e15, h⟩ := ce_nm_e h
      refine ce_iald hx hb hK hA 816 (ce_kf_8_2 hk) i14 e15 dX8_keeps_77 ?_
      obtain ⟨i17, h⟩ := ce_gi_e h
      obtain ⟨M16, e18, h⟩ := ce_nm_e h
      refine ce_iast hx hb hK hA hS 3264 (ce_kf_8_1 hk) i17 dX8_keeps_78 e18 (fun H locs hA hS => ?_)
      obtain ⟨x19, e20, h⟩ := ce_nm_e h
      refine lv_iinc (v := x19) (lv' := [(1, .int x19), (0, .ref (b + k))]) hx hb dX8_keeps_79 hl (k := 1) rfl (by rw [← e20]; rfl) (by decide) rfl (fun ls hl => ?_)
      refine lv_goto (tgt := 51) hx hb dX8_keeps_82 (by decide) ?_
      exact ih6 M16 x19 h  _ _ _ hA hS (lv_sub hl [1, 0] rfl)
  refine lv_icmp_ne (tgt := 49) hx hb dX8_keeps_5 (by decide) (fun c22 => ?_) (fun c22 => ?_)
  · have h := ce_ie c22 h
    exact Ju2 M h  _ _ _ hA hS (lv_sub hl [0] rfl)
  · have h := ce_it c22 h
    refine lv_iconst (v := 0) hx hb dX8_keeps_8 (by decide) ?_
    refine lv_istore_n (lv' := [(1, .int 0), (0, .ref (b + k))]) hx hb dX8_keeps_9 rfl hl (by decide) rfl (fun ls hl => ?_)
    obtain ⟨u28, e31, h⟩ := ce_nm_e h
    have Ju28 : ∀ (M27 : ce_M), u28 M27 = some M' → ce_Wg p l e (ce_R 0 0 0 0) s m (([.ref (b + k)] : List Value).toArray) below meth c 0 0 (MQ below (ce_Q X b M' none) ([.ref (b + k)] : List Value).toArray s 0 0 (ce_Ab b)) X b M27 2 [(0, .ref (b + k))] 39 [] := by
      intro M27 h  H locs ls hA hS hl
      subst e31
      refine lv_aload_n hx hb dX8_keeps_39 rfl (lv_at hl 0 rfl) ?_
      refine lv_dup hx hb dX8_keeps_40 rfl ?_
      refine ce_g_8_3 hx hb hB hown hK hA hk ce_w947 dX8_keeps_41 ?_
      refine lv_iconst (v := 1) hx hb dX8_keeps_44 (by decide) ?_
      refine lv_isub hx hb dX8_keeps_45 ?_
      obtain ⟨M29, e30, h⟩ := ce_nm_e h
      refine ce_p_8_3 hx hb hB hown hK hA hS hk ce_w947 dX8_keeps_46 e30 (fun H locs hA hS => ?_)
      exact Ju2 M29 h  _ _ _ hA hS (lv_sub hl [0] rfl)
    refine ce_lp2_i (y := M') (P := fun (M23 : ce_M) (x24 : Int32) => ce_Wg p l e (ce_R 0 0 0 0) s m (([.ref (b + k)] : List Value).toArray) below meth c 0 0 (MQ below (ce_Q X b M' none) ([.ref (b + k)] : List Value).toArray s 0 0 (ce_Ab b)) X b M23 2 [(0, .ref (b + k)), (1, .int x24)] 10 []) (fun rec25 ih26 M23 x24 h => ?_) _ _ _ h _ _ _ hA hS (lv_sub hl [1, 0] rfl)
    intro H locs ls hA hS hl
    unfold f_X8_keeps_L10 at h
    refine lv_iload_n hx hb dX8_keeps_10 rfl (lv_at hl 1 rfl) ?_
    refine lv_sipush (v := 2448) hx hb dX8_keeps_11 (by decide) ?_
    refine lv_icmp_ge (tgt := 39) hx hb dX8_keeps_14 (by decide) (fun c32 => ?_) (fun c32 => ?_)
    · have h := ce_it c32 h
      exact Ju28 M23 h  _ _ _ hA hS (lv_sub hl [0] rfl)
    · have h := ce_ie c32 h
      refine lv_aload_n hx hb dX8_keeps_17 rfl (lv_at hl 0 rfl) ?_
      refine ce_g_8_1 hx hb hB hown hK hA hk ce_w945 dX8_keeps_18 ?_
      refine lv_iload_n hx hb dX8_keeps_21 rfl (lv_at hl 1 rfl) ?_
      refine lv_aload_n hx hb dX8_keeps_22 rfl (lv_at hl 0 rfl) ?_
      refine ce_g_8_1 hx hb hB hown hK hA hk ce_w945 dX8_keeps_23 ?_
      refine lv_iload_n hx hb dX8_keeps_26 rfl (lv_at hl 1 rfl) ?_
      refine lv_sipush (v := 816) hx hb dX8_keeps_27 (by decide) ?_
      refine lv_iadd hx hb dX8_keeps_30 ?_
      obtain ⟨i34, h⟩ := ce_gi_e h
      obtain ⟨x33, e35, h⟩ := ce_nm_e h
      refine ce_iald hx hb hK hA 3264 (ce_kf_8_1 hk) i34 e35 dX8_keeps_31 ?_
      obtain ⟨i37, h⟩ := ce_gi_e h
      obtain ⟨M36, e38, h⟩ := ce_nm_e h
      refine ce_iast hx hb hK hA hS 3264 (ce_kf_8_1 hk) i37 dX8_keeps_32 e38 (fun H locs hA hS => ?_)
      obtain ⟨x39, e40, h⟩ := ce_nm_e h
      refine lv_iinc (v := x39) (lv' := [(1, .int x39), (0, .ref (b + k))]) hx hb dX8_keeps_33 hl (k := 1) rfl (by rw [← e40]; rfl) (by decide) rfl (fun ls hl => ?_)
      refine lv_goto (tgt := 10) hx hb dX8_keeps_36 (by decide) ?_
      exact ih26 M36 x39 h  _ _ _ hA hS (lv_sub hl [1, 0] rfl)
def f_X8_ends (k : Nat) (M : ce_M) (a1 : Int32) (a2 : Int32) : Option (ce_M × Int32) :=
  if a2 ≤ 0 then
    ce_b1 (f_X8_keeps k M) (fun (M2 : ce_M) =>
    ce_b2 (f_X8_tells k M2 a1) (fun (M4 : ce_M) (x5 : Int32) =>
    some (M4, x5)))
  else
    ce_b1 (f_X8_bringsBack k M) (fun (M7 : ce_M) =>
    ce_b2 (f_X8_fails k M7 a2) (fun (M9 : ce_M) (x10 : Int32) =>
    some (M9, x10)))
set_option maxRecDepth 100000 in
set_option maxHeartbeats 4000000 in
theorem c_X8_ends (l : Launch) (X : ce_X) (G : ce_G) (b : Nat) {k : Nat} {a1 : Int32} {a2 : Int32} {M : ce_M} (hk : ce_kd k = 8) {M' : ce_M} {r : Int32} (h : f_X8_ends k M a1 a2 = some (M', r)) : ce_Ct l yX8_ends cX8_ends 3 (some .int) 1 21 X G b [.ref (b + k), .int a1, .int a2] M (some (.int r)) M' := by
  refine ce_ofW (own := RX8) (by decide) rfl (Nat.le_of_ble_eq_true rfl) (fun p e s m below meth c ls hx hb hr hlocks hml hown hB hF hA hl hS => ?_)
  have hK := hF.1
  have hl : lv_has ls 3 [(0, .ref (b + k)), (1, .int a1), (2, .int a2)] := hl
  unfold f_X8_ends at h
  refine lv_iload_n hx hb dX8_ends_0 rfl (lv_at hl 2 rfl) ?_
  refine lv_if_le (tgt := 14) hx hb dX8_ends_1 (by decide) (fun c1 => ?_) (fun c1 => ?_)
  · have h := ce_it c1 h
    refine lv_aload_n hx hb dX8_ends_14 rfl (lv_at hl 0 rfl) ?_
    obtain ⟨M2, g3, h⟩ := ce_b1_e h
    refine ce_callVv (As := []) (rest := []) hx hb hml hown hB (c_X8_keeps l X G b hk g3) ce_v_X8_keeps ce_w1037 ⟨Nat.le_of_ble_eq_true rfl, Nat.le_of_ble_eq_true rfl⟩ hF hA hS (ce_rc_8 hK hA hk) hl rfl rfl (Nat.le_of_ble_eq_true rfl) dX8_ends_15 ⟨Nat.le_of_ble_eq_true rfl, Nat.le_of_ble_eq_true rfl⟩ (fun H locs hA hS => ?_)
    refine lv_aload_n hx hb dX8_ends_18 rfl (lv_at hl 0 rfl) ?_
    refine lv_iload_n hx hb dX8_ends_19 rfl (lv_at hl 1 rfl) ?_
    obtain ⟨M4, x5, g6, h⟩ := ce_b2_e h
    refine ce_callVi (As := [.int a1]) (rest := []) hx hb hml hown hB (c_X8_tells l X G b hk g6) ce_v_X8_tells ce_w1041 ⟨Nat.le_of_ble_eq_true rfl, Nat.le_of_ble_eq_true rfl⟩ hF hA hS (ce_rc_8 hK hA hk) hl rfl rfl (Nat.le_of_ble_eq_true rfl) dX8_ends_20 ⟨Nat.le_of_ble_eq_true rfl, Nat.le_of_ble_eq_true rfl⟩ (fun H locs hA hS => ?_)
    cases h
    exact ce_iret hx hb hr hlocks hA hS dX8_ends_23
  · have h := ce_ie c1 h
    refine lv_aload_n hx hb dX8_ends_4 rfl (lv_at hl 0 rfl) ?_
    obtain ⟨M7, g8, h⟩ := ce_b1_e h
    refine ce_callVv (As := []) (rest := []) hx hb hml hown hB (c_X8_bringsBack l X G b hk g8) ce_v_X8_bringsBack ce_w1029 ⟨Nat.le_of_ble_eq_true rfl, Nat.le_of_ble_eq_true rfl⟩ hF hA hS (ce_rc_8 hK hA hk) hl rfl rfl (Nat.le_of_ble_eq_true rfl) dX8_ends_5 ⟨Nat.le_of_ble_eq_true rfl, Nat.le_of_ble_eq_true rfl⟩ (fun H locs hA hS => ?_)
    refine lv_aload_n hx hb dX8_ends_8 rfl (lv_at hl 0 rfl) ?_
    refine lv_iload_n hx hb dX8_ends_9 rfl (lv_at hl 2 rfl) ?_
    obtain ⟨M9, x10, g11, h⟩ := ce_b2_e h
    refine ce_callVi (As := [.int a2]) (rest := []) hx hb hml hown hB (c_X8_fails l X G b hk g11) ce_v_X8_fails ce_w1033 ⟨Nat.le_of_ble_eq_true rfl, Nat.le_of_ble_eq_true rfl⟩ hF hA hS (ce_rc_8 hK hA hk) hl rfl rfl (Nat.le_of_ble_eq_true rfl) dX8_ends_10 ⟨Nat.le_of_ble_eq_true rfl, Nat.le_of_ble_eq_true rfl⟩ (fun H locs hA hS => ?_)
    cases h
    exact ce_iret hx hb hr hlocks hA hS dX8_ends_13
def f_X8_isLeaf (M : ce_M) (a1 : Int32) : Option Int32 :=
  ce_b1 (f_X8_in M a1 0 15) (fun (x1 : Int32) =>
  ce_gz x1 (
  some x1))
set_option maxRecDepth 100000 in
set_option maxHeartbeats 4000000 in
theorem c_X8_isLeaf (l : Launch) (X : ce_X) (G : ce_G) (b : Nat) {a1 : Int32} {M : ce_M}  {r : Int32} (h : f_X8_isLeaf M a1 = some r) : ce_Ct l yX8_isLeaf cX8_isLeaf 1 (some .boolean) 1 22 X G b [.int a1] M (some (.int r)) M := by
  refine ce_ofW (own := RX8) (by decide) rfl (Nat.le_of_ble_eq_true rfl) (fun p e s m below meth c ls hx hb hr hlocks hml hown hB hF hA hl hS => ?_)
  have hK := hF.1
  have hl : lv_has ls 1 [(0, .int a1)] := hl
  unfold f_X8_isLeaf at h
  refine lv_iload_n hx hb dX8_isLeaf_0 rfl (lv_at hl 0 rfl) ?_
  refine lv_iconst (v := 0) hx hb dX8_isLeaf_1 (by decide) ?_
  refine lv_bipush (v := 15) hx hb dX8_isLeaf_2 (by decide) ?_
  obtain ⟨x1, g2, h⟩ := ce_b1_e h
  refine ce_callSi (As := [.int a1, .int 0, .int 15]) (rest := []) hx hb hml hown hB (c_X8_in l X G b  g2) ce_s_X8_in ce_w1003 ⟨Nat.le_of_ble_eq_true rfl, Nat.le_of_ble_eq_true rfl⟩ hF hA hS hl rfl rfl (Nat.le_of_ble_eq_true rfl) dX8_isLeaf_4 ⟨Nat.le_of_ble_eq_true rfl, Nat.le_of_ble_eq_true rfl⟩ (fun H locs hA hS => ?_)
  obtain ⟨z3, h⟩ := ce_gz_e h
  cases h
  exact ce_zret hx hb hr hlocks z3 hA hS dX8_isLeaf_7
def f_X8_isLevel (M : ce_M) (a1 : Int32) : Option Int32 :=
  ce_b1 (f_X8_in M a1 0 2) (fun (x1 : Int32) =>
  ce_gz x1 (
  some x1))
set_option maxRecDepth 100000 in
set_option maxHeartbeats 4000000 in
theorem c_X8_isLevel (l : Launch) (X : ce_X) (G : ce_G) (b : Nat) {a1 : Int32} {M : ce_M}  {r : Int32} (h : f_X8_isLevel M a1 = some r) : ce_Ct l yX8_isLevel cX8_isLevel 1 (some .boolean) 1 22 X G b [.int a1] M (some (.int r)) M := by
  refine ce_ofW (own := RX8) (by decide) rfl (Nat.le_of_ble_eq_true rfl) (fun p e s m below meth c ls hx hb hr hlocks hml hown hB hF hA hl hS => ?_)
  have hK := hF.1
  have hl : lv_has ls 1 [(0, .int a1)] := hl
  unfold f_X8_isLevel at h
  refine lv_iload_n hx hb dX8_isLevel_0 rfl (lv_at hl 0 rfl) ?_
  refine lv_iconst (v := 0) hx hb dX8_isLevel_1 (by decide) ?_
  refine lv_iconst (v := 2) hx hb dX8_isLevel_2 (by decide) ?_
  obtain ⟨x1, g2, h⟩ := ce_b1_e h
  refine ce_callSi (As := [.int a1, .int 0, .int 2]) (rest := []) hx hb hml hown hB (c_X8_in l X G b  g2) ce_s_X8_in ce_w1003 ⟨Nat.le_of_ble_eq_true rfl, Nat.le_of_ble_eq_true rfl⟩ hF hA hS hl rfl rfl (Nat.le_of_ble_eq_true rfl) dX8_isLevel_3 ⟨Nat.le_of_ble_eq_true rfl, Nat.le_of_ble_eq_true rfl⟩ (fun H locs hA hS => ?_)
  obtain ⟨z3, h⟩ := ce_gz_e h
  cases h
  exact ce_zret hx hb hr hlocks z3 hA hS dX8_isLevel_6
def f_X8_isOne (k : Nat) (M : ce_M) (a1 : Int32) : Option Int32 :=
  ce_gi 1 816 (ce_nm (ce_rd M (k + 1) (Int32.toNatClampNeg 1)) (fun (x1 : Int32) =>
  ce_b1 (f_X8_in M a1 0 (x1 - 1)) (fun (x4 : Int32) =>
  ce_gz x4 (
  some x4))))
set_option maxRecDepth 100000 in
set_option maxHeartbeats 4000000 in
theorem c_X8_isOne (l : Launch) (X : ce_X) (G : ce_G) (b : Nat) {k : Nat} {a1 : Int32} {M : ce_M} (hk : ce_kd k = 8) {r : Int32} (h : f_X8_isOne k M a1 = some r) : ce_Ct l yX8_isOne cX8_isOne 2 (some .boolean) 1 22 X G b [.ref (b + k), .int a1] M (some (.int r)) M := by
  refine ce_ofW (own := RX8) (by decide) rfl (Nat.le_of_ble_eq_true rfl) (fun p e s m below meth c ls hx hb hr hlocks hml hown hB hF hA hl hS => ?_)
  have hK := hF.1
  have hl : lv_has ls 2 [(0, .ref (b + k)), (1, .int a1)] := hl
  unfold f_X8_isOne at h
  refine lv_iload_n hx hb dX8_isOne_0 rfl (lv_at hl 1 rfl) ?_
  refine lv_iconst (v := 0) hx hb dX8_isOne_1 (by decide) ?_
  refine lv_aload_n hx hb dX8_isOne_2 rfl (lv_at hl 0 rfl) ?_
  refine ce_g_8_0 hx hb hB hown hK hA hk ce_w944 dX8_isOne_3 ?_
  refine lv_iconst (v := 1) hx hb dX8_isOne_6 (by decide) ?_
  obtain ⟨i2, h⟩ := ce_gi_e h
  obtain ⟨x1, e3, h⟩ := ce_nm_e h
  refine ce_iald hx hb hK hA 816 (ce_kf_8_0 hk) i2 e3 dX8_isOne_7 ?_
  refine lv_iconst (v := 1) hx hb dX8_isOne_8 (by decide) ?_
  refine lv_isub hx hb dX8_isOne_9 ?_
  obtain ⟨x4, g5, h⟩ := ce_b1_e h
  refine ce_callSi (As := [.int a1, .int 0, .int (x1 - 1)]) (rest := []) hx hb hml hown hB (c_X8_in l X G b  g5) ce_s_X8_in ce_w1003 ⟨Nat.le_of_ble_eq_true rfl, Nat.le_of_ble_eq_true rfl⟩ hF hA hS hl rfl rfl (Nat.le_of_ble_eq_true rfl) dX8_isOne_10 ⟨Nat.le_of_ble_eq_true rfl, Nat.le_of_ble_eq_true rfl⟩ (fun H locs hA hS => ?_)
  obtain ⟨z6, h⟩ := ce_gz_e h
  cases h
  exact ce_zret hx hb hr hlocks z6 hA hS dX8_isOne_13
def f_X8_of (k : Nat) (M : ce_M) (a1 : Int32) (a2 : Int32) : Option Int32 :=
  ce_gi ((24 + (54 * a1)) + a2) 816 (ce_nm (ce_rd M (k + 1) (Int32.toNatClampNeg ((24 + (54 * a1)) + a2))) (fun (x1 : Int32) =>
  some x1))
set_option maxRecDepth 100000 in
set_option maxHeartbeats 4000000 in
theorem c_X8_of (l : Launch) (X : ce_X) (G : ce_G) (b : Nat) {k : Nat} {a1 : Int32} {a2 : Int32} {M : ce_M} (hk : ce_kd k = 8) {r : Int32} (h : f_X8_of k M a1 a2 = some r) : ce_Ct l yX8_of cX8_of 3 (some .int) 0 0 X G b [.ref (b + k), .int a1, .int a2] M (some (.int r)) M := by
  refine ce_ofW (own := RX8) (by decide) rfl (Nat.le_of_ble_eq_true rfl) (fun p e s m below meth c ls hx hb hr hlocks hml hown hB hF hA hl hS => ?_)
  have hK := hF.1
  have hl : lv_has ls 3 [(0, .ref (b + k)), (1, .int a1), (2, .int a2)] := hl
  unfold f_X8_of at h
  refine lv_aload_n hx hb dX8_of_0 rfl (lv_at hl 0 rfl) ?_
  refine ce_g_8_0 hx hb hB hown hK hA hk ce_w944 dX8_of_1 ?_
  refine lv_bipush (v := 24) hx hb dX8_of_4 (by decide) ?_
  refine lv_bipush (v := 54) hx hb dX8_of_6 (by decide) ?_
  refine lv_iload_n hx hb dX8_of_8 rfl (lv_at hl 1 rfl) ?_
  refine lv_imul hx hb dX8_of_9 ?_
  refine lv_iadd hx hb dX8_of_10 ?_
  refine lv_iload_n hx hb dX8_of_11 rfl (lv_at hl 2 rfl) ?_
  refine lv_iadd hx hb dX8_of_12 ?_
  obtain ⟨i2, h⟩ := ce_gi_e h
  obtain ⟨x1, e3, h⟩ := ce_nm_e h
  refine ce_iald hx hb hK hA 816 (ce_kf_8_0 hk) i2 e3 dX8_of_13 ?_
  cases h
  exact ce_iret hx hb hr hlocks hA hS dX8_of_14
def f_X8_put (k : Nat) (M : ce_M) (a1 : Int32) (a2 : Int32) (a3 : Int32) : Option ce_M :=
  ce_gi ((24 + (54 * a1)) + a2) 816 (ce_nm (ce_wr M (k + 1) (Int32.toNatClampNeg ((24 + (54 * a1)) + a2)) a3) (fun (M1 : ce_M) =>
  some M1))
set_option maxRecDepth 100000 in
set_option maxHeartbeats 4000000 in
theorem c_X8_put (l : Launch) (X : ce_X) (G : ce_G) (b : Nat) {k : Nat} {a1 : Int32} {a2 : Int32} {a3 : Int32} {M : ce_M} (hk : ce_kd k = 8) {M' : ce_M} (h : f_X8_put k M a1 a2 a3 = some M') : ce_Ct l yX8_put cX8_put 4 none 0 0 X G b [.ref (b + k), .int a1, .int a2, .int a3] M none M' := by
  refine ce_ofW (own := RX8) (by decide) rfl (Nat.le_of_ble_eq_true rfl) (fun p e s m below meth c ls hx hb hr hlocks hml hown hB hF hA hl hS => ?_)
  have hK := hF.1
  have hl : lv_has ls 4 [(0, .ref (b + k)), (1, .int a1), (2, .int a2), (3, .int a3)] := hl
  unfold f_X8_put at h
  refine lv_aload_n hx hb dX8_put_0 rfl (lv_at hl 0 rfl) ?_
  refine ce_g_8_0 hx hb hB hown hK hA hk ce_w944 dX8_put_1 ?_
  refine lv_bipush (v := 24) hx hb dX8_put_4 (by decide) ?_
  refine lv_bipush (v := 54) hx hb dX8_put_6 (by decide) ?_
  refine lv_iload_n hx hb dX8_put_8 rfl (lv_at hl 1 rfl) ?_
  refine lv_imul hx hb dX8_put_9 ?_
  refine lv_iadd hx hb dX8_put_10 ?_
  refine lv_iload_n hx hb dX8_put_11 rfl (lv_at hl 2 rfl) ?_
  refine lv_iadd hx hb dX8_put_12 ?_
  refine lv_iload_n hx hb dX8_put_13 rfl (lv_at hl 3 rfl) ?_
  obtain ⟨i2, h⟩ := ce_gi_e h
  obtain ⟨M1, e3, h⟩ := ce_nm_e h
  refine ce_iast hx hb hK hA hS 816 (ce_kf_8_0 hk) i2 dX8_put_14 e3 (fun H locs hA hS => ?_)
  cases h
  exact ce_vret hx hb hr hlocks hA hS dX8_put_15
def f_X8_adds (k : Nat) (M : ce_M) (a1 : Int32) (a2 : Int32) (a3 : Int32) : Option ce_M :=
  ce_gi ((24 + (54 * a1)) + a2) 816 (ce_nm (ce_rd M (k + 1) (Int32.toNatClampNeg ((24 + (54 * a1)) + a2))) (fun (x1 : Int32) =>
  ce_gi ((24 + (54 * a1)) + a2) 816 (ce_nm (ce_wr M (k + 1) (Int32.toNatClampNeg ((24 + (54 * a1)) + a2)) (x1 + a3)) (fun (M4 : ce_M) =>
  some M4))))
set_option maxRecDepth 100000 in
set_option maxHeartbeats 4000000 in
theorem c_X8_adds (l : Launch) (X : ce_X) (G : ce_G) (b : Nat) {k : Nat} {a1 : Int32} {a2 : Int32} {a3 : Int32} {M : ce_M} (hk : ce_kd k = 8) {M' : ce_M} (h : f_X8_adds k M a1 a2 a3 = some M') : ce_Ct l yX8_adds cX8_adds 4 none 0 0 X G b [.ref (b + k), .int a1, .int a2, .int a3] M none M' := by
  refine ce_ofW (own := RX8) (by decide) rfl (Nat.le_of_ble_eq_true rfl) (fun p e s m below meth c ls hx hb hr hlocks hml hown hB hF hA hl hS => ?_)
  have hK := hF.1
  have hl : lv_has ls 4 [(0, .ref (b + k)), (1, .int a1), (2, .int a2), (3, .int a3)] := hl
  unfold f_X8_adds at h
  refine lv_aload_n hx hb dX8_adds_0 rfl (lv_at hl 0 rfl) ?_
  refine ce_g_8_0 hx hb hB hown hK hA hk ce_w944 dX8_adds_1 ?_
  refine lv_bipush (v := 24) hx hb dX8_adds_4 (by decide) ?_
  refine lv_bipush (v := 54) hx hb dX8_adds_6 (by decide) ?_
  refine lv_iload_n hx hb dX8_adds_8 rfl (lv_at hl 1 rfl) ?_
  refine lv_imul hx hb dX8_adds_9 ?_
  refine lv_iadd hx hb dX8_adds_10 ?_
  refine lv_iload_n hx hb dX8_adds_11 rfl (lv_at hl 2 rfl) ?_
  refine lv_iadd hx hb dX8_adds_12 ?_
  refine lv_dup2_11 hx hb dX8_adds_13 rfl rfl ?_
  obtain ⟨i2, h⟩ := ce_gi_e h
  obtain ⟨x1, e3, h⟩ := ce_nm_e h
  refine ce_iald hx hb hK hA 816 (ce_kf_8_0 hk) i2 e3 dX8_adds_14 ?_
  refine lv_iload_n hx hb dX8_adds_15 rfl (lv_at hl 3 rfl) ?_
  refine lv_iadd hx hb dX8_adds_16 ?_
  obtain ⟨i5, h⟩ := ce_gi_e h
  obtain ⟨M4, e6, h⟩ := ce_nm_e h
  refine ce_iast hx hb hK hA hS 816 (ce_kf_8_0 hk) i5 dX8_adds_17 e6 (fun H locs hA hS => ?_)
  cases h
  exact ce_vret hx hb hr hlocks hA hS dX8_adds_18
def f_X8_ofEvent (k : Nat) (M : ce_M) (a1 : Int32) (a2 : Int32) : Option Int32 :=
  ce_gi ((456 + (6 * a1)) + a2) 816 (ce_nm (ce_rd M (k + 1) (Int32.toNatClampNeg ((456 + (6 * a1)) + a2))) (fun (x1 : Int32) =>
  some x1))
set_option maxRecDepth 100000 in
set_option maxHeartbeats 4000000 in
theorem c_X8_ofEvent (l : Launch) (X : ce_X) (G : ce_G) (b : Nat) {k : Nat} {a1 : Int32} {a2 : Int32} {M : ce_M} (hk : ce_kd k = 8) {r : Int32} (h : f_X8_ofEvent k M a1 a2 = some r) : ce_Ct l yX8_ofEvent cX8_ofEvent 3 (some .int) 0 0 X G b [.ref (b + k), .int a1, .int a2] M (some (.int r)) M := by
  refine ce_ofW (own := RX8) (by decide) rfl (Nat.le_of_ble_eq_true rfl) (fun p e s m below meth c ls hx hb hr hlocks hml hown hB hF hA hl hS => ?_)
  have hK := hF.1
  have hl : lv_has ls 3 [(0, .ref (b + k)), (1, .int a1), (2, .int a2)] := hl
  unfold f_X8_ofEvent at h
  refine lv_aload_n hx hb dX8_ofEvent_0 rfl (lv_at hl 0 rfl) ?_
  refine ce_g_8_0 hx hb hB hown hK hA hk ce_w944 dX8_ofEvent_1 ?_
  refine lv_sipush (v := 456) hx hb dX8_ofEvent_4 (by decide) ?_
  refine lv_bipush (v := 6) hx hb dX8_ofEvent_7 (by decide) ?_
  refine lv_iload_n hx hb dX8_ofEvent_9 rfl (lv_at hl 1 rfl) ?_
  refine lv_imul hx hb dX8_ofEvent_10 ?_
  refine lv_iadd hx hb dX8_ofEvent_11 ?_
  refine lv_iload_n hx hb dX8_ofEvent_12 rfl (lv_at hl 2 rfl) ?_
  refine lv_iadd hx hb dX8_ofEvent_13 ?_
  obtain ⟨i2, h⟩ := ce_gi_e h
  obtain ⟨x1, e3, h⟩ := ce_nm_e h
  refine ce_iald hx hb hK hA 816 (ce_kf_8_0 hk) i2 e3 dX8_ofEvent_14 ?_
  cases h
  exact ce_iret hx hb hr hlocks hA hS dX8_ofEvent_15
def f_X8_setting (k : Nat) (M : ce_M) (a1 : Int32) : Option Int32 :=
  ce_gi (3 + a1) 816 (ce_nm (ce_rd M (k + 1) (Int32.toNatClampNeg (3 + a1))) (fun (x1 : Int32) =>
  some x1))
set_option maxRecDepth 100000 in
set_option maxHeartbeats 4000000 in
theorem c_X8_setting (l : Launch) (X : ce_X) (G : ce_G) (b : Nat) {k : Nat} {a1 : Int32} {M : ce_M} (hk : ce_kd k = 8) {r : Int32} (h : f_X8_setting k M a1 = some r) : ce_Ct l yX8_setting cX8_setting 2 (some .int) 0 0 X G b [.ref (b + k), .int a1] M (some (.int r)) M := by
  refine ce_ofW (own := RX8) (by decide) rfl (Nat.le_of_ble_eq_true rfl) (fun p e s m below meth c ls hx hb hr hlocks hml hown hB hF hA hl hS => ?_)
  have hK := hF.1
  have hl : lv_has ls 2 [(0, .ref (b + k)), (1, .int a1)] := hl
  unfold f_X8_setting at h
  refine lv_aload_n hx hb dX8_setting_0 rfl (lv_at hl 0 rfl) ?_
  refine ce_g_8_0 hx hb hB hown hK hA hk ce_w944 dX8_setting_1 ?_
  refine lv_iconst (v := 3) hx hb dX8_setting_4 (by decide) ?_
  refine lv_iload_n hx hb dX8_setting_5 rfl (lv_at hl 1 rfl) ?_
  refine lv_iadd hx hb dX8_setting_6 ?_
  obtain ⟨i2, h⟩ := ce_gi_e h
  obtain ⟨x1, e3, h⟩ := ce_nm_e h
  refine ce_iald hx hb hK hA 816 (ce_kf_8_0 hk) i2 e3 dX8_setting_7 ?_
  cases h
  exact ce_iret hx hb hr hlocks hA hS dX8_setting_8
def f_X8_part (M : ce_M) (a1 : Int32) (a2 : Int32) : Option Int32 :=
  if a2 = 2 then
    some a1
  else
    if a2 = 1 then
      some (((a1 / 8) * 2) + ((a1 - a1 / 4 * 4) / 2))
    else
      some 0
set_option maxRecDepth 100000 in
set_option maxHeartbeats 4000000 in
theorem c_X8_part (l : Launch) (X : ce_X) (G : ce_G) (b : Nat) {a1 : Int32} {a2 : Int32} {M : ce_M}  {r : Int32} (h : f_X8_part M a1 a2 = some r) : ce_Ct l yX8_part cX8_part 2 (some .int) 0 0 X G b [.int a1, .int a2] M (some (.int r)) M := by
  refine ce_ofW (own := RX8) (by decide) rfl (Nat.le_of_ble_eq_true rfl) (fun p e s m below meth c ls hx hb hr hlocks hml hown hB hF hA hl hS => ?_)
  have hK := hF.1
  have hl : lv_has ls 2 [(0, .int a1), (1, .int a2)] := hl
  unfold f_X8_part at h
  refine lv_iload_n hx hb dX8_part_0 rfl (lv_at hl 1 rfl) ?_
  refine lv_iconst (v := 2) hx hb dX8_part_1 (by decide) ?_
  refine lv_icmp_ne (tgt := 9) hx hb dX8_part_2 (by decide) (fun c1 => ?_) (fun c1 => ?_)
  · have h := ce_ie c1 h
    refine lv_iload_n hx hb dX8_part_9 rfl (lv_at hl 1 rfl) ?_
    refine lv_iconst (v := 1) hx hb dX8_part_10 (by decide) ?_
    refine lv_icmp_ne (tgt := 29) hx hb dX8_part_11 (by decide) (fun c2 => ?_) (fun c2 => ?_)
    · have h := ce_ie c2 h
      refine lv_iconst (v := 0) hx hb dX8_part_29 (by decide) ?_
      cases h
      exact ce_iret hx hb hr hlocks hA hS dX8_part_30
    · have h := ce_it c2 h
      refine lv_iload_n hx hb dX8_part_14 rfl (lv_at hl 0 rfl) ?_
      refine lv_bipush (v := 8) hx hb dX8_part_15 (by decide) ?_
      refine lv_idiv hx hb dX8_part_17 (by decide) ?_
      refine lv_iconst (v := 2) hx hb dX8_part_18 (by decide) ?_
      refine lv_imul hx hb dX8_part_19 ?_
      refine lv_iload_n hx hb dX8_part_20 rfl (lv_at hl 0 rfl) ?_
      refine lv_iconst (v := 4) hx hb dX8_part_21 (by decide) ?_
      refine lv_irem hx hb dX8_part_22 (by decide) ?_
      refine lv_iconst (v := 2) hx hb dX8_part_23 (by decide) ?_
      refine lv_idiv hx hb dX8_part_24 (by decide) ?_
      refine lv_iadd hx hb dX8_part_25 ?_
      refine lv_goto (tgt := 30) hx hb dX8_part_26 (by decide) ?_
      cases h
      exact ce_iret hx hb hr hlocks hA hS dX8_part_30
  · have h := ce_it c1 h
    refine lv_iload_n hx hb dX8_part_5 rfl (lv_at hl 0 rfl) ?_
    refine lv_goto (tgt := 30) hx hb dX8_part_6 (by decide) ?_
    cases h
    exact ce_iret hx hb hr hlocks hA hS dX8_part_30
def f_X8_overlap (M : ce_M) (a1 : Int32) (a2 : Int32) (a3 : Int32) (a4 : Int32) : Option Int32 :=
  ce_nm (fun (x1 : Int32) (x2 : Int32) (x3 : Int32) =>
      ce_b1 (f_X8_part M x1 x3) (fun (x5 : Int32) =>
      ce_b1 (f_X8_part M x2 x3) (fun (x7 : Int32) =>
      if x5 = x7 then
        some 1
      else
        some 0))) (fun (u4 : Int32 → Int32 → Int32 → Option Int32) =>
  if a4 ≤ a2 then
    u4 a1 a3 a4
  else
    u4 a1 a3 a2)
set_option maxRecDepth 100000 in
set_option maxHeartbeats 4000000 in
theorem c_X8_overlap (l : Launch) (X : ce_X) (G : ce_G) (b : Nat) {a1 : Int32} {a2 : Int32} {a3 : Int32} {a4 : Int32} {M : ce_M}  {r : Int32} (h : f_X8_overlap M a1 a2 a3 a4 = some r) : ce_Ct l yX8_overlap cX8_overlap 5 (some .boolean) 1 21 X G b [.int a1, .int a2, .int a3, .int a4] M (some (.int r)) M := by
  refine ce_ofW (own := RX8) (by decide) rfl (Nat.le_of_ble_eq_true rfl) (fun p e s m below meth c ls hx hb hr hlocks hml hown hB hF hA hl hS => ?_)
  have hK := hF.1
  have hl : lv_has ls 5 [(0, .int a1), (1, .int a2), (2, .int a3), (3, .int a4)] := hl
  unfold f_X8_overlap at h
  refine lv_iload_n hx hb dX8_overlap_0 rfl (lv_at hl 1 rfl) ?_
  refine lv_iload_n hx hb dX8_overlap_1 rfl (lv_at hl 3 rfl) ?_
  obtain ⟨u4, e10, h⟩ := ce_nm_e h
  have Ju4 : ∀ (x1 : Int32) (x2 : Int32) (x3 : Int32), u4 x1 x2 x3 = some r → ce_Wg p l e (ce_R 1 21 0 0) s m (([.int a1, .int a2, .int a3, .int a4] : List Value).toArray) below meth c 0 0 (MQ below (ce_Q X b M (some (.int r))) ([.int a1, .int a2, .int a3, .int a4] : List Value).toArray s 0 0 (ce_Ab b)) X b M 5 [(0, .int x1), (2, .int x2)] 10 [.int x3] := by
    intro x1 x2 x3 h  H locs ls hA hS hl
    subst e10
    refine lv_istore (lv' := [(4, .int x3), (0, .int x1), (2, .int x2)]) hx hb dX8_overlap_10 hl (by decide) rfl (fun ls hl => ?_)
    refine lv_iload_n hx hb dX8_overlap_12 rfl (lv_at hl 1 rfl) ?_
    refine lv_iload hx hb dX8_overlap_13 (lv_at hl 0 rfl) ?_
    obtain ⟨x5, g6, h⟩ := ce_b1_e h
    refine ce_callSi (As := [.int x1, .int x3]) (rest := []) hx hb hml hown hB (c_X8_part l X G b  g6) ce_s_X8_part ce_w1116 ⟨Nat.le_of_ble_eq_true rfl, Nat.le_of_ble_eq_true rfl⟩ hF hA hS hl rfl rfl (Nat.le_of_ble_eq_true rfl) dX8_overlap_15 ⟨Nat.le_of_ble_eq_true rfl, Nat.le_of_ble_eq_true rfl⟩ (fun H locs hA hS => ?_)
    refine lv_iload_n hx hb dX8_overlap_18 rfl (lv_at hl 2 rfl) ?_
    refine lv_iload hx hb dX8_overlap_19 (lv_at hl 0 rfl) ?_
    obtain ⟨x7, g8, h⟩ := ce_b1_e h
    refine ce_callSi (As := [.int x2, .int x3]) (rest := [.int x5]) hx hb hml hown hB (c_X8_part l X G b  g8) ce_s_X8_part ce_w1116 ⟨Nat.le_of_ble_eq_true rfl, Nat.le_of_ble_eq_true rfl⟩ hF hA hS hl rfl rfl (Nat.le_of_ble_eq_true rfl) dX8_overlap_21 ⟨Nat.le_of_ble_eq_true rfl, Nat.le_of_ble_eq_true rfl⟩ (fun H locs hA hS => ?_)
    refine lv_icmp_ne (tgt := 31) hx hb dX8_overlap_24 (by decide) (fun c9 => ?_) (fun c9 => ?_)
    · have h := ce_ie c9 h
      refine lv_iconst (v := 0) hx hb dX8_overlap_31 (by decide) ?_
      cases h
      exact ce_zret hx hb hr hlocks (Or.inl rfl) hA hS dX8_overlap_32
    · have h := ce_it c9 h
      refine lv_iconst (v := 1) hx hb dX8_overlap_27 (by decide) ?_
      refine lv_goto (tgt := 32) hx hb dX8_overlap_28 (by decide) ?_
      cases h
      exact ce_zret hx hb hr hlocks (Or.inr rfl) hA hS dX8_overlap_32
  refine lv_icmp_ge (tgt := 9) hx hb dX8_overlap_2 (by decide) (fun c11 => ?_) (fun c11 => ?_)
  · have h := ce_it c11 h
    refine lv_iload_n hx hb dX8_overlap_9 rfl (lv_at hl 3 rfl) ?_
    exact Ju4 a1 a3 a4 h  _ _ _ hA hS (lv_sub hl [0, 2] rfl)
  · have h := ce_ie c11 h
    refine lv_iload_n hx hb dX8_overlap_5 rfl (lv_at hl 1 rfl) ?_
    refine lv_goto (tgt := 10) hx hb dX8_overlap_6 (by decide) ?_
    exact Ju4 a1 a3 a2 h  _ _ _ hA hS (lv_sub hl [0, 2] rfl)
def f_X8_stayAt (k : Nat) (M : ce_M) (a1 : Int32) (a2 : Int32) (a3 : Int32) : Option Int32 :=
  ce_b1 (f_X8_of k M a1 ((24 + (3 * a2)) + a3)) (fun (x1 : Int32) =>
  some x1)
set_option maxRecDepth 100000 in
set_option maxHeartbeats 4000000 in
theorem c_X8_stayAt (l : Launch) (X : ce_X) (G : ce_G) (b : Nat) {k : Nat} {a1 : Int32} {a2 : Int32} {a3 : Int32} {M : ce_M} (hk : ce_kd k = 8) {r : Int32} (h : f_X8_stayAt k M a1 a2 a3 = some r) : ce_Ct l yX8_stayAt cX8_stayAt 4 (some .int) 1 22 X G b [.ref (b + k), .int a1, .int a2, .int a3] M (some (.int r)) M := by
  refine ce_ofW (own := RX8) (by decide) rfl (Nat.le_of_ble_eq_true rfl) (fun p e s m below meth c ls hx hb hr hlocks hml hown hB hF hA hl hS => ?_)
  have hK := hF.1
  have hl : lv_has ls 4 [(0, .ref (b + k)), (1, .int a1), (2, .int a2), (3, .int a3)] := hl
  unfold f_X8_stayAt at h
  refine lv_aload_n hx hb dX8_stayAt_0 rfl (lv_at hl 0 rfl) ?_
  refine lv_iload_n hx hb dX8_stayAt_1 rfl (lv_at hl 1 rfl) ?_
  refine lv_bipush (v := 24) hx hb dX8_stayAt_2 (by decide) ?_
  refine lv_iconst (v := 3) hx hb dX8_stayAt_4 (by decide) ?_
  refine lv_iload_n hx hb dX8_stayAt_5 rfl (lv_at hl 2 rfl) ?_
  refine lv_imul hx hb dX8_stayAt_6 ?_
  refine lv_iadd hx hb dX8_stayAt_7 ?_
  refine lv_iload_n hx hb dX8_stayAt_8 rfl (lv_at hl 3 rfl) ?_
  refine lv_iadd hx hb dX8_stayAt_9 ?_
  obtain ⟨x1, g2, h⟩ := ce_b1_e h
  refine ce_callVi (As := [.int a1, .int ((24 + (3 * a2)) + a3)]) (rest := []) hx hb hml hown hB (c_X8_of l X G b hk g2) ce_v_X8_of ce_w1017 ⟨Nat.le_of_ble_eq_true rfl, Nat.le_of_ble_eq_true rfl⟩ hF hA hS (ce_rc_8 hK hA hk) hl rfl rfl (Nat.le_of_ble_eq_true rfl) dX8_stayAt_10 ⟨Nat.le_of_ble_eq_true rfl, Nat.le_of_ble_eq_true rfl⟩ (fun H locs hA hS => ?_)
  cases h
  exact ce_iret hx hb hr hlocks hA hS dX8_stayAt_13
def f_X8_beginsStay_L15 (k : Nat) (a1 : Int32) (u29 : ce_M → Option ce_M) (rec26 : ce_M → Int32 → Option ce_M) (M24 : ce_M) (x25 : Int32) : Option ce_M :=
  if 51 ≤ x25 then
    u29 M24
  else
    ce_b1 (f_X8_of k M24 a1 (x25 + 3)) (fun (x34 : Int32) =>
    ce_b1 (f_X8_put k M24 a1 x25 x34) (fun (M36 : ce_M) =>
    ce_nm (x25 + 1) (fun (x38 : Int32) =>
    rec26 M36 x38)))
def f_X8_beginsStay (k : Nat) (M : ce_M) (a1 : Int32) (a2 : Int32) : Option ce_M :=
  ce_b1 (f_X8_of k M a1 11) (fun (x1 : Int32) =>
  ce_nm (fun (M3 : ce_M) =>
      ce_b1 (f_X8_of k M3 a1 11) (fun (x5 : Int32) =>
      ce_nm (24 + (3 * x5)) (fun (x7 : Int32) =>
      ce_b1 (f_X8_put k M3 a1 x7 a2) (fun (M9 : ce_M) =>
      ce_gi 0 816 (ce_nm (ce_rd M9 (k + 1) (Int32.toNatClampNeg 0)) (fun (x11 : Int32) =>
      ce_b1 (f_X8_put k M9 a1 (x7 + 1) x11) (fun (M14 : ce_M) =>
      ce_b1 (f_X8_put k M14 a1 (x7 + 2) (-1)) (fun (M16 : ce_M) =>
      ce_b1 (f_X8_put k M16 a1 4 a2) (fun (M18 : ce_M) =>
      ce_b1 (f_X8_adds k M18 a1 11 1) (fun (M20 : ce_M) =>
      some M20)))))))))) (fun (u4 : ce_M → Option ce_M) =>
  if x1 = 10 then
    ce_nm (fun (M28 : ce_M) =>
      ce_b1 (f_X8_adds k M28 a1 11 (-1)) (fun (M30 : ce_M) =>
      u4 M30)) (fun (u29 : ce_M → Option ce_M) =>
    ce_lp2 (f_X8_beginsStay_L15 k a1 u29) ce_FU M 24)
  else
    u4 M))
set_option maxRecDepth 100000 in
set_option maxHeartbeats 4000000 in
theorem c_X8_beginsStay (l : Launch) (X : ce_X) (G : ce_G) (b : Nat) {k : Nat} {a1 : Int32} {a2 : Int32} {M : ce_M} (hk : ce_kd k = 8) {M' : ce_M} (h : f_X8_beginsStay k M a1 a2 = some M') : ce_Ct l yX8_beginsStay cX8_beginsStay 4 none 1 23 X G b [.ref (b + k), .int a1, .int a2] M none M' := by
  refine ce_ofW (own := RX8) (by decide) rfl (Nat.le_of_ble_eq_true rfl) (fun p e s m below meth c ls hx hb hr hlocks hml hown hB hF hA hl hS => ?_)
  have hK := hF.1
  have hl : lv_has ls 4 [(0, .ref (b + k)), (1, .int a1), (2, .int a2)] := hl
  unfold f_X8_beginsStay at h
  refine lv_aload_n hx hb dX8_beginsStay_0 rfl (lv_at hl 0 rfl) ?_
  refine lv_iload_n hx hb dX8_beginsStay_1 rfl (lv_at hl 1 rfl) ?_
  refine lv_bipush (v := 11) hx hb dX8_beginsStay_2 (by decide) ?_
  obtain ⟨x1, g2, h⟩ := ce_b1_e h
  refine ce_callVi (As := [.int a1, .int 11]) (rest := []) hx hb hml hown hB (c_X8_of l X G b hk g2) ce_v_X8_of ce_w1017 ⟨Nat.le_of_ble_eq_true rfl, Nat.le_of_ble_eq_true rfl⟩ hF hA hS (ce_rc_8 hK hA hk) hl rfl rfl (Nat.le_of_ble_eq_true rfl) dX8_beginsStay_4 ⟨Nat.le_of_ble_eq_true rfl, Nat.le_of_ble_eq_true rfl⟩ (fun H locs hA hS => ?_)
  refine lv_bipush (v := 10) hx hb dX8_beginsStay_7 (by decide) ?_
  obtain ⟨u4, e22, h⟩ := ce_nm_e h
  have Ju4 : ∀ (M3 : ce_M), u4 M3 = some M' → ce_Wg p l e (ce_R 1 23 0 0) s m (([.ref (b + k), .int a1, .int a2] : List Value).toArray) below meth c 0 0 (MQ below (ce_Q X b M' none) ([.ref (b + k), .int a1, .int a2] : List Value).toArray s 0 0 (ce_Ab b)) X b M3 4 [(0, .ref (b + k)), (1, .int a1), (2, .int a2)] 49 [] := by
    intro M3 h  H locs ls hA hS hl
    subst e22
    refine lv_bipush (v := 24) hx hb dX8_beginsStay_49 (by decide) ?_
    refine lv_iconst (v := 3) hx hb dX8_beginsStay_51 (by decide) ?_
    refine lv_aload_n hx hb dX8_beginsStay_52 rfl (lv_at hl 0 rfl) ?_
    refine lv_iload_n hx hb dX8_beginsStay_53 rfl (lv_at hl 1 rfl) ?_
    refine lv_bipush (v := 11) hx hb dX8_beginsStay_54 (by decide) ?_
    obtain ⟨x5, g6, h⟩ := ce_b1_e h
    refine ce_callVi (As := [.int a1, .int 11]) (rest := [.int 3, .int 24]) hx hb hml hown hB (c_X8_of l X G b hk g6) ce_v_X8_of ce_w1017 ⟨Nat.le_of_ble_eq_true rfl, Nat.le_of_ble_eq_true rfl⟩ hF hA hS (ce_rc_8 hK hA hk) hl rfl rfl (Nat.le_of_ble_eq_true rfl) dX8_beginsStay_56 ⟨Nat.le_of_ble_eq_true rfl, Nat.le_of_ble_eq_true rfl⟩ (fun H locs hA hS => ?_)
    refine lv_imul hx hb dX8_beginsStay_59 ?_
    refine lv_iadd hx hb dX8_beginsStay_60 ?_
    obtain ⟨x7, e8, h⟩ := ce_nm_e h
    refine ce_top e8 ?_
    refine lv_istore_n (lv' := [(3, .int x7), (0, .ref (b + k)), (1, .int a1), (2, .int a2)]) hx hb dX8_beginsStay_61 rfl hl (by decide) rfl (fun ls hl => ?_)
    refine lv_aload_n hx hb dX8_beginsStay_62 rfl (lv_at hl 1 rfl) ?_
    refine lv_iload_n hx hb dX8_beginsStay_63 rfl (lv_at hl 2 rfl) ?_
    refine lv_iload_n hx hb dX8_beginsStay_64 rfl (lv_at hl 0 rfl) ?_
    refine lv_iload_n hx hb dX8_beginsStay_65 rfl (lv_at hl 3 rfl) ?_
    obtain ⟨M9, g10, h⟩ := ce_b1_e h
    refine ce_callVv (As := [.int a1, .int x7, .int a2]) (rest := []) hx hb hml hown hB (c_X8_put l X G b hk g10) ce_v_X8_put ce_w1009 ⟨Nat.le_of_ble_eq_true rfl, Nat.le_of_ble_eq_true rfl⟩ hF hA hS (ce_rc_8 hK hA hk) hl rfl rfl (Nat.le_of_ble_eq_true rfl) dX8_beginsStay_66 ⟨Nat.le_of_ble_eq_true rfl, Nat.le_of_ble_eq_true rfl⟩ (fun H locs hA hS => ?_)
    refine lv_aload_n hx hb dX8_beginsStay_69 rfl (lv_at hl 1 rfl) ?_
    refine lv_iload_n hx hb dX8_beginsStay_70 rfl (lv_at hl 2 rfl) ?_
    refine lv_iload_n hx hb dX8_beginsStay_71 rfl (lv_at hl 0 rfl) ?_
    refine lv_iconst (v := 1) hx hb dX8_beginsStay_72 (by decide) ?_
    refine lv_iadd hx hb dX8_beginsStay_73 ?_
    refine lv_aload_n hx hb dX8_beginsStay_74 rfl (lv_at hl 1 rfl) ?_
    refine ce_g_8_0 hx hb hB hown hK hA hk ce_w944 dX8_beginsStay_75 ?_
    refine lv_iconst (v := 0) hx hb dX8_beginsStay_78 (by decide) ?_
    obtain ⟨i12, h⟩ := ce_gi_e h
    obtain ⟨x11, e13, h⟩ := ce_nm_e h
    refine ce_iald hx hb hK hA 816 (ce_kf_8_0 hk) i12 e13 dX8_beginsStay_79 ?_
    obtain ⟨M14, g15, h⟩ := ce_b1_e h
    refine ce_callVv (As := [.int a1, .int (x7 + 1), .int x11]) (rest := []) hx hb hml hown hB (c_X8_put l X G b hk g15) ce_v_X8_put ce_w1009 ⟨Nat.le_of_ble_eq_true rfl, Nat.le_of_ble_eq_true rfl⟩ hF hA hS (ce_rc_8 hK hA hk) hl rfl rfl (Nat.le_of_ble_eq_true rfl) dX8_beginsStay_80 ⟨Nat.le_of_ble_eq_true rfl, Nat.le_of_ble_eq_true rfl⟩ (fun H locs hA hS => ?_)
    refine lv_aload_n hx hb dX8_beginsStay_83 rfl (lv_at hl 1 rfl) ?_
    refine lv_iload_n hx hb dX8_beginsStay_84 rfl (lv_at hl 2 rfl) ?_
    refine lv_iload_n hx hb dX8_beginsStay_85 rfl (lv_at hl 0 rfl) ?_
    refine lv_iconst (v := 2) hx hb dX8_beginsStay_86 (by decide) ?_
    refine lv_iadd hx hb dX8_beginsStay_87 ?_
    refine lv_iconst (v := (-1)) hx hb dX8_beginsStay_88 (by decide) ?_
    obtain ⟨M16, g17, h⟩ := ce_b1_e h
    refine ce_callVv (As := [.int a1, .int (x7 + 2), .int (-1)]) (rest := []) hx hb hml hown hB (c_X8_put l X G b hk g17) ce_v_X8_put ce_w1009 ⟨Nat.le_of_ble_eq_true rfl, Nat.le_of_ble_eq_true rfl⟩ hF hA hS (ce_rc_8 hK hA hk) hl rfl rfl (Nat.le_of_ble_eq_true rfl) dX8_beginsStay_89 ⟨Nat.le_of_ble_eq_true rfl, Nat.le_of_ble_eq_true rfl⟩ (fun H locs hA hS => ?_)
    refine lv_aload_n hx hb dX8_beginsStay_92 rfl (lv_at hl 1 rfl) ?_
    refine lv_iload_n hx hb dX8_beginsStay_93 rfl (lv_at hl 2 rfl) ?_
    refine lv_iconst (v := 4) hx hb dX8_beginsStay_94 (by decide) ?_
    refine lv_iload_n hx hb dX8_beginsStay_95 rfl (lv_at hl 3 rfl) ?_
    obtain ⟨M18, g19, h⟩ := ce_b1_e h
    refine ce_callVv (As := [.int a1, .int 4, .int a2]) (rest := []) hx hb hml hown hB (c_X8_put l X G b hk g19) ce_v_X8_put ce_w1009 ⟨Nat.le_of_ble_eq_true rfl, Nat.le_of_ble_eq_true rfl⟩ hF hA hS (ce_rc_8 hK hA hk) hl rfl rfl (Nat.le_of_ble_eq_true rfl) dX8_beginsStay_96 ⟨Nat.le_of_ble_eq_true rfl, Nat.le_of_ble_eq_true rfl⟩ (fun H locs hA hS => ?_)
    refine lv_aload_n hx hb dX8_beginsStay_99 rfl (lv_at hl 1 rfl) ?_
    refine lv_iload_n hx hb dX8_beginsStay_100 rfl (lv_at hl 2 rfl) ?_
    refine lv_bipush (v := 11) hx hb dX8_beginsStay_101 (by decide) ?_
    refine lv_iconst (v := 1) hx hb dX8_beginsStay_103 (by decide) ?_
    obtain ⟨M20, g21, h⟩ := ce_b1_e h
    refine ce_callVv (As := [.int a1, .int 11, .int 1]) (rest := []) hx hb hml hown hB (c_X8_adds l X G b hk g21) ce_v_X8_adds ce_w1021 ⟨Nat.le_of_ble_eq_true rfl, Nat.le_of_ble_eq_true rfl⟩ hF hA hS (ce_rc_8 hK hA hk) hl rfl rfl (Nat.le_of_ble_eq_true rfl) dX8_beginsStay_104 ⟨Nat.le_of_ble_eq_true rfl, Nat.le_of_ble_eq_true rfl⟩ (fun H locs hA hS => ?_)
    cases h
    exact ce_vret hx hb hr hlocks hA hS dX8_beginsStay_107
  refine lv_icmp_ne (tgt := 49) hx hb dX8_beginsStay_9 (by decide) (fun c23 => ?_) (fun c23 => ?_)
  · have h := ce_ie c23 h
    exact Ju4 M h  _ _ _ hA hS (lv_sub hl [0, 1, 2] rfl)
  · have h := ce_it c23 h
    refine lv_bipush (v := 24) hx hb dX8_beginsStay_12 (by decide) ?_
    refine lv_istore_n (lv' := [(3, .int 24), (0, .ref (b + k)), (1, .int a1), (2, .int a2)]) hx hb dX8_beginsStay_14 rfl hl (by decide) rfl (fun ls hl => ?_)
    obtain ⟨u29, e32, h⟩ := ce_nm_e h
    have Ju29 : ∀ (M28 : ce_M), u29 M28 = some M' → ce_Wg p l e (ce_R 1 23 0 0) s m (([.ref (b + k), .int a1, .int a2] : List Value).toArray) below meth c 0 0 (MQ below (ce_Q X b M' none) ([.ref (b + k), .int a1, .int a2] : List Value).toArray s 0 0 (ce_Ab b)) X b M28 4 [(0, .ref (b + k)), (1, .int a1), (2, .int a2)] 41 [] := by
      intro M28 h  H locs ls hA hS hl
      subst e32
      refine lv_aload_n hx hb dX8_beginsStay_41 rfl (lv_at hl 0 rfl) ?_
      refine lv_iload_n hx hb dX8_beginsStay_42 rfl (lv_at hl 1 rfl) ?_
      refine lv_bipush (v := 11) hx hb dX8_beginsStay_43 (by decide) ?_
      refine lv_iconst (v := (-1)) hx hb dX8_beginsStay_45 (by decide) ?_
      obtain ⟨M30, g31, h⟩ := ce_b1_e h
      refine ce_callVv (As := [.int a1, .int 11, .int (-1)]) (rest := []) hx hb hml hown hB (c_X8_adds l X G b hk g31) ce_v_X8_adds ce_w1021 ⟨Nat.le_of_ble_eq_true rfl, Nat.le_of_ble_eq_true rfl⟩ hF hA hS (ce_rc_8 hK hA hk) hl rfl rfl (Nat.le_of_ble_eq_true rfl) dX8_beginsStay_46 ⟨Nat.le_of_ble_eq_true rfl, Nat.le_of_ble_eq_true rfl⟩ (fun H locs hA hS => ?_)
      exact Ju4 M30 h  _ _ _ hA hS (lv_sub hl [0, 1, 2] rfl)
    refine ce_lp2_i (y := M') (P := fun (M24 : ce_M) (x25 : Int32) => ce_Wg p l e (ce_R 1 23 0 0) s m (([.ref (b + k), .int a1, .int a2] : List Value).toArray) below meth c 0 0 (MQ below (ce_Q X b M' none) ([.ref (b + k), .int a1, .int a2] : List Value).toArray s 0 0 (ce_Ab b)) X b M24 4 [(0, .ref (b + k)), (1, .int a1), (2, .int a2), (3, .int x25)] 15 []) (fun rec26 ih27 M24 x25 h => ?_) _ _ _ h _ _ _ hA hS (lv_sub hl [1, 2, 3, 0] rfl)
    intro H locs ls hA hS hl
    unfold f_X8_beginsStay_L15 at h
    refine lv_iload_n hx hb dX8_beginsStay_15 rfl (lv_at hl 3 rfl) ?_
    refine lv_bipush (v := 51) hx hb dX8_beginsStay_16 (by decide) ?_
    refine lv_icmp_ge (tgt := 41) hx hb dX8_beginsStay_18 (by decide) (fun c33 => ?_) (fun c33 => ?_)
    · have h := ce_it c33 h
      exact Ju29 M24 h  _ _ _ hA hS (lv_sub hl [0, 1, 2] rfl)
    · have h := ce_ie c33 h
      refine lv_aload_n hx hb dX8_beginsStay_21 rfl (lv_at hl 0 rfl) ?_
      refine lv_iload_n hx hb dX8_beginsStay_22 rfl (lv_at hl 1 rfl) ?_
      refine lv_iload_n hx hb dX8_beginsStay_23 rfl (lv_at hl 3 rfl) ?_
      refine lv_aload_n hx hb dX8_beginsStay_24 rfl (lv_at hl 0 rfl) ?_
      refine lv_iload_n hx hb dX8_beginsStay_25 rfl (lv_at hl 1 rfl) ?_
      refine lv_iload_n hx hb dX8_beginsStay_26 rfl (lv_at hl 3 rfl) ?_
      refine lv_iconst (v := 3) hx hb dX8_beginsStay_27 (by decide) ?_
      refine lv_iadd hx hb dX8_beginsStay_28 ?_
      obtain ⟨x34, g35, h⟩ := ce_b1_e h
      refine ce_callVi (As := [.int a1, .int (x25 + 3)]) (rest := [.int x25, .int a1, .ref (b + k)]) hx hb hml hown hB (c_X8_of l X G b hk g35) ce_v_X8_of ce_w1017 ⟨Nat.le_of_ble_eq_true rfl, Nat.le_of_ble_eq_true rfl⟩ hF hA hS (ce_rc_8 hK hA hk) hl rfl rfl (Nat.le_of_ble_eq_true rfl) dX8_beginsStay_29 ⟨Nat.le_of_ble_eq_true rfl, Nat.le_of_ble_eq_true rfl⟩ (fun H locs hA hS => ?_)
      obtain ⟨M36, g37, h⟩ := ce_b1_e h
      refine ce_callVv (As := [.int a1, .int x25, .int x34]) (rest := []) hx hb hml hown hB (c_X8_put l X G b hk g37) ce_v_X8_put ce_w1009 ⟨Nat.le_of_ble_eq_true rfl, Nat.le_of_ble_eq_true rfl⟩ hF hA hS (ce_rc_8 hK hA hk) hl rfl rfl (Nat.le_of_ble_eq_true rfl) dX8_beginsStay_32 ⟨Nat.le_of_ble_eq_true rfl, Nat.le_of_ble_eq_true rfl⟩ (fun H locs hA hS => ?_)
      obtain ⟨x38, e39, h⟩ := ce_nm_e h
      refine lv_iinc (v := x38) (lv' := [(3, .int x38), (0, .ref (b + k)), (1, .int a1), (2, .int a2)]) hx hb dX8_beginsStay_35 hl (k := 3) rfl (by rw [← e39]; rfl) (by decide) rfl (fun ls hl => ?_)
      refine lv_goto (tgt := 15) hx hb dX8_beginsStay_38 (by decide) ?_
      exact ih27 M36 x38 h  _ _ _ hA hS (lv_sub hl [1, 2, 3, 0] rfl)
def f_X8_endsStay (k : Nat) (M : ce_M) (a1 : Int32) : Option ce_M :=
  ce_b1 (f_X8_of k M a1 11) (fun (x1 : Int32) =>
  ce_gi 0 816 (ce_nm (ce_rd M (k + 1) (Int32.toNatClampNeg 0)) (fun (x3 : Int32) =>
  ce_b1 (f_X8_put k M a1 ((24 + (3 * x1)) - 1) x3) (fun (M6 : ce_M) =>
  some M6))))
set_option maxRecDepth 100000 in
set_option maxHeartbeats 4000000 in
theorem c_X8_endsStay (l : Launch) (X : ce_X) (G : ce_G) (b : Nat) {k : Nat} {a1 : Int32} {M : ce_M} (hk : ce_kd k = 8) {M' : ce_M} (h : f_X8_endsStay k M a1 = some M') : ce_Ct l yX8_endsStay cX8_endsStay 2 none 1 23 X G b [.ref (b + k), .int a1] M none M' := by
  refine ce_ofW (own := RX8) (by decide) rfl (Nat.le_of_ble_eq_true rfl) (fun p e s m below meth c ls hx hb hr hlocks hml hown hB hF hA hl hS => ?_)
  have hK := hF.1
  have hl : lv_has ls 2 [(0, .ref (b + k)), (1, .int a1)] := hl
  unfold f_X8_endsStay at h
  refine lv_aload_n hx hb dX8_endsStay_0 rfl (lv_at hl 0 rfl) ?_
  refine lv_iload_n hx hb dX8_endsStay_1 rfl (lv_at hl 1 rfl) ?_
  refine lv_bipush (v := 24) hx hb dX8_endsStay_2 (by decide) ?_
  refine lv_iconst (v := 3) hx hb dX8_endsStay_4 (by decide) ?_
  refine lv_aload_n hx hb dX8_endsStay_5 rfl (lv_at hl 0 rfl) ?_
  refine lv_iload_n hx hb dX8_endsStay_6 rfl (lv_at hl 1 rfl) ?_
  refine lv_bipush (v := 11) hx hb dX8_endsStay_7 (by decide) ?_
  obtain ⟨x1, g2, h⟩ := ce_b1_e h
  refine ce_callVi (As := [.int a1, .int 11]) (rest := [.int 3, .int 24, .int a1, .ref (b + k)]) hx hb hml hown hB (c_X8_of l X G b hk g2) ce_v_X8_of ce_w1017 ⟨Nat.le_of_ble_eq_true rfl, Nat.le_of_ble_eq_true rfl⟩ hF hA hS (ce_rc_8 hK hA hk) hl rfl rfl (Nat.le_of_ble_eq_true rfl) dX8_endsStay_9 ⟨Nat.le_of_ble_eq_true rfl, Nat.le_of_ble_eq_true rfl⟩ (fun H locs hA hS => ?_)
  refine lv_imul hx hb dX8_endsStay_12 ?_
  refine lv_iadd hx hb dX8_endsStay_13 ?_
  refine lv_iconst (v := 1) hx hb dX8_endsStay_14 (by decide) ?_
  refine lv_isub hx hb dX8_endsStay_15 ?_
  refine lv_aload_n hx hb dX8_endsStay_16 rfl (lv_at hl 0 rfl) ?_
  refine ce_g_8_0 hx hb hB hown hK hA hk ce_w944 dX8_endsStay_17 ?_
  refine lv_iconst (v := 0) hx hb dX8_endsStay_20 (by decide) ?_
  obtain ⟨i4, h⟩ := ce_gi_e h
  obtain ⟨x3, e5, h⟩ := ce_nm_e h
  refine ce_iald hx hb hK hA 816 (ce_kf_8_0 hk) i4 e5 dX8_endsStay_21 ?_
  obtain ⟨M6, g7, h⟩ := ce_b1_e h
  refine ce_callVv (As := [.int a1, .int ((24 + (3 * x1)) - 1), .int x3]) (rest := []) hx hb hml hown hB (c_X8_put l X G b hk g7) ce_v_X8_put ce_w1009 ⟨Nat.le_of_ble_eq_true rfl, Nat.le_of_ble_eq_true rfl⟩ hF hA hS (ce_rc_8 hK hA hk) hl rfl rfl (Nat.le_of_ble_eq_true rfl) dX8_endsStay_22 ⟨Nat.le_of_ble_eq_true rfl, Nat.le_of_ble_eq_true rfl⟩ (fun H locs hA hS => ?_)
  cases h
  exact ce_vret hx hb hr hlocks hA hS dX8_endsStay_25
def f_X8_leafAt_L5 (k : Nat) (M : ce_M) (a1 : Int32) (a2 : Int32) (rec3 : Int32 → Int32 → Option Int32) (x1 : Int32) (x2 : Int32) : Option Int32 :=
  ce_b1 (f_X8_of k M a1 11) (fun (x5 : Int32) =>
  if x5 ≤ x2 then
    some x1
  else
    ce_b1 (f_X8_stayAt k M a1 x2 2) (fun (x8 : Int32) =>
    ce_b1 (f_X8_stayAt k M a1 x2 1) (fun (x10 : Int32) =>
    if a2 < x10 then
      ce_nm (x2 + 1) (fun (x13 : Int32) =>
      rec3 x1 x13)
    else
      ce_nm (fun (z16 : Unit) =>
      ce_b1 (f_X8_stayAt k M a1 x2 0) (fun (x17 : Int32) =>
      ce_nm (x2 + 1) (fun (x19 : Int32) =>
      rec3 x17 x19))) (fun (u15 : Unit → Option Int32) =>
      if x8 = (-1) then
        u15 ()
      else
        if x8 ≤ a2 then
          ce_nm (x2 + 1) (fun (x24 : Int32) =>
          rec3 x1 x24)
        else
          u15 ()))))
def f_X8_leafAt (k : Nat) (M : ce_M) (a1 : Int32) (a2 : Int32) : Option Int32 :=
  ce_lp2 (f_X8_leafAt_L5 k M a1 a2) ce_FU (-1) 0
set_option maxRecDepth 100000 in
set_option maxHeartbeats 4000000 in
theorem c_X8_leafAt (l : Launch) (X : ce_X) (G : ce_G) (b : Nat) {k : Nat} {a1 : Int32} {a2 : Int32} {M : ce_M} (hk : ce_kd k = 8) {r : Int32} (h : f_X8_leafAt k M a1 a2 = some r) : ce_Ct l yX8_leafAt cX8_leafAt 6 (some .int) 2 45 X G b [.ref (b + k), .int a1, .int a2] M (some (.int r)) M := by
  refine ce_ofW (own := RX8) (by decide) rfl (Nat.le_of_ble_eq_true rfl) (fun p e s m below meth c ls hx hb hr hlocks hml hown hB hF hA hl hS => ?_)
  have hK := hF.1
  have hl : lv_has ls 6 [(0, .ref (b + k)), (1, .int a1), (2, .int a2)] := hl
  unfold f_X8_leafAt at h
  refine lv_iconst (v := (-1)) hx hb dX8_leafAt_0 (by decide) ?_
  refine lv_istore_n (lv' := [(3, .int (-1)), (0, .ref (b + k)), (1, .int a1), (2, .int a2)]) hx hb dX8_leafAt_1 rfl hl (by decide) rfl (fun ls hl => ?_)
  refine lv_iconst (v := 0) hx hb dX8_leafAt_2 (by decide) ?_
  refine lv_istore (lv' := [(4, .int 0), (3, .int (-1)), (0, .ref (b + k)), (1, .int a1), (2, .int a2)]) hx hb dX8_leafAt_3 hl (by decide) rfl (fun ls hl => ?_)
  refine ce_lp2_i (y := r) (P := fun (x1 : Int32) (x2 : Int32) => ce_Wg p l e (ce_R 2 45 0 0) s m (([.ref (b + k), .int a1, .int a2] : List Value).toArray) below meth c 0 0 (MQ below (ce_Q X b M (some (.int r))) ([.ref (b + k), .int a1, .int a2] : List Value).toArray s 0 0 (ce_Ab b)) X b M 6 [(0, .ref (b + k)), (1, .int a1), (2, .int a2), (3, .int x1), (4, .int x2)] 5 []) (fun rec3 ih4 x1 x2 h => ?_) _ _ _ h _ _ _ hA hS (lv_sub hl [2, 3, 4, 1, 0] rfl)
  intro H locs ls hA hS hl
  unfold f_X8_leafAt_L5 at h
  refine lv_iload hx hb dX8_leafAt_5 (lv_at hl 4 rfl) ?_
  refine lv_aload_n hx hb dX8_leafAt_7 rfl (lv_at hl 0 rfl) ?_
  refine lv_iload_n hx hb dX8_leafAt_8 rfl (lv_at hl 1 rfl) ?_
  refine lv_bipush (v := 11) hx hb dX8_leafAt_9 (by decide) ?_
  obtain ⟨x5, g6, h⟩ := ce_b1_e h
  refine ce_callVi (As := [.int a1, .int 11]) (rest := [.int x2]) hx hb hml hown hB (c_X8_of l X G b hk g6) ce_v_X8_of ce_w1017 ⟨Nat.le_of_ble_eq_true rfl, Nat.le_of_ble_eq_true rfl⟩ hF hA hS (ce_rc_8 hK hA hk) hl rfl rfl (Nat.le_of_ble_eq_true rfl) dX8_leafAt_11 ⟨Nat.le_of_ble_eq_true rfl, Nat.le_of_ble_eq_true rfl⟩ (fun H locs hA hS => ?_)
  refine lv_icmp_ge (tgt := 70) hx hb dX8_leafAt_14 (by decide) (fun c7 => ?_) (fun c7 => ?_)
  · have h := ce_it c7 h
    refine lv_iload_n hx hb dX8_leafAt_70 rfl (lv_at hl 3 rfl) ?_
    cases h
    exact ce_iret hx hb hr hlocks hA hS dX8_leafAt_71
  · have h := ce_ie c7 h
    refine lv_aload_n hx hb dX8_leafAt_17 rfl (lv_at hl 0 rfl) ?_
    refine lv_iload_n hx hb dX8_leafAt_18 rfl (lv_at hl 1 rfl) ?_
    refine lv_iload hx hb dX8_leafAt_19 (lv_at hl 4 rfl) ?_
    refine lv_iconst (v := 2) hx hb dX8_leafAt_21 (by decide) ?_
    obtain ⟨x8, g9, h⟩ := ce_b1_e h
    refine ce_callVi (As := [.int a1, .int x2, .int 2]) (rest := []) hx hb hml hown hB (c_X8_stayAt l X G b hk g9) ce_v_X8_stayAt ce_w1109 ⟨Nat.le_of_ble_eq_true rfl, Nat.le_of_ble_eq_true rfl⟩ hF hA hS (ce_rc_8 hK hA hk) hl rfl rfl (Nat.le_of_ble_eq_true rfl) dX8_leafAt_22 ⟨Nat.le_of_ble_eq_true rfl, Nat.le_of_ble_eq_true rfl⟩ (fun H locs hA hS => ?_)
    refine lv_istore (lv' := [(5, .int x8), (0, .ref (b + k)), (1, .int a1), (2, .int a2), (3, .int x1), (4, .int x2)]) hx hb dX8_leafAt_25 hl (by decide) rfl (fun ls hl => ?_)
    refine lv_iload_n hx hb dX8_leafAt_27 rfl (lv_at hl 3 rfl) ?_
    refine lv_aload_n hx hb dX8_leafAt_28 rfl (lv_at hl 1 rfl) ?_
    refine lv_iload_n hx hb dX8_leafAt_29 rfl (lv_at hl 2 rfl) ?_
    refine lv_iload hx hb dX8_leafAt_30 (lv_at hl 5 rfl) ?_
    refine lv_iconst (v := 1) hx hb dX8_leafAt_32 (by decide) ?_
    obtain ⟨x10, g11, h⟩ := ce_b1_e h
    refine ce_callVi (As := [.int a1, .int x2, .int 1]) (rest := [.int a2]) hx hb hml hown hB (c_X8_stayAt l X G b hk g11) ce_v_X8_stayAt ce_w1109 ⟨Nat.le_of_ble_eq_true rfl, Nat.le_of_ble_eq_true rfl⟩ hF hA hS (ce_rc_8 hK hA hk) hl rfl rfl (Nat.le_of_ble_eq_true rfl) dX8_leafAt_33 ⟨Nat.le_of_ble_eq_true rfl, Nat.le_of_ble_eq_true rfl⟩ (fun H locs hA hS => ?_)
    refine lv_icmp_lt (tgt := 62) hx hb dX8_leafAt_36 (by decide) (fun c12 => ?_) (fun c12 => ?_)
    · have h := ce_it c12 h
      refine lv_iload_n hx hb dX8_leafAt_62 rfl (lv_at hl 4 rfl) ?_
      refine lv_istore_n (lv' := [(3, .int x1), (5, .int x8), (0, .ref (b + k)), (1, .int a1), (2, .int a2), (4, .int x2)]) hx hb dX8_leafAt_63 rfl hl (by decide) rfl (fun ls hl => ?_)
      obtain ⟨x13, e14, h⟩ := ce_nm_e h
      refine lv_iinc (v := x13) (lv' := [(4, .int x13), (3, .int x1), (5, .int x8), (0, .ref (b + k)), (1, .int a1), (2, .int a2)]) hx hb dX8_leafAt_64 hl (k := 5) rfl (by rw [← e14]; rfl) (by decide) rfl (fun ls hl => ?_)
      refine lv_goto (tgt := 5) hx hb dX8_leafAt_67 (by decide) ?_
      exact ih4 x1 x13 h  _ _ _ hA hS (lv_sub hl [3, 4, 5, 1, 0] rfl)
    · have h := ce_ie c12 h
      refine lv_iload hx hb dX8_leafAt_39 (lv_at hl 0 rfl) ?_
      refine lv_iconst (v := (-1)) hx hb dX8_leafAt_41 (by decide) ?_
      obtain ⟨u15, e21, h⟩ := ce_nm_e h
      have Ju15 : ∀ (z16 : Unit), u15 z16 = some r → ce_Wg p l e (ce_R 2 45 0 0) s m (([.ref (b + k), .int a1, .int a2] : List Value).toArray) below meth c 0 0 (MQ below (ce_Q X b M (some (.int r))) ([.ref (b + k), .int a1, .int a2] : List Value).toArray s 0 0 (ce_Ab b)) X b M 6 [(0, .ref (b + k)), (1, .int a1), (2, .int a2), (4, .int x2)] 51 [] := by
        intro z16 h  H locs ls hA hS hl
        subst e21
        refine lv_aload_n hx hb dX8_leafAt_51 rfl (lv_at hl 0 rfl) ?_
        refine lv_iload_n hx hb dX8_leafAt_52 rfl (lv_at hl 1 rfl) ?_
        refine lv_iload hx hb dX8_leafAt_53 (lv_at hl 3 rfl) ?_
        refine lv_iconst (v := 0) hx hb dX8_leafAt_55 (by decide) ?_
        obtain ⟨x17, g18, h⟩ := ce_b1_e h
        refine ce_callVi (As := [.int a1, .int x2, .int 0]) (rest := []) hx hb hml hown hB (c_X8_stayAt l X G b hk g18) ce_v_X8_stayAt ce_w1109 ⟨Nat.le_of_ble_eq_true rfl, Nat.le_of_ble_eq_true rfl⟩ hF hA hS (ce_rc_8 hK hA hk) hl rfl rfl (Nat.le_of_ble_eq_true rfl) dX8_leafAt_56 ⟨Nat.le_of_ble_eq_true rfl, Nat.le_of_ble_eq_true rfl⟩ (fun H locs hA hS => ?_)
        refine lv_goto (tgt := 63) hx hb dX8_leafAt_59 (by decide) ?_
        refine lv_istore_n (lv' := [(3, .int x17), (0, .ref (b + k)), (1, .int a1), (2, .int a2), (4, .int x2)]) hx hb dX8_leafAt_63 rfl hl (by decide) rfl (fun ls hl => ?_)
        obtain ⟨x19, e20, h⟩ := ce_nm_e h
        refine lv_iinc (v := x19) (lv' := [(4, .int x19), (3, .int x17), (0, .ref (b + k)), (1, .int a1), (2, .int a2)]) hx hb dX8_leafAt_64 hl (k := 4) rfl (by rw [← e20]; rfl) (by decide) rfl (fun ls hl => ?_)
        refine lv_goto (tgt := 5) hx hb dX8_leafAt_67 (by decide) ?_
        exact ih4 x17 x19 h  _ _ _ hA hS (lv_sub hl [2, 3, 4, 1, 0] rfl)
      refine lv_icmp_eq (tgt := 51) hx hb dX8_leafAt_42 (by decide) (fun c22 => ?_) (fun c22 => ?_)
      · have h := ce_it c22 h
        exact Ju15 () h  _ _ _ hA hS (lv_sub hl [1, 2, 3, 5] rfl)
      · have h := ce_ie c22 h
        refine lv_iload_n hx hb dX8_leafAt_45 rfl (lv_at hl 3 rfl) ?_
        refine lv_iload hx hb dX8_leafAt_46 (lv_at hl 0 rfl) ?_
        refine lv_icmp_ge (tgt := 62) hx hb dX8_leafAt_48 (by decide) (fun c23 => ?_) (fun c23 => ?_)
        · have h := ce_it c23 h
          refine lv_iload_n hx hb dX8_leafAt_62 rfl (lv_at hl 4 rfl) ?_
          refine lv_istore_n (lv' := [(3, .int x1), (5, .int x8), (0, .ref (b + k)), (1, .int a1), (2, .int a2), (4, .int x2)]) hx hb dX8_leafAt_63 rfl hl (by decide) rfl (fun ls hl => ?_)
          obtain ⟨x24, e25, h⟩ := ce_nm_e h
          refine lv_iinc (v := x24) (lv' := [(4, .int x24), (3, .int x1), (5, .int x8), (0, .ref (b + k)), (1, .int a1), (2, .int a2)]) hx hb dX8_leafAt_64 hl (k := 5) rfl (by rw [← e25]; rfl) (by decide) rfl (fun ls hl => ?_)
          refine lv_goto (tgt := 5) hx hb dX8_leafAt_67 (by decide) ?_
          exact ih4 x1 x24 h  _ _ _ hA hS (lv_sub hl [3, 4, 5, 1, 0] rfl)
        · have h := ce_ie c23 h
          exact Ju15 () h  _ _ _ hA hS (lv_sub hl [1, 2, 3, 5] rfl)
def f_X8_reaches (k : Nat) (M : ce_M) (a1 : Int32) (a2 : Int32) (a3 : Int32) (a4 : Int32) : Option Int32 :=
  ce_b1 (f_X8_of k M a1 5) (fun (x1 : Int32) =>
  ce_nm (fun (x3 : Int32) (x4 : Int32) =>
      if x4 = (-1) then
        some 0
      else
        ce_b1 (f_X8_of k M a1 1) (fun (x7 : Int32) =>
        ce_b1 (f_X8_overlap M x4 x7 a2 x3) (fun (x9 : Int32) =>
        if x9 = 0 then
          some 0
        else
          some 1))) (fun (u5 : Int32 → Int32 → Option Int32) =>
  if x1 = 1 then
    ce_b1 (f_X8_leafAt k M a1 a4) (fun (x14 : Int32) =>
    u5 a3 x14)
  else
    u5 a3 (-1)))
set_option maxRecDepth 100000 in
set_option maxHeartbeats 4000000 in
theorem c_X8_reaches (l : Launch) (X : ce_X) (G : ce_G) (b : Nat) {k : Nat} {a1 : Int32} {a2 : Int32} {a3 : Int32} {a4 : Int32} {M : ce_M} (hk : ce_kd k = 8) {r : Int32} (h : f_X8_reaches k M a1 a2 a3 a4 = some r) : ce_Ct l yX8_reaches cX8_reaches 6 (some .boolean) 3 70 X G b [.ref (b + k), .int a1, .int a2, .int a3, .int a4] M (some (.int r)) M := by
  refine ce_ofW (own := RX8) (by decide) rfl (Nat.le_of_ble_eq_true rfl) (fun p e s m below meth c ls hx hb hr hlocks hml hown hB hF hA hl hS => ?_)
  have hK := hF.1
  have hl : lv_has ls 6 [(0, .ref (b + k)), (1, .int a1), (2, .int a2), (3, .int a3), (4, .int a4)] := hl
  unfold f_X8_reaches at h
  refine lv_aload_n hx hb dX8_reaches_0 rfl (lv_at hl 0 rfl) ?_
  refine lv_iload_n hx hb dX8_reaches_1 rfl (lv_at hl 1 rfl) ?_
  refine lv_iconst (v := 5) hx hb dX8_reaches_2 (by decide) ?_
  obtain ⟨x1, g2, h⟩ := ce_b1_e h
  refine ce_callVi (As := [.int a1, .int 5]) (rest := []) hx hb hml hown hB (c_X8_of l X G b hk g2) ce_v_X8_of ce_w1017 ⟨Nat.le_of_ble_eq_true rfl, Nat.le_of_ble_eq_true rfl⟩ hF hA hS (ce_rc_8 hK hA hk) hl rfl rfl (Nat.le_of_ble_eq_true rfl) dX8_reaches_3 ⟨Nat.le_of_ble_eq_true rfl, Nat.le_of_ble_eq_true rfl⟩ (fun H locs hA hS => ?_)
  refine lv_iconst (v := 1) hx hb dX8_reaches_6 (by decide) ?_
  obtain ⟨u5, e12, h⟩ := ce_nm_e h
  have Ju5 : ∀ (x3 : Int32) (x4 : Int32), u5 x3 x4 = some r → ce_Wg p l e (ce_R 3 70 0 0) s m (([.ref (b + k), .int a1, .int a2, .int a3, .int a4] : List Value).toArray) below meth c 0 0 (MQ below (ce_Q X b M (some (.int r))) ([.ref (b + k), .int a1, .int a2, .int a3, .int a4] : List Value).toArray s 0 0 (ce_Ab b)) X b M 6 [(0, .ref (b + k)), (1, .int a1), (2, .int a2), (3, .int x3)] 21 [.int x4] := by
    intro x3 x4 h  H locs ls hA hS hl
    subst e12
    refine lv_istore (lv' := [(5, .int x4), (0, .ref (b + k)), (1, .int a1), (2, .int a2), (3, .int x3)]) hx hb dX8_reaches_21 hl (by decide) rfl (fun ls hl => ?_)
    refine lv_iload hx hb dX8_reaches_23 (lv_at hl 0 rfl) ?_
    refine lv_iconst (v := (-1)) hx hb dX8_reaches_25 (by decide) ?_
    refine lv_icmp_eq (tgt := 49) hx hb dX8_reaches_26 (by decide) (fun c6 => ?_) (fun c6 => ?_)
    · have h := ce_it c6 h
      refine lv_iconst (v := 0) hx hb dX8_reaches_49 (by decide) ?_
      cases h
      exact ce_zret hx hb hr hlocks (Or.inl rfl) hA hS dX8_reaches_50
    · have h := ce_ie c6 h
      refine lv_iload hx hb dX8_reaches_29 (lv_at hl 0 rfl) ?_
      refine lv_aload_n hx hb dX8_reaches_31 rfl (lv_at hl 1 rfl) ?_
      refine lv_iload_n hx hb dX8_reaches_32 rfl (lv_at hl 2 rfl) ?_
      refine lv_iconst (v := 1) hx hb dX8_reaches_33 (by decide) ?_
      obtain ⟨x7, g8, h⟩ := ce_b1_e h
      refine ce_callVi (As := [.int a1, .int 1]) (rest := [.int x4]) hx hb hml hown hB (c_X8_of l X G b hk g8) ce_v_X8_of ce_w1017 ⟨Nat.le_of_ble_eq_true rfl, Nat.le_of_ble_eq_true rfl⟩ hF hA hS (ce_rc_8 hK hA hk) hl rfl rfl (Nat.le_of_ble_eq_true rfl) dX8_reaches_34 ⟨Nat.le_of_ble_eq_true rfl, Nat.le_of_ble_eq_true rfl⟩ (fun H locs hA hS => ?_)
      refine lv_iload_n hx hb dX8_reaches_37 rfl (lv_at hl 3 rfl) ?_
      refine lv_iload_n hx hb dX8_reaches_38 rfl (lv_at hl 4 rfl) ?_
      obtain ⟨x9, g10, h⟩ := ce_b1_e h
      refine ce_callSi (As := [.int x4, .int x7, .int a2, .int x3]) (rest := []) hx hb hml hown hB (c_X8_overlap l X G b  g10) ce_s_X8_overlap ce_w1113 ⟨Nat.le_of_ble_eq_true rfl, Nat.le_of_ble_eq_true rfl⟩ hF hA hS hl rfl rfl (Nat.le_of_ble_eq_true rfl) dX8_reaches_39 ⟨Nat.le_of_ble_eq_true rfl, Nat.le_of_ble_eq_true rfl⟩ (fun H locs hA hS => ?_)
      refine lv_if_eq (tgt := 49) hx hb dX8_reaches_42 (by decide) (fun c11 => ?_) (fun c11 => ?_)
      · have h := ce_it c11 h
        refine lv_iconst (v := 0) hx hb dX8_reaches_49 (by decide) ?_
        cases h
        exact ce_zret hx hb hr hlocks (Or.inl rfl) hA hS dX8_reaches_50
      · have h := ce_ie c11 h
        refine lv_iconst (v := 1) hx hb dX8_reaches_45 (by decide) ?_
        refine lv_goto (tgt := 50) hx hb dX8_reaches_46 (by decide) ?_
        cases h
        exact ce_zret hx hb hr hlocks (Or.inr rfl) hA hS dX8_reaches_50
  refine lv_icmp_ne (tgt := 20) hx hb dX8_reaches_7 (by decide) (fun c13 => ?_) (fun c13 => ?_)
  · have h := ce_ie c13 h
    refine lv_iconst (v := (-1)) hx hb dX8_reaches_20 (by decide) ?_
    exact Ju5 a3 (-1) h  _ _ _ hA hS (lv_sub hl [0, 1, 2, 3] rfl)
  · have h := ce_it c13 h
    refine lv_aload_n hx hb dX8_reaches_10 rfl (lv_at hl 0 rfl) ?_
    refine lv_iload_n hx hb dX8_reaches_11 rfl (lv_at hl 1 rfl) ?_
    refine lv_iload hx hb dX8_reaches_12 (lv_at hl 4 rfl) ?_
    obtain ⟨x14, g15, h⟩ := ce_b1_e h
    refine ce_callVi (As := [.int a1, .int a4]) (rest := []) hx hb hml hown hB (c_X8_leafAt l X G b hk g15) ce_v_X8_leafAt ce_w1105 ⟨Nat.le_of_ble_eq_true rfl, Nat.le_of_ble_eq_true rfl⟩ hF hA hS (ce_rc_8 hK hA hk) hl rfl rfl (Nat.le_of_ble_eq_true rfl) dX8_reaches_14 ⟨Nat.le_of_ble_eq_true rfl, Nat.le_of_ble_eq_true rfl⟩ (fun H locs hA hS => ?_)
    refine lv_goto (tgt := 21) hx hb dX8_reaches_17 (by decide) ?_
    exact Ju5 a3 x14 h  _ _ _ hA hS (lv_sub hl [0, 1, 2, 3] rfl)
def f_X8_reachedBy_L6 (M : ce_M) (k : Nat) (a1 : Int32) (a2 : Int32) (a3 : Int32) (rec3 : Int32 → Int32 → Option Int32) (x1 : Int32) (x2 : Int32) : Option Int32 :=
  ce_gi 1 816 (ce_nm (ce_rd M (k + 1) (Int32.toNatClampNeg 1)) (fun (x5 : Int32) =>
  if x5 ≤ x2 then
    some x1
  else
    ce_b1 (f_X8_reaches k M x2 a1 a2 a3) (fun (x9 : Int32) =>
    if x9 = 0 then
      ce_nm (x1 ||| 0) (fun (x12 : Int32) =>
      ce_nm (x2 + 1) (fun (x14 : Int32) =>
      rec3 x12 x14))
    else
      ce_nm (x1 ||| (1 <<< (x2 &&& 31))) (fun (x16 : Int32) =>
      ce_nm (x2 + 1) (fun (x18 : Int32) =>
      rec3 x16 x18)))))
def f_X8_reachedBy (k : Nat) (M : ce_M) (a1 : Int32) (a2 : Int32) (a3 : Int32) : Option Int32 :=
  ce_lp2 (f_X8_reachedBy_L6 M k a1 a2 a3) ce_FU 0 0
set_option maxRecDepth 100000 in
set_option maxHeartbeats 4000000 in
theorem c_X8_reachedBy (l : Launch) (X : ce_X) (G : ce_G) (b : Nat) {k : Nat} {a1 : Int32} {a2 : Int32} {a3 : Int32} {M : ce_M} (hk : ce_kd k = 8) {r : Int32} (h : f_X8_reachedBy k M a1 a2 a3 = some r) : ce_Ct l yX8_reachedBy cX8_reachedBy 6 (some .int) 4 95 X G b [.ref (b + k), .int a1, .int a2, .int a3] M (some (.int r)) M := by
  refine ce_ofW (own := RX8) (by decide) rfl (Nat.le_of_ble_eq_true rfl) (fun p e s m below meth c ls hx hb hr hlocks hml hown hB hF hA hl hS => ?_)
  have hK := hF.1
  have hl : lv_has ls 6 [(0, .ref (b + k)), (1, .int a1), (2, .int a2), (3, .int a3)] := hl
  unfold f_X8_reachedBy at h
  refine lv_iconst (v := 0) hx hb dX8_reachedBy_0 (by decide) ?_
  refine lv_istore (lv' := [(4, .int 0), (0, .ref (b + k)), (1, .int a1), (2, .int a2), (3, .int a3)]) hx hb dX8_reachedBy_1 hl (by decide) rfl (fun ls hl => ?_)
  refine lv_iconst (v := 0) hx hb dX8_reachedBy_3 (by decide) ?_
  refine lv_istore (lv' := [(5, .int 0), (4, .int 0), (0, .ref (b + k)), (1, .int a1), (2, .int a2), (3, .int a3)]) hx hb dX8_reachedBy_4 hl (by decide) rfl (fun ls hl => ?_)
  refine ce_lp2_i (y := r) (P := fun (x1 : Int32) (x2 : Int32) => ce_Wg p l e (ce_R 4 95 0 0) s m (([.ref (b + k), .int a1, .int a2, .int a3] : List Value).toArray) below meth c 0 0 (MQ below (ce_Q X b M (some (.int r))) ([.ref (b + k), .int a1, .int a2, .int a3] : List Value).toArray s 0 0 (ce_Ab b)) X b M 6 [(0, .ref (b + k)), (1, .int a1), (2, .int a2), (3, .int a3), (4, .int x1), (5, .int x2)] 6 []) (fun rec3 ih4 x1 x2 h => ?_) _ _ _ h _ _ _ hA hS (lv_sub hl [2, 3, 4, 5, 1, 0] rfl)
  intro H locs ls hA hS hl
  unfold f_X8_reachedBy_L6 at h
  refine lv_iload hx hb dX8_reachedBy_6 (lv_at hl 5 rfl) ?_
  refine lv_aload_n hx hb dX8_reachedBy_8 rfl (lv_at hl 0 rfl) ?_
  refine ce_g_8_0 hx hb hB hown hK hA hk ce_w944 dX8_reachedBy_9 ?_
  refine lv_iconst (v := 1) hx hb dX8_reachedBy_12 (by decide) ?_
  obtain ⟨i6, h⟩ := ce_gi_e h
  obtain ⟨x5, e7, h⟩ := ce_nm_e h
  refine ce_iald hx hb hK hA 816 (ce_kf_8_0 hk) i6 e7 dX8_reachedBy_13 ?_
  refine lv_icmp_ge (tgt := 48) hx hb dX8_reachedBy_14 (by decide) (fun c8 => ?_) (fun c8 => ?_)
  · have h := ce_it c8 h
    refine lv_iload hx hb dX8_reachedBy_48 (lv_at hl 4 rfl) ?_
    cases h
    exact ce_iret hx hb hr hlocks hA hS dX8_reachedBy_50
  · have h := ce_ie c8 h
    refine lv_iload hx hb dX8_reachedBy_17 (lv_at hl 4 rfl) ?_
    refine lv_aload_n hx hb dX8_reachedBy_19 rfl (lv_at hl 0 rfl) ?_
    refine lv_iload hx hb dX8_reachedBy_20 (lv_at hl 5 rfl) ?_
    refine lv_iload_n hx hb dX8_reachedBy_22 rfl (lv_at hl 1 rfl) ?_
    refine lv_iload_n hx hb dX8_reachedBy_23 rfl (lv_at hl 2 rfl) ?_
    refine lv_iload_n hx hb dX8_reachedBy_24 rfl (lv_at hl 3 rfl) ?_
    obtain ⟨x9, g10, h⟩ := ce_b1_e h
    refine ce_callVi (As := [.int x2, .int a1, .int a2, .int a3]) (rest := [.int x1]) hx hb hml hown hB (c_X8_reaches l X G b hk g10) ce_v_X8_reaches ce_w1101 ⟨Nat.le_of_ble_eq_true rfl, Nat.le_of_ble_eq_true rfl⟩ hF hA hS (ce_rc_8 hK hA hk) hl rfl rfl (Nat.le_of_ble_eq_true rfl) dX8_reachedBy_25 ⟨Nat.le_of_ble_eq_true rfl, Nat.le_of_ble_eq_true rfl⟩ (fun H locs hA hS => ?_)
    refine lv_if_eq (tgt := 38) hx hb dX8_reachedBy_28 (by decide) (fun c11 => ?_) (fun c11 => ?_)
    · have h := ce_it c11 h
      refine lv_iconst (v := 0) hx hb dX8_reachedBy_38 (by decide) ?_
      refine lv_ior hx hb dX8_reachedBy_39 ?_
      obtain ⟨x12, e13, h⟩ := ce_nm_e h
      refine ce_top e13 ?_
      refine lv_istore (lv' := [(4, .int x12), (0, .ref (b + k)), (1, .int a1), (2, .int a2), (3, .int a3), (5, .int x2)]) hx hb dX8_reachedBy_40 hl (by decide) rfl (fun ls hl => ?_)
      obtain ⟨x14, e15, h⟩ := ce_nm_e h
      refine lv_iinc (v := x14) (lv' := [(5, .int x14), (4, .int x12), (0, .ref (b + k)), (1, .int a1), (2, .int a2), (3, .int a3)]) hx hb dX8_reachedBy_42 hl (k := 5) rfl (by rw [← e15]; rfl) (by decide) rfl (fun ls hl => ?_)
      refine lv_goto (tgt := 6) hx hb dX8_reachedBy_45 (by decide) ?_
      exact ih4 x12 x14 h  _ _ _ hA hS (lv_sub hl [2, 3, 4, 5, 1, 0] rfl)
    · have h := ce_ie c11 h
      refine lv_iconst (v := 1) hx hb dX8_reachedBy_31 (by decide) ?_
      refine lv_iload hx hb dX8_reachedBy_32 (lv_at hl 5 rfl) ?_
      refine lv_ishl hx hb dX8_reachedBy_34 ?_
      refine lv_goto (tgt := 39) hx hb dX8_reachedBy_35 (by decide) ?_
      refine lv_ior hx hb dX8_reachedBy_39 ?_
      obtain ⟨x16, e17, h⟩ := ce_nm_e h
      refine ce_top e17 ?_
      refine lv_istore (lv' := [(4, .int x16), (0, .ref (b + k)), (1, .int a1), (2, .int a2), (3, .int a3), (5, .int x2)]) hx hb dX8_reachedBy_40 hl (by decide) rfl (fun ls hl => ?_)
      obtain ⟨x18, e19, h⟩ := ce_nm_e h
      refine lv_iinc (v := x18) (lv' := [(5, .int x18), (4, .int x16), (0, .ref (b + k)), (1, .int a1), (2, .int a2), (3, .int a3)]) hx hb dX8_reachedBy_42 hl (k := 5) rfl (by rw [← e19]; rfl) (by decide) rfl (fun ls hl => ?_)
      refine lv_goto (tgt := 6) hx hb dX8_reachedBy_45 (by decide) ?_
      exact ih4 x16 x18 h  _ _ _ hA hS (lv_sub hl [2, 3, 4, 5, 1, 0] rfl)
def f_X8_subscribes_L61 (k : Nat) (x14 : Int32) (u28 : ce_M → Option (ce_M × Int32)) (rec25 : ce_M → Int32 → Option (ce_M × Int32)) (M23 : ce_M) (x24 : Int32) : Option (ce_M × Int32) :=
  if 54 ≤ x24 then
    u28 M23
  else
    ce_b1 (f_X8_put k M23 x14 x24 0) (fun (M48 : ce_M) =>
    ce_nm (x24 + 1) (fun (x50 : Int32) =>
    rec25 M48 x50))
def f_X8_subscribes (k : Nat) (M : ce_M) (a1 : Int32) (a2 : Int32) (a3 : Int32) : Option (ce_M × Int32) :=
  ce_b1 (f_X8_isLeaf M a3) (fun (x1 : Int32) =>
  if x1 = 0 then
    some (M, 1)
  else
    ce_b1 (f_X8_in M a1 0 2) (fun (x4 : Int32) =>
    if x4 = 0 then
      some (M, 2)
    else
      ce_b1 (f_X8_isLevel M a2) (fun (x7 : Int32) =>
      if x7 = 0 then
        some (M, 2)
      else
        ce_gi 1 816 (ce_nm (ce_rd M (k + 1) (Int32.toNatClampNeg 1)) (fun (x10 : Int32) =>
        if x10 = 8 then
          some (M, 3)
        else
          ce_gi 1 816 (ce_nm (ce_rd M (k + 1) (Int32.toNatClampNeg 1)) (fun (x14 : Int32) =>
          ce_gi 1 816 (ce_nm (ce_rd M (k + 1) (Int32.toNatClampNeg 1)) (fun (x17 : Int32) =>
          ce_gi 1 816 (ce_nm (ce_wr M (k + 1) (Int32.toNatClampNeg 1) (x17 + 1)) (fun (M20 : ce_M) =>
          ce_nm (fun (M27 : ce_M) =>
      ce_b1 (f_X8_put k M27 x14 0 a1) (fun (M29 : ce_M) =>
      ce_b1 (f_X8_put k M29 x14 1 a2) (fun (M31 : ce_M) =>
      ce_b1 (f_X8_put k M31 x14 2 a3) (fun (M33 : ce_M) =>
      ce_gi 0 816 (ce_nm (ce_rd M33 (k + 1) (Int32.toNatClampNeg 0)) (fun (x35 : Int32) =>
      ce_b1 (f_X8_put k M33 x14 3 x35) (fun (M38 : ce_M) =>
      ce_b1 (f_X8_put k M38 x14 5 1) (fun (M40 : ce_M) =>
      ce_b1 (f_X8_beginsStay k M40 x14 a3) (fun (M42 : ce_M) =>
      ce_nm (ce_wr M42 k 5 x14) (fun (M44 : ce_M) =>
      some (M44, 0))))))))))) (fun (u28 : ce_M → Option (ce_M × Int32)) =>
          ce_lp2 (f_X8_subscribes_L61 k x14 u28) ce_FU M20 0))))))))))))
set_option maxRecDepth 100000 in
set_option maxHeartbeats 4000000 in
theorem c_X8_subscribes (l : Launch) (X : ce_X) (G : ce_G) (b : Nat) {k : Nat} {a1 : Int32} {a2 : Int32} {a3 : Int32} {M : ce_M} (hk : ce_kd k = 8) {M' : ce_M} {r : Int32} (h : f_X8_subscribes k M a1 a2 a3 = some (M', r)) : ce_Ct l yX8_subscribes cX8_subscribes 6 (some .int) 2 46 X G b [.ref (b + k), .int a1, .int a2, .int a3] M (some (.int r)) M' := by
  refine ce_ofW (own := RX8) (by decide) rfl (Nat.le_of_ble_eq_true rfl) (fun p e s m below meth c ls hx hb hr hlocks hml hown hB hF hA hl hS => ?_)
  have hK := hF.1
  have hl : lv_has ls 6 [(0, .ref (b + k)), (1, .int a1), (2, .int a2), (3, .int a3)] := hl
  unfold f_X8_subscribes at h
  refine lv_iload_n hx hb dX8_subscribes_0 rfl (lv_at hl 3 rfl) ?_
  obtain ⟨x1, g2, h⟩ := ce_b1_e h
  refine ce_callSi (As := [.int a3]) (rest := []) hx hb hml hown hB (c_X8_isLeaf l X G b  g2) ce_s_X8_isLeaf ce_w1000 ⟨Nat.le_of_ble_eq_true rfl, Nat.le_of_ble_eq_true rfl⟩ hF hA hS hl rfl rfl (Nat.le_of_ble_eq_true rfl) dX8_subscribes_1 ⟨Nat.le_of_ble_eq_true rfl, Nat.le_of_ble_eq_true rfl⟩ (fun H locs hA hS => ?_)
  refine lv_if_ne (tgt := 9) hx hb dX8_subscribes_4 (by decide) (fun c3 => ?_) (fun c3 => ?_)
  · have h := ce_ie c3 h
    refine lv_iload_n hx hb dX8_subscribes_9 rfl (lv_at hl 1 rfl) ?_
    refine lv_iconst (v := 0) hx hb dX8_subscribes_10 (by decide) ?_
    refine lv_iconst (v := 2) hx hb dX8_subscribes_11 (by decide) ?_
    obtain ⟨x4, g5, h⟩ := ce_b1_e h
    refine ce_callSi (As := [.int a1, .int 0, .int 2]) (rest := []) hx hb hml hown hB (c_X8_in l X G b  g5) ce_s_X8_in ce_w1003 ⟨Nat.le_of_ble_eq_true rfl, Nat.le_of_ble_eq_true rfl⟩ hF hA hS hl rfl rfl (Nat.le_of_ble_eq_true rfl) dX8_subscribes_12 ⟨Nat.le_of_ble_eq_true rfl, Nat.le_of_ble_eq_true rfl⟩ (fun H locs hA hS => ?_)
    refine lv_if_eq (tgt := 25) hx hb dX8_subscribes_15 (by decide) (fun c6 => ?_) (fun c6 => ?_)
    · have h := ce_it c6 h
      refine lv_iconst (v := 2) hx hb dX8_subscribes_25 (by decide) ?_
      cases h
      exact ce_iret hx hb hr hlocks hA hS dX8_subscribes_26
    · have h := ce_ie c6 h
      refine lv_iload_n hx hb dX8_subscribes_18 rfl (lv_at hl 2 rfl) ?_
      obtain ⟨x7, g8, h⟩ := ce_b1_e h
      refine ce_callSi (As := [.int a2]) (rest := []) hx hb hml hown hB (c_X8_isLevel l X G b  g8) ce_s_X8_isLevel ce_w1006 ⟨Nat.le_of_ble_eq_true rfl, Nat.le_of_ble_eq_true rfl⟩ hF hA hS hl rfl rfl (Nat.le_of_ble_eq_true rfl) dX8_subscribes_19 ⟨Nat.le_of_ble_eq_true rfl, Nat.le_of_ble_eq_true rfl⟩ (fun H locs hA hS => ?_)
      refine lv_if_ne (tgt := 27) hx hb dX8_subscribes_22 (by decide) (fun c9 => ?_) (fun c9 => ?_)
      · have h := ce_ie c9 h
        refine lv_aload_n hx hb dX8_subscribes_27 rfl (lv_at hl 0 rfl) ?_
        refine ce_g_8_0 hx hb hB hown hK hA hk ce_w944 dX8_subscribes_28 ?_
        refine lv_iconst (v := 1) hx hb dX8_subscribes_31 (by decide) ?_
        obtain ⟨i11, h⟩ := ce_gi_e h
        obtain ⟨x10, e12, h⟩ := ce_nm_e h
        refine ce_iald hx hb hK hA 816 (ce_kf_8_0 hk) i11 e12 dX8_subscribes_32 ?_
        refine lv_bipush (v := 8) hx hb dX8_subscribes_33 (by decide) ?_
        refine lv_icmp_ne (tgt := 40) hx hb dX8_subscribes_35 (by decide) (fun c13 => ?_) (fun c13 => ?_)
        · have h := ce_ie c13 h
          refine lv_aload_n hx hb dX8_subscribes_40 rfl (lv_at hl 0 rfl) ?_
          refine ce_g_8_0 hx hb hB hown hK hA hk ce_w944 dX8_subscribes_41 ?_
          refine lv_iconst (v := 1) hx hb dX8_subscribes_44 (by decide) ?_
          obtain ⟨i15, h⟩ := ce_gi_e h
          obtain ⟨x14, e16, h⟩ := ce_nm_e h
          refine ce_iald hx hb hK hA 816 (ce_kf_8_0 hk) i15 e16 dX8_subscribes_45 ?_
          refine lv_istore (lv' := [(4, .int x14), (0, .ref (b + k)), (1, .int a1), (2, .int a2), (3, .int a3)]) hx hb dX8_subscribes_46 hl (by decide) rfl (fun ls hl => ?_)
          refine lv_aload_n hx hb dX8_subscribes_48 rfl (lv_at hl 1 rfl) ?_
          refine ce_g_8_0 hx hb hB hown hK hA hk ce_w944 dX8_subscribes_49 ?_
          refine lv_iconst (v := 1) hx hb dX8_subscribes_52 (by decide) ?_
          refine lv_dup2_11 hx hb dX8_subscribes_53 rfl rfl ?_
          obtain ⟨i18, h⟩ := ce_gi_e h
          obtain ⟨x17, e19, h⟩ := ce_nm_e h
          refine ce_iald hx hb hK hA 816 (ce_kf_8_0 hk) i18 e19 dX8_subscribes_54 ?_
          refine lv_iconst (v := 1) hx hb dX8_subscribes_55 (by decide) ?_
          refine lv_iadd hx hb dX8_subscribes_56 ?_
          obtain ⟨i21, h⟩ := ce_gi_e h
          obtain ⟨M20, e22, h⟩ := ce_nm_e h
          refine ce_iast hx hb hK hA hS 816 (ce_kf_8_0 hk) i21 dX8_subscribes_57 e22 (fun H locs hA hS => ?_)
          refine lv_iconst (v := 0) hx hb dX8_subscribes_58 (by decide) ?_
          refine lv_istore (lv' := [(5, .int 0), (4, .int x14), (0, .ref (b + k)), (1, .int a1), (2, .int a2), (3, .int a3)]) hx hb dX8_subscribes_59 hl (by decide) rfl (fun ls hl => ?_)
          obtain ⟨u28, e46, h⟩ := ce_nm_e h
          have Ju28 : ∀ (M27 : ce_M), u28 M27 = some (M', r) → ce_Wg p l e (ce_R 2 46 0 0) s m (([.ref (b + k), .int a1, .int a2, .int a3] : List Value).toArray) below meth c 0 0 (MQ below (ce_Q X b M' (some (.int r))) ([.ref (b + k), .int a1, .int a2, .int a3] : List Value).toArray s 0 0 (ce_Ab b)) X b M27 6 [(0, .ref (b + k)), (1, .int a1), (2, .int a2), (3, .int a3), (4, .int x14)] 83 [] := by
            intro M27 h  H locs ls hA hS hl
            subst e46
            refine lv_aload_n hx hb dX8_subscribes_83 rfl (lv_at hl 0 rfl) ?_
            refine lv_iload hx hb dX8_subscribes_84 (lv_at hl 4 rfl) ?_
            refine lv_iconst (v := 0) hx hb dX8_subscribes_86 (by decide) ?_
            refine lv_iload_n hx hb dX8_subscribes_87 rfl (lv_at hl 1 rfl) ?_
            obtain ⟨M29, g30, h⟩ := ce_b1_e h
            refine ce_callVv (As := [.int x14, .int 0, .int a1]) (rest := []) hx hb hml hown hB (c_X8_put l X G b hk g30) ce_v_X8_put ce_w1009 ⟨Nat.le_of_ble_eq_true rfl, Nat.le_of_ble_eq_true rfl⟩ hF hA hS (ce_rc_8 hK hA hk) hl rfl rfl (Nat.le_of_ble_eq_true rfl) dX8_subscribes_88 ⟨Nat.le_of_ble_eq_true rfl, Nat.le_of_ble_eq_true rfl⟩ (fun H locs hA hS => ?_)
            refine lv_aload_n hx hb dX8_subscribes_91 rfl (lv_at hl 0 rfl) ?_
            refine lv_iload hx hb dX8_subscribes_92 (lv_at hl 4 rfl) ?_
            refine lv_iconst (v := 1) hx hb dX8_subscribes_94 (by decide) ?_
            refine lv_iload_n hx hb dX8_subscribes_95 rfl (lv_at hl 2 rfl) ?_
            obtain ⟨M31, g32, h⟩ := ce_b1_e h
            refine ce_callVv (As := [.int x14, .int 1, .int a2]) (rest := []) hx hb hml hown hB (c_X8_put l X G b hk g32) ce_v_X8_put ce_w1009 ⟨Nat.le_of_ble_eq_true rfl, Nat.le_of_ble_eq_true rfl⟩ hF hA hS (ce_rc_8 hK hA hk) hl rfl rfl (Nat.le_of_ble_eq_true rfl) dX8_subscribes_96 ⟨Nat.le_of_ble_eq_true rfl, Nat.le_of_ble_eq_true rfl⟩ (fun H locs hA hS => ?_)
            refine lv_aload_n hx hb dX8_subscribes_99 rfl (lv_at hl 0 rfl) ?_
            refine lv_iload hx hb dX8_subscribes_100 (lv_at hl 4 rfl) ?_
            refine lv_iconst (v := 2) hx hb dX8_subscribes_102 (by decide) ?_
            refine lv_iload_n hx hb dX8_subscribes_103 rfl (lv_at hl 3 rfl) ?_
            obtain ⟨M33, g34, h⟩ := ce_b1_e h
            refine ce_callVv (As := [.int x14, .int 2, .int a3]) (rest := []) hx hb hml hown hB (c_X8_put l X G b hk g34) ce_v_X8_put ce_w1009 ⟨Nat.le_of_ble_eq_true rfl, Nat.le_of_ble_eq_true rfl⟩ hF hA hS (ce_rc_8 hK hA hk) hl rfl rfl (Nat.le_of_ble_eq_true rfl) dX8_subscribes_104 ⟨Nat.le_of_ble_eq_true rfl, Nat.le_of_ble_eq_true rfl⟩ (fun H locs hA hS => ?_)
            refine lv_aload_n hx hb dX8_subscribes_107 rfl (lv_at hl 0 rfl) ?_
            refine lv_iload hx hb dX8_subscribes_108 (lv_at hl 4 rfl) ?_
            refine lv_iconst (v := 3) hx hb dX8_subscribes_110 (by decide) ?_
            refine lv_aload_n hx hb dX8_subscribes_111 rfl (lv_at hl 0 rfl) ?_
            refine ce_g_8_0 hx hb hB hown hK hA hk ce_w944 dX8_subscribes_112 ?_
            refine lv_iconst (v := 0) hx hb dX8_subscribes_115 (by decide) ?_
            obtain ⟨i36, h⟩ := ce_gi_e h
            obtain ⟨x35, e37, h⟩ := ce_nm_e h
            refine ce_iald hx hb hK hA 816 (ce_kf_8_0 hk) i36 e37 dX8_subscribes_116 ?_
            obtain ⟨M38, g39, h⟩ := ce_b1_e h
            refine ce_callVv (As := [.int x14, .int 3, .int x35]) (rest := []) hx hb hml hown hB (c_X8_put l X G b hk g39) ce_v_X8_put ce_w1009 ⟨Nat.le_of_ble_eq_true rfl, Nat.le_of_ble_eq_true rfl⟩ hF hA hS (ce_rc_8 hK hA hk) hl rfl rfl (Nat.le_of_ble_eq_true rfl) dX8_subscribes_117 ⟨Nat.le_of_ble_eq_true rfl, Nat.le_of_ble_eq_true rfl⟩ (fun H locs hA hS => ?_)
            refine lv_aload_n hx hb dX8_subscribes_120 rfl (lv_at hl 0 rfl) ?_
            refine lv_iload hx hb dX8_subscribes_121 (lv_at hl 4 rfl) ?_
            refine lv_iconst (v := 5) hx hb dX8_subscribes_123 (by decide) ?_
            refine lv_iconst (v := 1) hx hb dX8_subscribes_124 (by decide) ?_
            obtain ⟨M40, g41, h⟩ := ce_b1_e h
            refine ce_callVv (As := [.int x14, .int 5, .int 1]) (rest := []) hx hb hml hown hB (c_X8_put l X G b hk g41) ce_v_X8_put ce_w1009 ⟨Nat.le_of_ble_eq_true rfl, Nat.le_of_ble_eq_true rfl⟩ hF hA hS (ce_rc_8 hK hA hk) hl rfl rfl (Nat.le_of_ble_eq_true rfl) dX8_subscribes_125 ⟨Nat.le_of_ble_eq_true rfl, Nat.le_of_ble_eq_true rfl⟩ (fun H locs hA hS => ?_)
            refine lv_aload_n hx hb dX8_subscribes_128 rfl (lv_at hl 0 rfl) ?_
            refine lv_iload hx hb dX8_subscribes_129 (lv_at hl 4 rfl) ?_
            refine lv_iload_n hx hb dX8_subscribes_131 rfl (lv_at hl 3 rfl) ?_
            obtain ⟨M42, g43, h⟩ := ce_b1_e h
            refine ce_callVv (As := [.int x14, .int a3]) (rest := []) hx hb hml hown hB (c_X8_beginsStay l X G b hk g43) ce_v_X8_beginsStay ce_w1013 ⟨Nat.le_of_ble_eq_true rfl, Nat.le_of_ble_eq_true rfl⟩ hF hA hS (ce_rc_8 hK hA hk) hl rfl rfl (Nat.le_of_ble_eq_true rfl) dX8_subscribes_132 ⟨Nat.le_of_ble_eq_true rfl, Nat.le_of_ble_eq_true rfl⟩ (fun H locs hA hS => ?_)
            refine lv_aload_n hx hb dX8_subscribes_135 rfl (lv_at hl 0 rfl) ?_
            refine lv_iload hx hb dX8_subscribes_136 (lv_at hl 4 rfl) ?_
            obtain ⟨M44, e45, h⟩ := ce_nm_e h
            refine ce_p_8_5 hx hb hB hown hK hA hS hk ce_w949 dX8_subscribes_138 e45 (fun H locs hA hS => ?_)
            refine lv_iconst (v := 0) hx hb dX8_subscribes_141 (by decide) ?_
            cases h
            exact ce_iret hx hb hr hlocks hA hS dX8_subscribes_142
          refine ce_lp2_i (y := (M', r)) (P := fun (M23 : ce_M) (x24 : Int32) => ce_Wg p l e (ce_R 2 46 0 0) s m (([.ref (b + k), .int a1, .int a2, .int a3] : List Value).toArray) below meth c 0 0 (MQ below (ce_Q X b M' (some (.int r))) ([.ref (b + k), .int a1, .int a2, .int a3] : List Value).toArray s 0 0 (ce_Ab b)) X b M23 6 [(0, .ref (b + k)), (1, .int a1), (2, .int a2), (3, .int a3), (4, .int x14), (5, .int x24)] 61 []) (fun rec25 ih26 M23 x24 h => ?_) _ _ _ h _ _ _ hA hS (lv_sub hl [2, 3, 4, 5, 1, 0] rfl)
          intro H locs ls hA hS hl
          unfold f_X8_subscribes_L61 at h
          refine lv_iload hx hb dX8_subscribes_61 (lv_at hl 5 rfl) ?_
          refine lv_bipush (v := 54) hx hb dX8_subscribes_63 (by decide) ?_
          refine lv_icmp_ge (tgt := 83) hx hb dX8_subscribes_65 (by decide) (fun c47 => ?_) (fun c47 => ?_)
          · have h := ce_it c47 h
            exact Ju28 M23 h  _ _ _ hA hS (lv_sub hl [0, 1, 2, 3, 4] rfl)
          · have h := ce_ie c47 h
            refine lv_aload_n hx hb dX8_subscribes_68 rfl (lv_at hl 0 rfl) ?_
            refine lv_iload hx hb dX8_subscribes_69 (lv_at hl 4 rfl) ?_
            refine lv_iload hx hb dX8_subscribes_71 (lv_at hl 5 rfl) ?_
            refine lv_iconst (v := 0) hx hb dX8_subscribes_73 (by decide) ?_
            obtain ⟨M48, g49, h⟩ := ce_b1_e h
            refine ce_callVv (As := [.int x14, .int x24, .int 0]) (rest := []) hx hb hml hown hB (c_X8_put l X G b hk g49) ce_v_X8_put ce_w1009 ⟨Nat.le_of_ble_eq_true rfl, Nat.le_of_ble_eq_true rfl⟩ hF hA hS (ce_rc_8 hK hA hk) hl rfl rfl (Nat.le_of_ble_eq_true rfl) dX8_subscribes_74 ⟨Nat.le_of_ble_eq_true rfl, Nat.le_of_ble_eq_true rfl⟩ (fun H locs hA hS => ?_)
            obtain ⟨x50, e51, h⟩ := ce_nm_e h
            refine lv_iinc (v := x50) (lv' := [(5, .int x50), (0, .ref (b + k)), (1, .int a1), (2, .int a2), (3, .int a3), (4, .int x14)]) hx hb dX8_subscribes_77 hl (k := 5) rfl (by rw [← e51]; rfl) (by decide) rfl (fun ls hl => ?_)
            refine lv_goto (tgt := 61) hx hb dX8_subscribes_80 (by decide) ?_
            exact ih26 M48 x50 h  _ _ _ hA hS (lv_sub hl [1, 2, 3, 4, 5, 0] rfl)
        · have h := ce_it c13 h
          refine lv_iconst (v := 3) hx hb dX8_subscribes_38 (by decide) ?_
          cases h
          exact ce_iret hx hb hr hlocks hA hS dX8_subscribes_39
      · have h := ce_it c9 h
        refine lv_iconst (v := 2) hx hb dX8_subscribes_25 (by decide) ?_
        cases h
        exact ce_iret hx hb hr hlocks hA hS dX8_subscribes_26
  · have h := ce_it c3 h
    refine lv_iconst (v := 1) hx hb dX8_subscribes_7 (by decide) ?_
    cases h
    exact ce_iret hx hb hr hlocks hA hS dX8_subscribes_8
def f_X8_goes (k : Nat) (M : ce_M) (a1 : Int32) (a2 : Int32) : Option (ce_M × Int32) :=
  ce_b1 (f_X8_isOne k M a1) (fun (x1 : Int32) =>
  if x1 = 0 then
    some (M, 1)
  else
    ce_b1 (f_X8_isLeaf M a2) (fun (x4 : Int32) =>
    if x4 = 0 then
      some (M, 1)
    else
      ce_b1 (f_X8_of k M a1 5) (fun (x7 : Int32) =>
      if x7 = 0 then
        some (M, 2)
      else
        ce_b1 (f_X8_of k M a1 0) (fun (x10 : Int32) =>
        if x10 = 2 then
          some (M, 2)
        else
          ce_b1 (f_X8_of k M a1 2) (fun (x13 : Int32) =>
          if x13 = a2 then
            some (M, 2)
          else
            ce_b1 (f_X8_of k M a1 2) (fun (x16 : Int32) =>
            ce_nm (ce_wr M k 5 x16) (fun (M18 : ce_M) =>
            ce_b1 (f_X8_put k M18 a1 2 a2) (fun (M20 : ce_M) =>
            ce_gi 0 816 (ce_nm (ce_rd M20 (k + 1) (Int32.toNatClampNeg 0)) (fun (x22 : Int32) =>
            ce_b1 (f_X8_put k M20 a1 3 x22) (fun (M25 : ce_M) =>
            some (M25, 0))))))))))))
set_option maxRecDepth 100000 in
set_option maxHeartbeats 4000000 in
theorem c_X8_goes (l : Launch) (X : ce_X) (G : ce_G) (b : Nat) {k : Nat} {a1 : Int32} {a2 : Int32} {M : ce_M} (hk : ce_kd k = 8) {M' : ce_M} {r : Int32} (h : f_X8_goes k M a1 a2 = some (M', r)) : ce_Ct l yX8_goes cX8_goes 3 (some .int) 2 43 X G b [.ref (b + k), .int a1, .int a2] M (some (.int r)) M' := by
  refine ce_ofW (own := RX8) (by decide) rfl (Nat.le_of_ble_eq_true rfl) (fun p e s m below meth c ls hx hb hr hlocks hml hown hB hF hA hl hS => ?_)
  have hK := hF.1
  have hl : lv_has ls 3 [(0, .ref (b + k)), (1, .int a1), (2, .int a2)] := hl
  unfold f_X8_goes at h
  refine lv_aload_n hx hb dX8_goes_0 rfl (lv_at hl 0 rfl) ?_
  refine lv_iload_n hx hb dX8_goes_1 rfl (lv_at hl 1 rfl) ?_
  obtain ⟨x1, g2, h⟩ := ce_b1_e h
  refine ce_callVi (As := [.int a1]) (rest := []) hx hb hml hown hB (c_X8_isOne l X G b hk g2) ce_v_X8_isOne ce_w1053 ⟨Nat.le_of_ble_eq_true rfl, Nat.le_of_ble_eq_true rfl⟩ hF hA hS (ce_rc_8 hK hA hk) hl rfl rfl (Nat.le_of_ble_eq_true rfl) dX8_goes_2 ⟨Nat.le_of_ble_eq_true rfl, Nat.le_of_ble_eq_true rfl⟩ (fun H locs hA hS => ?_)
  refine lv_if_eq (tgt := 15) hx hb dX8_goes_5 (by decide) (fun c3 => ?_) (fun c3 => ?_)
  · have h := ce_it c3 h
    refine lv_iconst (v := 1) hx hb dX8_goes_15 (by decide) ?_
    cases h
    exact ce_iret hx hb hr hlocks hA hS dX8_goes_16
  · have h := ce_ie c3 h
    refine lv_iload_n hx hb dX8_goes_8 rfl (lv_at hl 2 rfl) ?_
    obtain ⟨x4, g5, h⟩ := ce_b1_e h
    refine ce_callSi (As := [.int a2]) (rest := []) hx hb hml hown hB (c_X8_isLeaf l X G b  g5) ce_s_X8_isLeaf ce_w1000 ⟨Nat.le_of_ble_eq_true rfl, Nat.le_of_ble_eq_true rfl⟩ hF hA hS hl rfl rfl (Nat.le_of_ble_eq_true rfl) dX8_goes_9 ⟨Nat.le_of_ble_eq_true rfl, Nat.le_of_ble_eq_true rfl⟩ (fun H locs hA hS => ?_)
    refine lv_if_ne (tgt := 17) hx hb dX8_goes_12 (by decide) (fun c6 => ?_) (fun c6 => ?_)
    · have h := ce_ie c6 h
      refine lv_aload_n hx hb dX8_goes_17 rfl (lv_at hl 0 rfl) ?_
      refine lv_iload_n hx hb dX8_goes_18 rfl (lv_at hl 1 rfl) ?_
      refine lv_iconst (v := 5) hx hb dX8_goes_19 (by decide) ?_
      obtain ⟨x7, g8, h⟩ := ce_b1_e h
      refine ce_callVi (As := [.int a1, .int 5]) (rest := []) hx hb hml hown hB (c_X8_of l X G b hk g8) ce_v_X8_of ce_w1017 ⟨Nat.le_of_ble_eq_true rfl, Nat.le_of_ble_eq_true rfl⟩ hF hA hS (ce_rc_8 hK hA hk) hl rfl rfl (Nat.le_of_ble_eq_true rfl) dX8_goes_20 ⟨Nat.le_of_ble_eq_true rfl, Nat.le_of_ble_eq_true rfl⟩ (fun H locs hA hS => ?_)
      refine lv_if_eq (tgt := 46) hx hb dX8_goes_23 (by decide) (fun c9 => ?_) (fun c9 => ?_)
      · have h := ce_it c9 h
        refine lv_iconst (v := 2) hx hb dX8_goes_46 (by decide) ?_
        cases h
        exact ce_iret hx hb hr hlocks hA hS dX8_goes_47
      · have h := ce_ie c9 h
        refine lv_aload_n hx hb dX8_goes_26 rfl (lv_at hl 0 rfl) ?_
        refine lv_iload_n hx hb dX8_goes_27 rfl (lv_at hl 1 rfl) ?_
        refine lv_iconst (v := 0) hx hb dX8_goes_28 (by decide) ?_
        obtain ⟨x10, g11, h⟩ := ce_b1_e h
        refine ce_callVi (As := [.int a1, .int 0]) (rest := []) hx hb hml hown hB (c_X8_of l X G b hk g11) ce_v_X8_of ce_w1017 ⟨Nat.le_of_ble_eq_true rfl, Nat.le_of_ble_eq_true rfl⟩ hF hA hS (ce_rc_8 hK hA hk) hl rfl rfl (Nat.le_of_ble_eq_true rfl) dX8_goes_29 ⟨Nat.le_of_ble_eq_true rfl, Nat.le_of_ble_eq_true rfl⟩ (fun H locs hA hS => ?_)
        refine lv_iconst (v := 2) hx hb dX8_goes_32 (by decide) ?_
        refine lv_icmp_eq (tgt := 46) hx hb dX8_goes_33 (by decide) (fun c12 => ?_) (fun c12 => ?_)
        · have h := ce_it c12 h
          refine lv_iconst (v := 2) hx hb dX8_goes_46 (by decide) ?_
          cases h
          exact ce_iret hx hb hr hlocks hA hS dX8_goes_47
        · have h := ce_ie c12 h
          refine lv_aload_n hx hb dX8_goes_36 rfl (lv_at hl 0 rfl) ?_
          refine lv_iload_n hx hb dX8_goes_37 rfl (lv_at hl 1 rfl) ?_
          refine lv_iconst (v := 2) hx hb dX8_goes_38 (by decide) ?_
          obtain ⟨x13, g14, h⟩ := ce_b1_e h
          refine ce_callVi (As := [.int a1, .int 2]) (rest := []) hx hb hml hown hB (c_X8_of l X G b hk g14) ce_v_X8_of ce_w1017 ⟨Nat.le_of_ble_eq_true rfl, Nat.le_of_ble_eq_true rfl⟩ hF hA hS (ce_rc_8 hK hA hk) hl rfl rfl (Nat.le_of_ble_eq_true rfl) dX8_goes_39 ⟨Nat.le_of_ble_eq_true rfl, Nat.le_of_ble_eq_true rfl⟩ (fun H locs hA hS => ?_)
          refine lv_iload_n hx hb dX8_goes_42 rfl (lv_at hl 2 rfl) ?_
          refine lv_icmp_ne (tgt := 48) hx hb dX8_goes_43 (by decide) (fun c15 => ?_) (fun c15 => ?_)
          · have h := ce_ie c15 h
            refine lv_aload_n hx hb dX8_goes_48 rfl (lv_at hl 0 rfl) ?_
            refine lv_aload_n hx hb dX8_goes_49 rfl (lv_at hl 0 rfl) ?_
            refine lv_iload_n hx hb dX8_goes_50 rfl (lv_at hl 1 rfl) ?_
            refine lv_iconst (v := 2) hx hb dX8_goes_51 (by decide) ?_
            obtain ⟨x16, g17, h⟩ := ce_b1_e h
            refine ce_callVi (As := [.int a1, .int 2]) (rest := [.ref (b + k)]) hx hb hml hown hB (c_X8_of l X G b hk g17) ce_v_X8_of ce_w1017 ⟨Nat.le_of_ble_eq_true rfl, Nat.le_of_ble_eq_true rfl⟩ hF hA hS (ce_rc_8 hK hA hk) hl rfl rfl (Nat.le_of_ble_eq_true rfl) dX8_goes_52 ⟨Nat.le_of_ble_eq_true rfl, Nat.le_of_ble_eq_true rfl⟩ (fun H locs hA hS => ?_)
            obtain ⟨M18, e19, h⟩ := ce_nm_e h
            refine ce_p_8_5 hx hb hB hown hK hA hS hk ce_w949 dX8_goes_55 e19 (fun H locs hA hS => ?_)
            refine lv_aload_n hx hb dX8_goes_58 rfl (lv_at hl 0 rfl) ?_
            refine lv_iload_n hx hb dX8_goes_59 rfl (lv_at hl 1 rfl) ?_
            refine lv_iconst (v := 2) hx hb dX8_goes_60 (by decide) ?_
            refine lv_iload_n hx hb dX8_goes_61 rfl (lv_at hl 2 rfl) ?_
            obtain ⟨M20, g21, h⟩ := ce_b1_e h
            refine ce_callVv (As := [.int a1, .int 2, .int a2]) (rest := []) hx hb hml hown hB (c_X8_put l X G b hk g21) ce_v_X8_put ce_w1009 ⟨Nat.le_of_ble_eq_true rfl, Nat.le_of_ble_eq_true rfl⟩ hF hA hS (ce_rc_8 hK hA hk) hl rfl rfl (Nat.le_of_ble_eq_true rfl) dX8_goes_62 ⟨Nat.le_of_ble_eq_true rfl, Nat.le_of_ble_eq_true rfl⟩ (fun H locs hA hS => ?_)
            refine lv_aload_n hx hb dX8_goes_65 rfl (lv_at hl 0 rfl) ?_
            refine lv_iload_n hx hb dX8_goes_66 rfl (lv_at hl 1 rfl) ?_
            refine lv_iconst (v := 3) hx hb dX8_goes_67 (by decide) ?_
            refine lv_aload_n hx hb dX8_goes_68 rfl (lv_at hl 0 rfl) ?_
            refine ce_g_8_0 hx hb hB hown hK hA hk ce_w944 dX8_goes_69 ?_
            refine lv_iconst (v := 0) hx hb dX8_goes_72 (by decide) ?_
            obtain ⟨i23, h⟩ := ce_gi_e h
            obtain ⟨x22, e24, h⟩ := ce_nm_e h
            refine ce_iald hx hb hK hA 816 (ce_kf_8_0 hk) i23 e24 dX8_goes_73 ?_
            obtain ⟨M25, g26, h⟩ := ce_b1_e h
            refine ce_callVv (As := [.int a1, .int 3, .int x22]) (rest := []) hx hb hml hown hB (c_X8_put l X G b hk g26) ce_v_X8_put ce_w1009 ⟨Nat.le_of_ble_eq_true rfl, Nat.le_of_ble_eq_true rfl⟩ hF hA hS (ce_rc_8 hK hA hk) hl rfl rfl (Nat.le_of_ble_eq_true rfl) dX8_goes_74 ⟨Nat.le_of_ble_eq_true rfl, Nat.le_of_ble_eq_true rfl⟩ (fun H locs hA hS => ?_)
            refine lv_iconst (v := 0) hx hb dX8_goes_77 (by decide) ?_
            cases h
            exact ce_iret hx hb hr hlocks hA hS dX8_goes_78
          · have h := ce_it c15 h
            refine lv_iconst (v := 2) hx hb dX8_goes_46 (by decide) ?_
            cases h
            exact ce_iret hx hb hr hlocks hA hS dX8_goes_47
    · have h := ce_it c6 h
      refine lv_iconst (v := 1) hx hb dX8_goes_15 (by decide) ?_
      cases h
      exact ce_iret hx hb hr hlocks hA hS dX8_goes_16
