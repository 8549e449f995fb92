def f_X0_wordOf (M : ce_M) (a1 : Int32) : Option Nat :=
  if a1 = 0 then
    some 0
  else
  if a1 = 1 then
    some 1
  else
  if a1 = 2 then
    some 2
  else
  if a1 = 3 then
    some 3
  else
  if a1 = 4 then
    some 4
  else
  if a1 = 5 then
    some 5
  else
  some 6
set_option maxRecDepth 100000 in
set_option maxHeartbeats 4000000 in
theorem c_X0_wordOf (l : Launch) (X : ce_X) (G : ce_G) (b : Nat) {a1 : Int32} {M : ce_M}  {r : Nat} (h : f_X0_wordOf M a1 = some r) : ce_Ct l yX0_wordOf cX0_wordOf 1 (some (.object "java/lang/String")) 0 0 X G b [.int a1] M (some (.ref (G.2.2.1 r))) M := by
  refine ce_ofW (own := RX0) (by decide) rfl (Nat.le_of_ble_eq_true rfl) (fun p e s m below meth c ls hx hb hr hlocks hml hown hB hF hA hl hS => ?_)
  have hK := hF.1
  have hl : lv_has ls 1 [(0, .int a1)] := hl
  unfold f_X0_wordOf at h
  refine lv_iload_n hx hb dX0_wordOf_0 rfl (lv_at hl 0 rfl) ?_
  by_cases c1 : a1 = 0
  · have h := ce_it c1 h
    refine lv_tableIn (off := 39) (tgt := 40) hx hb dX0_wordOf_1 (by rw [c1]; decide) (by rw [c1]; decide) (by rw [c1]; rfl) (by decide) ?_
    refine ce_ldcs hx hb hown (hF.2.2.2.1.2.1 0 (by decide)) dX0_wordOf_40 ?_
    cases h
    exact ce_aret hx hb hr hlocks hA hS dX0_wordOf_42
  have h := ce_ie c1 h
  by_cases c2 : a1 = 1
  · have h := ce_it c2 h
    refine lv_tableIn (off := 42) (tgt := 43) hx hb dX0_wordOf_1 (by rw [c2]; decide) (by rw [c2]; decide) (by rw [c2]; rfl) (by decide) ?_
    refine ce_ldcs hx hb hown (hF.2.2.2.1.2.1 1 (by decide)) dX0_wordOf_43 ?_
    cases h
    exact ce_aret hx hb hr hlocks hA hS dX0_wordOf_45
  have h := ce_ie c2 h
  by_cases c3 : a1 = 2
  · have h := ce_it c3 h
    refine lv_tableIn (off := 45) (tgt := 46) hx hb dX0_wordOf_1 (by rw [c3]; decide) (by rw [c3]; decide) (by rw [c3]; rfl) (by decide) ?_
    refine ce_ldcs hx hb hown (hF.2.2.2.1.2.1 2 (by decide)) dX0_wordOf_46 ?_
    cases h
    exact ce_aret hx hb hr hlocks hA hS dX0_wordOf_48
  have h := ce_ie c3 h
  by_cases c4 : a1 = 3
  · have h := ce_it c4 h
    refine lv_tableIn (off := 48) (tgt := 49) hx hb dX0_wordOf_1 (by rw [c4]; decide) (by rw [c4]; decide) (by rw [c4]; rfl) (by decide) ?_
    refine ce_ldcs hx hb hown (hF.2.2.2.1.2.1 3 (by decide)) dX0_wordOf_49 ?_
    cases h
    exact ce_aret hx hb hr hlocks hA hS dX0_wordOf_51
  have h := ce_ie c4 h
  by_cases c5 : a1 = 4
  · have h := ce_it c5 h
    refine lv_tableIn (off := 51) (tgt := 52) hx hb dX0_wordOf_1 (by rw [c5]; decide) (by rw [c5]; decide) (by rw [c5]; rfl) (by decide) ?_
    refine ce_ldcs hx hb hown (hF.2.2.2.1.2.1 4 (by decide)) dX0_wordOf_52 ?_
    cases h
    exact ce_aret hx hb hr hlocks hA hS dX0_wordOf_54
  have h := ce_ie c5 h
  by_cases c6 : a1 = 5
  · have h := ce_it c6 h
    refine lv_tableIn (off := 54) (tgt := 55) hx hb dX0_wordOf_1 (by rw [c6]; decide) (by rw [c6]; decide) (by rw [c6]; rfl) (by decide) ?_
    refine ce_ldcs hx hb hown (hF.2.2.2.1.2.1 5 (by decide)) dX0_wordOf_55 ?_
    cases h
    exact ce_aret hx hb hr hlocks hA hS dX0_wordOf_57
  have h := ce_ie c6 h
  have nc1 : (a1).toInt ≠ 0 := fun q => c1 (Int32.toInt_inj.mp (q.trans (by decide)))
  have nc2 : (a1).toInt ≠ 1 := fun q => c2 (Int32.toInt_inj.mp (q.trans (by decide)))
  have nc3 : (a1).toInt ≠ 2 := fun q => c3 (Int32.toInt_inj.mp (q.trans (by decide)))
  have nc4 : (a1).toInt ≠ 3 := fun q => c4 (Int32.toInt_inj.mp (q.trans (by decide)))
  have nc5 : (a1).toInt ≠ 4 := fun q => c5 (Int32.toInt_inj.mp (q.trans (by decide)))
  have nc6 : (a1).toInt ≠ 5 := fun q => c6 (Int32.toInt_inj.mp (q.trans (by decide)))
  refine lv_tableOut (tgt := 58) hx hb dX0_wordOf_1 (by omega) (by decide) ?_
  refine ce_ldcs hx hb hown (hF.2.2.2.1.2.1 6 (by decide)) dX0_wordOf_58 ?_
  cases h
  exact ce_aret hx hb hr hlocks hA hS dX0_wordOf_60
theorem ce_sok_X0_wordOf {M : ce_M} {a r : _} (h : f_X0_wordOf M a = some r) : r < 7 := by
  unfold f_X0_wordOf at h
  repeat' split at h
  all_goals (cases h; decide)
def f_X0_isFull (k : Nat) (M : ce_M) : Option Int32 :=
  if (ce_rd M k 1) < 150 then
    some 0
  else
    some 1
set_option maxRecDepth 100000 in
set_option maxHeartbeats 4000000 in
theorem c_X0_isFull (l : Launch) (X : ce_X) (G : ce_G) (b : Nat) {k : Nat} {M : ce_M} (hk : ce_kd k = 0) {r : Int32} (h : f_X0_isFull k M = some r) : ce_Ct l yX0_isFull cX0_isFull 1 (some .boolean) 0 0 X G b [.ref (b + k)] M (some (.int r)) M := by
  refine ce_ofW (own := RX0) (by decide) rfl (Nat.le_of_ble_eq_true rfl) (fun p e s m below meth c ls hx hb hr hlocks hml hown hB hF hA hl hS => ?_)
  have hK := hF.1
  have hl : lv_has ls 1 [(0, .ref (b + k))] := hl
  unfold f_X0_isFull at h
  refine lv_aload_n hx hb dX0_isFull_0 rfl (lv_at hl 0 rfl) ?_
  refine ce_g_0_1 hx hb hB hown hK hA hk ce_w215 dX0_isFull_1 ?_
  refine lv_sipush (v := 150) hx hb dX0_isFull_4 (by decide) ?_
  refine lv_icmp_lt (tgt := 14) hx hb dX0_isFull_7 (by decide) (fun c1 => ?_) (fun c1 => ?_)
  · have h := ce_it c1 h
    refine lv_iconst (v := 0) hx hb dX0_isFull_14 (by decide) ?_
    cases h
    exact ce_zret hx hb hr hlocks (Or.inl rfl) hA hS dX0_isFull_15
  · have h := ce_ie c1 h
    refine lv_iconst (v := 1) hx hb dX0_isFull_10 (by decide) ?_
    refine lv_goto (tgt := 15) hx hb dX0_isFull_11 (by decide) ?_
    cases h
    exact ce_zret hx hb hr hlocks (Or.inr rfl) hA hS dX0_isFull_15
def f_X0_append (k : Nat) (M : ce_M) (a1 : Int32) : Option (ce_M × Int32) :=
  if 150 ≤ (ce_rd M k 1) then
    some (M, (ce_rd M k 1))
  else
    ce_gi (ce_rd M k 1) 150 (ce_nm (ce_wr M (k + 1) (Int32.toNatClampNeg (ce_rd M k 1)) a1) (fun (M2 : ce_M) =>
    ce_nm (ce_wr M2 k 1 ((ce_rd M2 k 1) + 1)) (fun (M5 : ce_M) =>
    some (M5, (ce_rd M5 k 1)))))
set_option maxRecDepth 100000 in
set_option maxHeartbeats 4000000 in
theorem c_X0_append (l : Launch) (X : ce_X) (G : ce_G) (b : Nat) {k : Nat} {a1 : Int32} {M : ce_M} (hk : ce_kd k = 0) {M' : ce_M} {r : Int32} (h : f_X0_append k M a1 = some (M', r)) : ce_Ct l yX0_append cX0_append 2 (some .int) 0 0 X G b [.ref (b + k), .int a1] M (some (.int r)) M' := by
  refine ce_ofW (own := RX0) (by decide) rfl (Nat.le_of_ble_eq_true rfl) (fun p e s m below meth c ls hx hb hr hlocks hml hown hB hF hA hl hS => ?_)
  have hK := hF.1
  have hl : lv_has ls 2 [(0, .ref (b + k)), (1, .int a1)] := hl
  unfold f_X0_append at h
  refine lv_aload_n hx hb dX0_append_0 rfl (lv_at hl 0 rfl) ?_
  refine ce_g_0_1 hx hb hB hown hK hA hk ce_w215 dX0_append_1 ?_
  refine lv_sipush (v := 150) hx hb dX0_append_4 (by decide) ?_
  refine lv_icmp_ge (tgt := 30) hx hb dX0_append_7 (by decide) (fun c1 => ?_) (fun c1 => ?_)
  · have h := ce_it c1 h
    refine lv_aload_n hx hb dX0_append_30 rfl (lv_at hl 0 rfl) ?_
    refine ce_g_0_1 hx hb hB hown hK hA hk ce_w215 dX0_append_31 ?_
    cases h
    exact ce_iret hx hb hr hlocks hA hS dX0_append_34
  · have h := ce_ie c1 h
    refine lv_aload_n hx hb dX0_append_10 rfl (lv_at hl 0 rfl) ?_
    refine ce_g_0_0 hx hb hB hown hK hA hk ce_w214 dX0_append_11 ?_
    refine lv_aload_n hx hb dX0_append_14 rfl (lv_at hl 0 rfl) ?_
    refine ce_g_0_1 hx hb hB hown hK hA hk ce_w215 dX0_append_15 ?_
    refine lv_iload_n hx hb dX0_append_18 rfl (lv_at hl 1 rfl) ?_
    obtain ⟨i3, h⟩ := ce_gi_e h
    obtain ⟨M2, e4, h⟩ := ce_nm_e h
    refine ce_iast hx hb hK hA hS 150 (ce_kf_0_0 hk) i3 dX0_append_19 e4 (fun H locs hA hS => ?_)
    refine lv_aload_n hx hb dX0_append_20 rfl (lv_at hl 0 rfl) ?_
    refine lv_dup hx hb dX0_append_21 rfl ?_
    refine ce_g_0_1 hx hb hB hown hK hA hk ce_w215 dX0_append_22 ?_
    refine lv_iconst (v := 1) hx hb dX0_append_25 (by decide) ?_
    refine lv_iadd hx hb dX0_append_26 ?_
    obtain ⟨M5, e6, h⟩ := ce_nm_e h
    refine ce_p_0_1 hx hb hB hown hK hA hS hk ce_w215 dX0_append_27 e6 (fun H locs hA hS => ?_)
    refine lv_aload_n hx hb dX0_append_30 rfl (lv_at hl 0 rfl) ?_
    refine ce_g_0_1 hx hb hB hown hK hA hk ce_w215 dX0_append_31 ?_
    cases h
    exact ce_iret hx hb hr hlocks hA hS dX0_append_34
def f_X0_clear (k : Nat) (M : ce_M) : Option (ce_M × Int32) :=
  ce_nm (ce_rd M k 1) (fun (x1 : Int32) =>
  ce_nm (ce_wr M k 1 0) (fun (M3 : ce_M) =>
  some (M3, x1)))
set_option maxRecDepth 100000 in
set_option maxHeartbeats 4000000 in
theorem c_X0_clear (l : Launch) (X : ce_X) (G : ce_G) (b : Nat) {k : Nat} {M : ce_M} (hk : ce_kd k = 0) {M' : ce_M} {r : Int32} (h : f_X0_clear k M = some (M', r)) : ce_Ct l yX0_clear cX0_clear 2 (some .int) 0 0 X G b [.ref (b + k)] M (some (.int r)) M' := by
  refine ce_ofW (own := RX0) (by decide) rfl (Nat.le_of_ble_eq_true rfl) (fun p e s m below meth c ls hx hb hr hlocks hml hown hB hF hA hl hS => ?_)
  have hK := hF.1
  have hl : lv_has ls 2 [(0, .ref (b + k))] := hl
  unfold f_X0_clear at h
  refine lv_aload_n hx hb dX0_clear_0 rfl (lv_at hl 0 rfl) ?_
  refine ce_g_0_1 hx hb hB hown hK hA hk ce_w215 dX0_clear_1 ?_
  obtain ⟨x1, e2, h⟩ := ce_nm_e h
  refine ce_top e2 ?_
  refine lv_istore_n (lv' := [(1, .int x1), (0, .ref (b + k))]) hx hb dX0_clear_4 rfl hl (by decide) rfl (fun ls hl => ?_)
  refine lv_aload_n hx hb dX0_clear_5 rfl (lv_at hl 1 rfl) ?_
  refine lv_iconst (v := 0) hx hb dX0_clear_6 (by decide) ?_
  obtain ⟨M3, e4, h⟩ := ce_nm_e h
  refine ce_p_0_1 hx hb hB hown hK hA hS hk ce_w215 dX0_clear_7 e4 (fun H locs hA hS => ?_)
  refine lv_iload_n hx hb dX0_clear_10 rfl (lv_at hl 0 rfl) ?_
  cases h
  exact ce_iret hx hb hr hlocks hA hS dX0_clear_11
def f_X0_rewind (k : Nat) (M : ce_M) : Option ce_M :=
  ce_nm (ce_wr M k 2 0) (fun (M1 : ce_M) =>
  ce_nm (ce_wr M1 k 5 (-1)) (fun (M3 : ce_M) =>
  some M3))
set_option maxRecDepth 100000 in
set_option maxHeartbeats 4000000 in
theorem c_X0_rewind (l : Launch) (X : ce_X) (G : ce_G) (b : Nat) {k : Nat} {M : ce_M} (hk : ce_kd k = 0) {M' : ce_M} (h : f_X0_rewind k M = some M') : ce_Ct l yX0_rewind cX0_rewind 1 none 0 0 X G b [.ref (b + k)] M none M' := by
  refine ce_ofW (own := RX0) (by decide) rfl (Nat.le_of_ble_eq_true rfl) (fun p e s m below meth c ls hx hb hr hlocks hml hown hB hF hA hl hS => ?_)
  have hK := hF.1
  have hl : lv_has ls 1 [(0, .ref (b + k))] := hl
  unfold f_X0_rewind at h
  refine lv_aload_n hx hb dX0_rewind_0 rfl (lv_at hl 0 rfl) ?_
  refine lv_iconst (v := 0) hx hb dX0_rewind_1 (by decide) ?_
  obtain ⟨M1, e2, h⟩ := ce_nm_e h
  refine ce_p_0_2 hx hb hB hown hK hA hS hk ce_w217 dX0_rewind_2 e2 (fun H locs hA hS => ?_)
  refine lv_aload_n hx hb dX0_rewind_5 rfl (lv_at hl 0 rfl) ?_
  refine lv_iconst (v := (-1)) hx hb dX0_rewind_6 (by decide) ?_
  obtain ⟨M3, e4, h⟩ := ce_nm_e h
  refine ce_p_0_5 hx hb hB hown hK hA hS hk ce_w222 dX0_rewind_7 e4 (fun H locs hA hS => ?_)
  cases h
  exact ce_vret hx hb hr hlocks hA hS dX0_rewind_10
def f_X0_skipSpaces_L0 (k : Nat) (rec2 : ce_M → Option ce_M) (M1 : ce_M) : Option ce_M :=
  if (ce_rd M1 k 1) ≤ (ce_rd M1 k 2) then
    some M1
  else
    ce_gi (ce_rd M1 k 2) 150 (ce_nm (ce_rd M1 (k + 1) (Int32.toNatClampNeg (ce_rd M1 k 2))) (fun (x5 : Int32) =>
    if x5 = 32 then
      ce_nm (ce_wr M1 k 2 ((ce_rd M1 k 2) + 1)) (fun (M9 : ce_M) =>
      rec2 M9)
    else
      some M1))
def f_X0_skipSpaces (k : Nat) (M : ce_M) : Option ce_M :=
  ce_lp1 (f_X0_skipSpaces_L0 k) ce_FU M
set_option maxRecDepth 100000 in
set_option maxHeartbeats 4000000 in
theorem c_X0_skipSpaces (l : Launch) (X : ce_X) (G : ce_G) (b : Nat) {k : Nat} {M : ce_M} (hk : ce_kd k = 0) {M' : ce_M} (h : f_X0_skipSpaces k M = some M') : ce_Ct l yX0_skipSpaces cX0_skipSpaces 1 none 0 0 X G b [.ref (b + k)] M none M' := by
  refine ce_ofW (own := RX0) (by decide) rfl (Nat.le_of_ble_eq_true rfl) (fun p e s m below meth c ls hx hb hr hlocks hml hown hB hF hA hl hS => ?_)
  have hK := hF.1
  have hl : lv_has ls 1 [(0, .ref (b + k))] := hl
  unfold f_X0_skipSpaces at h
  refine ce_lp1_i (y := M') (P := fun (M1 : ce_M) => ce_Wg p l e (ce_R 0 0 0 0) s m (([.ref (b + k)] : List Value).toArray) below meth c 0 0 (MQ below (ce_Q X b M' none) ([.ref (b + k)] : List Value).toArray s 0 0 (ce_Ab b)) X b M1 1 [(0, .ref (b + k))] 0 []) (fun rec2 ih3 M1 h => ?_) _ _ h _ _ _ hA hS (lv_sub hl [0] rfl)
  intro H locs ls hA hS hl
  unfold f_X0_skipSpaces_L0 at h
  refine lv_aload_n hx hb dX0_skipSpaces_0 rfl (lv_at hl 0 rfl) ?_
  refine ce_g_0_2 hx hb hB hown hK hA hk ce_w217 dX0_skipSpaces_1 ?_
  refine lv_aload_n hx hb dX0_skipSpaces_4 rfl (lv_at hl 0 rfl) ?_
  refine ce_g_0_1 hx hb hB hown hK hA hk ce_w215 dX0_skipSpaces_5 ?_
  refine lv_icmp_ge (tgt := 38) hx hb dX0_skipSpaces_8 (by decide) (fun c4 => ?_) (fun c4 => ?_)
  · have h := ce_it c4 h
    cases h
    exact ce_vret hx hb hr hlocks hA hS dX0_skipSpaces_38
  · have h := ce_ie c4 h
    refine lv_aload_n hx hb dX0_skipSpaces_11 rfl (lv_at hl 0 rfl) ?_
    refine ce_g_0_0 hx hb hB hown hK hA hk ce_w214 dX0_skipSpaces_12 ?_
    refine lv_aload_n hx hb dX0_skipSpaces_15 rfl (lv_at hl 0 rfl) ?_
    refine ce_g_0_2 hx hb hB hown hK hA hk ce_w217 dX0_skipSpaces_16 ?_
    obtain ⟨i6, h⟩ := ce_gi_e h
    obtain ⟨x5, e7, h⟩ := ce_nm_e h
    refine ce_iald hx hb hK hA 150 (ce_kf_0_0 hk) i6 e7 dX0_skipSpaces_19 ?_
    refine lv_bipush (v := 32) hx hb dX0_skipSpaces_20 (by decide) ?_
    refine lv_icmp_ne (tgt := 38) hx hb dX0_skipSpaces_22 (by decide) (fun c8 => ?_) (fun c8 => ?_)
    · have h := ce_ie c8 h
      cases h
      exact ce_vret hx hb hr hlocks hA hS dX0_skipSpaces_38
    · have h := ce_it c8 h
      refine lv_aload_n hx hb dX0_skipSpaces_25 rfl (lv_at hl 0 rfl) ?_
      refine lv_dup hx hb dX0_skipSpaces_26 rfl ?_
      refine ce_g_0_2 hx hb hB hown hK hA hk ce_w217 dX0_skipSpaces_27 ?_
      refine lv_iconst (v := 1) hx hb dX0_skipSpaces_30 (by decide) ?_
      refine lv_iadd hx hb dX0_skipSpaces_31 ?_
      obtain ⟨M9, e10, h⟩ := ce_nm_e h
      refine ce_p_0_2 hx hb hB hown hK hA hS hk ce_w217 dX0_skipSpaces_32 e10 (fun H locs hA hS => ?_)
      refine lv_goto (tgt := 0) hx hb dX0_skipSpaces_35 (by decide) ?_
      exact ih3 M9 h  _ _ _ hA hS (lv_sub hl [0] rfl)
def f_X0_isWithin (k : Nat) (M : ce_M) (a1 : Int32) (a2 : Int32) : Option Int32 :=
  if (ce_rd M k 1) ≤ (ce_rd M k 2) then
    some 0
  else
    ce_gi (ce_rd M k 2) 150 (ce_nm (ce_rd M (k + 1) (Int32.toNatClampNeg (ce_rd M k 2))) (fun (x2 : Int32) =>
    if x2 < a1 then
      some 0
    else
      ce_gi (ce_rd M k 2) 150 (ce_nm (ce_rd M (k + 1) (Int32.toNatClampNeg (ce_rd M k 2))) (fun (x6 : Int32) =>
      if a2 < x6 then
        some 0
      else
        some 1))))
set_option maxRecDepth 100000 in
set_option maxHeartbeats 4000000 in
theorem c_X0_isWithin (l : Launch) (X : ce_X) (G : ce_G) (b : Nat) {k : Nat} {a1 : Int32} {a2 : Int32} {M : ce_M} (hk : ce_kd k = 0) {r : Int32} (h : f_X0_isWithin k M a1 a2 = some r) : ce_Ct l yX0_isWithin cX0_isWithin 3 (some .boolean) 0 0 X G b [.ref (b + k), .int a1, .int a2] M (some (.int r)) M := by
  refine ce_ofW (own := RX0) (by decide) rfl (Nat.le_of_ble_eq_true rfl) (fun p e s m below meth c ls hx hb hr hlocks hml hown hB hF hA hl hS => ?_)
  have hK := hF.1
  have hl : lv_has ls 3 [(0, .ref (b + k)), (1, .int a1), (2, .int a2)] := hl
  unfold f_X0_isWithin at h
  refine lv_aload_n hx hb dX0_isWithin_0 rfl (lv_at hl 0 rfl) ?_
  refine ce_g_0_2 hx hb hB hown hK hA hk ce_w217 dX0_isWithin_1 ?_
  refine lv_aload_n hx hb dX0_isWithin_4 rfl (lv_at hl 0 rfl) ?_
  refine ce_g_0_1 hx hb hB hown hK hA hk ce_w215 dX0_isWithin_5 ?_
  refine lv_icmp_ge (tgt := 41) hx hb dX0_isWithin_8 (by decide) (fun c1 => ?_) (fun c1 => ?_)
  · have h := ce_it c1 h
    refine lv_iconst (v := 0) hx hb dX0_isWithin_41 (by decide) ?_
    cases h
    exact ce_zret hx hb hr hlocks (Or.inl rfl) hA hS dX0_isWithin_42
  · have h := ce_ie c1 h
    refine lv_aload_n hx hb dX0_isWithin_11 rfl (lv_at hl 0 rfl) ?_
    refine ce_g_0_0 hx hb hB hown hK hA hk ce_w214 dX0_isWithin_12 ?_
    refine lv_aload_n hx hb dX0_isWithin_15 rfl (lv_at hl 0 rfl) ?_
    refine ce_g_0_2 hx hb hB hown hK hA hk ce_w217 dX0_isWithin_16 ?_
    obtain ⟨i3, h⟩ := ce_gi_e h
    obtain ⟨x2, e4, h⟩ := ce_nm_e h
    refine ce_iald hx hb hK hA 150 (ce_kf_0_0 hk) i3 e4 dX0_isWithin_19 ?_
    refine lv_iload_n hx hb dX0_isWithin_20 rfl (lv_at hl 1 rfl) ?_
    refine lv_icmp_lt (tgt := 41) hx hb dX0_isWithin_21 (by decide) (fun c5 => ?_) (fun c5 => ?_)
    · have h := ce_it c5 h
      refine lv_iconst (v := 0) hx hb dX0_isWithin_41 (by decide) ?_
      cases h
      exact ce_zret hx hb hr hlocks (Or.inl rfl) hA hS dX0_isWithin_42
    · have h := ce_ie c5 h
      refine lv_aload_n hx hb dX0_isWithin_24 rfl (lv_at hl 0 rfl) ?_
      refine ce_g_0_0 hx hb hB hown hK hA hk ce_w214 dX0_isWithin_25 ?_
      refine lv_aload_n hx hb dX0_isWithin_28 rfl (lv_at hl 0 rfl) ?_
      refine ce_g_0_2 hx hb hB hown hK hA hk ce_w217 dX0_isWithin_29 ?_
      obtain ⟨i7, h⟩ := ce_gi_e h
      obtain ⟨x6, e8, h⟩ := ce_nm_e h
      refine ce_iald hx hb hK hA 150 (ce_kf_0_0 hk) i7 e8 dX0_isWithin_32 ?_
      refine lv_iload_n hx hb dX0_isWithin_33 rfl (lv_at hl 2 rfl) ?_
      refine lv_icmp_gt (tgt := 41) hx hb dX0_isWithin_34 (by decide) (fun c9 => ?_) (fun c9 => ?_)
      · have h := ce_it c9 h
        refine lv_iconst (v := 0) hx hb dX0_isWithin_41 (by decide) ?_
        cases h
        exact ce_zret hx hb hr hlocks (Or.inl rfl) hA hS dX0_isWithin_42
      · have h := ce_ie c9 h
        refine lv_iconst (v := 1) hx hb dX0_isWithin_37 (by decide) ?_
        refine lv_goto (tgt := 42) hx hb dX0_isWithin_38 (by decide) ?_
        cases h
        exact ce_zret hx hb hr hlocks (Or.inr rfl) hA hS dX0_isWithin_42
def f_X0_stands_L15 (a1 : Nat) (a2 : Int32) (M : ce_M) (k : Nat) (rec5 : Int32 → Option Int32) (x4 : Int32) : Option Int32 :=
  ce_nm (ce_slenF a1) (fun (x7 : Int32) =>
  if x7 ≤ x4 then
    some 1
  else
    ce_gi (a2 + x4) 150 (ce_nm (ce_rd M (k + 1) (Int32.toNatClampNeg (a2 + x4))) (fun (x10 : Int32) =>
    ce_gi x4 (ce_slen.getD a1 0) (ce_nm (ce_schr a1 (Int32.toNatClampNeg x4)) (fun (x13 : Int32) =>
    if x10 = x13 then
      ce_nm (x4 + 1) (fun (x17 : Int32) =>
      rec5 x17)
    else
      some 0)))))
def f_X0_stands (k : Nat) (M : ce_M) (a1 : Nat) (a2 : Int32) (a3 : Int32) : Option Int32 :=
  ce_nm (ce_slenF a1) (fun (x1 : Int32) =>
  if x1 = (a3 - a2) then
    ce_lp1 (f_X0_stands_L15 a1 a2 M k) ce_FU 0
  else
    some 0)
set_option maxRecDepth 100000 in
set_option maxHeartbeats 4000000 in
theorem c_X0_stands (l : Launch) (X : ce_X) (G : ce_G) (b : Nat) {k : Nat} {a1 : Nat} {a2 : Int32} {a3 : Int32} {M : ce_M} (hk : ce_kd k = 0) (ha1 : a1 < 7) {r : Int32} (h : f_X0_stands k M a1 a2 a3 = some r) : ce_Ct l yX0_stands cX0_stands 5 (some .boolean) 4 90 X G b [.ref (b + k), .ref (G.2.2.1 a1), .int a2, .int a3] M (some (.int r)) M := by
  refine ce_ofW (own := RX0) (by decide) rfl (Nat.le_of_ble_eq_true rfl) (fun p e s m below meth c ls hx hb hr hlocks hml hown hB hF hA hl hS => ?_)
  have hK := hF.1
  have hl : lv_has ls 5 [(0, .ref (b + k)), (1, .ref (G.2.2.1 a1)), (2, .int a2), (3, .int a3)] := hl
  unfold f_X0_stands at h
  refine lv_aload_n hx hb dX0_stands_0 rfl (lv_at hl 1 rfl) ?_
  obtain ⟨x1, e2, h⟩ := ce_nm_e h
  refine ce_slength hx hb hml hl hown hB ce_w315 hF hA hS ha1 e2 ⟨Nat.le_of_ble_eq_true rfl, Nat.le_of_ble_eq_true rfl⟩ (Nat.le_of_ble_eq_true rfl) dX0_stands_1 ⟨Nat.le_of_ble_eq_true rfl, Nat.le_of_ble_eq_true rfl⟩ (fun H locs hA hS => ?_)
  refine lv_iload_n hx hb dX0_stands_4 rfl (lv_at hl 3 rfl) ?_
  refine lv_iload_n hx hb dX0_stands_5 rfl (lv_at hl 2 rfl) ?_
  refine lv_isub hx hb dX0_stands_6 ?_
  refine lv_icmp_eq (tgt := 12) hx hb dX0_stands_7 (by decide) (fun c3 => ?_) (fun c3 => ?_)
  · have h := ce_it c3 h
    refine lv_iconst (v := 0) hx hb dX0_stands_12 (by decide) ?_
    refine lv_istore (lv' := [(4, .int 0), (0, .ref (b + k)), (1, .ref (G.2.2.1 a1)), (2, .int a2), (3, .int a3)]) hx hb dX0_stands_13 hl (by decide) rfl (fun ls hl => ?_)
    refine ce_lp1_i (y := r) (P := fun (x4 : Int32) => ce_Wg p l e (ce_R 4 90 0 0) s m (([.ref (b + k), .ref (G.2.2.1 a1), .int a2, .int a3] : List Value).toArray) below meth c 0 0 (MQ below (ce_Q X b M (some (.int r))) ([.ref (b + k), .ref (G.2.2.1 a1), .int a2, .int a3] : List Value).toArray s 0 0 (ce_Ab b)) X b M 5 [(0, .ref (b + k)), (1, .ref (G.2.2.1 a1)), (2, .int a2), (4, .int x4)] 15 []) (fun rec5 ih6 x4 h => ?_) _ _ h _ _ _ hA hS (lv_sub hl [1, 2, 3, 0] rfl)
    intro H locs ls hA hS hl
    unfold f_X0_stands_L15 at h
    refine lv_iload hx hb dX0_stands_15 (lv_at hl 3 rfl) ?_
    refine lv_aload_n hx hb dX0_stands_17 rfl (lv_at hl 1 rfl) ?_
    obtain ⟨x7, e8, h⟩ := ce_nm_e h
    refine ce_slength hx hb hml hl hown hB ce_w315 hF hA hS ha1 e8 ⟨Nat.le_of_ble_eq_true rfl, Nat.le_of_ble_eq_true rfl⟩ (Nat.le_of_ble_eq_true rfl) dX0_stands_18 ⟨Nat.le_of_ble_eq_true rfl, Nat.le_of_ble_eq_true rfl⟩ (fun H locs hA hS => ?_)
    refine lv_icmp_ge (tgt := 50) hx hb dX0_stands_21 (by decide) (fun c9 => ?_) (fun c9 => ?_)
    · have h := ce_it c9 h
      refine lv_iconst (v := 1) hx hb dX0_stands_50 (by decide) ?_
      cases h
      exact ce_zret hx hb hr hlocks (Or.inr rfl) hA hS dX0_stands_51
    · have h := ce_ie c9 h
      refine lv_aload_n hx hb dX0_stands_24 rfl (lv_at hl 0 rfl) ?_
      refine ce_g_0_0 hx hb hB hown hK hA hk ce_w214 dX0_stands_25 ?_
      refine lv_iload_n hx hb dX0_stands_28 rfl (lv_at hl 2 rfl) ?_
      refine lv_iload hx hb dX0_stands_29 (lv_at hl 3 rfl) ?_
      refine lv_iadd hx hb dX0_stands_31 ?_
      obtain ⟨i11, h⟩ := ce_gi_e h
      obtain ⟨x10, e12, h⟩ := ce_nm_e h
      refine ce_iald hx hb hK hA 150 (ce_kf_0_0 hk) i11 e12 dX0_stands_32 ?_
      refine lv_aload_n hx hb dX0_stands_33 rfl (lv_at hl 1 rfl) ?_
      refine lv_iload hx hb dX0_stands_34 (lv_at hl 3 rfl) ?_
      obtain ⟨i15, h⟩ := ce_gi_e h
      obtain ⟨x13, e14, h⟩ := ce_nm_e h
      refine ce_scharAt hx hb hml hl hown hB ce_w325 hF hA hS ha1 i15 e14 ⟨Nat.le_of_ble_eq_true rfl, Nat.le_of_ble_eq_true rfl⟩ (Nat.le_of_ble_eq_true rfl) dX0_stands_36 ⟨Nat.le_of_ble_eq_true rfl, Nat.le_of_ble_eq_true rfl⟩ (fun H locs hA hS => ?_)
      refine lv_icmp_eq (tgt := 44) hx hb dX0_stands_39 (by decide) (fun c16 => ?_) (fun c16 => ?_)
      · have h := ce_it c16 h
        obtain ⟨x17, e18, h⟩ := ce_nm_e h
        refine lv_iinc (v := x17) (lv' := [(4, .int x17), (0, .ref (b + k)), (1, .ref (G.2.2.1 a1)), (2, .int a2)]) hx hb dX0_stands_44 hl (k := 3) rfl (by rw [← e18]; rfl) (by decide) rfl (fun ls hl => ?_)
        refine lv_goto (tgt := 15) hx hb dX0_stands_47 (by decide) ?_
        exact ih6 x17 h  _ _ _ hA hS (lv_sub hl [1, 2, 3, 0] rfl)
      · have h := ce_ie c16 h
        refine lv_iconst (v := 0) hx hb dX0_stands_42 (by decide) ?_
        cases h
        exact ce_zret hx hb hr hlocks (Or.inl rfl) hA hS dX0_stands_43
  · have h := ce_ie c3 h
    refine lv_iconst (v := 0) hx hb dX0_stands_10 (by decide) ?_
    cases h
    exact ce_zret hx hb hr hlocks (Or.inl rfl) hA hS dX0_stands_11
def f_X0_kindOf_L2 (M : ce_M) (k : Nat) (a1 : Int32) (a2 : Int32) (rec2 : Int32 → Option Int32) (x1 : Int32) : Option Int32 :=
  if 7 ≤ x1 then
    some (-1)
  else
    ce_b1 (f_X0_wordOf M x1) (fun (k5 : Nat) =>
    ce_b1 (f_X0_stands k M k5 a1 a2) (fun (x7 : Int32) =>
    if x7 = 0 then
      ce_nm (x1 + 1) (fun (x10 : Int32) =>
      rec2 x10)
    else
      some x1))
def f_X0_kindOf (k : Nat) (M : ce_M) (a1 : Int32) (a2 : Int32) : Option Int32 :=
  ce_lp1 (f_X0_kindOf_L2 M k a1 a2) ce_FU 0
set_option maxRecDepth 100000 in
set_option maxHeartbeats 4000000 in
theorem c_X0_kindOf (l : Launch) (X : ce_X) (G : ce_G) (b : Nat) {k : Nat} {a1 : Int32} {a2 : Int32} {M : ce_M} (hk : ce_kd k = 0) {r : Int32} (h : f_X0_kindOf k M a1 a2 = some r) : ce_Ct l yX0_kindOf cX0_kindOf 4 (some .int) 5 114 X G b [.ref (b + k), .int a1, .int a2] M (some (.int r)) M := by
  refine ce_ofW (own := RX0) (by decide) rfl (Nat.le_of_ble_eq_true rfl) (fun p e s m below meth c ls hx hb hr hlocks hml hown hB hF hA hl hS => ?_)
  have hK := hF.1
  have hl : lv_has ls 4 [(0, .ref (b + k)), (1, .int a1), (2, .int a2)] := hl
  unfold f_X0_kindOf at h
  refine lv_iconst (v := 0) hx hb dX0_kindOf_0 (by decide) ?_
  refine lv_istore_n (lv' := [(3, .int 0), (0, .ref (b + k)), (1, .int a1), (2, .int a2)]) hx hb dX0_kindOf_1 rfl hl (by decide) rfl (fun ls hl => ?_)
  refine ce_lp1_i (y := r) (P := fun (x1 : Int32) => ce_Wg p l e (ce_R 5 114 0 0) s m (([.ref (b + k), .int a1, .int a2] : List Value).toArray) below meth c 0 0 (MQ below (ce_Q X b M (some (.int r))) ([.ref (b + k), .int a1, .int a2] : List Value).toArray s 0 0 (ce_Ab b)) X b M 4 [(0, .ref (b + k)), (1, .int a1), (2, .int a2), (3, .int x1)] 2 []) (fun rec2 ih3 x1 h => ?_) _ _ h _ _ _ hA hS (lv_sub hl [1, 2, 3, 0] rfl)
  intro H locs ls hA hS hl
  unfold f_X0_kindOf_L2 at h
  refine lv_iload_n hx hb dX0_kindOf_2 rfl (lv_at hl 3 rfl) ?_
  refine lv_bipush (v := 7) hx hb dX0_kindOf_3 (by decide) ?_
  refine lv_icmp_ge (tgt := 29) hx hb dX0_kindOf_5 (by decide) (fun c4 => ?_) (fun c4 => ?_)
  · have h := ce_it c4 h
    refine lv_iconst (v := (-1)) hx hb dX0_kindOf_29 (by decide) ?_
    cases h
    exact ce_iret hx hb hr hlocks hA hS dX0_kindOf_30
  · have h := ce_ie c4 h
    refine lv_aload_n hx hb dX0_kindOf_8 rfl (lv_at hl 0 rfl) ?_
    refine lv_iload_n hx hb dX0_kindOf_9 rfl (lv_at hl 3 rfl) ?_
    obtain ⟨k5, g6, h⟩ := ce_b1_e h
    refine ce_callSr (As := [.int x1]) (rest := [.ref (b + k)]) hx hb hml hown hB (c_X0_wordOf l X G b  g6) ce_s_X0_wordOf ce_w301 ⟨Nat.le_of_ble_eq_true rfl, Nat.le_of_ble_eq_true rfl⟩ hF hA hS hl rfl rfl (Nat.le_of_ble_eq_true rfl) dX0_kindOf_10 ⟨Nat.le_of_ble_eq_true rfl, Nat.le_of_ble_eq_true rfl⟩ (fun H locs hA hS => ?_)
    refine lv_iload_n hx hb dX0_kindOf_13 rfl (lv_at hl 1 rfl) ?_
    refine lv_iload_n hx hb dX0_kindOf_14 rfl (lv_at hl 2 rfl) ?_
    obtain ⟨x7, g8, h⟩ := ce_b1_e h
    refine ce_callVi (As := [.ref (G.2.2.1 k5), .int a1, .int a2]) (rest := []) hx hb hml hown hB (c_X0_stands l X G b hk (ce_sok_X0_wordOf g6) g8) ce_v_X0_stands ce_w311 ⟨Nat.le_of_ble_eq_true rfl, Nat.le_of_ble_eq_true rfl⟩ hF hA hS (ce_rc_0 hK hA hk) hl rfl rfl (Nat.le_of_ble_eq_true rfl) dX0_kindOf_15 ⟨Nat.le_of_ble_eq_true rfl, Nat.le_of_ble_eq_true rfl⟩ (fun H locs hA hS => ?_)
    refine lv_if_eq (tgt := 23) hx hb dX0_kindOf_18 (by decide) (fun c9 => ?_) (fun c9 => ?_)
    · have h := ce_it c9 h
      obtain ⟨x10, e11, h⟩ := ce_nm_e h
      refine lv_iinc (v := x10) (lv' := [(3, .int x10), (0, .ref (b + k)), (1, .int a1), (2, .int a2)]) hx hb dX0_kindOf_23 hl (k := 3) rfl (by rw [← e11]; rfl) (by decide) rfl (fun ls hl => ?_)
      refine lv_goto (tgt := 2) hx hb dX0_kindOf_26 (by decide) ?_
      exact ih3 x10 h  _ _ _ hA hS (lv_sub hl [1, 2, 3, 0] rfl)
    · have h := ce_ie c9 h
      refine lv_iload_n hx hb dX0_kindOf_21 rfl (lv_at hl 3 rfl) ?_
      cases h
      exact ce_iret hx hb hr hlocks hA hS dX0_kindOf_22
def f_X0_failAt (k : Nat) (M : ce_M) (a1 : Int32) : Option (ce_M × Int32) :=
  ce_nm (ce_wr M k 5 a1) (fun (M1 : ce_M) =>
  some (M1, 0))
set_option maxRecDepth 100000 in
set_option maxHeartbeats 4000000 in
theorem c_X0_failAt (l : Launch) (X : ce_X) (G : ce_G) (b : Nat) {k : Nat} {a1 : Int32} {M : ce_M} (hk : ce_kd k = 0) {M' : ce_M} {r : Int32} (h : f_X0_failAt k M a1 = some (M', r)) : ce_Ct l yX0_failAt cX0_failAt 2 (some .boolean) 0 0 X G b [.ref (b + k), .int a1] M (some (.int r)) M' := by
  refine ce_ofW (own := RX0) (by decide) rfl (Nat.le_of_ble_eq_true rfl) (fun p e s m below meth c ls hx hb hr hlocks hml hown hB hF hA hl hS => ?_)
  have hK := hF.1
  have hl : lv_has ls 2 [(0, .ref (b + k)), (1, .int a1)] := hl
  unfold f_X0_failAt at h
  refine lv_aload_n hx hb dX0_failAt_0 rfl (lv_at hl 0 rfl) ?_
  refine lv_iload_n hx hb dX0_failAt_1 rfl (lv_at hl 1 rfl) ?_
  obtain ⟨M1, e2, h⟩ := ce_nm_e h
  refine ce_p_0_5 hx hb hB hown hK hA hS hk ce_w222 dX0_failAt_2 e2 (fun H locs hA hS => ?_)
  refine lv_iconst (v := 0) hx hb dX0_failAt_5 (by decide) ?_
  cases h
  exact ce_zret hx hb hr hlocks (Or.inl rfl) hA hS dX0_failAt_6
def f_X0_readWord_L5 (k : Nat) (u7 : ce_M → Option (ce_M × Int32)) (rec4 : ce_M → Option (ce_M × Int32)) (M3 : ce_M) : Option (ce_M × Int32) :=
  if (ce_rd M3 k 1) ≤ (ce_rd M3 k 2) then
    u7 M3
  else
    ce_b1 (f_X0_isWithin k M3 97 122) (fun (x19 : Int32) =>
    if x19 = 0 then
      u7 M3
    else
      ce_nm (ce_wr M3 k 2 ((ce_rd M3 k 2) + 1)) (fun (M22 : ce_M) =>
      rec4 M22))
def f_X0_readWord (k : Nat) (M : ce_M) : Option (ce_M × Int32) :=
  ce_nm (ce_rd M k 2) (fun (x1 : Int32) =>
  ce_nm (fun (M6 : ce_M) =>
      ce_b1 (f_X0_kindOf k M6 x1 (ce_rd M6 k 2)) (fun (x8 : Int32) =>
      ce_nm (ce_wr M6 k 3 x8) (fun (M10 : ce_M) =>
      if (ce_rd M10 k 3) = (-1) then
        ce_b2 (f_X0_failAt k M10 x1) (fun (M13 : ce_M) (x14 : Int32) =>
        if x14 = 0 then
          some (M13, 0)
        else
          some (M13, 1))
      else
        some (M10, 1)))) (fun (u7 : ce_M → Option (ce_M × Int32)) =>
  ce_lp1 (f_X0_readWord_L5 k u7) ce_FU M))
set_option maxRecDepth 100000 in
set_option maxHeartbeats 4000000 in
theorem c_X0_readWord (l : Launch) (X : ce_X) (G : ce_G) (b : Nat) {k : Nat} {M : ce_M} (hk : ce_kd k = 0) {M' : ce_M} {r : Int32} (h : f_X0_readWord k M = some (M', r)) : ce_Ct l yX0_readWord cX0_readWord 2 (some .boolean) 6 137 X G b [.ref (b + k)] M (some (.int r)) M' := by
  refine ce_ofW (own := RX0) (by decide) rfl (Nat.le_of_ble_eq_true rfl) (fun p e s m below meth c ls hx hb hr hlocks hml hown hB hF hA hl hS => ?_)
  have hK := hF.1
  have hl : lv_has ls 2 [(0, .ref (b + k))] := hl
  unfold f_X0_readWord at h
  refine lv_aload_n hx hb dX0_readWord_0 rfl (lv_at hl 0 rfl) ?_
  refine ce_g_0_2 hx hb hB hown hK hA hk ce_w217 dX0_readWord_1 ?_
  obtain ⟨x1, e2, h⟩ := ce_nm_e h
  refine ce_top e2 ?_
  refine lv_istore_n (lv' := [(1, .int x1), (0, .ref (b + k))]) hx hb dX0_readWord_4 rfl hl (by decide) rfl (fun ls hl => ?_)
  obtain ⟨u7, e17, h⟩ := ce_nm_e h
  have Ju7 : ∀ (M6 : ce_M), u7 M6 = some (M', r) → ce_Wg p l e (ce_R 6 137 0 0) s m (([.ref (b + k)] : List Value).toArray) below meth c 0 0 (MQ below (ce_Q X b M' (some (.int r))) ([.ref (b + k)] : List Value).toArray s 0 0 (ce_Ab b)) X b M6 2 [(0, .ref (b + k)), (1, .int x1)] 40 [] := by
    intro M6 h  H locs ls hA hS hl
    subst e17
    refine lv_aload_n hx hb dX0_readWord_40 rfl (lv_at hl 0 rfl) ?_
    refine lv_aload_n hx hb dX0_readWord_41 rfl (lv_at hl 0 rfl) ?_
    refine lv_iload_n hx hb dX0_readWord_42 rfl (lv_at hl 1 rfl) ?_
    refine lv_aload_n hx hb dX0_readWord_43 rfl (lv_at hl 0 rfl) ?_
    refine ce_g_0_2 hx hb hB hown hK hA hk ce_w217 dX0_readWord_44 ?_
    obtain ⟨x8, g9, h⟩ := ce_b1_e h
    refine ce_callVi (As := [.int x1, .int (ce_rd M6 k 2)]) (rest := [.ref (b + k)]) hx hb hml hown hB (c_X0_kindOf l X G b hk g9) ce_v_X0_kindOf ce_w297 ⟨Nat.le_of_ble_eq_true rfl, Nat.le_of_ble_eq_true rfl⟩ hF hA hS (ce_rc_0 hK hA hk) hl rfl rfl (Nat.le_of_ble_eq_true rfl) dX0_readWord_47 ⟨Nat.le_of_ble_eq_true rfl, Nat.le_of_ble_eq_true rfl⟩ (fun H locs hA hS => ?_)
    obtain ⟨M10, e11, h⟩ := ce_nm_e h
    refine ce_p_0_3 hx hb hB hown hK hA hS hk ce_w218 dX0_readWord_50 e11 (fun H locs hA hS => ?_)
    refine lv_aload_n hx hb dX0_readWord_53 rfl (lv_at hl 0 rfl) ?_
    refine ce_g_0_3 hx hb hB hown hK hA hk ce_w218 dX0_readWord_54 ?_
    refine lv_iconst (v := (-1)) hx hb dX0_readWord_57 (by decide) ?_
    refine lv_icmp_ne (tgt := 69) hx hb dX0_readWord_58 (by decide) (fun c12 => ?_) (fun c12 => ?_)
    · have h := ce_ie c12 h
      refine lv_iconst (v := 1) hx hb dX0_readWord_69 (by decide) ?_
      refine lv_goto (tgt := 74) hx hb dX0_readWord_70 (by decide) ?_
      cases h
      exact ce_zret hx hb hr hlocks (Or.inr rfl) hA hS dX0_readWord_74
    · have h := ce_it c12 h
      refine lv_aload_n hx hb dX0_readWord_61 rfl (lv_at hl 0 rfl) ?_
      refine lv_iload_n hx hb dX0_readWord_62 rfl (lv_at hl 1 rfl) ?_
      obtain ⟨M13, x14, g15, h⟩ := ce_b2_e h
      refine ce_callVi (As := [.int x1]) (rest := []) hx hb hml hown hB (c_X0_failAt l X G b hk g15) ce_v_X0_failAt ce_w363 ⟨Nat.le_of_ble_eq_true rfl, Nat.le_of_ble_eq_true rfl⟩ hF hA hS (ce_rc_0 hK hA hk) hl rfl rfl (Nat.le_of_ble_eq_true rfl) dX0_readWord_63 ⟨Nat.le_of_ble_eq_true rfl, Nat.le_of_ble_eq_true rfl⟩ (fun H locs hA hS => ?_)
      refine lv_if_eq (tgt := 73) hx hb dX0_readWord_66 (by decide) (fun c16 => ?_) (fun c16 => ?_)
      · have h := ce_it c16 h
        refine lv_iconst (v := 0) hx hb dX0_readWord_73 (by decide) ?_
        cases h
        exact ce_zret hx hb hr hlocks (Or.inl rfl) hA hS dX0_readWord_74
      · have h := ce_ie c16 h
        refine lv_iconst (v := 1) hx hb dX0_readWord_69 (by decide) ?_
        refine lv_goto (tgt := 74) hx hb dX0_readWord_70 (by decide) ?_
        cases h
        exact ce_zret hx hb hr hlocks (Or.inr rfl) hA hS dX0_readWord_74
  refine ce_lp1_i (y := (M', r)) (P := fun (M3 : ce_M) => ce_Wg p l e (ce_R 6 137 0 0) s m (([.ref (b + k)] : List Value).toArray) below meth c 0 0 (MQ below (ce_Q X b M' (some (.int r))) ([.ref (b + k)] : List Value).toArray s 0 0 (ce_Ab b)) X b M3 2 [(0, .ref (b + k)), (1, .int x1)] 5 []) (fun rec4 ih5 M3 h => ?_) _ _ h _ _ _ hA hS (lv_sub hl [1, 0] rfl)
  intro H locs ls hA hS hl
  unfold f_X0_readWord_L5 at h
  refine lv_aload_n hx hb dX0_readWord_5 rfl (lv_at hl 0 rfl) ?_
  refine ce_g_0_2 hx hb hB hown hK hA hk ce_w217 dX0_readWord_6 ?_
  refine lv_aload_n hx hb dX0_readWord_9 rfl (lv_at hl 0 rfl) ?_
  refine ce_g_0_1 hx hb hB hown hK hA hk ce_w215 dX0_readWord_10 ?_
  refine lv_icmp_ge (tgt := 40) hx hb dX0_readWord_13 (by decide) (fun c18 => ?_) (fun c18 => ?_)
  · have h := ce_it c18 h
    exact Ju7 M3 h  _ _ _ hA hS (lv_sub hl [0, 1] rfl)
  · have h := ce_ie c18 h
    refine lv_aload_n hx hb dX0_readWord_16 rfl (lv_at hl 0 rfl) ?_
    refine lv_bipush (v := 97) hx hb dX0_readWord_17 (by decide) ?_
    refine lv_bipush (v := 122) hx hb dX0_readWord_19 (by decide) ?_
    obtain ⟨x19, g20, h⟩ := ce_b1_e h
    refine ce_callVi (As := [.int 97, .int 122]) (rest := []) hx hb hml hown hB (c_X0_isWithin l X G b hk g20) ce_v_X0_isWithin ce_w293 ⟨Nat.le_of_ble_eq_true rfl, Nat.le_of_ble_eq_true rfl⟩ hF hA hS (ce_rc_0 hK hA hk) hl rfl rfl (Nat.le_of_ble_eq_true rfl) dX0_readWord_21 ⟨Nat.le_of_ble_eq_true rfl, Nat.le_of_ble_eq_true rfl⟩ (fun H locs hA hS => ?_)
    refine lv_if_eq (tgt := 40) hx hb dX0_readWord_24 (by decide) (fun c21 => ?_) (fun c21 => ?_)
    · have h := ce_it c21 h
      exact Ju7 M3 h  _ _ _ hA hS (lv_sub hl [0, 1] rfl)
    · have h := ce_ie c21 h
      refine lv_aload_n hx hb dX0_readWord_27 rfl (lv_at hl 0 rfl) ?_
      refine lv_dup hx hb dX0_readWord_28 rfl ?_
      refine ce_g_0_2 hx hb hB hown hK hA hk ce_w217 dX0_readWord_29 ?_
      refine lv_iconst (v := 1) hx hb dX0_readWord_32 (by decide) ?_
      refine lv_iadd hx hb dX0_readWord_33 ?_
      obtain ⟨M22, e23, h⟩ := ce_nm_e h
      refine ce_p_0_2 hx hb hB hown hK hA hS hk ce_w217 dX0_readWord_34 e23 (fun H locs hA hS => ?_)
      refine lv_goto (tgt := 5) hx hb dX0_readWord_37 (by decide) ?_
      exact ih5 M22 h  _ _ _ hA hS (lv_sub hl [0, 1] rfl)
def f_X0_numbersOf (M : ce_M) (a1 : Int32) : Option Int32 :=
  if a1 = 0 then
    some 3
  else
  if a1 = 1 then
    some 2
  else
  if a1 = 2 then
    some 1
  else
  if a1 = 3 then
    some 2
  else
  if a1 = 4 then
    some 3
  else
  if a1 = 5 then
    some 2
  else
  some 1
set_option maxRecDepth 100000 in
set_option maxHeartbeats 4000000 in
theorem c_X0_numbersOf (l : Launch) (X : ce_X) (G : ce_G) (b : Nat) {a1 : Int32} {M : ce_M}  {r : Int32} (h : f_X0_numbersOf M a1 = some r) : ce_Ct l yX0_numbersOf cX0_numbersOf 1 (some .int) 0 0 X G b [.int a1] M (some (.int r)) M := by
  refine ce_ofW (own := RX0) (by decide) rfl (Nat.le_of_ble_eq_true rfl) (fun p e s m below meth c ls hx hb hr hlocks hml hown hB hF hA hl hS => ?_)
  have hK := hF.1
  have hl : lv_has ls 1 [(0, .int a1)] := hl
  unfold f_X0_numbersOf at h
  refine lv_iload_n hx hb dX0_numbersOf_0 rfl (lv_at hl 0 rfl) ?_
  by_cases c1 : a1 = 0
  · have h := ce_it c1 h
    refine lv_tableIn (off := 39) (tgt := 40) hx hb dX0_numbersOf_1 (by rw [c1]; decide) (by rw [c1]; decide) (by rw [c1]; rfl) (by decide) ?_
    refine lv_iconst (v := 3) hx hb dX0_numbersOf_40 (by decide) ?_
    cases h
    exact ce_iret hx hb hr hlocks hA hS dX0_numbersOf_41
  have h := ce_ie c1 h
  by_cases c2 : a1 = 1
  · have h := ce_it c2 h
    refine lv_tableIn (off := 41) (tgt := 42) hx hb dX0_numbersOf_1 (by rw [c2]; decide) (by rw [c2]; decide) (by rw [c2]; rfl) (by decide) ?_
    refine lv_iconst (v := 2) hx hb dX0_numbersOf_42 (by decide) ?_
    cases h
    exact ce_iret hx hb hr hlocks hA hS dX0_numbersOf_43
  have h := ce_ie c2 h
  by_cases c3 : a1 = 2
  · have h := ce_it c3 h
    refine lv_tableIn (off := 43) (tgt := 44) hx hb dX0_numbersOf_1 (by rw [c3]; decide) (by rw [c3]; decide) (by rw [c3]; rfl) (by decide) ?_
    refine lv_iconst (v := 1) hx hb dX0_numbersOf_44 (by decide) ?_
    cases h
    exact ce_iret hx hb hr hlocks hA hS dX0_numbersOf_45
  have h := ce_ie c3 h
  by_cases c4 : a1 = 3
  · have h := ce_it c4 h
    refine lv_tableIn (off := 41) (tgt := 42) hx hb dX0_numbersOf_1 (by rw [c4]; decide) (by rw [c4]; decide) (by rw [c4]; rfl) (by decide) ?_
    refine lv_iconst (v := 2) hx hb dX0_numbersOf_42 (by decide) ?_
    cases h
    exact ce_iret hx hb hr hlocks hA hS dX0_numbersOf_43
  have h := ce_ie c4 h
  by_cases c5 : a1 = 4
  · have h := ce_it c5 h
    refine lv_tableIn (off := 39) (tgt := 40) hx hb dX0_numbersOf_1 (by rw [c5]; decide) (by rw [c5]; decide) (by rw [c5]; rfl) (by decide) ?_
    refine lv_iconst (v := 3) hx hb dX0_numbersOf_40 (by decide) ?_
    cases h
    exact ce_iret hx hb hr hlocks hA hS dX0_numbersOf_41
  have h := ce_ie c5 h
  by_cases c6 : a1 = 5
  · have h := ce_it c6 h
    refine lv_tableIn (off := 41) (tgt := 42) hx hb dX0_numbersOf_1 (by rw [c6]; decide) (by rw [c6]; decide) (by rw [c6]; rfl) (by decide) ?_
    refine lv_iconst (v := 2) hx hb dX0_numbersOf_42 (by decide) ?_
    cases h
    exact ce_iret hx hb hr hlocks hA hS dX0_numbersOf_43
  have h := ce_ie c6 h
  have nc1 : (a1).toInt ≠ 0 := fun q => c1 (Int32.toInt_inj.mp (q.trans (by decide)))
  have nc2 : (a1).toInt ≠ 1 := fun q => c2 (Int32.toInt_inj.mp (q.trans (by decide)))
  have nc3 : (a1).toInt ≠ 2 := fun q => c3 (Int32.toInt_inj.mp (q.trans (by decide)))
  have nc4 : (a1).toInt ≠ 3 := fun q => c4 (Int32.toInt_inj.mp (q.trans (by decide)))
  have nc5 : (a1).toInt ≠ 4 := fun q => c5 (Int32.toInt_inj.mp (q.trans (by decide)))
  have nc6 : (a1).toInt ≠ 5 := fun q => c6 (Int32.toInt_inj.mp (q.trans (by decide)))
  refine lv_tableOut (tgt := 44) hx hb dX0_numbersOf_1 (by omega) (by decide) ?_
  refine lv_iconst (v := 1) hx hb dX0_numbersOf_44 (by decide) ?_
  cases h
  exact ce_iret hx hb hr hlocks hA hS dX0_numbersOf_45
def f_X0_isAt (k : Nat) (M : ce_M) (a1 : Int32) : Option Int32 :=
  if (ce_rd M k 1) ≤ (ce_rd M k 2) then
    some 0
  else
    ce_gi (ce_rd M k 2) 150 (ce_nm (ce_rd M (k + 1) (Int32.toNatClampNeg (ce_rd M k 2))) (fun (x2 : Int32) =>
    if x2 = a1 then
      some 1
    else
      some 0))
set_option maxRecDepth 100000 in
set_option maxHeartbeats 4000000 in
theorem c_X0_isAt (l : Launch) (X : ce_X) (G : ce_G) (b : Nat) {k : Nat} {a1 : Int32} {M : ce_M} (hk : ce_kd k = 0) {r : Int32} (h : f_X0_isAt k M a1 = some r) : ce_Ct l yX0_isAt cX0_isAt 2 (some .boolean) 0 0 X G b [.ref (b + k), .int a1] M (some (.int r)) M := by
  refine ce_ofW (own := RX0) (by decide) rfl (Nat.le_of_ble_eq_true rfl) (fun p e s m below meth c ls hx hb hr hlocks hml hown hB hF hA hl hS => ?_)
  have hK := hF.1
  have hl : lv_has ls 2 [(0, .ref (b + k)), (1, .int a1)] := hl
  unfold f_X0_isAt at h
  refine lv_aload_n hx hb dX0_isAt_0 rfl (lv_at hl 0 rfl) ?_
  refine ce_g_0_2 hx hb hB hown hK hA hk ce_w217 dX0_isAt_1 ?_
  refine lv_aload_n hx hb dX0_isAt_4 rfl (lv_at hl 0 rfl) ?_
  refine ce_g_0_1 hx hb hB hown hK hA hk ce_w215 dX0_isAt_5 ?_
  refine lv_icmp_ge (tgt := 28) hx hb dX0_isAt_8 (by decide) (fun c1 => ?_) (fun c1 => ?_)
  · have h := ce_it c1 h
    refine lv_iconst (v := 0) hx hb dX0_isAt_28 (by decide) ?_
    cases h
    exact ce_zret hx hb hr hlocks (Or.inl rfl) hA hS dX0_isAt_29
  · have h := ce_ie c1 h
    refine lv_aload_n hx hb dX0_isAt_11 rfl (lv_at hl 0 rfl) ?_
    refine ce_g_0_0 hx hb hB hown hK hA hk ce_w214 dX0_isAt_12 ?_
    refine lv_aload_n hx hb dX0_isAt_15 rfl (lv_at hl 0 rfl) ?_
    refine ce_g_0_2 hx hb hB hown hK hA hk ce_w217 dX0_isAt_16 ?_
    obtain ⟨i3, h⟩ := ce_gi_e h
    obtain ⟨x2, e4, h⟩ := ce_nm_e h
    refine ce_iald hx hb hK hA 150 (ce_kf_0_0 hk) i3 e4 dX0_isAt_19 ?_
    refine lv_iload_n hx hb dX0_isAt_20 rfl (lv_at hl 1 rfl) ?_
    refine lv_icmp_ne (tgt := 28) hx hb dX0_isAt_21 (by decide) (fun c5 => ?_) (fun c5 => ?_)
    · have h := ce_ie c5 h
      refine lv_iconst (v := 0) hx hb dX0_isAt_28 (by decide) ?_
      cases h
      exact ce_zret hx hb hr hlocks (Or.inl rfl) hA hS dX0_isAt_29
    · have h := ce_it c5 h
      refine lv_iconst (v := 1) hx hb dX0_isAt_24 (by decide) ?_
      refine lv_goto (tgt := 29) hx hb dX0_isAt_25 (by decide) ?_
      cases h
      exact ce_zret hx hb hr hlocks (Or.inr rfl) hA hS dX0_isAt_29
def f_X0_readNumber_L26 (k : Nat) (u14 : ce_M → Int32 → Int32 → Option (ce_M × Int32)) (rec9 : ce_M → Int32 → Int32 → Option (ce_M × Int32)) (M6 : ce_M) (x7 : Int32) (x8 : Int32) : Option (ce_M × Int32) :=
  if 3 ≤ x7 then
    u14 M6 x7 x8
  else
    ce_b1 (f_X0_isWithin k M6 48 57) (fun (x25 : Int32) =>
    if x25 = 0 then
      u14 M6 x7 x8
    else
      ce_gi (ce_rd M6 k 2) 150 (ce_nm (ce_rd M6 (k + 1) (Int32.toNatClampNeg (ce_rd M6 k 2))) (fun (x28 : Int32) =>
      ce_nm (((10 * x8) + x28) - 48) (fun (x31 : Int32) =>
      ce_nm (x7 + 1) (fun (x33 : Int32) =>
      ce_nm (ce_wr M6 k 2 ((ce_rd M6 k 2) + 1)) (fun (M35 : ce_M) =>
      rec9 M35 x33 x31))))))
def f_X0_readNumber (k : Nat) (M : ce_M) (a1 : Int32) : Option (ce_M × Int32) :=
  ce_b1 (f_X0_isAt k M 32) (fun (x1 : Int32) =>
  if x1 = 0 then
    ce_b2 (f_X0_failAt k M (ce_rd M k 2)) (fun (M37 : ce_M) (x38 : Int32) =>
    ce_gz x38 (
    some (M37, x38)))
  else
    ce_b1 (f_X0_skipSpaces k M) (fun (M4 : ce_M) =>
    ce_nm (fun (M11 : ce_M) (x12 : Int32) (x13 : Int32) =>
      ce_gi a1 3 (ce_nm (ce_wr M11 (k + 2) (Int32.toNatClampNeg a1) x13) (fun (M15 : ce_M) =>
      if 0 < x12 then
        some (M15, 1)
      else
        ce_b2 (f_X0_failAt k M15 (ce_rd M15 k 2)) (fun (M19 : ce_M) (x20 : Int32) =>
        if x20 = 0 then
          some (M19, 0)
        else
          some (M19, 1))))) (fun (u14 : ce_M → Int32 → Int32 → Option (ce_M × Int32)) =>
    ce_lp3 (f_X0_readNumber_L26 k u14) ce_FU M4 0 0)))
set_option maxRecDepth 100000 in
set_option maxHeartbeats 4000000 in
theorem c_X0_readNumber (l : Launch) (X : ce_X) (G : ce_G) (b : Nat) {k : Nat} {a1 : Int32} {M : ce_M} (hk : ce_kd k = 0) {M' : ce_M} {r : Int32} (h : f_X0_readNumber k M a1 = some (M', r)) : ce_Ct l yX0_readNumber cX0_readNumber 4 (some .boolean) 1 22 X G b [.ref (b + k), .int a1] M (some (.int r)) M' := by
  refine ce_ofW (own := RX0) (by decide) rfl (Nat.le_of_ble_eq_true rfl) (fun p e s m below meth c ls hx hb hr hlocks hml hown hB hF hA hl hS => ?_)
  have hK := hF.1
  have hl : lv_has ls 4 [(0, .ref (b + k)), (1, .int a1)] := hl
  unfold f_X0_readNumber at h
  refine lv_aload_n hx hb dX0_readNumber_0 rfl (lv_at hl 0 rfl) ?_
  refine lv_bipush (v := 32) hx hb dX0_readNumber_1 (by decide) ?_
  obtain ⟨x1, g2, h⟩ := ce_b1_e h
  refine ce_callVi (As := [.int 32]) (rest := []) hx hb hml hown hB (c_X0_isAt l X G b hk g2) ce_v_X0_isAt ce_w378 ⟨Nat.le_of_ble_eq_true rfl, Nat.le_of_ble_eq_true rfl⟩ hF hA hS (ce_rc_0 hK hA hk) hl rfl rfl (Nat.le_of_ble_eq_true rfl) dX0_readNumber_3 ⟨Nat.le_of_ble_eq_true rfl, Nat.le_of_ble_eq_true rfl⟩ (fun H locs hA hS => ?_)
  refine lv_if_ne (tgt := 18) hx hb dX0_readNumber_6 (by decide) (fun c3 => ?_) (fun c3 => ?_)
  · have h := ce_ie c3 h
    refine lv_aload_n hx hb dX0_readNumber_18 rfl (lv_at hl 0 rfl) ?_
    obtain ⟨M4, g5, h⟩ := ce_b1_e h
    refine ce_callVv (As := []) (rest := []) hx hb hml hown hB (c_X0_skipSpaces l X G b hk g5) ce_v_X0_skipSpaces ce_w285 ⟨Nat.le_of_ble_eq_true rfl, Nat.le_of_ble_eq_true rfl⟩ hF hA hS (ce_rc_0 hK hA hk) hl rfl rfl (Nat.le_of_ble_eq_true rfl) dX0_readNumber_19 ⟨Nat.le_of_ble_eq_true rfl, Nat.le_of_ble_eq_true rfl⟩ (fun H locs hA hS => ?_)
    refine lv_iconst (v := 0) hx hb dX0_readNumber_22 (by decide) ?_
    refine lv_istore_n (lv' := [(2, .int 0), (0, .ref (b + k)), (1, .int a1)]) hx hb dX0_readNumber_23 rfl hl (by decide) rfl (fun ls hl => ?_)
    refine lv_iconst (v := 0) hx hb dX0_readNumber_24 (by decide) ?_
    refine lv_istore_n (lv' := [(3, .int 0), (2, .int 0), (0, .ref (b + k)), (1, .int a1)]) hx hb dX0_readNumber_25 rfl hl (by decide) rfl (fun ls hl => ?_)
    obtain ⟨u14, e23, h⟩ := ce_nm_e h
    have Ju14 : ∀ (M11 : ce_M) (x12 : Int32) (x13 : Int32), u14 M11 x12 x13 = some (M', r) → ce_Wg p l e (ce_R 1 22 0 0) s m (([.ref (b + k), .int a1] : List Value).toArray) below meth c 0 0 (MQ below (ce_Q X b M' (some (.int r))) ([.ref (b + k), .int a1] : List Value).toArray s 0 0 (ce_Ab b)) X b M11 4 [(0, .ref (b + k)), (1, .int a1), (2, .int x12), (3, .int x13)] 76 [] := by
      intro M11 x12 x13 h  H locs ls hA hS hl
      subst e23
      refine lv_aload_n hx hb dX0_readNumber_76 rfl (lv_at hl 0 rfl) ?_
      refine ce_g_0_4 hx hb hB hown hK hA hk ce_w220 dX0_readNumber_77 ?_
      refine lv_iload_n hx hb dX0_readNumber_80 rfl (lv_at hl 1 rfl) ?_
      refine lv_iload_n hx hb dX0_readNumber_81 rfl (lv_at hl 3 rfl) ?_
      obtain ⟨i16, h⟩ := ce_gi_e h
      obtain ⟨M15, e17, h⟩ := ce_nm_e h
      refine ce_iast hx hb hK hA hS 3 (ce_kf_0_4 hk) i16 dX0_readNumber_82 e17 (fun H locs hA hS => ?_)
      refine lv_iload_n hx hb dX0_readNumber_83 rfl (lv_at hl 2 rfl) ?_
      refine lv_if_gt (tgt := 98) hx hb dX0_readNumber_84 (by decide) (fun c18 => ?_) (fun c18 => ?_)
      · have h := ce_it c18 h
        refine lv_iconst (v := 1) hx hb dX0_readNumber_98 (by decide) ?_
        refine lv_goto (tgt := 103) hx hb dX0_readNumber_99 (by decide) ?_
        cases h
        exact ce_zret hx hb hr hlocks (Or.inr rfl) hA hS dX0_readNumber_103
      · have h := ce_ie c18 h
        refine lv_aload_n hx hb dX0_readNumber_87 rfl (lv_at hl 0 rfl) ?_
        refine lv_aload_n hx hb dX0_readNumber_88 rfl (lv_at hl 0 rfl) ?_
        refine ce_g_0_2 hx hb hB hown hK hA hk ce_w217 dX0_readNumber_89 ?_
        obtain ⟨M19, x20, g21, h⟩ := ce_b2_e h
        refine ce_callVi (As := [.int (ce_rd M15 k 2)]) (rest := []) hx hb hml hown hB (c_X0_failAt l X G b hk g21) ce_v_X0_failAt ce_w363 ⟨Nat.le_of_ble_eq_true rfl, Nat.le_of_ble_eq_true rfl⟩ hF hA hS (ce_rc_0 hK hA hk) hl rfl rfl (Nat.le_of_ble_eq_true rfl) dX0_readNumber_92 ⟨Nat.le_of_ble_eq_true rfl, Nat.le_of_ble_eq_true rfl⟩ (fun H locs hA hS => ?_)
        refine lv_if_eq (tgt := 102) hx hb dX0_readNumber_95 (by decide) (fun c22 => ?_) (fun c22 => ?_)
        · have h := ce_it c22 h
          refine lv_iconst (v := 0) hx hb dX0_readNumber_102 (by decide) ?_
          cases h
          exact ce_zret hx hb hr hlocks (Or.inl rfl) hA hS dX0_readNumber_103
        · have h := ce_ie c22 h
          refine lv_iconst (v := 1) hx hb dX0_readNumber_98 (by decide) ?_
          refine lv_goto (tgt := 103) hx hb dX0_readNumber_99 (by decide) ?_
          cases h
          exact ce_zret hx hb hr hlocks (Or.inr rfl) hA hS dX0_readNumber_103
    refine ce_lp3_i (y := (M', r)) (P := fun (M6 : ce_M) (x7 : Int32) (x8 : Int32) => ce_Wg p l e (ce_R 1 22 0 0) s m (([.ref (b + k), .int a1] : List Value).toArray) below meth c 0 0 (MQ below (ce_Q X b M' (some (.int r))) ([.ref (b + k), .int a1] : List Value).toArray s 0 0 (ce_Ab b)) X b M6 4 [(0, .ref (b + k)), (1, .int a1), (2, .int x7), (3, .int x8)] 26 []) (fun rec9 ih10 M6 x7 x8 h => ?_) _ _ _ _ h _ _ _ hA hS (lv_sub hl [2, 3, 1, 0] rfl)
    intro H locs ls hA hS hl
    unfold f_X0_readNumber_L26 at h
    refine lv_iload_n hx hb dX0_readNumber_26 rfl (lv_at hl 2 rfl) ?_
    refine lv_iconst (v := 3) hx hb dX0_readNumber_27 (by decide) ?_
    refine lv_icmp_ge (tgt := 76) hx hb dX0_readNumber_28 (by decide) (fun c24 => ?_) (fun c24 => ?_)
    · have h := ce_it c24 h
      exact Ju14 M6 x7 x8 h  _ _ _ hA hS (lv_sub hl [0, 1, 2, 3] rfl)
    · have h := ce_ie c24 h
      refine lv_aload_n hx hb dX0_readNumber_31 rfl (lv_at hl 0 rfl) ?_
      refine lv_bipush (v := 48) hx hb dX0_readNumber_32 (by decide) ?_
      refine lv_bipush (v := 57) hx hb dX0_readNumber_34 (by decide) ?_
      obtain ⟨x25, g26, h⟩ := ce_b1_e h
      refine ce_callVi (As := [.int 48, .int 57]) (rest := []) hx hb hml hown hB (c_X0_isWithin l X G b hk g26) ce_v_X0_isWithin ce_w293 ⟨Nat.le_of_ble_eq_true rfl, Nat.le_of_ble_eq_true rfl⟩ hF hA hS (ce_rc_0 hK hA hk) hl rfl rfl (Nat.le_of_ble_eq_true rfl) dX0_readNumber_36 ⟨Nat.le_of_ble_eq_true rfl, Nat.le_of_ble_eq_true rfl⟩ (fun H locs hA hS => ?_)
      refine lv_if_eq (tgt := 76) hx hb dX0_readNumber_39 (by decide) (fun c27 => ?_) (fun c27 => ?_)
      · have h := ce_it c27 h
        exact Ju14 M6 x7 x8 h  _ _ _ hA hS (lv_sub hl [0, 1, 2, 3] rfl)
      · have h := ce_ie c27 h
        refine lv_bipush (v := 10) hx hb dX0_readNumber_42 (by decide) ?_
        refine lv_iload_n hx hb dX0_readNumber_44 rfl (lv_at hl 3 rfl) ?_
        refine lv_imul hx hb dX0_readNumber_45 ?_
        refine lv_aload_n hx hb dX0_readNumber_46 rfl (lv_at hl 0 rfl) ?_
        refine ce_g_0_0 hx hb hB hown hK hA hk ce_w214 dX0_readNumber_47 ?_
        refine lv_aload_n hx hb dX0_readNumber_50 rfl (lv_at hl 0 rfl) ?_
        refine ce_g_0_2 hx hb hB hown hK hA hk ce_w217 dX0_readNumber_51 ?_
        obtain ⟨i29, h⟩ := ce_gi_e h
        obtain ⟨x28, e30, h⟩ := ce_nm_e h
        refine ce_iald hx hb hK hA 150 (ce_kf_0_0 hk) i29 e30 dX0_readNumber_54 ?_
        refine lv_iadd hx hb dX0_readNumber_55 ?_
        refine lv_bipush (v := 48) hx hb dX0_readNumber_56 (by decide) ?_
        refine lv_isub hx hb dX0_readNumber_58 ?_
        obtain ⟨x31, e32, h⟩ := ce_nm_e h
        refine ce_top e32 ?_
        refine lv_istore_n (lv' := [(3, .int x31), (0, .ref (b + k)), (1, .int a1), (2, .int x7)]) hx hb dX0_readNumber_59 rfl hl (by decide) rfl (fun ls hl => ?_)
        obtain ⟨x33, e34, h⟩ := ce_nm_e h
        refine lv_iinc (v := x33) (lv' := [(2, .int x33), (3, .int x31), (0, .ref (b + k)), (1, .int a1)]) hx hb dX0_readNumber_60 hl (k := 3) rfl (by rw [← e34]; rfl) (by decide) rfl (fun ls hl => ?_)
        refine lv_aload_n hx hb dX0_readNumber_63 rfl (lv_at hl 2 rfl) ?_
        refine lv_dup hx hb dX0_readNumber_64 rfl ?_
        refine ce_g_0_2 hx hb hB hown hK hA hk ce_w217 dX0_readNumber_65 ?_
        refine lv_iconst (v := 1) hx hb dX0_readNumber_68 (by decide) ?_
        refine lv_iadd hx hb dX0_readNumber_69 ?_
        obtain ⟨M35, e36, h⟩ := ce_nm_e h
        refine ce_p_0_2 hx hb hB hown hK hA hS hk ce_w217 dX0_readNumber_70 e36 (fun H locs hA hS => ?_)
        refine lv_goto (tgt := 26) hx hb dX0_readNumber_73 (by decide) ?_
        exact ih10 M35 x33 x31 h  _ _ _ hA hS (lv_sub hl [2, 3, 0, 1] rfl)
  · have h := ce_it c3 h
    refine lv_aload_n hx hb dX0_readNumber_9 rfl (lv_at hl 0 rfl) ?_
    refine lv_aload_n hx hb dX0_readNumber_10 rfl (lv_at hl 0 rfl) ?_
    refine ce_g_0_2 hx hb hB hown hK hA hk ce_w217 dX0_readNumber_11 ?_
    obtain ⟨M37, x38, g39, h⟩ := ce_b2_e h
    refine ce_callVi (As := [.int (ce_rd M k 2)]) (rest := []) hx hb hml hown hB (c_X0_failAt l X G b hk g39) ce_v_X0_failAt ce_w363 ⟨Nat.le_of_ble_eq_true rfl, Nat.le_of_ble_eq_true rfl⟩ hF hA hS (ce_rc_0 hK hA hk) hl rfl rfl (Nat.le_of_ble_eq_true rfl) dX0_readNumber_14 ⟨Nat.le_of_ble_eq_true rfl, Nat.le_of_ble_eq_true rfl⟩ (fun H locs hA hS => ?_)
    obtain ⟨z40, h⟩ := ce_gz_e h
    cases h
    exact ce_zret hx hb hr hlocks z40 hA hS dX0_readNumber_17
def f_X0_readNumbers_L10 (k : Nat) (x1 : Int32) (rec5 : ce_M → Int32 → Option (ce_M × Int32)) (M3 : ce_M) (x4 : Int32) : Option (ce_M × Int32) :=
  if 3 ≤ x4 then
    some (M3, 1)
  else
    ce_gi x4 3 (ce_nm (ce_wr M3 (k + 2) (Int32.toNatClampNeg x4) 0) (fun (M8 : ce_M) =>
    if x1 ≤ x4 then
      ce_nm (x4 + 1) (fun (x12 : Int32) =>
      rec5 M8 x12)
    else
      ce_b2 (f_X0_readNumber k M8 x4) (fun (M14 : ce_M) (x15 : Int32) =>
      if x15 = 0 then
        some (M14, 0)
      else
        ce_nm (x4 + 1) (fun (x18 : Int32) =>
        rec5 M14 x18))))
def f_X0_readNumbers (k : Nat) (M : ce_M) : Option (ce_M × Int32) :=
  ce_b1 (f_X0_numbersOf M (ce_rd M k 3)) (fun (x1 : Int32) =>
  ce_lp2 (f_X0_readNumbers_L10 k x1) ce_FU M 0)
set_option maxRecDepth 100000 in
set_option maxHeartbeats 4000000 in
theorem c_X0_readNumbers (l : Launch) (X : ce_X) (G : ce_G) (b : Nat) {k : Nat} {M : ce_M} (hk : ce_kd k = 0) {M' : ce_M} {r : Int32} (h : f_X0_readNumbers k M = some (M', r)) : ce_Ct l yX0_readNumbers cX0_readNumbers 3 (some .boolean) 2 45 X G b [.ref (b + k)] M (some (.int r)) M' := by
  refine ce_ofW (own := RX0) (by decide) rfl (Nat.le_of_ble_eq_true rfl) (fun p e s m below meth c ls hx hb hr hlocks hml hown hB hF hA hl hS => ?_)
  have hK := hF.1
  have hl : lv_has ls 3 [(0, .ref (b + k))] := hl
  unfold f_X0_readNumbers at h
  refine lv_aload_n hx hb dX0_readNumbers_0 rfl (lv_at hl 0 rfl) ?_
  refine ce_g_0_3 hx hb hB hown hK hA hk ce_w218 dX0_readNumbers_1 ?_
  obtain ⟨x1, g2, h⟩ := ce_b1_e h
  refine ce_callSi (As := [.int (ce_rd M k 3)]) (rest := []) hx hb hml hown hB (c_X0_numbersOf l X G b  g2) ce_s_X0_numbersOf ce_w371 ⟨Nat.le_of_ble_eq_true rfl, Nat.le_of_ble_eq_true rfl⟩ hF hA hS hl rfl rfl (Nat.le_of_ble_eq_true rfl) dX0_readNumbers_4 ⟨Nat.le_of_ble_eq_true rfl, Nat.le_of_ble_eq_true rfl⟩ (fun H locs hA hS => ?_)
  refine lv_istore_n (lv' := [(1, .int x1), (0, .ref (b + k))]) hx hb dX0_readNumbers_7 rfl hl (by decide) rfl (fun ls hl => ?_)
  refine lv_iconst (v := 0) hx hb dX0_readNumbers_8 (by decide) ?_
  refine lv_istore_n (lv' := [(2, .int 0), (1, .int x1), (0, .ref (b + k))]) hx hb dX0_readNumbers_9 rfl hl (by decide) rfl (fun ls hl => ?_)
  refine ce_lp2_i (y := (M', r)) (P := fun (M3 : ce_M) (x4 : Int32) => ce_Wg p l e (ce_R 2 45 0 0) s m (([.ref (b + k)] : List Value).toArray) below meth c 0 0 (MQ below (ce_Q X b M' (some (.int r))) ([.ref (b + k)] : List Value).toArray s 0 0 (ce_Ab b)) X b M3 3 [(0, .ref (b + k)), (1, .int x1), (2, .int x4)] 10 []) (fun rec5 ih6 M3 x4 h => ?_) _ _ _ h _ _ _ hA hS (lv_sub hl [2, 1, 0] rfl)
  intro H locs ls hA hS hl
  unfold f_X0_readNumbers_L10 at h
  refine lv_iload_n hx hb dX0_readNumbers_10 rfl (lv_at hl 2 rfl) ?_
  refine lv_iconst (v := 3) hx hb dX0_readNumbers_11 (by decide) ?_
  refine lv_icmp_ge (tgt := 43) hx hb dX0_readNumbers_12 (by decide) (fun c7 => ?_) (fun c7 => ?_)
  · have h := ce_it c7 h
    refine lv_iconst (v := 1) hx hb dX0_readNumbers_43 (by decide) ?_
    cases h
    exact ce_zret hx hb hr hlocks (Or.inr rfl) hA hS dX0_readNumbers_44
  · have h := ce_ie c7 h
    refine lv_aload_n hx hb dX0_readNumbers_15 rfl (lv_at hl 0 rfl) ?_
    refine ce_g_0_4 hx hb hB hown hK hA hk ce_w220 dX0_readNumbers_16 ?_
    refine lv_iload_n hx hb dX0_readNumbers_19 rfl (lv_at hl 2 rfl) ?_
    refine lv_iconst (v := 0) hx hb dX0_readNumbers_20 (by decide) ?_
    obtain ⟨i9, h⟩ := ce_gi_e h
    obtain ⟨M8, e10, h⟩ := ce_nm_e h
    refine ce_iast hx hb hK hA hS 3 (ce_kf_0_4 hk) i9 dX0_readNumbers_21 e10 (fun H locs hA hS => ?_)
    refine lv_iload_n hx hb dX0_readNumbers_22 rfl (lv_at hl 2 rfl) ?_
    refine lv_iload_n hx hb dX0_readNumbers_23 rfl (lv_at hl 1 rfl) ?_
    refine lv_icmp_ge (tgt := 37) hx hb dX0_readNumbers_24 (by decide) (fun c11 => ?_) (fun c11 => ?_)
    · have h := ce_it c11 h
      obtain ⟨x12, e13, h⟩ := ce_nm_e h
      refine lv_iinc (v := x12) (lv' := [(2, .int x12), (0, .ref (b + k)), (1, .int x1)]) hx hb dX0_readNumbers_37 hl (k := 2) rfl (by rw [← e13]; rfl) (by decide) rfl (fun ls hl => ?_)
      refine lv_goto (tgt := 10) hx hb dX0_readNumbers_40 (by decide) ?_
      exact ih6 M8 x12 h  _ _ _ hA hS (lv_sub hl [1, 2, 0] rfl)
    · have h := ce_ie c11 h
      refine lv_aload_n hx hb dX0_readNumbers_27 rfl (lv_at hl 0 rfl) ?_
      refine lv_iload_n hx hb dX0_readNumbers_28 rfl (lv_at hl 2 rfl) ?_
      obtain ⟨M14, x15, g16, h⟩ := ce_b2_e h
      refine ce_callVi (As := [.int x4]) (rest := []) hx hb hml hown hB (c_X0_readNumber l X G b hk g16) ce_v_X0_readNumber ce_w374 ⟨Nat.le_of_ble_eq_true rfl, Nat.le_of_ble_eq_true rfl⟩ hF hA hS (ce_rc_0 hK hA hk) hl rfl rfl (Nat.le_of_ble_eq_true rfl) dX0_readNumbers_29 ⟨Nat.le_of_ble_eq_true rfl, Nat.le_of_ble_eq_true rfl⟩ (fun H locs hA hS => ?_)
      refine lv_if_ne (tgt := 37) hx hb dX0_readNumbers_32 (by decide) (fun c17 => ?_) (fun c17 => ?_)
      · have h := ce_ie c17 h
        obtain ⟨x18, e19, h⟩ := ce_nm_e h
        refine lv_iinc (v := x18) (lv' := [(2, .int x18), (0, .ref (b + k)), (1, .int x1)]) hx hb dX0_readNumbers_37 hl (k := 2) rfl (by rw [← e19]; rfl) (by decide) rfl (fun ls hl => ?_)
        refine lv_goto (tgt := 10) hx hb dX0_readNumbers_40 (by decide) ?_
        exact ih6 M14 x18 h  _ _ _ hA hS (lv_sub hl [1, 2, 0] rfl)
      · have h := ce_it c17 h
        refine lv_iconst (v := 0) hx hb dX0_readNumbers_35 (by decide) ?_
        cases h
        exact ce_zret hx hb hr hlocks (Or.inl rfl) hA hS dX0_readNumbers_36
def f_X0_readSemicolon (k : Nat) (M : ce_M) : Option (ce_M × Int32) :=
  ce_b1 (f_X0_skipSpaces k M) (fun (M1 : ce_M) =>
  ce_b1 (f_X0_isAt k M1 59) (fun (x3 : Int32) =>
  if x3 = 0 then
    ce_b2 (f_X0_failAt k M1 (ce_rd M1 k 2)) (fun (M8 : ce_M) (x9 : Int32) =>
    ce_gz x9 (
    some (M8, x9)))
  else
    ce_nm (ce_wr M1 k 2 ((ce_rd M1 k 2) + 1)) (fun (M6 : ce_M) =>
    some (M6, 1))))
set_option maxRecDepth 100000 in
set_option maxHeartbeats 4000000 in
theorem c_X0_readSemicolon (l : Launch) (X : ce_X) (G : ce_G) (b : Nat) {k : Nat} {M : ce_M} (hk : ce_kd k = 0) {M' : ce_M} {r : Int32} (h : f_X0_readSemicolon k M = some (M', r)) : ce_Ct l yX0_readSemicolon cX0_readSemicolon 1 (some .boolean) 1 21 X G b [.ref (b + k)] M (some (.int r)) M' := by
  refine ce_ofW (own := RX0) (by decide) rfl (Nat.le_of_ble_eq_true rfl) (fun p e s m below meth c ls hx hb hr hlocks hml hown hB hF hA hl hS => ?_)
  have hK := hF.1
  have hl : lv_has ls 1 [(0, .ref (b + k))] := hl
  unfold f_X0_readSemicolon at h
  refine lv_aload_n hx hb dX0_readSemicolon_0 rfl (lv_at hl 0 rfl) ?_
  obtain ⟨M1, g2, h⟩ := ce_b1_e h
  refine ce_callVv (As := []) (rest := []) hx hb hml hown hB (c_X0_skipSpaces l X G b hk g2) ce_v_X0_skipSpaces ce_w285 ⟨Nat.le_of_ble_eq_true rfl, Nat.le_of_ble_eq_true rfl⟩ hF hA hS (ce_rc_0 hK hA hk) hl rfl rfl (Nat.le_of_ble_eq_true rfl) dX0_readSemicolon_1 ⟨Nat.le_of_ble_eq_true rfl, Nat.le_of_ble_eq_true rfl⟩ (fun H locs hA hS => ?_)
  refine lv_aload_n hx hb dX0_readSemicolon_4 rfl (lv_at hl 0 rfl) ?_
  refine lv_bipush (v := 59) hx hb dX0_readSemicolon_5 (by decide) ?_
  obtain ⟨x3, g4, h⟩ := ce_b1_e h
  refine ce_callVi (As := [.int 59]) (rest := []) hx hb hml hown hB (c_X0_isAt l X G b hk g4) ce_v_X0_isAt ce_w378 ⟨Nat.le_of_ble_eq_true rfl, Nat.le_of_ble_eq_true rfl⟩ hF hA hS (ce_rc_0 hK hA hk) hl rfl rfl (Nat.le_of_ble_eq_true rfl) dX0_readSemicolon_7 ⟨Nat.le_of_ble_eq_true rfl, Nat.le_of_ble_eq_true rfl⟩ (fun H locs hA hS => ?_)
  refine lv_if_ne (tgt := 22) hx hb dX0_readSemicolon_10 (by decide) (fun c5 => ?_) (fun c5 => ?_)
  · have h := ce_ie c5 h
    refine lv_aload_n hx hb dX0_readSemicolon_22 rfl (lv_at hl 0 rfl) ?_
    refine lv_dup hx hb dX0_readSemicolon_23 rfl ?_
    refine ce_g_0_2 hx hb hB hown hK hA hk ce_w217 dX0_readSemicolon_24 ?_
    refine lv_iconst (v := 1) hx hb dX0_readSemicolon_27 (by decide) ?_
    refine lv_iadd hx hb dX0_readSemicolon_28 ?_
    obtain ⟨M6, e7, h⟩ := ce_nm_e h
    refine ce_p_0_2 hx hb hB hown hK hA hS hk ce_w217 dX0_readSemicolon_29 e7 (fun H locs hA hS => ?_)
    refine lv_iconst (v := 1) hx hb dX0_readSemicolon_32 (by decide) ?_
    cases h
    exact ce_zret hx hb hr hlocks (Or.inr rfl) hA hS dX0_readSemicolon_33
  · have h := ce_it c5 h
    refine lv_aload_n hx hb dX0_readSemicolon_13 rfl (lv_at hl 0 rfl) ?_
    refine lv_aload_n hx hb dX0_readSemicolon_14 rfl (lv_at hl 0 rfl) ?_
    refine ce_g_0_2 hx hb hB hown hK hA hk ce_w217 dX0_readSemicolon_15 ?_
    obtain ⟨M8, x9, g10, h⟩ := ce_b2_e h
    refine ce_callVi (As := [.int (ce_rd M1 k 2)]) (rest := []) hx hb hml hown hB (c_X0_failAt l X G b hk g10) ce_v_X0_failAt ce_w363 ⟨Nat.le_of_ble_eq_true rfl, Nat.le_of_ble_eq_true rfl⟩ hF hA hS (ce_rc_0 hK hA hk) hl rfl rfl (Nat.le_of_ble_eq_true rfl) dX0_readSemicolon_18 ⟨Nat.le_of_ble_eq_true rfl, Nat.le_of_ble_eq_true rfl⟩ (fun H locs hA hS => ?_)
    obtain ⟨z11, h⟩ := ce_gz_e h
    cases h
    exact ce_zret hx hb hr hlocks z11 hA hS dX0_readSemicolon_21
def f_X0_readNext (k : Nat) (M : ce_M) : Option (ce_M × Int32) :=
  ce_b1 (f_X0_skipSpaces k M) (fun (M1 : ce_M) =>
  if (ce_rd M1 k 2) < (ce_rd M1 k 1) then
    ce_b2 (f_X0_readWord k M1) (fun (M4 : ce_M) (x5 : Int32) =>
    if x5 = 0 then
      some (M4, 0)
    else
      ce_b2 (f_X0_readNumbers k M4) (fun (M8 : ce_M) (x9 : Int32) =>
      if x9 = 0 then
        some (M8, 0)
      else
        ce_b2 (f_X0_readSemicolon k M8) (fun (M12 : ce_M) (x13 : Int32) =>
        if x13 = 0 then
          some (M12, 0)
        else
          some (M12, 1))))
  else
    some (M1, 0))
set_option maxRecDepth 100000 in
set_option maxHeartbeats 4000000 in
theorem c_X0_readNext (l : Launch) (X : ce_X) (G : ce_G) (b : Nat) {k : Nat} {M : ce_M} (hk : ce_kd k = 0) {M' : ce_M} {r : Int32} (h : f_X0_readNext k M = some (M', r)) : ce_Ct l yX0_readNext cX0_readNext 1 (some .boolean) 7 158 X G b [.ref (b + k)] M (some (.int r)) M' := by
  refine ce_ofW (own := RX0) (by decide) rfl (Nat.le_of_ble_eq_true rfl) (fun p e s m below meth c ls hx hb hr hlocks hml hown hB hF hA hl hS => ?_)
  have hK := hF.1
  have hl : lv_has ls 1 [(0, .ref (b + k))] := hl
  unfold f_X0_readNext at h
  refine lv_aload_n hx hb dX0_readNext_0 rfl (lv_at hl 0 rfl) ?_
  obtain ⟨M1, g2, h⟩ := ce_b1_e h
  refine ce_callVv (As := []) (rest := []) hx hb hml hown hB (c_X0_skipSpaces l X G b hk g2) ce_v_X0_skipSpaces ce_w285 ⟨Nat.le_of_ble_eq_true rfl, Nat.le_of_ble_eq_true rfl⟩ hF hA hS (ce_rc_0 hK hA hk) hl rfl rfl (Nat.le_of_ble_eq_true rfl) dX0_readNext_1 ⟨Nat.le_of_ble_eq_true rfl, Nat.le_of_ble_eq_true rfl⟩ (fun H locs hA hS => ?_)
  refine lv_aload_n hx hb dX0_readNext_4 rfl (lv_at hl 0 rfl) ?_
  refine ce_g_0_2 hx hb hB hown hK hA hk ce_w217 dX0_readNext_5 ?_
  refine lv_aload_n hx hb dX0_readNext_8 rfl (lv_at hl 0 rfl) ?_
  refine ce_g_0_1 hx hb hB hown hK hA hk ce_w215 dX0_readNext_9 ?_
  refine lv_icmp_lt (tgt := 17) hx hb dX0_readNext_12 (by decide) (fun c3 => ?_) (fun c3 => ?_)
  · have h := ce_it c3 h
    refine lv_aload_n hx hb dX0_readNext_17 rfl (lv_at hl 0 rfl) ?_
    obtain ⟨M4, x5, g6, h⟩ := ce_b2_e h
    refine ce_callVi (As := []) (rest := []) hx hb hml hown hB (c_X0_readWord l X G b hk g6) ce_v_X0_readWord ce_w289 ⟨Nat.le_of_ble_eq_true rfl, Nat.le_of_ble_eq_true rfl⟩ hF hA hS (ce_rc_0 hK hA hk) hl rfl rfl (Nat.le_of_ble_eq_true rfl) dX0_readNext_18 ⟨Nat.le_of_ble_eq_true rfl, Nat.le_of_ble_eq_true rfl⟩ (fun H locs hA hS => ?_)
    refine lv_if_eq (tgt := 42) hx hb dX0_readNext_21 (by decide) (fun c7 => ?_) (fun c7 => ?_)
    · have h := ce_it c7 h
      refine lv_iconst (v := 0) hx hb dX0_readNext_42 (by decide) ?_
      cases h
      exact ce_zret hx hb hr hlocks (Or.inl rfl) hA hS dX0_readNext_43
    · have h := ce_ie c7 h
      refine lv_aload_n hx hb dX0_readNext_24 rfl (lv_at hl 0 rfl) ?_
      obtain ⟨M8, x9, g10, h⟩ := ce_b2_e h
      refine ce_callVi (As := []) (rest := []) hx hb hml hown hB (c_X0_readNumbers l X G b hk g10) ce_v_X0_readNumbers ce_w367 ⟨Nat.le_of_ble_eq_true rfl, Nat.le_of_ble_eq_true rfl⟩ hF hA hS (ce_rc_0 hK hA hk) hl rfl rfl (Nat.le_of_ble_eq_true rfl) dX0_readNext_25 ⟨Nat.le_of_ble_eq_true rfl, Nat.le_of_ble_eq_true rfl⟩ (fun H locs hA hS => ?_)
      refine lv_if_eq (tgt := 42) hx hb dX0_readNext_28 (by decide) (fun c11 => ?_) (fun c11 => ?_)
      · have h := ce_it c11 h
        refine lv_iconst (v := 0) hx hb dX0_readNext_42 (by decide) ?_
        cases h
        exact ce_zret hx hb hr hlocks (Or.inl rfl) hA hS dX0_readNext_43
      · have h := ce_ie c11 h
        refine lv_aload_n hx hb dX0_readNext_31 rfl (lv_at hl 0 rfl) ?_
        obtain ⟨M12, x13, g14, h⟩ := ce_b2_e h
        refine ce_callVi (As := []) (rest := []) hx hb hml hown hB (c_X0_readSemicolon l X G b hk g14) ce_v_X0_readSemicolon ce_w382 ⟨Nat.le_of_ble_eq_true rfl, Nat.le_of_ble_eq_true rfl⟩ hF hA hS (ce_rc_0 hK hA hk) hl rfl rfl (Nat.le_of_ble_eq_true rfl) dX0_readNext_32 ⟨Nat.le_of_ble_eq_true rfl, Nat.le_of_ble_eq_true rfl⟩ (fun H locs hA hS => ?_)
        refine lv_if_eq (tgt := 42) hx hb dX0_readNext_35 (by decide) (fun c15 => ?_) (fun c15 => ?_)
        · have h := ce_it c15 h
          refine lv_iconst (v := 0) hx hb dX0_readNext_42 (by decide) ?_
          cases h
          exact ce_zret hx hb hr hlocks (Or.inl rfl) hA hS dX0_readNext_43
        · have h := ce_ie c15 h
          refine lv_iconst (v := 1) hx hb dX0_readNext_38 (by decide) ?_
          refine lv_goto (tgt := 43) hx hb dX0_readNext_39 (by decide) ?_
          cases h
          exact ce_zret hx hb hr hlocks (Or.inr rfl) hA hS dX0_readNext_43
  · have h := ce_ie c3 h
    refine lv_iconst (v := 0) hx hb dX0_readNext_15 (by decide) ?_
    cases h
    exact ce_zret hx hb hr hlocks (Or.inl rfl) hA hS dX0_readNext_16
def f_X0_findFault_L6 (k : Nat) (rec5 : ce_M → Int32 → Option (ce_M × Int32)) (M3 : ce_M) (x4 : Int32) : Option (ce_M × Int32) :=
  if 150 ≤ x4 then
    some (M3, (ce_rd M3 k 5))
  else
    ce_b2 (f_X0_readNext k M3) (fun (M8 : ce_M) (x9 : Int32) =>
    if x9 = 0 then
      some (M8, (ce_rd M8 k 5))
    else
      ce_nm (x4 + 1) (fun (x12 : Int32) =>
      rec5 M8 x12))
def f_X0_findFault (k : Nat) (M : ce_M) : Option (ce_M × Int32) :=
  ce_b1 (f_X0_rewind k M) (fun (M1 : ce_M) =>
  ce_lp2 (f_X0_findFault_L6 k) ce_FU M1 0)
set_option maxRecDepth 100000 in
set_option maxHeartbeats 4000000 in
theorem c_X0_findFault (l : Launch) (X : ce_X) (G : ce_G) (b : Nat) {k : Nat} {M : ce_M} (hk : ce_kd k = 0) {M' : ce_M} {r : Int32} (h : f_X0_findFault k M = some (M', r)) : ce_Ct l yX0_findFault cX0_findFault 2 (some .int) 8 178 X G b [.ref (b + k)] M (some (.int r)) M' := by
  refine ce_ofW (own := RX0) (by decide) rfl (Nat.le_of_ble_eq_true rfl) (fun p e s m below meth c ls hx hb hr hlocks hml hown hB hF hA hl hS => ?_)
  have hK := hF.1
  have hl : lv_has ls 2 [(0, .ref (b + k))] := hl
  unfold f_X0_findFault at h
  refine lv_aload_n hx hb dX0_findFault_0 rfl (lv_at hl 0 rfl) ?_
  obtain ⟨M1, g2, h⟩ := ce_b1_e h
  refine ce_callVv (As := []) (rest := []) hx hb hml hown hB (c_X0_rewind l X G b hk g2) ce_v_X0_rewind ce_w277 ⟨Nat.le_of_ble_eq_true rfl, Nat.le_of_ble_eq_true rfl⟩ hF hA hS (ce_rc_0 hK hA hk) hl rfl rfl (Nat.le_of_ble_eq_true rfl) dX0_findFault_1 ⟨Nat.le_of_ble_eq_true rfl, Nat.le_of_ble_eq_true rfl⟩ (fun H locs hA hS => ?_)
  refine lv_iconst (v := 0) hx hb dX0_findFault_4 (by decide) ?_
  refine lv_istore_n (lv' := [(1, .int 0), (0, .ref (b + k))]) hx hb dX0_findFault_5 rfl hl (by decide) rfl (fun ls hl => ?_)
  refine ce_lp2_i (y := (M', r)) (P := fun (M3 : ce_M) (x4 : Int32) => ce_Wg p l e (ce_R 8 178 0 0) s m (([.ref (b + k)] : List Value).toArray) below meth c 0 0 (MQ below (ce_Q X b M' (some (.int r))) ([.ref (b + k)] : List Value).toArray s 0 0 (ce_Ab b)) X b M3 2 [(0, .ref (b + k)), (1, .int x4)] 6 []) (fun rec5 ih6 M3 x4 h => ?_) _ _ _ h _ _ _ hA hS (lv_sub hl [1, 0] rfl)
  intro H locs ls hA hS hl
  unfold f_X0_findFault_L6 at h
  refine lv_iload_n hx hb dX0_findFault_6 rfl (lv_at hl 1 rfl) ?_
  refine lv_sipush (v := 150) hx hb dX0_findFault_7 (by decide) ?_
  refine lv_icmp_ge (tgt := 26) hx hb dX0_findFault_10 (by decide) (fun c7 => ?_) (fun c7 => ?_)
  · have h := ce_it c7 h
    refine lv_aload_n hx hb dX0_findFault_26 rfl (lv_at hl 0 rfl) ?_
    refine ce_g_0_5 hx hb hB hown hK hA hk ce_w222 dX0_findFault_27 ?_
    cases h
    exact ce_iret hx hb hr hlocks hA hS dX0_findFault_30
  · have h := ce_ie c7 h
    refine lv_aload_n hx hb dX0_findFault_13 rfl (lv_at hl 0 rfl) ?_
    obtain ⟨M8, x9, g10, h⟩ := ce_b2_e h
    refine ce_callVi (As := []) (rest := []) hx hb hml hown hB (c_X0_readNext l X G b hk g10) ce_v_X0_readNext ce_w281 ⟨Nat.le_of_ble_eq_true rfl, Nat.le_of_ble_eq_true rfl⟩ hF hA hS (ce_rc_0 hK hA hk) hl rfl rfl (Nat.le_of_ble_eq_true rfl) dX0_findFault_14 ⟨Nat.le_of_ble_eq_true rfl, Nat.le_of_ble_eq_true rfl⟩ (fun H locs hA hS => ?_)
    refine lv_if_eq (tgt := 26) hx hb dX0_findFault_17 (by decide) (fun c11 => ?_) (fun c11 => ?_)
    · have h := ce_it c11 h
      refine lv_aload_n hx hb dX0_findFault_26 rfl (lv_at hl 0 rfl) ?_
      refine ce_g_0_5 hx hb hB hown hK hA hk ce_w222 dX0_findFault_27 ?_
      cases h
      exact ce_iret hx hb hr hlocks hA hS dX0_findFault_30
    · have h := ce_ie c11 h
      obtain ⟨x12, e13, h⟩ := ce_nm_e h
      refine lv_iinc (v := x12) (lv' := [(1, .int x12), (0, .ref (b + k))]) hx hb dX0_findFault_20 hl (k := 1) rfl (by rw [← e13]; rfl) (by decide) rfl (fun ls hl => ?_)
      refine lv_goto (tgt := 6) hx hb dX0_findFault_23 (by decide) ?_
      exact ih6 M8 x12 h  _ _ _ hA hS (lv_sub hl [1, 0] rfl)
