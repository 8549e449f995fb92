def f_X0_isFull (k : Nat) (M : ce_M) : Option Int32 :=
  if (ce_rd M k 1) < 150 then
    some 0
  else
    some 1
set_option maxRecDepth 100000 in
set_option maxHeartbeats 4000000 in
theorem c_X0_isFull (l : Launch) (X : ce_X) (G : ce_G) (b : Nat) {k : Nat} {M : ce_M} (hk : ce_kd k = 0) {r : Int32} (h : f_X0_isFull k M = some r) : ce_Ct l yX0_isFull cX0_isFull 1 (some .boolean) 0 0 X G b [.ref (b + k)] M (some (.int r)) M := by
  refine ce_ofW (own := RX0) (by decide) rfl (Nat.le_of_ble_eq_true rfl) (fun p e s m below meth c ls hx hb hr hlocks hml hown hB hF hA hl hS => ?_)
  have hK := hF.1
  have hl : lv_has ls 1 [(0, .ref (b + k))] := hl
  unfold f_X0_isFull at h
  refine lv_aload_n hx hb dX0_isFull_0 rfl (lv_at hl 0 rfl) ?_
  refine ce_g_0_1 hx hb hB hown hK hA hk ce_w207 dX0_isFull_1 ?_
  refine lv_sipush (v := 150) hx hb dX0_isFull_4 (by decide) ?_
  refine lv_icmp_lt (tgt := 14) hx hb dX0_isFull_7 (by decide) (fun c1 => ?_) (fun c1 => ?_)
  · have h := ce_it c1 h
    refine lv_iconst (v := 0) hx hb dX0_isFull_14 (by decide) ?_
    cases h
    exact ce_zret hx hb hr hlocks (Or.inl rfl) hA hS dX0_isFull_15
  · have h := ce_ie c1 h
    refine lv_iconst (v := 1) hx hb dX0_isFull_10 (by decide) ?_
    refine lv_goto (tgt := 15) hx hb dX0_isFull_11 (by decide) ?_
    cases h
    exact ce_zret hx hb hr hlocks (Or.inr rfl) hA hS dX0_isFull_15
def f_X0_append (k : Nat) (M : ce_M) (a1 : Int32) : Option (ce_M × Int32) :=
  if 150 ≤ (ce_rd M k 1) then
    some (M, (ce_rd M k 1))
  else
    ce_gi (ce_rd M k 1) 150 (ce_nm (ce_wr M (k + 1) (Int32.toNatClampNeg (ce_rd M k 1)) a1) (fun (M2 : ce_M) =>
    ce_nm (ce_wr M2 k 1 ((ce_rd M2 k 1) + 1)) (fun (M5 : ce_M) =>
    some (M5, (ce_rd M5 k 1)))))
set_option maxRecDepth 100000 in
set_option maxHeartbeats 4000000 in
theorem c_X0_append (l : Launch) (X : ce_X) (G : ce_G) (b : Nat) {k : Nat} {a1 : Int32} {M : ce_M} (hk : ce_kd k = 0) {M' : ce_M} {r : Int32} (h : f_X0_append k M a1 = some (M', r)) : ce_Ct l yX0_append cX0_append 2 (some .int) 0 0 X G b [.ref (b + k), .int a1] M (some (.int r)) M' := by
  refine ce_ofW (own := RX0) (by decide) rfl (Nat.le_of_ble_eq_true rfl) (fun p e s m below meth c ls hx hb hr hlocks hml hown hB hF hA hl hS => ?_)
  have hK := hF.1
  have hl : lv_has ls 2 [(0, .ref (b + k)), (1, .int a1)] := hl
  unfold f_X0_append at h
  refine lv_aload_n hx hb dX0_append_0 rfl (lv_at hl 0 rfl) ?_
  refine ce_g_0_1 hx hb hB hown hK hA hk ce_w207 dX0_append_1 ?_
  refine lv_sipush (v := 150) hx hb dX0_append_4 (by decide) ?_
  refine lv_icmp_ge (tgt := 30) hx hb dX0_append_7 (by decide) (fun c1 => ?_) (fun c1 => ?_)
  · have h := ce_it c1 h
    refine lv_aload_n hx hb dX0_append_30 rfl (lv_at hl 0 rfl) ?_
    refine ce_g_0_1 hx hb hB hown hK hA hk ce_w207 dX0_append_31 ?_
    cases h
    exact ce_iret hx hb hr hlocks hA hS dX0_append_34
  · have h := ce_ie c1 h
    refine lv_aload_n hx hb dX0_append_10 rfl (lv_at hl 0 rfl) ?_
    refine ce_g_0_0 hx hb hB hown hK hA hk ce_w206 dX0_append_11 ?_
    refine lv_aload_n hx hb dX0_append_14 rfl (lv_at hl 0 rfl) ?_
    refine ce_g_0_1 hx hb hB hown hK hA hk ce_w207 dX0_append_15 ?_
    refine lv_iload_n hx hb dX0_append_18 rfl (lv_at hl 1 rfl) ?_
    obtain ⟨i3, h⟩ := ce_gi_e h
    obtain ⟨M2, e4, h⟩ := ce_nm_e h
    refine ce_iast hx hb hK hA hS 150 (ce_kf_0_0 hk) i3 dX0_append_19 e4 (fun H locs hA hS => ?_)
    refine lv_aload_n hx hb dX0_append_20 rfl (lv_at hl 0 rfl) ?_
    refine lv_dup hx hb dX0_append_21 rfl ?_
    refine ce_g_0_1 hx hb hB hown hK hA hk ce_w207 dX0_append_22 ?_
    refine lv_iconst (v := 1) hx hb dX0_append_25 (by decide) ?_
    refine lv_iadd hx hb dX0_append_26 ?_
    obtain ⟨M5, e6, h⟩ := ce_nm_e h
    refine ce_p_0_1 hx hb hB hown hK hA hS hk ce_w207 dX0_append_27 e6 (fun H locs hA hS => ?_)
    refine lv_aload_n hx hb dX0_append_30 rfl (lv_at hl 0 rfl) ?_
    refine ce_g_0_1 hx hb hB hown hK hA hk ce_w207 dX0_append_31 ?_
    cases h
    exact ce_iret hx hb hr hlocks hA hS dX0_append_34
