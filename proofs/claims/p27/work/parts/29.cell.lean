def f_X7_needIndex (M : ce_M) (a1 : Int32) : Option Nat :=
  if a1 = 0 then
    some 1
  else
    some 0
set_option maxRecDepth 100000 in
set_option maxHeartbeats 4000000 in
theorem c_X7_needIndex (l : Launch) (hfl : l.stackTraces = false) (X : ce_X) (G : ce_G) (b : Nat) {a1 : Int32} {M : ce_M}  {tc : Nat} (h : f_X7_needIndex M a1 = some tc) : ce_CtX l yX7_needIndex cX7_needIndex 1 none 6 81 1 6 X G b [.int a1] M none M tc := by
  refine ce_ofWX (own := RX7) (by decide) rfl (Nat.le_of_ble_eq_true rfl) (fun p e s m below meth c ls hx hb hr hlocks hml hown hB hF hA hl hS htb => ?_)
  have hK := hF.1
  have hl : lv_has ls 1 [(0, .int a1)] := hl
  unfold f_X7_needIndex at h
  refine lv_iload_n hx hb dX7_needIndex_0 rfl (lv_at hl 0 rfl) ?_
  refine lv_if_ne (tgt := 12) hx hb dX7_needIndex_1 (by decide) (fun c1 => ?_) (fun c1 => ?_)
  · have h := ce_ie c1 h
    cases h
    exact ce_vretX hx hb hr hlocks hA hS (Nat.le_of_ble_eq_true rfl) (Nat.le_of_ble_eq_true rfl) dX7_needIndex_12
  · have h := ce_it c1 h
    cases h
    exact ce_throw_X7_needIndex hx hb hfl hml hown hB hF hA hS hl htb hlocks ⟨(Nat.le_of_ble_eq_true rfl), (Nat.le_of_ble_eq_true rfl), (Nat.le_of_ble_eq_true rfl), (Nat.le_of_ble_eq_true rfl)⟩ (Nat.le_of_ble_eq_true rfl) (Nat.le_of_ble_eq_true rfl)
def f_X7_needArgument (M : ce_M) (a1 : Int32) : Option Nat :=
  if a1 = 0 then
    some 2
  else
    some 0
set_option maxRecDepth 100000 in
set_option maxHeartbeats 4000000 in
theorem c_X7_needArgument (l : Launch) (hfl : l.stackTraces = false) (X : ce_X) (G : ce_G) (b : Nat) {a1 : Int32} {M : ce_M}  {tc : Nat} (h : f_X7_needArgument M a1 = some tc) : ce_CtX l yX7_needArgument cX7_needArgument 1 none 6 81 1 6 X G b [.int a1] M none M tc := by
  refine ce_ofWX (own := RX7) (by decide) rfl (Nat.le_of_ble_eq_true rfl) (fun p e s m below meth c ls hx hb hr hlocks hml hown hB hF hA hl hS htb => ?_)
  have hK := hF.1
  have hl : lv_has ls 1 [(0, .int a1)] := hl
  unfold f_X7_needArgument at h
  refine lv_iload_n hx hb dX7_needArgument_0 rfl (lv_at hl 0 rfl) ?_
  refine lv_if_ne (tgt := 12) hx hb dX7_needArgument_1 (by decide) (fun c1 => ?_) (fun c1 => ?_)
  · have h := ce_ie c1 h
    cases h
    exact ce_vretX hx hb hr hlocks hA hS (Nat.le_of_ble_eq_true rfl) (Nat.le_of_ble_eq_true rfl) dX7_needArgument_12
  · have h := ce_it c1 h
    cases h
    exact ce_throw_X7_needArgument hx hb hfl hml hown hB hF hA hS hl htb hlocks ⟨(Nat.le_of_ble_eq_true rfl), (Nat.le_of_ble_eq_true rfl), (Nat.le_of_ble_eq_true rfl), (Nat.le_of_ble_eq_true rfl)⟩ (Nat.le_of_ble_eq_true rfl) (Nat.le_of_ble_eq_true rfl)
def f_X7_needState (M : ce_M) (a1 : Int32) : Option Nat :=
  if a1 = 0 then
    some 3
  else
    some 0
set_option maxRecDepth 100000 in
set_option maxHeartbeats 4000000 in
theorem c_X7_needState (l : Launch) (hfl : l.stackTraces = false) (X : ce_X) (G : ce_G) (b : Nat) {a1 : Int32} {M : ce_M}  {tc : Nat} (h : f_X7_needState M a1 = some tc) : ce_CtX l yX7_needState cX7_needState 1 none 6 81 1 6 X G b [.int a1] M none M tc := by
  refine ce_ofWX (own := RX7) (by decide) rfl (Nat.le_of_ble_eq_true rfl) (fun p e s m below meth c ls hx hb hr hlocks hml hown hB hF hA hl hS htb => ?_)
  have hK := hF.1
  have hl : lv_has ls 1 [(0, .int a1)] := hl
  unfold f_X7_needState at h
  refine lv_iload_n hx hb dX7_needState_0 rfl (lv_at hl 0 rfl) ?_
  refine lv_if_ne (tgt := 12) hx hb dX7_needState_1 (by decide) (fun c1 => ?_) (fun c1 => ?_)
  · have h := ce_ie c1 h
    cases h
    exact ce_vretX hx hb hr hlocks hA hS (Nat.le_of_ble_eq_true rfl) (Nat.le_of_ble_eq_true rfl) dX7_needState_12
  · have h := ce_it c1 h
    cases h
    exact ce_throw_X7_needState hx hb hfl hml hown hB hF hA hS hl htb hlocks ⟨(Nat.le_of_ble_eq_true rfl), (Nat.le_of_ble_eq_true rfl), (Nat.le_of_ble_eq_true rfl), (Nat.le_of_ble_eq_true rfl)⟩ (Nat.le_of_ble_eq_true rfl) (Nat.le_of_ble_eq_true rfl)
def f_X7_act (k : Nat) (M : ce_M) (a1 : Int32) (a2 : Int32) (a3 : Int32) (a4 : Int32) : Option (ce_M × Int32 × Nat) :=
  ce_b1 (f_X6_against (k + 1) M a1 a2 a3 a4) (fun (x1 : Int32) =>
  ce_nm (fun (x3 : Int32) (x4 : Int32) (x5 : Int32) =>
      ce_b1 (f_X7_needIndex M x5) (fun (t7 : Nat) =>
      if t7 = 0 then
        ce_nm (fun (x9 : Int32) =>
          ce_b1 (f_X7_needArgument M x9) (fun (t11 : Nat) =>
          if t11 = 0 then
            ce_nm (fun (x13 : Int32) =>
              ce_b1 (f_X7_needState M x13) (fun (t15 : Nat) =>
              if t15 = 0 then
                ce_b1 (f_X5_keep (k + 137) M (k + 1)) (fun (M17 : ce_M) =>
                ce_b2 (f_X6_perform (k + 1) M17 a1 a2 x3 x4) (fun (M19 : ce_M) (x20 : Int32) =>
                some (M19, x20, 0)))
              else
                some (M, 0, t15))) (fun (u14 : Int32 → Option (ce_M × Int32 × Nat)) =>
            if x1 = 3 then
              u14 0
            else
              u14 1)
          else
            some (M, 0, t11))) (fun (u10 : Int32 → Option (ce_M × Int32 × Nat)) =>
        if x1 = 2 then
          u10 0
        else
          u10 1)
      else
        some (M, 0, t7))) (fun (u6 : Int32 → Int32 → Int32 → Option (ce_M × Int32 × Nat)) =>
  if x1 = 1 then
    u6 a3 a4 0
  else
    u6 a3 a4 1))
set_option maxRecDepth 100000 in
set_option maxHeartbeats 4000000 in
theorem c_X7_act (l : Launch) (hfl : l.stackTraces = false) (X : ce_X) (G : ce_G) (b : Nat) {k : Nat} {a1 : Int32} {a2 : Int32} {a3 : Int32} {a4 : Int32} {M : ce_M} (hk : ce_kd k = 7) {M' : ce_M} {r : Int32} {tc : Nat} (h : f_X7_act k M a1 a2 a3 a4 = some (M', r, tc)) : ce_CtX l yX7_act cX7_act 6 (some .int) 7 134 3 18 X G b [.ref (b + k), .int a1, .int a2, .int a3, .int a4] M (some (.int r)) M' tc := by
  refine ce_ofWX (own := RX7) (by decide) rfl (Nat.le_of_ble_eq_true rfl) (fun p e s m below meth c ls hx hb hr hlocks hml hown hB hF hA hl hS htb => ?_)
  have hK := hF.1
  have hl : lv_has ls 6 [(0, .ref (b + k)), (1, .int a1), (2, .int a2), (3, .int a3), (4, .int a4)] := hl
  unfold f_X7_act at h
  refine lv_aload_n hx hb dX7_act_0 rfl (lv_at hl 0 rfl) ?_
  refine ce_g_7_0 hx hb hB hown hK hA hk ce_w223 dX7_act_1 ?_
  refine lv_iload_n hx hb dX7_act_4 rfl (lv_at hl 1 rfl) ?_
  refine lv_iload_n hx hb dX7_act_5 rfl (lv_at hl 2 rfl) ?_
  refine lv_iload_n hx hb dX7_act_6 rfl (lv_at hl 3 rfl) ?_
  refine lv_iload hx hb dX7_act_7 (lv_at hl 4 rfl) ?_
  obtain ⟨x1, g2, h⟩ := ce_b1_e h
  refine ce_callVi (As := [.int a1, .int a2, .int a3, .int a4]) (rest := []) hx hb hml hown hB (c_X6_against l X G b (ce_kf_7_0 hk) g2) ce_v_X6_against ce_w258 ⟨Nat.le_of_ble_eq_true rfl, Nat.le_of_ble_eq_true rfl⟩ hF hA hS (ce_rc_6 hK hA (ce_kf_7_0 hk)) hl rfl rfl (Nat.le_of_ble_eq_true rfl) dX7_act_9 ⟨Nat.le_of_ble_eq_true rfl, Nat.le_of_ble_eq_true rfl⟩ (fun H locs hA hS => ?_)
  refine lv_istore (lv' := [(5, .int x1), (0, .ref (b + k)), (1, .int a1), (2, .int a2), (3, .int a3), (4, .int a4)]) hx hb dX7_act_12 hl (by decide) rfl (fun ls hl => ?_)
  refine lv_iload hx hb dX7_act_14 (lv_at hl 0 rfl) ?_
  refine lv_iconst (v := 1) hx hb dX7_act_16 (by decide) ?_
  obtain ⟨u6, e29, h⟩ := ce_nm_e h
  have Ju6 : ∀ (x3 : Int32) (x4 : Int32) (x5 : Int32), u6 x3 x4 x5 = some (M', r, tc) → ce_Wg p l e (ce_R 7 134 3 18) s m (([.ref (b + k), .int a1, .int a2, .int a3, .int a4] : List Value).toArray) below meth c 0 0 (vx_MQ below (ce_QT X b M' (some (.int r)) tc) (ce_XT X b M' tc) ([.ref (b + k), .int a1, .int a2, .int a3, .int a4] : List Value).toArray s 3 18 (ce_Ab b)) X b M 6 [(0, .ref (b + k)), (1, .int a1), (2, .int a2), (3, .int x3), (4, .int x4), (5, .int x1)] 25 [.int x5] := by
    intro x3 x4 x5 h  H locs ls hA hS hl
    subst e29
    obtain ⟨t7, g8, h⟩ := ce_b1_e h
    refine ce_callSXv (As := [.int x5]) (rest := []) hx hb hml hown hB (c_X7_needIndex l hfl X G b  g8) ce_s_X7_needIndex ce_w309 ⟨Nat.le_of_ble_eq_true rfl, Nat.le_of_ble_eq_true rfl⟩ hF hA hS hl rfl rfl (Nat.le_of_ble_eq_true rfl) dX7_act_25 ⟨(Nat.le_of_ble_eq_true rfl), (Nat.le_of_ble_eq_true rfl)⟩ (fun c28 H locs hA hS => ?_) (fun c28 ltc28 ce qq H locs hA hS hce hcv hcl => ?_)
    · have h := ce_it c28 h
      refine lv_iload hx hb dX7_act_28 (lv_at hl 5 rfl) ?_
      refine lv_iconst (v := 2) hx hb dX7_act_30 (by decide) ?_
      obtain ⟨u10, e26, h⟩ := ce_nm_e h
      have Ju10 : ∀ (x9 : Int32), u10 x9 = some (M', r, tc) → ce_Wg p l e (ce_R 7 134 3 18) s m (([.ref (b + k), .int a1, .int a2, .int a3, .int a4] : List Value).toArray) below meth c 1 6 (vx_MQ below (ce_QT X b M' (some (.int r)) tc) (ce_XT X b M' tc) ([.ref (b + k), .int a1, .int a2, .int a3, .int a4] : List Value).toArray s 3 18 (ce_Ab b)) X b M 6 [(0, .ref (b + k)), (1, .int a1), (2, .int a2), (3, .int x3), (4, .int x4), (5, .int x1)] 39 [.int x9] := by
        intro x9 h  H locs ls hA hS hl
        subst e26
        obtain ⟨t11, g12, h⟩ := ce_b1_e h
        refine ce_callSXv (As := [.int x9]) (rest := []) hx hb hml hown hB (c_X7_needArgument l hfl X G b  g12) ce_s_X7_needArgument ce_w375 ⟨Nat.le_of_ble_eq_true rfl, Nat.le_of_ble_eq_true rfl⟩ hF hA hS hl rfl rfl (Nat.le_of_ble_eq_true rfl) dX7_act_39 ⟨(Nat.le_of_ble_eq_true rfl), (Nat.le_of_ble_eq_true rfl)⟩ (fun c25 H locs hA hS => ?_) (fun c25 ltc25 ce qq H locs hA hS hce hcv hcl => ?_)
        · have h := ce_it c25 h
          refine lv_iload hx hb dX7_act_42 (lv_at hl 5 rfl) ?_
          refine lv_iconst (v := 3) hx hb dX7_act_44 (by decide) ?_
          obtain ⟨u14, e23, h⟩ := ce_nm_e h
          have Ju14 : ∀ (x13 : Int32), u14 x13 = some (M', r, tc) → ce_Wg p l e (ce_R 7 134 3 18) s m (([.ref (b + k), .int a1, .int a2, .int a3, .int a4] : List Value).toArray) below meth c 2 12 (vx_MQ below (ce_QT X b M' (some (.int r)) tc) (ce_XT X b M' tc) ([.ref (b + k), .int a1, .int a2, .int a3, .int a4] : List Value).toArray s 3 18 (ce_Ab b)) X b M 6 [(0, .ref (b + k)), (1, .int a1), (2, .int a2), (3, .int x3), (4, .int x4)] 53 [.int x13] := by
            intro x13 h  H locs ls hA hS hl
            subst e23
            obtain ⟨t15, g16, h⟩ := ce_b1_e h
            refine ce_callSXv (As := [.int x13]) (rest := []) hx hb hml hown hB (c_X7_needState l hfl X G b  g16) ce_s_X7_needState ce_w393 ⟨Nat.le_of_ble_eq_true rfl, Nat.le_of_ble_eq_true rfl⟩ hF hA hS hl rfl rfl (Nat.le_of_ble_eq_true rfl) dX7_act_53 ⟨(Nat.le_of_ble_eq_true rfl), (Nat.le_of_ble_eq_true rfl)⟩ (fun c22 H locs hA hS => ?_) (fun c22 ltc22 ce qq H locs hA hS hce hcv hcl => ?_)
            · have h := ce_it c22 h
              refine lv_aload_n hx hb dX7_act_56 rfl (lv_at hl 0 rfl) ?_
              refine ce_g_7_2 hx hb hB hown hK hA hk ce_w225 dX7_act_57 ?_
              refine lv_aload_n hx hb dX7_act_60 rfl (lv_at hl 0 rfl) ?_
              refine ce_g_7_0 hx hb hB hown hK hA hk ce_w223 dX7_act_61 ?_
              obtain ⟨M17, g18, h⟩ := ce_b1_e h
              refine ce_callVv (As := [.ref (b + (k + 1))]) (rest := []) hx hb hml hown hB (c_X5_keep l X G b (ce_kf_7_2 hk) (ce_kf_7_0 hk) g18) ce_v_X5_keep ce_w411 ⟨Nat.le_of_ble_eq_true rfl, Nat.le_of_ble_eq_true rfl⟩ hF hA hS (ce_rc_5 hK hA (ce_kf_7_2 hk)) hl rfl rfl (Nat.le_of_ble_eq_true rfl) dX7_act_64 ⟨Nat.le_of_ble_eq_true rfl, Nat.le_of_ble_eq_true rfl⟩ (fun H locs hA hS => ?_)
              refine lv_aload_n hx hb dX7_act_67 rfl (lv_at hl 0 rfl) ?_
              refine ce_g_7_0 hx hb hB hown hK hA hk ce_w223 dX7_act_68 ?_
              refine lv_iload_n hx hb dX7_act_71 rfl (lv_at hl 1 rfl) ?_
              refine lv_iload_n hx hb dX7_act_72 rfl (lv_at hl 2 rfl) ?_
              refine lv_iload_n hx hb dX7_act_73 rfl (lv_at hl 3 rfl) ?_
              refine lv_iload hx hb dX7_act_74 (lv_at hl 4 rfl) ?_
              obtain ⟨M19, x20, g21, h⟩ := ce_b2_e h
              refine ce_callVi (As := [.int a1, .int a2, .int x3, .int x4]) (rest := []) hx hb hml hown hB (c_X6_perform l X G b (ce_kf_7_0 hk) g21) ce_v_X6_perform ce_w444 ⟨Nat.le_of_ble_eq_true rfl, Nat.le_of_ble_eq_true rfl⟩ hF hA hS (ce_rc_6 hK hA (ce_kf_7_0 hk)) hl rfl rfl (Nat.le_of_ble_eq_true rfl) dX7_act_76 ⟨Nat.le_of_ble_eq_true rfl, Nat.le_of_ble_eq_true rfl⟩ (fun H locs hA hS => ?_)
              cases h
              exact ce_iretX hx hb hr hlocks hA hS (Nat.le_of_ble_eq_true rfl) (Nat.le_of_ble_eq_true rfl) dX7_act_79
            · have h := ce_ie c22 h
              cases h
              exact ce_out htb hlocks hce hcv hcl c22 ltc22 hA hS (Nat.le_of_ble_eq_true rfl) (Nat.le_of_ble_eq_true rfl)
          refine lv_icmp_eq (tgt := 52) hx hb dX7_act_45 (by decide) (fun c24 => ?_) (fun c24 => ?_)
          · have h := ce_it c24 h
            refine lv_iconst (v := 0) hx hb dX7_act_52 (by decide) ?_
            exact Ju14 0 h  _ _ _ hA hS (lv_sub hl [0, 1, 2, 3, 4] rfl)
          · have h := ce_ie c24 h
            refine lv_iconst (v := 1) hx hb dX7_act_48 (by decide) ?_
            refine lv_goto (tgt := 53) hx hb dX7_act_49 (by decide) ?_
            exact Ju14 1 h  _ _ _ hA hS (lv_sub hl [0, 1, 2, 3, 4] rfl)
        · have h := ce_ie c25 h
          cases h
          exact ce_out htb hlocks hce hcv hcl c25 ltc25 hA hS (Nat.le_of_ble_eq_true rfl) (Nat.le_of_ble_eq_true rfl)
      refine lv_icmp_eq (tgt := 38) hx hb dX7_act_31 (by decide) (fun c27 => ?_) (fun c27 => ?_)
      · have h := ce_it c27 h
        refine lv_iconst (v := 0) hx hb dX7_act_38 (by decide) ?_
        exact Ju10 0 h  _ _ _ hA hS (lv_sub hl [0, 1, 2, 3, 4, 5] rfl)
      · have h := ce_ie c27 h
        refine lv_iconst (v := 1) hx hb dX7_act_34 (by decide) ?_
        refine lv_goto (tgt := 39) hx hb dX7_act_35 (by decide) ?_
        exact Ju10 1 h  _ _ _ hA hS (lv_sub hl [0, 1, 2, 3, 4, 5] rfl)
    · have h := ce_ie c28 h
      cases h
      exact ce_out htb hlocks hce hcv hcl c28 ltc28 hA hS (Nat.le_of_ble_eq_true rfl) (Nat.le_of_ble_eq_true rfl)
  refine lv_icmp_eq (tgt := 24) hx hb dX7_act_17 (by decide) (fun c30 => ?_) (fun c30 => ?_)
  · have h := ce_it c30 h
    refine lv_iconst (v := 0) hx hb dX7_act_24 (by decide) ?_
    exact Ju6 a3 a4 0 h  _ _ _ hA hS (lv_sub hl [1, 2, 3, 4, 5, 0] rfl)
  · have h := ce_ie c30 h
    refine lv_iconst (v := 1) hx hb dX7_act_20 (by decide) ?_
    refine lv_goto (tgt := 25) hx hb dX7_act_21 (by decide) ?_
    exact Ju6 a3 a4 1 h  _ _ _ hA hS (lv_sub hl [1, 2, 3, 4, 5, 0] rfl)
def f_X7_subscribe (k : Nat) (M : ce_M) (a1 : Int32) (a2 : Int32) (a3 : Int32) : Option (ce_M × Int32 × Nat) :=
  ce_b3 (f_X7_act k M 0 a1 a2 a3) (fun (M1 : ce_M) (x2 : Int32) (t3 : Nat) =>
  if t3 = 0 then
    some (M1, x2, 0)
  else
    some (M1, 0, t3))
set_option maxRecDepth 100000 in
set_option maxHeartbeats 4000000 in
theorem c_X7_subscribe (l : Launch) (hfl : l.stackTraces = false) (X : ce_X) (G : ce_G) (b : Nat) {k : Nat} {a1 : Int32} {a2 : Int32} {a3 : Int32} {M : ce_M} (hk : ce_kd k = 7) {M' : ce_M} {r : Int32} {tc : Nat} (h : f_X7_subscribe k M a1 a2 a3 = some (M', r, tc)) : ce_CtX l yX7_subscribe cX7_subscribe 4 (some .int) 8 159 3 18 X G b [.ref (b + k), .int a1, .int a2, .int a3] M (some (.int r)) M' tc := by
  refine ce_ofWX (own := RX7) (by decide) rfl (Nat.le_of_ble_eq_true rfl) (fun p e s m below meth c ls hx hb hr hlocks hml hown hB hF hA hl hS htb => ?_)
  have hK := hF.1
  have hl : lv_has ls 4 [(0, .ref (b + k)), (1, .int a1), (2, .int a2), (3, .int a3)] := hl
  unfold f_X7_subscribe at h
  refine lv_aload_n hx hb dX7_subscribe_0 rfl (lv_at hl 0 rfl) ?_
  refine lv_iconst (v := 0) hx hb dX7_subscribe_1 (by decide) ?_
  refine lv_iload_n hx hb dX7_subscribe_2 rfl (lv_at hl 1 rfl) ?_
  refine lv_iload_n hx hb dX7_subscribe_3 rfl (lv_at hl 2 rfl) ?_
  refine lv_iload_n hx hb dX7_subscribe_4 rfl (lv_at hl 3 rfl) ?_
  obtain ⟨M1, x2, t3, g4, h⟩ := ce_b3_e h
  refine ce_callVXi (As := [.int 0, .int a1, .int a2, .int a3]) (rest := []) hx hb hml hown hB (c_X7_act l hfl X G b hk g4) ce_v_X7_act ce_w254 ⟨Nat.le_of_ble_eq_true rfl, Nat.le_of_ble_eq_true rfl⟩ hF hA hS (ce_rc_7 hK hA hk) hl rfl rfl (Nat.le_of_ble_eq_true rfl) dX7_subscribe_5 ⟨(Nat.le_of_ble_eq_true rfl), (Nat.le_of_ble_eq_true rfl)⟩ (fun c5 H locs hA hS => ?_) (fun c5 ltc5 ce qq H locs hA hS hce hcv hcl => ?_)
  · have h := ce_it c5 h
    cases h
    exact ce_iretX hx hb hr hlocks hA hS (Nat.le_of_ble_eq_true rfl) (Nat.le_of_ble_eq_true rfl) dX7_subscribe_8
  · have h := ce_ie c5 h
    cases h
    exact ce_out htb hlocks hce hcv hcl c5 ltc5 hA hS (Nat.le_of_ble_eq_true rfl) (Nat.le_of_ble_eq_true rfl)
def f_X7_move (k : Nat) (M : ce_M) (a1 : Int32) (a2 : Int32) : Option (ce_M × Int32 × Nat) :=
  ce_b3 (f_X7_act k M 1 a1 a2 0) (fun (M1 : ce_M) (x2 : Int32) (t3 : Nat) =>
  if t3 = 0 then
    some (M1, x2, 0)
  else
    some (M1, 0, t3))
set_option maxRecDepth 100000 in
set_option maxHeartbeats 4000000 in
theorem c_X7_move (l : Launch) (hfl : l.stackTraces = false) (X : ce_X) (G : ce_G) (b : Nat) {k : Nat} {a1 : Int32} {a2 : Int32} {M : ce_M} (hk : ce_kd k = 7) {M' : ce_M} {r : Int32} {tc : Nat} (h : f_X7_move k M a1 a2 = some (M', r, tc)) : ce_CtX l yX7_move cX7_move 3 (some .int) 8 159 3 18 X G b [.ref (b + k), .int a1, .int a2] M (some (.int r)) M' tc := by
  refine ce_ofWX (own := RX7) (by decide) rfl (Nat.le_of_ble_eq_true rfl) (fun p e s m below meth c ls hx hb hr hlocks hml hown hB hF hA hl hS htb => ?_)
  have hK := hF.1
  have hl : lv_has ls 3 [(0, .ref (b + k)), (1, .int a1), (2, .int a2)] := hl
  unfold f_X7_move at h
  refine lv_aload_n hx hb dX7_move_0 rfl (lv_at hl 0 rfl) ?_
  refine lv_iconst (v := 1) hx hb dX7_move_1 (by decide) ?_
  refine lv_iload_n hx hb dX7_move_2 rfl (lv_at hl 1 rfl) ?_
  refine lv_iload_n hx hb dX7_move_3 rfl (lv_at hl 2 rfl) ?_
  refine lv_iconst (v := 0) hx hb dX7_move_4 (by decide) ?_
  obtain ⟨M1, x2, t3, g4, h⟩ := ce_b3_e h
  refine ce_callVXi (As := [.int 1, .int a1, .int a2, .int 0]) (rest := []) hx hb hml hown hB (c_X7_act l hfl X G b hk g4) ce_v_X7_act ce_w254 ⟨Nat.le_of_ble_eq_true rfl, Nat.le_of_ble_eq_true rfl⟩ hF hA hS (ce_rc_7 hK hA hk) hl rfl rfl (Nat.le_of_ble_eq_true rfl) dX7_move_5 ⟨(Nat.le_of_ble_eq_true rfl), (Nat.le_of_ble_eq_true rfl)⟩ (fun c5 H locs hA hS => ?_) (fun c5 ltc5 ce qq H locs hA hS hce hcv hcl => ?_)
  · have h := ce_it c5 h
    cases h
    exact ce_iretX hx hb hr hlocks hA hS (Nat.le_of_ble_eq_true rfl) (Nat.le_of_ble_eq_true rfl) dX7_move_8
  · have h := ce_ie c5 h
    cases h
    exact ce_out htb hlocks hce hcv hcl c5 ltc5 hA hS (Nat.le_of_ble_eq_true rfl) (Nat.le_of_ble_eq_true rfl)
def f_X7_leave (k : Nat) (M : ce_M) (a1 : Int32) : Option (ce_M × Int32 × Nat) :=
  ce_b3 (f_X7_act k M 2 a1 0 0) (fun (M1 : ce_M) (x2 : Int32) (t3 : Nat) =>
  if t3 = 0 then
    some (M1, x2, 0)
  else
    some (M1, 0, t3))
set_option maxRecDepth 100000 in
set_option maxHeartbeats 4000000 in
theorem c_X7_leave (l : Launch) (hfl : l.stackTraces = false) (X : ce_X) (G : ce_G) (b : Nat) {k : Nat} {a1 : Int32} {M : ce_M} (hk : ce_kd k = 7) {M' : ce_M} {r : Int32} {tc : Nat} (h : f_X7_leave k M a1 = some (M', r, tc)) : ce_CtX l yX7_leave cX7_leave 2 (some .int) 8 159 3 18 X G b [.ref (b + k), .int a1] M (some (.int r)) M' tc := by
  refine ce_ofWX (own := RX7) (by decide) rfl (Nat.le_of_ble_eq_true rfl) (fun p e s m below meth c ls hx hb hr hlocks hml hown hB hF hA hl hS htb => ?_)
  have hK := hF.1
  have hl : lv_has ls 2 [(0, .ref (b + k)), (1, .int a1)] := hl
  unfold f_X7_leave at h
  refine lv_aload_n hx hb dX7_leave_0 rfl (lv_at hl 0 rfl) ?_
  refine lv_iconst (v := 2) hx hb dX7_leave_1 (by decide) ?_
  refine lv_iload_n hx hb dX7_leave_2 rfl (lv_at hl 1 rfl) ?_
  refine lv_iconst (v := 0) hx hb dX7_leave_3 (by decide) ?_
  refine lv_iconst (v := 0) hx hb dX7_leave_4 (by decide) ?_
  obtain ⟨M1, x2, t3, g4, h⟩ := ce_b3_e h
  refine ce_callVXi (As := [.int 2, .int a1, .int 0, .int 0]) (rest := []) hx hb hml hown hB (c_X7_act l hfl X G b hk g4) ce_v_X7_act ce_w254 ⟨Nat.le_of_ble_eq_true rfl, Nat.le_of_ble_eq_true rfl⟩ hF hA hS (ce_rc_7 hK hA hk) hl rfl rfl (Nat.le_of_ble_eq_true rfl) dX7_leave_5 ⟨(Nat.le_of_ble_eq_true rfl), (Nat.le_of_ble_eq_true rfl)⟩ (fun c5 H locs hA hS => ?_) (fun c5 ltc5 ce qq H locs hA hS hce hcv hcl => ?_)
  · have h := ce_it c5 h
    cases h
    exact ce_iretX hx hb hr hlocks hA hS (Nat.le_of_ble_eq_true rfl) (Nat.le_of_ble_eq_true rfl) dX7_leave_8
  · have h := ce_ie c5 h
    cases h
    exact ce_out htb hlocks hce hcv hcl c5 ltc5 hA hS (Nat.le_of_ble_eq_true rfl) (Nat.le_of_ble_eq_true rfl)
def f_X7_setLevel (k : Nat) (M : ce_M) (a1 : Int32) (a2 : Int32) : Option (ce_M × Int32 × Nat) :=
  ce_b3 (f_X7_act k M 7 a1 a2 0) (fun (M1 : ce_M) (x2 : Int32) (t3 : Nat) =>
  if t3 = 0 then
    some (M1, x2, 0)
  else
    some (M1, 0, t3))
set_option maxRecDepth 100000 in
set_option maxHeartbeats 4000000 in
theorem c_X7_setLevel (l : Launch) (hfl : l.stackTraces = false) (X : ce_X) (G : ce_G) (b : Nat) {k : Nat} {a1 : Int32} {a2 : Int32} {M : ce_M} (hk : ce_kd k = 7) {M' : ce_M} {r : Int32} {tc : Nat} (h : f_X7_setLevel k M a1 a2 = some (M', r, tc)) : ce_CtX l yX7_setLevel cX7_setLevel 3 (some .int) 8 159 3 18 X G b [.ref (b + k), .int a1, .int a2] M (some (.int r)) M' tc := by
  refine ce_ofWX (own := RX7) (by decide) rfl (Nat.le_of_ble_eq_true rfl) (fun p e s m below meth c ls hx hb hr hlocks hml hown hB hF hA hl hS htb => ?_)
  have hK := hF.1
  have hl : lv_has ls 3 [(0, .ref (b + k)), (1, .int a1), (2, .int a2)] := hl
  unfold f_X7_setLevel at h
  refine lv_aload_n hx hb dX7_setLevel_0 rfl (lv_at hl 0 rfl) ?_
  refine lv_bipush (v := 7) hx hb dX7_setLevel_1 (by decide) ?_
  refine lv_iload_n hx hb dX7_setLevel_3 rfl (lv_at hl 1 rfl) ?_
  refine lv_iload_n hx hb dX7_setLevel_4 rfl (lv_at hl 2 rfl) ?_
  refine lv_iconst (v := 0) hx hb dX7_setLevel_5 (by decide) ?_
  obtain ⟨M1, x2, t3, g4, h⟩ := ce_b3_e h
  refine ce_callVXi (As := [.int 7, .int a1, .int a2, .int 0]) (rest := []) hx hb hml hown hB (c_X7_act l hfl X G b hk g4) ce_v_X7_act ce_w254 ⟨Nat.le_of_ble_eq_true rfl, Nat.le_of_ble_eq_true rfl⟩ hF hA hS (ce_rc_7 hK hA hk) hl rfl rfl (Nat.le_of_ble_eq_true rfl) dX7_setLevel_6 ⟨(Nat.le_of_ble_eq_true rfl), (Nat.le_of_ble_eq_true rfl)⟩ (fun c5 H locs hA hS => ?_) (fun c5 ltc5 ce qq H locs hA hS hce hcv hcl => ?_)
  · have h := ce_it c5 h
    cases h
    exact ce_iretX hx hb hr hlocks hA hS (Nat.le_of_ble_eq_true rfl) (Nat.le_of_ble_eq_true rfl) dX7_setLevel_9
  · have h := ce_ie c5 h
    cases h
    exact ce_out htb hlocks hce hcv hcl c5 ltc5 hA hS (Nat.le_of_ble_eq_true rfl) (Nat.le_of_ble_eq_true rfl)
def f_X7_set (k : Nat) (M : ce_M) (a1 : Int32) (a2 : Int32) : Option (ce_M × Int32 × Nat) :=
  ce_b3 (f_X7_act k M 5 a1 a2 0) (fun (M1 : ce_M) (x2 : Int32) (t3 : Nat) =>
  if t3 = 0 then
    some (M1, x2, 0)
  else
    some (M1, 0, t3))
set_option maxRecDepth 100000 in
set_option maxHeartbeats 4000000 in
theorem c_X7_set (l : Launch) (hfl : l.stackTraces = false) (X : ce_X) (G : ce_G) (b : Nat) {k : Nat} {a1 : Int32} {a2 : Int32} {M : ce_M} (hk : ce_kd k = 7) {M' : ce_M} {r : Int32} {tc : Nat} (h : f_X7_set k M a1 a2 = some (M', r, tc)) : ce_CtX l yX7_set cX7_set 3 (some .int) 8 159 3 18 X G b [.ref (b + k), .int a1, .int a2] M (some (.int r)) M' tc := by
  refine ce_ofWX (own := RX7) (by decide) rfl (Nat.le_of_ble_eq_true rfl) (fun p e s m below meth c ls hx hb hr hlocks hml hown hB hF hA hl hS htb => ?_)
  have hK := hF.1
  have hl : lv_has ls 3 [(0, .ref (b + k)), (1, .int a1), (2, .int a2)] := hl
  unfold f_X7_set at h
  refine lv_aload_n hx hb dX7_set_0 rfl (lv_at hl 0 rfl) ?_
  refine lv_iconst (v := 5) hx hb dX7_set_1 (by decide) ?_
  refine lv_iload_n hx hb dX7_set_2 rfl (lv_at hl 1 rfl) ?_
  refine lv_iload_n hx hb dX7_set_3 rfl (lv_at hl 2 rfl) ?_
  refine lv_iconst (v := 0) hx hb dX7_set_4 (by decide) ?_
  obtain ⟨M1, x2, t3, g4, h⟩ := ce_b3_e h
  refine ce_callVXi (As := [.int 5, .int a1, .int a2, .int 0]) (rest := []) hx hb hml hown hB (c_X7_act l hfl X G b hk g4) ce_v_X7_act ce_w254 ⟨Nat.le_of_ble_eq_true rfl, Nat.le_of_ble_eq_true rfl⟩ hF hA hS (ce_rc_7 hK hA hk) hl rfl rfl (Nat.le_of_ble_eq_true rfl) dX7_set_5 ⟨(Nat.le_of_ble_eq_true rfl), (Nat.le_of_ble_eq_true rfl)⟩ (fun c5 H locs hA hS => ?_) (fun c5 ltc5 ce qq H locs hA hS hce hcv hcl => ?_)
  · have h := ce_it c5 h
    cases h
    exact ce_iretX hx hb hr hlocks hA hS (Nat.le_of_ble_eq_true rfl) (Nat.le_of_ble_eq_true rfl) dX7_set_8
  · have h := ce_ie c5 h
    cases h
    exact ce_out htb hlocks hce hcv hcl c5 ltc5 hA hS (Nat.le_of_ble_eq_true rfl) (Nat.le_of_ble_eq_true rfl)
def f_X7_publish (k : Nat) (M : ce_M) (a1 : Int32) (a2 : Int32) (a3 : Int32) : Option (ce_M × Int32 × Nat) :=
  ce_b3 (f_X7_act k M 4 a1 a2 a3) (fun (M1 : ce_M) (x2 : Int32) (t3 : Nat) =>
  if t3 = 0 then
    some (M1, x2, 0)
  else
    some (M1, 0, t3))
set_option maxRecDepth 100000 in
set_option maxHeartbeats 4000000 in
theorem c_X7_publish (l : Launch) (hfl : l.stackTraces = false) (X : ce_X) (G : ce_G) (b : Nat) {k : Nat} {a1 : Int32} {a2 : Int32} {a3 : Int32} {M : ce_M} (hk : ce_kd k = 7) {M' : ce_M} {r : Int32} {tc : Nat} (h : f_X7_publish k M a1 a2 a3 = some (M', r, tc)) : ce_CtX l yX7_publish cX7_publish 4 (some .int) 8 159 3 18 X G b [.ref (b + k), .int a1, .int a2, .int a3] M (some (.int r)) M' tc := by
  refine ce_ofWX (own := RX7) (by decide) rfl (Nat.le_of_ble_eq_true rfl) (fun p e s m below meth c ls hx hb hr hlocks hml hown hB hF hA hl hS htb => ?_)
  have hK := hF.1
  have hl : lv_has ls 4 [(0, .ref (b + k)), (1, .int a1), (2, .int a2), (3, .int a3)] := hl
  unfold f_X7_publish at h
  refine lv_aload_n hx hb dX7_publish_0 rfl (lv_at hl 0 rfl) ?_
  refine lv_iconst (v := 4) hx hb dX7_publish_1 (by decide) ?_
  refine lv_iload_n hx hb dX7_publish_2 rfl (lv_at hl 1 rfl) ?_
  refine lv_iload_n hx hb dX7_publish_3 rfl (lv_at hl 2 rfl) ?_
  refine lv_iload_n hx hb dX7_publish_4 rfl (lv_at hl 3 rfl) ?_
  obtain ⟨M1, x2, t3, g4, h⟩ := ce_b3_e h
  refine ce_callVXi (As := [.int 4, .int a1, .int a2, .int a3]) (rest := []) hx hb hml hown hB (c_X7_act l hfl X G b hk g4) ce_v_X7_act ce_w254 ⟨Nat.le_of_ble_eq_true rfl, Nat.le_of_ble_eq_true rfl⟩ hF hA hS (ce_rc_7 hK hA hk) hl rfl rfl (Nat.le_of_ble_eq_true rfl) dX7_publish_5 ⟨(Nat.le_of_ble_eq_true rfl), (Nat.le_of_ble_eq_true rfl)⟩ (fun c5 H locs hA hS => ?_) (fun c5 ltc5 ce qq H locs hA hS hce hcv hcl => ?_)
  · have h := ce_it c5 h
    cases h
    exact ce_iretX hx hb hr hlocks hA hS (Nat.le_of_ble_eq_true rfl) (Nat.le_of_ble_eq_true rfl) dX7_publish_8
  · have h := ce_ie c5 h
    cases h
    exact ce_out htb hlocks hce hcv hcl c5 ltc5 hA hS (Nat.le_of_ble_eq_true rfl) (Nat.le_of_ble_eq_true rfl)
def f_X7_pass (k : Nat) (M : ce_M) (a1 : Int32) : Option (ce_M × Int32 × Nat) :=
  ce_b3 (f_X7_act k M 6 a1 0 0) (fun (M1 : ce_M) (x2 : Int32) (t3 : Nat) =>
  if t3 = 0 then
    some (M1, x2, 0)
  else
    some (M1, 0, t3))
set_option maxRecDepth 100000 in
set_option maxHeartbeats 4000000 in
theorem c_X7_pass (l : Launch) (hfl : l.stackTraces = false) (X : ce_X) (G : ce_G) (b : Nat) {k : Nat} {a1 : Int32} {M : ce_M} (hk : ce_kd k = 7) {M' : ce_M} {r : Int32} {tc : Nat} (h : f_X7_pass k M a1 = some (M', r, tc)) : ce_CtX l yX7_pass cX7_pass 2 (some .int) 8 159 3 18 X G b [.ref (b + k), .int a1] M (some (.int r)) M' tc := by
  refine ce_ofWX (own := RX7) (by decide) rfl (Nat.le_of_ble_eq_true rfl) (fun p e s m below meth c ls hx hb hr hlocks hml hown hB hF hA hl hS htb => ?_)
  have hK := hF.1
  have hl : lv_has ls 2 [(0, .ref (b + k)), (1, .int a1)] := hl
  unfold f_X7_pass at h
  refine lv_aload_n hx hb dX7_pass_0 rfl (lv_at hl 0 rfl) ?_
  refine lv_bipush (v := 6) hx hb dX7_pass_1 (by decide) ?_
  refine lv_iload_n hx hb dX7_pass_3 rfl (lv_at hl 1 rfl) ?_
  refine lv_iconst (v := 0) hx hb dX7_pass_4 (by decide) ?_
  refine lv_iconst (v := 0) hx hb dX7_pass_5 (by decide) ?_
  obtain ⟨M1, x2, t3, g4, h⟩ := ce_b3_e h
  refine ce_callVXi (As := [.int 6, .int a1, .int 0, .int 0]) (rest := []) hx hb hml hown hB (c_X7_act l hfl X G b hk g4) ce_v_X7_act ce_w254 ⟨Nat.le_of_ble_eq_true rfl, Nat.le_of_ble_eq_true rfl⟩ hF hA hS (ce_rc_7 hK hA hk) hl rfl rfl (Nat.le_of_ble_eq_true rfl) dX7_pass_6 ⟨(Nat.le_of_ble_eq_true rfl), (Nat.le_of_ble_eq_true rfl)⟩ (fun c5 H locs hA hS => ?_) (fun c5 ltc5 ce qq H locs hA hS hce hcv hcl => ?_)
  · have h := ce_it c5 h
    cases h
    exact ce_iretX hx hb hr hlocks hA hS (Nat.le_of_ble_eq_true rfl) (Nat.le_of_ble_eq_true rfl) dX7_pass_9
  · have h := ce_ie c5 h
    cases h
    exact ce_out htb hlocks hce hcv hcl c5 ltc5 hA hS (Nat.le_of_ble_eq_true rfl) (Nat.le_of_ble_eq_true rfl)
def f_X7_subscriber (k : Nat) (M : ce_M) (a1 : Int32) (a2 : Int32) : Option (Int32 × Nat) :=
  ce_b1 (f_X6_isSubscriber (k + 1) M a1) (fun (x1 : Int32) =>
  ce_b1 (f_X7_needIndex M x1) (fun (t3 : Nat) =>
  if t3 = 0 then
    ce_b1 (f_X7_isBelow M a2 12) (fun (x5 : Int32) =>
    ce_b1 (f_X7_needArgument M x5) (fun (t7 : Nat) =>
    if t7 = 0 then
      ce_gi a1 8 (ce_nm (((k + 1) + 2) + (10 + 7 * (Int32.toNatClampNeg a1))) (fun (k9 : Nat) =>
      ce_b1 (f_X4_valueOf k9 M a2) (fun (x12 : Int32) =>
      some (x12, 0))))
    else
      some (0, t7)))
  else
    some (0, t3)))
set_option maxRecDepth 100000 in
set_option maxHeartbeats 4000000 in
theorem c_X7_subscriber (l : Launch) (hfl : l.stackTraces = false) (X : ce_X) (G : ce_G) (b : Nat) {k : Nat} {a1 : Int32} {a2 : Int32} {M : ce_M} (hk : ce_kd k = 7) {r : Int32} {tc : Nat} (h : f_X7_subscriber k M a1 a2 = some (r, tc)) : ce_CtX l yX7_subscriber cX7_subscriber 3 (some .int) 7 101 2 12 X G b [.ref (b + k), .int a1, .int a2] M (some (.int r)) M tc := by
  refine ce_ofWX (own := RX7) (by decide) rfl (Nat.le_of_ble_eq_true rfl) (fun p e s m below meth c ls hx hb hr hlocks hml hown hB hF hA hl hS htb => ?_)
  have hK := hF.1
  have hl : lv_has ls 3 [(0, .ref (b + k)), (1, .int a1), (2, .int a2)] := hl
  unfold f_X7_subscriber at h
  refine lv_aload_n hx hb dX7_subscriber_0 rfl (lv_at hl 0 rfl) ?_
  refine ce_g_7_0 hx hb hB hown hK hA hk ce_w223 dX7_subscriber_1 ?_
  refine lv_iload_n hx hb dX7_subscriber_4 rfl (lv_at hl 1 rfl) ?_
  obtain ⟨x1, g2, h⟩ := ce_b1_e h
  refine ce_callVi (As := [.int a1]) (rest := []) hx hb hml hown hB (c_X6_isSubscriber l X G b (ce_kf_7_0 hk) g2) ce_v_X6_isSubscriber ce_w626 ⟨Nat.le_of_ble_eq_true rfl, Nat.le_of_ble_eq_true rfl⟩ hF hA hS (ce_rc_6 hK hA (ce_kf_7_0 hk)) hl rfl rfl (Nat.le_of_ble_eq_true rfl) dX7_subscriber_5 ⟨Nat.le_of_ble_eq_true rfl, Nat.le_of_ble_eq_true rfl⟩ (fun H locs hA hS => ?_)
  obtain ⟨t3, g4, h⟩ := ce_b1_e h
  refine ce_callSXv (As := [.int x1]) (rest := []) hx hb hml hown hB (c_X7_needIndex l hfl X G b  g4) ce_s_X7_needIndex ce_w309 ⟨Nat.le_of_ble_eq_true rfl, Nat.le_of_ble_eq_true rfl⟩ hF hA hS hl rfl rfl (Nat.le_of_ble_eq_true rfl) dX7_subscriber_8 ⟨(Nat.le_of_ble_eq_true rfl), (Nat.le_of_ble_eq_true rfl)⟩ (fun c15 H locs hA hS => ?_) (fun c15 ltc15 ce qq H locs hA hS hce hcv hcl => ?_)
  · have h := ce_it c15 h
    refine lv_iload_n hx hb dX7_subscriber_11 rfl (lv_at hl 2 rfl) ?_
    refine lv_bipush (v := 12) hx hb dX7_subscriber_12 (by decide) ?_
    obtain ⟨x5, g6, h⟩ := ce_b1_e h
    refine ce_callSi (As := [.int a2, .int 12]) (rest := []) hx hb hml hown hB (c_X7_isBelow l X G b  g6) ce_s_X7_isBelow ce_w586 ⟨Nat.le_of_ble_eq_true rfl, Nat.le_of_ble_eq_true rfl⟩ hF hA hS hl rfl rfl (Nat.le_of_ble_eq_true rfl) dX7_subscriber_14 ⟨Nat.le_of_ble_eq_true rfl, Nat.le_of_ble_eq_true rfl⟩ (fun H locs hA hS => ?_)
    obtain ⟨t7, g8, h⟩ := ce_b1_e h
    refine ce_callSXv (As := [.int x5]) (rest := []) hx hb hml hown hB (c_X7_needArgument l hfl X G b  g8) ce_s_X7_needArgument ce_w375 ⟨Nat.le_of_ble_eq_true rfl, Nat.le_of_ble_eq_true rfl⟩ hF hA hS hl rfl rfl (Nat.le_of_ble_eq_true rfl) dX7_subscriber_17 ⟨(Nat.le_of_ble_eq_true rfl), (Nat.le_of_ble_eq_true rfl)⟩ (fun c14 H locs hA hS => ?_) (fun c14 ltc14 ce qq H locs hA hS hce hcv hcl => ?_)
    · have h := ce_it c14 h
      refine lv_aload_n hx hb dX7_subscriber_20 rfl (lv_at hl 0 rfl) ?_
      refine ce_g_7_0 hx hb hB hown hK hA hk ce_w223 dX7_subscriber_21 ?_
      refine ce_g_6_1 hx hb hB hown hK hA (ce_kf_7_0 hk) ce_w157 dX7_subscriber_24 ?_
      refine lv_iload_n hx hb dX7_subscriber_27 rfl (lv_at hl 1 rfl) ?_
      obtain ⟨i10, h⟩ := ce_gi_e h
      obtain ⟨k9, e11, h⟩ := ce_nm_e h
      have hk9 : ce_kd k9 = 4 := e11 ▸ ce_kf_sub (ce_kf_6_1 (ce_kf_7_0 hk)) (ce_in_lt i10)
      refine ce_aaldS hx hb hK hA (ce_kf_6_1 (ce_kf_7_0 hk)) i10 dX7_subscriber_28 ?_
      refine ce_topr e11 ?_
      refine lv_iload_n hx hb dX7_subscriber_29 rfl (lv_at hl 2 rfl) ?_
      obtain ⟨x12, g13, h⟩ := ce_b1_e h
      refine ce_callVi (As := [.int a2]) (rest := []) hx hb hml hown hB (c_X4_valueOf l X G b hk9 g13) ce_v_X4_valueOf ce_w627 ⟨Nat.le_of_ble_eq_true rfl, Nat.le_of_ble_eq_true rfl⟩ hF hA hS (ce_rc_4 hK hA hk9) hl rfl rfl (Nat.le_of_ble_eq_true rfl) dX7_subscriber_30 ⟨Nat.le_of_ble_eq_true rfl, Nat.le_of_ble_eq_true rfl⟩ (fun H locs hA hS => ?_)
      cases h
      exact ce_iretX hx hb hr hlocks hA hS (Nat.le_of_ble_eq_true rfl) (Nat.le_of_ble_eq_true rfl) dX7_subscriber_33
    · have h := ce_ie c14 h
      cases h
      exact ce_out htb hlocks hce hcv hcl c14 ltc14 hA hS (Nat.le_of_ble_eq_true rfl) (Nat.le_of_ble_eq_true rfl)
  · have h := ce_ie c15 h
    cases h
    exact ce_out htb hlocks hce hcv hcl c15 ltc15 hA hS (Nat.le_of_ble_eq_true rfl) (Nat.le_of_ble_eq_true rfl)
def f_X7_stay (k : Nat) (M : ce_M) (a1 : Int32) (a2 : Int32) (a3 : Int32) : Option (Int32 × Nat) :=
  ce_b1 (f_X6_isSubscriber (k + 1) M a1) (fun (x1 : Int32) =>
  ce_b1 (f_X7_needIndex M x1) (fun (t3 : Nat) =>
  if t3 = 0 then
    ce_nm (fun (x7 : Int32) =>
      ce_b1 (f_X7_needArgument M x7) (fun (t9 : Nat) =>
      if t9 = 0 then
        ce_gi a1 8 (ce_nm (((k + 1) + 2) + (10 + 7 * (Int32.toNatClampNeg a1))) (fun (k11 : Nat) =>
        ce_b1 (f_X3_valueOf (k11 + 1) M a2 a3) (fun (x14 : Int32) =>
        some (x14, 0))))
      else
        some (0, t9))) (fun (u8 : Int32 → Option (Int32 × Nat)) =>
    ce_nm (fun (z6 : Unit) =>
      u8 0) (fun (u5 : Unit → Option (Int32 × Nat)) =>
    if a2 < 0 then
      u5 ()
    else
      ce_b1 (f_X7_isBelow M a3 3) (fun (x20 : Int32) =>
      if x20 = 0 then
        u5 ()
      else
        u8 1)))
  else
    some (0, t3)))
set_option maxRecDepth 100000 in
set_option maxHeartbeats 4000000 in
theorem c_X7_stay (l : Launch) (hfl : l.stackTraces = false) (X : ce_X) (G : ce_G) (b : Nat) {k : Nat} {a1 : Int32} {a2 : Int32} {a3 : Int32} {M : ce_M} (hk : ce_kd k = 7) {r : Int32} {tc : Nat} (h : f_X7_stay k M a1 a2 a3 = some (r, tc)) : ce_CtX l yX7_stay cX7_stay 4 (some .int) 7 101 2 12 X G b [.ref (b + k), .int a1, .int a2, .int a3] M (some (.int r)) M tc := by
  refine ce_ofWX (own := RX7) (by decide) rfl (Nat.le_of_ble_eq_true rfl) (fun p e s m below meth c ls hx hb hr hlocks hml hown hB hF hA hl hS htb => ?_)
  have hK := hF.1
  have hl : lv_has ls 4 [(0, .ref (b + k)), (1, .int a1), (2, .int a2), (3, .int a3)] := hl
  unfold f_X7_stay at h
  refine lv_aload_n hx hb dX7_stay_0 rfl (lv_at hl 0 rfl) ?_
  refine ce_g_7_0 hx hb hB hown hK hA hk ce_w223 dX7_stay_1 ?_
  refine lv_iload_n hx hb dX7_stay_4 rfl (lv_at hl 1 rfl) ?_
  obtain ⟨x1, g2, h⟩ := ce_b1_e h
  refine ce_callVi (As := [.int a1]) (rest := []) hx hb hml hown hB (c_X6_isSubscriber l X G b (ce_kf_7_0 hk) g2) ce_v_X6_isSubscriber ce_w626 ⟨Nat.le_of_ble_eq_true rfl, Nat.le_of_ble_eq_true rfl⟩ hF hA hS (ce_rc_6 hK hA (ce_kf_7_0 hk)) hl rfl rfl (Nat.le_of_ble_eq_true rfl) dX7_stay_5 ⟨Nat.le_of_ble_eq_true rfl, Nat.le_of_ble_eq_true rfl⟩ (fun H locs hA hS => ?_)
  obtain ⟨t3, g4, h⟩ := ce_b1_e h
  refine ce_callSXv (As := [.int x1]) (rest := []) hx hb hml hown hB (c_X7_needIndex l hfl X G b  g4) ce_s_X7_needIndex ce_w309 ⟨Nat.le_of_ble_eq_true rfl, Nat.le_of_ble_eq_true rfl⟩ hF hA hS hl rfl rfl (Nat.le_of_ble_eq_true rfl) dX7_stay_8 ⟨(Nat.le_of_ble_eq_true rfl), (Nat.le_of_ble_eq_true rfl)⟩ (fun c23 H locs hA hS => ?_) (fun c23 ltc23 ce qq H locs hA hS hce hcv hcl => ?_)
  · have h := ce_it c23 h
    refine lv_iload_n hx hb dX7_stay_11 rfl (lv_at hl 2 rfl) ?_
    obtain ⟨u8, e17, h⟩ := ce_nm_e h
    have Ju8 : ∀ (x7 : Int32), u8 x7 = some (r, tc) → ce_Wg p l e (ce_R 7 101 2 12) s m (([.ref (b + k), .int a1, .int a2, .int a3] : List Value).toArray) below meth c 1 6 (vx_MQ below (ce_QT X b M (some (.int r)) tc) (ce_XT X b M tc) ([.ref (b + k), .int a1, .int a2, .int a3] : List Value).toArray s 2 12 (ce_Ab b)) X b M 4 [(0, .ref (b + k)), (1, .int a1), (2, .int a2), (3, .int a3)] 28 [.int x7] := by
      intro x7 h  H locs ls hA hS hl
      subst e17
      obtain ⟨t9, g10, h⟩ := ce_b1_e h
      refine ce_callSXv (As := [.int x7]) (rest := []) hx hb hml hown hB (c_X7_needArgument l hfl X G b  g10) ce_s_X7_needArgument ce_w375 ⟨Nat.le_of_ble_eq_true rfl, Nat.le_of_ble_eq_true rfl⟩ hF hA hS hl rfl rfl (Nat.le_of_ble_eq_true rfl) dX7_stay_28 ⟨(Nat.le_of_ble_eq_true rfl), (Nat.le_of_ble_eq_true rfl)⟩ (fun c16 H locs hA hS => ?_) (fun c16 ltc16 ce qq H locs hA hS hce hcv hcl => ?_)
      · have h := ce_it c16 h
        refine lv_aload_n hx hb dX7_stay_31 rfl (lv_at hl 0 rfl) ?_
        refine ce_g_7_0 hx hb hB hown hK hA hk ce_w223 dX7_stay_32 ?_
        refine ce_g_6_1 hx hb hB hown hK hA (ce_kf_7_0 hk) ce_w157 dX7_stay_35 ?_
        refine lv_iload_n hx hb dX7_stay_38 rfl (lv_at hl 1 rfl) ?_
        obtain ⟨i12, h⟩ := ce_gi_e h
        obtain ⟨k11, e13, h⟩ := ce_nm_e h
        have hk11 : ce_kd k11 = 4 := e13 ▸ ce_kf_sub (ce_kf_6_1 (ce_kf_7_0 hk)) (ce_in_lt i12)
        refine ce_aaldS hx hb hK hA (ce_kf_6_1 (ce_kf_7_0 hk)) i12 dX7_stay_39 ?_
        refine ce_topr e13 ?_
        refine ce_g_4_0 hx hb hB hown hK hA hk11 ce_w104 dX7_stay_40 ?_
        refine lv_iload_n hx hb dX7_stay_43 rfl (lv_at hl 2 rfl) ?_
        refine lv_iload_n hx hb dX7_stay_44 rfl (lv_at hl 3 rfl) ?_
        obtain ⟨x14, g15, h⟩ := ce_b1_e h
        refine ce_callVi (As := [.int a2, .int a3]) (rest := []) hx hb hml hown hB (c_X3_valueOf l X G b (ce_kf_4_0 hk11) g15) ce_v_X3_valueOf ce_w635 ⟨Nat.le_of_ble_eq_true rfl, Nat.le_of_ble_eq_true rfl⟩ hF hA hS (ce_rc_3 hK hA (ce_kf_4_0 hk11)) hl rfl rfl (Nat.le_of_ble_eq_true rfl) dX7_stay_45 ⟨Nat.le_of_ble_eq_true rfl, Nat.le_of_ble_eq_true rfl⟩ (fun H locs hA hS => ?_)
        cases h
        exact ce_iretX hx hb hr hlocks hA hS (Nat.le_of_ble_eq_true rfl) (Nat.le_of_ble_eq_true rfl) dX7_stay_48
      · have h := ce_ie c16 h
        cases h
        exact ce_out htb hlocks hce hcv hcl c16 ltc16 hA hS (Nat.le_of_ble_eq_true rfl) (Nat.le_of_ble_eq_true rfl)
    obtain ⟨u5, e18, h⟩ := ce_nm_e h
    have Ju5 : ∀ (z6 : Unit), u5 z6 = some (r, tc) → ce_Wg p l e (ce_R 7 101 2 12) s m (([.ref (b + k), .int a1, .int a2, .int a3] : List Value).toArray) below meth c 1 6 (vx_MQ below (ce_QT X b M (some (.int r)) tc) (ce_XT X b M tc) ([.ref (b + k), .int a1, .int a2, .int a3] : List Value).toArray s 2 12 (ce_Ab b)) X b M 4 [(0, .ref (b + k)), (1, .int a1), (2, .int a2), (3, .int a3)] 27 [] := by
      intro z6 h  H locs ls hA hS hl
      subst e18
      refine lv_iconst (v := 0) hx hb dX7_stay_27 (by decide) ?_
      exact Ju8 0 h  _ _ _ hA hS (lv_sub hl [0, 1, 2, 3] rfl)
    refine lv_if_lt (tgt := 27) hx hb dX7_stay_12 (by decide) (fun c19 => ?_) (fun c19 => ?_)
    · have h := ce_it c19 h
      exact Ju5 () h  _ _ _ hA hS (lv_sub hl [0, 1, 2, 3] rfl)
    · have h := ce_ie c19 h
      refine lv_iload_n hx hb dX7_stay_15 rfl (lv_at hl 3 rfl) ?_
      refine lv_iconst (v := 3) hx hb dX7_stay_16 (by decide) ?_
      obtain ⟨x20, g21, h⟩ := ce_b1_e h
      refine ce_callSi (As := [.int a3, .int 3]) (rest := []) hx hb hml hown hB (c_X7_isBelow l X G b  g21) ce_s_X7_isBelow ce_w586 ⟨Nat.le_of_ble_eq_true rfl, Nat.le_of_ble_eq_true rfl⟩ hF hA hS hl rfl rfl (Nat.le_of_ble_eq_true rfl) dX7_stay_17 ⟨Nat.le_of_ble_eq_true rfl, Nat.le_of_ble_eq_true rfl⟩ (fun H locs hA hS => ?_)
      refine lv_if_eq (tgt := 27) hx hb dX7_stay_20 (by decide) (fun c22 => ?_) (fun c22 => ?_)
      · have h := ce_it c22 h
        exact Ju5 () h  _ _ _ hA hS (lv_sub hl [0, 1, 2, 3] rfl)
      · have h := ce_ie c22 h
        refine lv_iconst (v := 1) hx hb dX7_stay_23 (by decide) ?_
        refine lv_goto (tgt := 28) hx hb dX7_stay_24 (by decide) ?_
        exact Ju8 1 h  _ _ _ hA hS (lv_sub hl [0, 1, 2, 3] rfl)
  · have h := ce_ie c23 h
    cases h
    exact ce_out htb hlocks hce hcv hcl c23 ltc23 hA hS (Nat.le_of_ble_eq_true rfl) (Nat.le_of_ble_eq_true rfl)
def f_X7_waiting (k : Nat) (M : ce_M) (a1 : Int32) (a2 : Int32) : Option (Int32 × Nat) :=
  ce_b1 (f_X6_isSubscriber (k + 1) M a1) (fun (x1 : Int32) =>
  ce_b1 (f_X7_needIndex M x1) (fun (t3 : Nat) =>
  if t3 = 0 then
    ce_nm (fun (x5 : Int32) =>
      ce_b1 (f_X7_needArgument M x5) (fun (t7 : Nat) =>
      if t7 = 0 then
        ce_gi a1 8 (ce_nm (((k + 1) + 2) + (10 + 7 * (Int32.toNatClampNeg a1))) (fun (k9 : Nat) =>
        ce_b1 (f_X2_eventAt (k9 + 5) M a2) (fun (x12 : Int32) =>
        some (x12, 0))))
      else
        some (0, t7))) (fun (u6 : Int32 → Option (Int32 × Nat)) =>
    if a2 < 0 then
      u6 0
    else
      u6 1)
  else
    some (0, t3)))
set_option maxRecDepth 100000 in
set_option maxHeartbeats 4000000 in
theorem c_X7_waiting (l : Launch) (hfl : l.stackTraces = false) (X : ce_X) (G : ce_G) (b : Nat) {k : Nat} {a1 : Int32} {a2 : Int32} {M : ce_M} (hk : ce_kd k = 7) {r : Int32} {tc : Nat} (h : f_X7_waiting k M a1 a2 = some (r, tc)) : ce_CtX l yX7_waiting cX7_waiting 3 (some .int) 7 101 2 12 X G b [.ref (b + k), .int a1, .int a2] M (some (.int r)) M tc := by
  refine ce_ofWX (own := RX7) (by decide) rfl (Nat.le_of_ble_eq_true rfl) (fun p e s m below meth c ls hx hb hr hlocks hml hown hB hF hA hl hS htb => ?_)
  have hK := hF.1
  have hl : lv_has ls 3 [(0, .ref (b + k)), (1, .int a1), (2, .int a2)] := hl
  unfold f_X7_waiting at h
  refine lv_aload_n hx hb dX7_waiting_0 rfl (lv_at hl 0 rfl) ?_
  refine ce_g_7_0 hx hb hB hown hK hA hk ce_w223 dX7_waiting_1 ?_
  refine lv_iload_n hx hb dX7_waiting_4 rfl (lv_at hl 1 rfl) ?_
  obtain ⟨x1, g2, h⟩ := ce_b1_e h
  refine ce_callVi (As := [.int a1]) (rest := []) hx hb hml hown hB (c_X6_isSubscriber l X G b (ce_kf_7_0 hk) g2) ce_v_X6_isSubscriber ce_w626 ⟨Nat.le_of_ble_eq_true rfl, Nat.le_of_ble_eq_true rfl⟩ hF hA hS (ce_rc_6 hK hA (ce_kf_7_0 hk)) hl rfl rfl (Nat.le_of_ble_eq_true rfl) dX7_waiting_5 ⟨Nat.le_of_ble_eq_true rfl, Nat.le_of_ble_eq_true rfl⟩ (fun H locs hA hS => ?_)
  obtain ⟨t3, g4, h⟩ := ce_b1_e h
  refine ce_callSXv (As := [.int x1]) (rest := []) hx hb hml hown hB (c_X7_needIndex l hfl X G b  g4) ce_s_X7_needIndex ce_w309 ⟨Nat.le_of_ble_eq_true rfl, Nat.le_of_ble_eq_true rfl⟩ hF hA hS hl rfl rfl (Nat.le_of_ble_eq_true rfl) dX7_waiting_8 ⟨(Nat.le_of_ble_eq_true rfl), (Nat.le_of_ble_eq_true rfl)⟩ (fun c17 H locs hA hS => ?_) (fun c17 ltc17 ce qq H locs hA hS hce hcv hcl => ?_)
  · have h := ce_it c17 h
    refine lv_iload_n hx hb dX7_waiting_11 rfl (lv_at hl 2 rfl) ?_
    obtain ⟨u6, e15, h⟩ := ce_nm_e h
    have Ju6 : ∀ (x5 : Int32), u6 x5 = some (r, tc) → ce_Wg p l e (ce_R 7 101 2 12) s m (([.ref (b + k), .int a1, .int a2] : List Value).toArray) below meth c 1 6 (vx_MQ below (ce_QT X b M (some (.int r)) tc) (ce_XT X b M tc) ([.ref (b + k), .int a1, .int a2] : List Value).toArray s 2 12 (ce_Ab b)) X b M 3 [(0, .ref (b + k)), (1, .int a1), (2, .int a2)] 20 [.int x5] := by
      intro x5 h  H locs ls hA hS hl
      subst e15
      obtain ⟨t7, g8, h⟩ := ce_b1_e h
      refine ce_callSXv (As := [.int x5]) (rest := []) hx hb hml hown hB (c_X7_needArgument l hfl X G b  g8) ce_s_X7_needArgument ce_w375 ⟨Nat.le_of_ble_eq_true rfl, Nat.le_of_ble_eq_true rfl⟩ hF hA hS hl rfl rfl (Nat.le_of_ble_eq_true rfl) dX7_waiting_20 ⟨(Nat.le_of_ble_eq_true rfl), (Nat.le_of_ble_eq_true rfl)⟩ (fun c14 H locs hA hS => ?_) (fun c14 ltc14 ce qq H locs hA hS hce hcv hcl => ?_)
      · have h := ce_it c14 h
        refine lv_aload_n hx hb dX7_waiting_23 rfl (lv_at hl 0 rfl) ?_
        refine ce_g_7_0 hx hb hB hown hK hA hk ce_w223 dX7_waiting_24 ?_
        refine ce_g_6_1 hx hb hB hown hK hA (ce_kf_7_0 hk) ce_w157 dX7_waiting_27 ?_
        refine lv_iload_n hx hb dX7_waiting_30 rfl (lv_at hl 1 rfl) ?_
        obtain ⟨i10, h⟩ := ce_gi_e h
        obtain ⟨k9, e11, h⟩ := ce_nm_e h
        have hk9 : ce_kd k9 = 4 := e11 ▸ ce_kf_sub (ce_kf_6_1 (ce_kf_7_0 hk)) (ce_in_lt i10)
        refine ce_aaldS hx hb hK hA (ce_kf_6_1 (ce_kf_7_0 hk)) i10 dX7_waiting_31 ?_
        refine ce_topr e11 ?_
        refine ce_g_4_1 hx hb hB hown hK hA hk9 ce_w106 dX7_waiting_32 ?_
        refine lv_iload_n hx hb dX7_waiting_35 rfl (lv_at hl 2 rfl) ?_
        obtain ⟨x12, g13, h⟩ := ce_b1_e h
        refine ce_callVi (As := [.int a2]) (rest := []) hx hb hml hown hB (c_X2_eventAt l X G b (ce_kf_4_1 hk9) g13) ce_v_X2_eventAt ce_w646 ⟨Nat.le_of_ble_eq_true rfl, Nat.le_of_ble_eq_true rfl⟩ hF hA hS (ce_rc_2 hK hA (ce_kf_4_1 hk9)) hl rfl rfl (Nat.le_of_ble_eq_true rfl) dX7_waiting_36 ⟨Nat.le_of_ble_eq_true rfl, Nat.le_of_ble_eq_true rfl⟩ (fun H locs hA hS => ?_)
        cases h
        exact ce_iretX hx hb hr hlocks hA hS (Nat.le_of_ble_eq_true rfl) (Nat.le_of_ble_eq_true rfl) dX7_waiting_39
      · have h := ce_ie c14 h
        cases h
        exact ce_out htb hlocks hce hcv hcl c14 ltc14 hA hS (Nat.le_of_ble_eq_true rfl) (Nat.le_of_ble_eq_true rfl)
    refine lv_if_lt (tgt := 19) hx hb dX7_waiting_12 (by decide) (fun c16 => ?_) (fun c16 => ?_)
    · have h := ce_it c16 h
      refine lv_iconst (v := 0) hx hb dX7_waiting_19 (by decide) ?_
      exact Ju6 0 h  _ _ _ hA hS (lv_sub hl [0, 1, 2] rfl)
    · have h := ce_ie c16 h
      refine lv_iconst (v := 1) hx hb dX7_waiting_15 (by decide) ?_
      refine lv_goto (tgt := 20) hx hb dX7_waiting_16 (by decide) ?_
      exact Ju6 1 h  _ _ _ hA hS (lv_sub hl [0, 1, 2] rfl)
  · have h := ce_ie c17 h
    cases h
    exact ce_out htb hlocks hce hcv hcl c17 ltc17 hA hS (Nat.le_of_ble_eq_true rfl) (Nat.le_of_ble_eq_true rfl)
def f_X7_event (k : Nat) (M : ce_M) (a1 : Int32) (a2 : Int32) : Option (Int32 × Nat) :=
  ce_b1 (f_X7_isBelow M a1 (ce_rd M ((k + 1) + 3) 6)) (fun (x1 : Int32) =>
  ce_b1 (f_X7_needIndex M x1) (fun (t3 : Nat) =>
  if t3 = 0 then
    ce_b1 (f_X7_isBelow M a2 7) (fun (x5 : Int32) =>
    ce_b1 (f_X7_needArgument M x5) (fun (t7 : Nat) =>
    if t7 = 0 then
      ce_b1 (f_X6_valueOfEvent (k + 1) M a1 a2) (fun (x9 : Int32) =>
      some (x9, 0))
    else
      some (0, t7)))
  else
    some (0, t3)))
set_option maxRecDepth 100000 in
set_option maxHeartbeats 4000000 in
theorem c_X7_event (l : Launch) (hfl : l.stackTraces = false) (X : ce_X) (G : ce_G) (b : Nat) {k : Nat} {a1 : Int32} {a2 : Int32} {M : ce_M} (hk : ce_kd k = 7) {r : Int32} {tc : Nat} (h : f_X7_event k M a1 a2 = some (r, tc)) : ce_CtX l yX7_event cX7_event 3 (some .int) 7 101 2 12 X G b [.ref (b + k), .int a1, .int a2] M (some (.int r)) M tc := by
  refine ce_ofWX (own := RX7) (by decide) rfl (Nat.le_of_ble_eq_true rfl) (fun p e s m below meth c ls hx hb hr hlocks hml hown hB hF hA hl hS htb => ?_)
  have hK := hF.1
  have hl : lv_has ls 3 [(0, .ref (b + k)), (1, .int a1), (2, .int a2)] := hl
  unfold f_X7_event at h
  refine lv_iload_n hx hb dX7_event_0 rfl (lv_at hl 1 rfl) ?_
  refine lv_aload_n hx hb dX7_event_1 rfl (lv_at hl 0 rfl) ?_
  refine ce_g_7_0 hx hb hB hown hK hA hk ce_w223 dX7_event_2 ?_
  refine ce_g_6_2 hx hb hB hown hK hA (ce_kf_7_0 hk) ce_w159 dX7_event_5 ?_
  refine ce_g_1_6 hx hb hB hown hK hA (ce_kf_6_2 (ce_kf_7_0 hk)) ce_w46 dX7_event_8 ?_
  obtain ⟨x1, g2, h⟩ := ce_b1_e h
  refine ce_callSi (As := [.int a1, .int (ce_rd M ((k + 1) + 3) 6)]) (rest := []) hx hb hml hown hB (c_X7_isBelow l X G b  g2) ce_s_X7_isBelow ce_w586 ⟨Nat.le_of_ble_eq_true rfl, Nat.le_of_ble_eq_true rfl⟩ hF hA hS hl rfl rfl (Nat.le_of_ble_eq_true rfl) dX7_event_11 ⟨Nat.le_of_ble_eq_true rfl, Nat.le_of_ble_eq_true rfl⟩ (fun H locs hA hS => ?_)
  obtain ⟨t3, g4, h⟩ := ce_b1_e h
  refine ce_callSXv (As := [.int x1]) (rest := []) hx hb hml hown hB (c_X7_needIndex l hfl X G b  g4) ce_s_X7_needIndex ce_w309 ⟨Nat.le_of_ble_eq_true rfl, Nat.le_of_ble_eq_true rfl⟩ hF hA hS hl rfl rfl (Nat.le_of_ble_eq_true rfl) dX7_event_14 ⟨(Nat.le_of_ble_eq_true rfl), (Nat.le_of_ble_eq_true rfl)⟩ (fun c12 H locs hA hS => ?_) (fun c12 ltc12 ce qq H locs hA hS hce hcv hcl => ?_)
  · have h := ce_it c12 h
    refine lv_iload_n hx hb dX7_event_17 rfl (lv_at hl 2 rfl) ?_
    refine lv_bipush (v := 7) hx hb dX7_event_18 (by decide) ?_
    obtain ⟨x5, g6, h⟩ := ce_b1_e h
    refine ce_callSi (As := [.int a2, .int 7]) (rest := []) hx hb hml hown hB (c_X7_isBelow l X G b  g6) ce_s_X7_isBelow ce_w586 ⟨Nat.le_of_ble_eq_true rfl, Nat.le_of_ble_eq_true rfl⟩ hF hA hS hl rfl rfl (Nat.le_of_ble_eq_true rfl) dX7_event_20 ⟨Nat.le_of_ble_eq_true rfl, Nat.le_of_ble_eq_true rfl⟩ (fun H locs hA hS => ?_)
    obtain ⟨t7, g8, h⟩ := ce_b1_e h
    refine ce_callSXv (As := [.int x5]) (rest := []) hx hb hml hown hB (c_X7_needArgument l hfl X G b  g8) ce_s_X7_needArgument ce_w375 ⟨Nat.le_of_ble_eq_true rfl, Nat.le_of_ble_eq_true rfl⟩ hF hA hS hl rfl rfl (Nat.le_of_ble_eq_true rfl) dX7_event_23 ⟨(Nat.le_of_ble_eq_true rfl), (Nat.le_of_ble_eq_true rfl)⟩ (fun c11 H locs hA hS => ?_) (fun c11 ltc11 ce qq H locs hA hS hce hcv hcl => ?_)
    · have h := ce_it c11 h
      refine lv_aload_n hx hb dX7_event_26 rfl (lv_at hl 0 rfl) ?_
      refine ce_g_7_0 hx hb hB hown hK hA hk ce_w223 dX7_event_27 ?_
      refine lv_iload_n hx hb dX7_event_30 rfl (lv_at hl 1 rfl) ?_
      refine lv_iload_n hx hb dX7_event_31 rfl (lv_at hl 2 rfl) ?_
      obtain ⟨x9, g10, h⟩ := ce_b1_e h
      refine ce_callVi (As := [.int a1, .int a2]) (rest := []) hx hb hml hown hB (c_X6_valueOfEvent l X G b (ce_kf_7_0 hk) g10) ce_v_X6_valueOfEvent ce_w654 ⟨Nat.le_of_ble_eq_true rfl, Nat.le_of_ble_eq_true rfl⟩ hF hA hS (ce_rc_6 hK hA (ce_kf_7_0 hk)) hl rfl rfl (Nat.le_of_ble_eq_true rfl) dX7_event_32 ⟨Nat.le_of_ble_eq_true rfl, Nat.le_of_ble_eq_true rfl⟩ (fun H locs hA hS => ?_)
      cases h
      exact ce_iretX hx hb hr hlocks hA hS (Nat.le_of_ble_eq_true rfl) (Nat.le_of_ble_eq_true rfl) dX7_event_35
    · have h := ce_ie c11 h
      cases h
      exact ce_out htb hlocks hce hcv hcl c11 ltc11 hA hS (Nat.le_of_ble_eq_true rfl) (Nat.le_of_ble_eq_true rfl)
  · have h := ce_ie c12 h
    cases h
    exact ce_out htb hlocks hce hcv hcl c12 ltc12 hA hS (Nat.le_of_ble_eq_true rfl) (Nat.le_of_ble_eq_true rfl)
def f_X7_leaf (k : Nat) (M : ce_M) (a1 : Int32) (a2 : Int32) : Option (Int32 × Nat) :=
  ce_b1 (f_X7_isBelow M a1 16) (fun (x1 : Int32) =>
  ce_b1 (f_X7_needIndex M x1) (fun (t3 : Nat) =>
  if t3 = 0 then
    ce_b1 (f_X7_isBelow M a2 4) (fun (x5 : Int32) =>
    ce_b1 (f_X7_needArgument M x5) (fun (t7 : Nat) =>
    if t7 = 0 then
      ce_b1 (f_X6_valueOfLeaf (k + 1) M a1 a2) (fun (x9 : Int32) =>
      some (x9, 0))
    else
      some (0, t7)))
  else
    some (0, t3)))
set_option maxRecDepth 100000 in
set_option maxHeartbeats 4000000 in
theorem c_X7_leaf (l : Launch) (hfl : l.stackTraces = false) (X : ce_X) (G : ce_G) (b : Nat) {k : Nat} {a1 : Int32} {a2 : Int32} {M : ce_M} (hk : ce_kd k = 7) {r : Int32} {tc : Nat} (h : f_X7_leaf k M a1 a2 = some (r, tc)) : ce_CtX l yX7_leaf cX7_leaf 3 (some .int) 7 101 2 12 X G b [.ref (b + k), .int a1, .int a2] M (some (.int r)) M tc := by
  refine ce_ofWX (own := RX7) (by decide) rfl (Nat.le_of_ble_eq_true rfl) (fun p e s m below meth c ls hx hb hr hlocks hml hown hB hF hA hl hS htb => ?_)
  have hK := hF.1
  have hl : lv_has ls 3 [(0, .ref (b + k)), (1, .int a1), (2, .int a2)] := hl
  unfold f_X7_leaf at h
  refine lv_iload_n hx hb dX7_leaf_0 rfl (lv_at hl 1 rfl) ?_
  refine lv_bipush (v := 16) hx hb dX7_leaf_1 (by decide) ?_
  obtain ⟨x1, g2, h⟩ := ce_b1_e h
  refine ce_callSi (As := [.int a1, .int 16]) (rest := []) hx hb hml hown hB (c_X7_isBelow l X G b  g2) ce_s_X7_isBelow ce_w586 ⟨Nat.le_of_ble_eq_true rfl, Nat.le_of_ble_eq_true rfl⟩ hF hA hS hl rfl rfl (Nat.le_of_ble_eq_true rfl) dX7_leaf_3 ⟨Nat.le_of_ble_eq_true rfl, Nat.le_of_ble_eq_true rfl⟩ (fun H locs hA hS => ?_)
  obtain ⟨t3, g4, h⟩ := ce_b1_e h
  refine ce_callSXv (As := [.int x1]) (rest := []) hx hb hml hown hB (c_X7_needIndex l hfl X G b  g4) ce_s_X7_needIndex ce_w309 ⟨Nat.le_of_ble_eq_true rfl, Nat.le_of_ble_eq_true rfl⟩ hF hA hS hl rfl rfl (Nat.le_of_ble_eq_true rfl) dX7_leaf_6 ⟨(Nat.le_of_ble_eq_true rfl), (Nat.le_of_ble_eq_true rfl)⟩ (fun c12 H locs hA hS => ?_) (fun c12 ltc12 ce qq H locs hA hS hce hcv hcl => ?_)
  · have h := ce_it c12 h
    refine lv_iload_n hx hb dX7_leaf_9 rfl (lv_at hl 2 rfl) ?_
    refine lv_iconst (v := 4) hx hb dX7_leaf_10 (by decide) ?_
    obtain ⟨x5, g6, h⟩ := ce_b1_e h
    refine ce_callSi (As := [.int a2, .int 4]) (rest := []) hx hb hml hown hB (c_X7_isBelow l X G b  g6) ce_s_X7_isBelow ce_w586 ⟨Nat.le_of_ble_eq_true rfl, Nat.le_of_ble_eq_true rfl⟩ hF hA hS hl rfl rfl (Nat.le_of_ble_eq_true rfl) dX7_leaf_11 ⟨Nat.le_of_ble_eq_true rfl, Nat.le_of_ble_eq_true rfl⟩ (fun H locs hA hS => ?_)
    obtain ⟨t7, g8, h⟩ := ce_b1_e h
    refine ce_callSXv (As := [.int x5]) (rest := []) hx hb hml hown hB (c_X7_needArgument l hfl X G b  g8) ce_s_X7_needArgument ce_w375 ⟨Nat.le_of_ble_eq_true rfl, Nat.le_of_ble_eq_true rfl⟩ hF hA hS hl rfl rfl (Nat.le_of_ble_eq_true rfl) dX7_leaf_14 ⟨(Nat.le_of_ble_eq_true rfl), (Nat.le_of_ble_eq_true rfl)⟩ (fun c11 H locs hA hS => ?_) (fun c11 ltc11 ce qq H locs hA hS hce hcv hcl => ?_)
    · have h := ce_it c11 h
      refine lv_aload_n hx hb dX7_leaf_17 rfl (lv_at hl 0 rfl) ?_
      refine ce_g_7_0 hx hb hB hown hK hA hk ce_w223 dX7_leaf_18 ?_
      refine lv_iload_n hx hb dX7_leaf_21 rfl (lv_at hl 1 rfl) ?_
      refine lv_iload_n hx hb dX7_leaf_22 rfl (lv_at hl 2 rfl) ?_
      obtain ⟨x9, g10, h⟩ := ce_b1_e h
      refine ce_callVi (As := [.int a1, .int a2]) (rest := []) hx hb hml hown hB (c_X6_valueOfLeaf l X G b (ce_kf_7_0 hk) g10) ce_v_X6_valueOfLeaf ce_w677 ⟨Nat.le_of_ble_eq_true rfl, Nat.le_of_ble_eq_true rfl⟩ hF hA hS (ce_rc_6 hK hA (ce_kf_7_0 hk)) hl rfl rfl (Nat.le_of_ble_eq_true rfl) dX7_leaf_23 ⟨Nat.le_of_ble_eq_true rfl, Nat.le_of_ble_eq_true rfl⟩ (fun H locs hA hS => ?_)
      cases h
      exact ce_iretX hx hb hr hlocks hA hS (Nat.le_of_ble_eq_true rfl) (Nat.le_of_ble_eq_true rfl) dX7_leaf_26
    · have h := ce_ie c11 h
      cases h
      exact ce_out htb hlocks hce hcv hcl c11 ltc11 hA hS (Nat.le_of_ble_eq_true rfl) (Nat.le_of_ble_eq_true rfl)
  · have h := ce_ie c12 h
    cases h
    exact ce_out htb hlocks hce hcv hcl c12 ltc12 hA hS (Nat.le_of_ble_eq_true rfl) (Nat.le_of_ble_eq_true rfl)
def f_X7_valueOfWhole (k : Nat) (M : ce_M) (a1 : Int32) : Option Int32 :=
  if a1 = 13 then
    some (ce_rd M (k + 411) 1)
  else
    ce_b1 (f_X6_valueOfWhole (k + 1) M a1) (fun (x2 : Int32) =>
    some x2)
set_option maxRecDepth 100000 in
set_option maxHeartbeats 4000000 in
theorem c_X7_valueOfWhole (l : Launch) (X : ce_X) (G : ce_G) (b : Nat) {k : Nat} {a1 : Int32} {M : ce_M} (hk : ce_kd k = 7) {r : Int32} (h : f_X7_valueOfWhole k M a1 = some r) : ce_Ct l yX7_valueOfWhole cX7_valueOfWhole 2 (some .int) 3 65 X G b [.ref (b + k), .int a1] M (some (.int r)) M := by
  refine ce_ofW (own := RX7) (by decide) rfl (Nat.le_of_ble_eq_true rfl) (fun p e s m below meth c ls hx hb hr hlocks hml hown hB hF hA hl hS => ?_)
  have hK := hF.1
  have hl : lv_has ls 2 [(0, .ref (b + k)), (1, .int a1)] := hl
  unfold f_X7_valueOfWhole at h
  refine lv_iload_n hx hb dX7_valueOfWhole_0 rfl (lv_at hl 1 rfl) ?_
  refine lv_bipush (v := 13) hx hb dX7_valueOfWhole_1 (by decide) ?_
  refine lv_icmp_ne (tgt := 16) hx hb dX7_valueOfWhole_3 (by decide) (fun c1 => ?_) (fun c1 => ?_)
  · have h := ce_ie c1 h
    refine lv_aload_n hx hb dX7_valueOfWhole_16 rfl (lv_at hl 0 rfl) ?_
    refine ce_g_7_0 hx hb hB hown hK hA hk ce_w223 dX7_valueOfWhole_17 ?_
    refine lv_iload_n hx hb dX7_valueOfWhole_20 rfl (lv_at hl 1 rfl) ?_
    obtain ⟨x2, g3, h⟩ := ce_b1_e h
    refine ce_callVi (As := [.int a1]) (rest := []) hx hb hml hown hB (c_X6_valueOfWhole l X G b (ce_kf_7_0 hk) g3) ce_v_X6_valueOfWhole ce_w591 ⟨Nat.le_of_ble_eq_true rfl, Nat.le_of_ble_eq_true rfl⟩ hF hA hS (ce_rc_6 hK hA (ce_kf_7_0 hk)) hl rfl rfl (Nat.le_of_ble_eq_true rfl) dX7_valueOfWhole_21 ⟨Nat.le_of_ble_eq_true rfl, Nat.le_of_ble_eq_true rfl⟩ (fun H locs hA hS => ?_)
    cases h
    exact ce_iret hx hb hr hlocks hA hS dX7_valueOfWhole_24
  · have h := ce_it c1 h
    refine lv_aload_n hx hb dX7_valueOfWhole_6 rfl (lv_at hl 0 rfl) ?_
    refine ce_g_7_3 hx hb hB hown hK hA hk ce_w226 dX7_valueOfWhole_7 ?_
    refine ce_g_0_1 hx hb hB hown hK hA (ce_kf_7_3 hk) ce_w208 dX7_valueOfWhole_10 ?_
    refine lv_goto (tgt := 24) hx hb dX7_valueOfWhole_13 (by decide) ?_
    cases h
    exact ce_iret hx hb hr hlocks hA hS dX7_valueOfWhole_24
def f_X7_whole (k : Nat) (M : ce_M) (a1 : Int32) : Option (Int32 × Nat) :=
  ce_b1 (f_X7_isBelow M a1 14) (fun (x1 : Int32) =>
  ce_b1 (f_X7_needArgument M x1) (fun (t3 : Nat) =>
  if t3 = 0 then
    ce_b1 (f_X7_valueOfWhole k M a1) (fun (x5 : Int32) =>
    some (x5, 0))
  else
    some (0, t3)))
set_option maxRecDepth 100000 in
set_option maxHeartbeats 4000000 in
theorem c_X7_whole (l : Launch) (hfl : l.stackTraces = false) (X : ce_X) (G : ce_G) (b : Nat) {k : Nat} {a1 : Int32} {M : ce_M} (hk : ce_kd k = 7) {r : Int32} {tc : Nat} (h : f_X7_whole k M a1 = some (r, tc)) : ce_CtX l yX7_whole cX7_whole 2 (some .int) 7 101 1 6 X G b [.ref (b + k), .int a1] M (some (.int r)) M tc := by
  refine ce_ofWX (own := RX7) (by decide) rfl (Nat.le_of_ble_eq_true rfl) (fun p e s m below meth c ls hx hb hr hlocks hml hown hB hF hA hl hS htb => ?_)
  have hK := hF.1
  have hl : lv_has ls 2 [(0, .ref (b + k)), (1, .int a1)] := hl
  unfold f_X7_whole at h
  refine lv_iload_n hx hb dX7_whole_0 rfl (lv_at hl 1 rfl) ?_
  refine lv_bipush (v := 14) hx hb dX7_whole_1 (by decide) ?_
  obtain ⟨x1, g2, h⟩ := ce_b1_e h
  refine ce_callSi (As := [.int a1, .int 14]) (rest := []) hx hb hml hown hB (c_X7_isBelow l X G b  g2) ce_s_X7_isBelow ce_w586 ⟨Nat.le_of_ble_eq_true rfl, Nat.le_of_ble_eq_true rfl⟩ hF hA hS hl rfl rfl (Nat.le_of_ble_eq_true rfl) dX7_whole_3 ⟨Nat.le_of_ble_eq_true rfl, Nat.le_of_ble_eq_true rfl⟩ (fun H locs hA hS => ?_)
  obtain ⟨t3, g4, h⟩ := ce_b1_e h
  refine ce_callSXv (As := [.int x1]) (rest := []) hx hb hml hown hB (c_X7_needArgument l hfl X G b  g4) ce_s_X7_needArgument ce_w375 ⟨Nat.le_of_ble_eq_true rfl, Nat.le_of_ble_eq_true rfl⟩ hF hA hS hl rfl rfl (Nat.le_of_ble_eq_true rfl) dX7_whole_6 ⟨(Nat.le_of_ble_eq_true rfl), (Nat.le_of_ble_eq_true rfl)⟩ (fun c7 H locs hA hS => ?_) (fun c7 ltc7 ce qq H locs hA hS hce hcv hcl => ?_)
  · have h := ce_it c7 h
    refine lv_aload_n hx hb dX7_whole_9 rfl (lv_at hl 0 rfl) ?_
    refine lv_iload_n hx hb dX7_whole_10 rfl (lv_at hl 1 rfl) ?_
    obtain ⟨x5, g6, h⟩ := ce_b1_e h
    refine ce_callVi (As := [.int a1]) (rest := []) hx hb hml hown hB (c_X7_valueOfWhole l X G b hk g6) ce_v_X7_valueOfWhole ce_w587 ⟨Nat.le_of_ble_eq_true rfl, Nat.le_of_ble_eq_true rfl⟩ hF hA hS (ce_rc_7 hK hA hk) hl rfl rfl (Nat.le_of_ble_eq_true rfl) dX7_whole_11 ⟨Nat.le_of_ble_eq_true rfl, Nat.le_of_ble_eq_true rfl⟩ (fun H locs hA hS => ?_)
    cases h
    exact ce_iretX hx hb hr hlocks hA hS (Nat.le_of_ble_eq_true rfl) (Nat.le_of_ble_eq_true rfl) dX7_whole_14
  · have h := ce_ie c7 h
    cases h
    exact ce_out htb hlocks hce hcv hcl c7 ltc7 hA hS (Nat.le_of_ble_eq_true rfl) (Nat.le_of_ble_eq_true rfl)
def f_X7_wouldReach (k : Nat) (M : ce_M) (a1 : Int32) (a2 : Int32) (a3 : Int32) : Option (Int32 × Nat) :=
  ce_b1 (f_X7_isBelow M a1 16) (fun (x1 : Int32) =>
  ce_b1 (f_X7_needIndex M x1) (fun (t3 : Nat) =>
  if t3 = 0 then
    ce_b1 (f_X7_isBelow M a2 3) (fun (x5 : Int32) =>
    ce_nm (fun (x9 : Int32) =>
      ce_b1 (f_X7_needArgument M x9) (fun (t11 : Nat) =>
      if t11 = 0 then
        ce_b1 (f_X6_isTooLate (k + 1) M a3) (fun (x13 : Int32) =>
        if x13 = 0 then
          ce_b1 (f_X6_reachedBy (k + 1) M a1 a2 ((ce_rd M (k + 1) 6) - a3)) (fun (x16 : Int32) =>
          some (x16, 0))
        else
          some ((-1), 0))
      else
        some (0, t11))) (fun (u10 : Int32 → Option (Int32 × Nat)) =>
    ce_nm (fun (z8 : Unit) =>
      u10 0) (fun (u7 : Unit → Option (Int32 × Nat)) =>
    if x5 = 0 then
      u7 ()
    else
      if a3 < 0 then
        u7 ()
      else
        u10 1)))
  else
    some (0, t3)))
set_option maxRecDepth 100000 in
set_option maxHeartbeats 4000000 in
theorem c_X7_wouldReach (l : Launch) (hfl : l.stackTraces = false) (X : ce_X) (G : ce_G) (b : Nat) {k : Nat} {a1 : Int32} {a2 : Int32} {a3 : Int32} {M : ce_M} (hk : ce_kd k = 7) {r : Int32} {tc : Nat} (h : f_X7_wouldReach k M a1 a2 a3 = some (r, tc)) : ce_CtX l yX7_wouldReach cX7_wouldReach 4 (some .int) 7 101 2 12 X G b [.ref (b + k), .int a1, .int a2, .int a3] M (some (.int r)) M tc := by
  refine ce_ofWX (own := RX7) (by decide) rfl (Nat.le_of_ble_eq_true rfl) (fun p e s m below meth c ls hx hb hr hlocks hml hown hB hF hA hl hS htb => ?_)
  have hK := hF.1
  have hl : lv_has ls 4 [(0, .ref (b + k)), (1, .int a1), (2, .int a2), (3, .int a3)] := hl
  unfold f_X7_wouldReach at h
  refine lv_iload_n hx hb dX7_wouldReach_0 rfl (lv_at hl 1 rfl) ?_
  refine lv_bipush (v := 16) hx hb dX7_wouldReach_1 (by decide) ?_
  obtain ⟨x1, g2, h⟩ := ce_b1_e h
  refine ce_callSi (As := [.int a1, .int 16]) (rest := []) hx hb hml hown hB (c_X7_isBelow l X G b  g2) ce_s_X7_isBelow ce_w586 ⟨Nat.le_of_ble_eq_true rfl, Nat.le_of_ble_eq_true rfl⟩ hF hA hS hl rfl rfl (Nat.le_of_ble_eq_true rfl) dX7_wouldReach_3 ⟨Nat.le_of_ble_eq_true rfl, Nat.le_of_ble_eq_true rfl⟩ (fun H locs hA hS => ?_)
  obtain ⟨t3, g4, h⟩ := ce_b1_e h
  refine ce_callSXv (As := [.int x1]) (rest := []) hx hb hml hown hB (c_X7_needIndex l hfl X G b  g4) ce_s_X7_needIndex ce_w309 ⟨Nat.le_of_ble_eq_true rfl, Nat.le_of_ble_eq_true rfl⟩ hF hA hS hl rfl rfl (Nat.le_of_ble_eq_true rfl) dX7_wouldReach_6 ⟨(Nat.le_of_ble_eq_true rfl), (Nat.le_of_ble_eq_true rfl)⟩ (fun c23 H locs hA hS => ?_) (fun c23 ltc23 ce qq H locs hA hS hce hcv hcl => ?_)
  · have h := ce_it c23 h
    refine lv_iload_n hx hb dX7_wouldReach_9 rfl (lv_at hl 2 rfl) ?_
    refine lv_iconst (v := 3) hx hb dX7_wouldReach_10 (by decide) ?_
    obtain ⟨x5, g6, h⟩ := ce_b1_e h
    refine ce_callSi (As := [.int a2, .int 3]) (rest := []) hx hb hml hown hB (c_X7_isBelow l X G b  g6) ce_s_X7_isBelow ce_w586 ⟨Nat.le_of_ble_eq_true rfl, Nat.le_of_ble_eq_true rfl⟩ hF hA hS hl rfl rfl (Nat.le_of_ble_eq_true rfl) dX7_wouldReach_11 ⟨Nat.le_of_ble_eq_true rfl, Nat.le_of_ble_eq_true rfl⟩ (fun H locs hA hS => ?_)
    obtain ⟨u10, e19, h⟩ := ce_nm_e h
    have Ju10 : ∀ (x9 : Int32), u10 x9 = some (r, tc) → ce_Wg p l e (ce_R 7 101 2 12) s m (([.ref (b + k), .int a1, .int a2, .int a3] : List Value).toArray) below meth c 1 6 (vx_MQ below (ce_QT X b M (some (.int r)) tc) (ce_XT X b M tc) ([.ref (b + k), .int a1, .int a2, .int a3] : List Value).toArray s 2 12 (ce_Ab b)) X b M 4 [(0, .ref (b + k)), (1, .int a1), (2, .int a2), (3, .int a3)] 26 [.int x9] := by
      intro x9 h  H locs ls hA hS hl
      subst e19
      obtain ⟨t11, g12, h⟩ := ce_b1_e h
      refine ce_callSXv (As := [.int x9]) (rest := []) hx hb hml hown hB (c_X7_needArgument l hfl X G b  g12) ce_s_X7_needArgument ce_w375 ⟨Nat.le_of_ble_eq_true rfl, Nat.le_of_ble_eq_true rfl⟩ hF hA hS hl rfl rfl (Nat.le_of_ble_eq_true rfl) dX7_wouldReach_26 ⟨(Nat.le_of_ble_eq_true rfl), (Nat.le_of_ble_eq_true rfl)⟩ (fun c18 H locs hA hS => ?_) (fun c18 ltc18 ce qq H locs hA hS hce hcv hcl => ?_)
      · have h := ce_it c18 h
        refine lv_aload_n hx hb dX7_wouldReach_29 rfl (lv_at hl 0 rfl) ?_
        refine ce_g_7_0 hx hb hB hown hK hA hk ce_w223 dX7_wouldReach_30 ?_
        refine lv_iload_n hx hb dX7_wouldReach_33 rfl (lv_at hl 3 rfl) ?_
        obtain ⟨x13, g14, h⟩ := ce_b1_e h
        refine ce_callVi (As := [.int a3]) (rest := []) hx hb hml hown hB (c_X6_isTooLate l X G b (ce_kf_7_0 hk) g14) ce_v_X6_isTooLate ce_w724 ⟨Nat.le_of_ble_eq_true rfl, Nat.le_of_ble_eq_true rfl⟩ hF hA hS (ce_rc_6 hK hA (ce_kf_7_0 hk)) hl rfl rfl (Nat.le_of_ble_eq_true rfl) dX7_wouldReach_34 ⟨Nat.le_of_ble_eq_true rfl, Nat.le_of_ble_eq_true rfl⟩ (fun H locs hA hS => ?_)
        refine lv_if_eq (tgt := 44) hx hb dX7_wouldReach_37 (by decide) (fun c15 => ?_) (fun c15 => ?_)
        · have h := ce_it c15 h
          refine lv_aload_n hx hb dX7_wouldReach_44 rfl (lv_at hl 0 rfl) ?_
          refine ce_g_7_0 hx hb hB hown hK hA hk ce_w223 dX7_wouldReach_45 ?_
          refine lv_iload_n hx hb dX7_wouldReach_48 rfl (lv_at hl 1 rfl) ?_
          refine lv_iload_n hx hb dX7_wouldReach_49 rfl (lv_at hl 2 rfl) ?_
          refine lv_aload_n hx hb dX7_wouldReach_50 rfl (lv_at hl 0 rfl) ?_
          refine ce_g_7_0 hx hb hB hown hK hA hk ce_w223 dX7_wouldReach_51 ?_
          refine ce_g_6_6 hx hb hB hown hK hA (ce_kf_7_0 hk) ce_w164 dX7_wouldReach_54 ?_
          refine lv_iload_n hx hb dX7_wouldReach_57 rfl (lv_at hl 3 rfl) ?_
          refine lv_isub hx hb dX7_wouldReach_58 ?_
          obtain ⟨x16, g17, h⟩ := ce_b1_e h
          refine ce_callVi (As := [.int a1, .int a2, .int ((ce_rd M (k + 1) 6) - a3)]) (rest := []) hx hb hml hown hB (c_X6_reachedBy l X G b (ce_kf_7_0 hk) g17) ce_v_X6_reachedBy ce_w725 ⟨Nat.le_of_ble_eq_true rfl, Nat.le_of_ble_eq_true rfl⟩ hF hA hS (ce_rc_6 hK hA (ce_kf_7_0 hk)) hl rfl rfl (Nat.le_of_ble_eq_true rfl) dX7_wouldReach_59 ⟨Nat.le_of_ble_eq_true rfl, Nat.le_of_ble_eq_true rfl⟩ (fun H locs hA hS => ?_)
          cases h
          exact ce_iretX hx hb hr hlocks hA hS (Nat.le_of_ble_eq_true rfl) (Nat.le_of_ble_eq_true rfl) dX7_wouldReach_62
        · have h := ce_ie c15 h
          refine lv_iconst (v := (-1)) hx hb dX7_wouldReach_40 (by decide) ?_
          refine lv_goto (tgt := 62) hx hb dX7_wouldReach_41 (by decide) ?_
          cases h
          exact ce_iretX hx hb hr hlocks hA hS (Nat.le_of_ble_eq_true rfl) (Nat.le_of_ble_eq_true rfl) dX7_wouldReach_62
      · have h := ce_ie c18 h
        cases h
        exact ce_out htb hlocks hce hcv hcl c18 ltc18 hA hS (Nat.le_of_ble_eq_true rfl) (Nat.le_of_ble_eq_true rfl)
    obtain ⟨u7, e20, h⟩ := ce_nm_e h
    have Ju7 : ∀ (z8 : Unit), u7 z8 = some (r, tc) → ce_Wg p l e (ce_R 7 101 2 12) s m (([.ref (b + k), .int a1, .int a2, .int a3] : List Value).toArray) below meth c 1 6 (vx_MQ below (ce_QT X b M (some (.int r)) tc) (ce_XT X b M tc) ([.ref (b + k), .int a1, .int a2, .int a3] : List Value).toArray s 2 12 (ce_Ab b)) X b M 4 [(0, .ref (b + k)), (1, .int a1), (2, .int a2), (3, .int a3)] 25 [] := by
      intro z8 h  H locs ls hA hS hl
      subst e20
      refine lv_iconst (v := 0) hx hb dX7_wouldReach_25 (by decide) ?_
      exact Ju10 0 h  _ _ _ hA hS (lv_sub hl [0, 1, 2, 3] rfl)
    refine lv_if_eq (tgt := 25) hx hb dX7_wouldReach_14 (by decide) (fun c21 => ?_) (fun c21 => ?_)
    · have h := ce_it c21 h
      exact Ju7 () h  _ _ _ hA hS (lv_sub hl [0, 1, 2, 3] rfl)
    · have h := ce_ie c21 h
      refine lv_iload_n hx hb dX7_wouldReach_17 rfl (lv_at hl 3 rfl) ?_
      refine lv_if_lt (tgt := 25) hx hb dX7_wouldReach_18 (by decide) (fun c22 => ?_) (fun c22 => ?_)
      · have h := ce_it c22 h
        exact Ju7 () h  _ _ _ hA hS (lv_sub hl [0, 1, 2, 3] rfl)
      · have h := ce_ie c22 h
        refine lv_iconst (v := 1) hx hb dX7_wouldReach_21 (by decide) ?_
        refine lv_goto (tgt := 26) hx hb dX7_wouldReach_22 (by decide) ?_
        exact Ju10 1 h  _ _ _ hA hS (lv_sub hl [0, 1, 2, 3] rfl)
  · have h := ce_ie c23 h
    cases h
    exact ce_out htb hlocks hce hcv hcl c23 ltc23 hA hS (Nat.le_of_ble_eq_true rfl) (Nat.le_of_ble_eq_true rfl)
def f_X7_reason (k : Nat) (M : ce_M) (a1 : Int32) (a2 : Int32) (a3 : Int32) : Option (Int32 × Nat) :=
  ce_b1 (f_X6_isSubscriber (k + 1) M a1) (fun (x1 : Int32) =>
  ce_nm (fun (x5 : Int32) (x6 : Int32) =>
      ce_b1 (f_X7_needIndex M x6) (fun (t8 : Nat) =>
      if t8 = 0 then
        ce_b1 (f_X7_isBelow M x5 3) (fun (x10 : Int32) =>
        ce_b1 (f_X7_needArgument M x10) (fun (t12 : Nat) =>
        if t12 = 0 then
          ce_gi a1 8 (ce_nm (((k + 1) + 2) + (10 + 7 * (Int32.toNatClampNeg a1))) (fun (k14 : Nat) =>
          ce_b1 (f_X7_areaOf M a2 x5) (fun (x17 : Int32) =>
          ce_b1 (f_X4_reasonAgainst k14 M x17) (fun (x19 : Int32) =>
          some (x19, 0)))))
        else
          some (0, t12)))
      else
        some (0, t8))) (fun (u7 : Int32 → Int32 → Option (Int32 × Nat)) =>
  ce_nm (fun (x3 : Int32) =>
      u7 x3 0) (fun (u4 : Int32 → Option (Int32 × Nat)) =>
  if x1 = 0 then
    u4 a3
  else
    ce_b1 (f_X7_isBelow M a2 16) (fun (x26 : Int32) =>
    if x26 = 0 then
      u4 a3
    else
      u7 a3 1))))
set_option maxRecDepth 100000 in
set_option maxHeartbeats 4000000 in
theorem c_X7_reason (l : Launch) (hfl : l.stackTraces = false) (X : ce_X) (G : ce_G) (b : Nat) {k : Nat} {a1 : Int32} {a2 : Int32} {a3 : Int32} {M : ce_M} (hk : ce_kd k = 7) {r : Int32} {tc : Nat} (h : f_X7_reason k M a1 a2 a3 = some (r, tc)) : ce_CtX l yX7_reason cX7_reason 4 (some .int) 7 101 2 12 X G b [.ref (b + k), .int a1, .int a2, .int a3] M (some (.int r)) M tc := by
  refine ce_ofWX (own := RX7) (by decide) rfl (Nat.le_of_ble_eq_true rfl) (fun p e s m below meth c ls hx hb hr hlocks hml hown hB hF hA hl hS htb => ?_)
  have hK := hF.1
  have hl : lv_has ls 4 [(0, .ref (b + k)), (1, .int a1), (2, .int a2), (3, .int a3)] := hl
  unfold f_X7_reason at h
  refine lv_aload_n hx hb dX7_reason_0 rfl (lv_at hl 0 rfl) ?_
  refine ce_g_7_0 hx hb hB hown hK hA hk ce_w223 dX7_reason_1 ?_
  refine lv_iload_n hx hb dX7_reason_4 rfl (lv_at hl 1 rfl) ?_
  obtain ⟨x1, g2, h⟩ := ce_b1_e h
  refine ce_callVi (As := [.int a1]) (rest := []) hx hb hml hown hB (c_X6_isSubscriber l X G b (ce_kf_7_0 hk) g2) ce_v_X6_isSubscriber ce_w626 ⟨Nat.le_of_ble_eq_true rfl, Nat.le_of_ble_eq_true rfl⟩ hF hA hS (ce_rc_6 hK hA (ce_kf_7_0 hk)) hl rfl rfl (Nat.le_of_ble_eq_true rfl) dX7_reason_5 ⟨Nat.le_of_ble_eq_true rfl, Nat.le_of_ble_eq_true rfl⟩ (fun H locs hA hS => ?_)
  obtain ⟨u7, e23, h⟩ := ce_nm_e h
  have Ju7 : ∀ (x5 : Int32) (x6 : Int32), u7 x5 x6 = some (r, tc) → ce_Wg p l e (ce_R 7 101 2 12) s m (([.ref (b + k), .int a1, .int a2, .int a3] : List Value).toArray) below meth c 0 0 (vx_MQ below (ce_QT X b M (some (.int r)) tc) (ce_XT X b M tc) ([.ref (b + k), .int a1, .int a2, .int a3] : List Value).toArray s 2 12 (ce_Ab b)) X b M 4 [(0, .ref (b + k)), (1, .int a1), (2, .int a2), (3, .int x5)] 25 [.int x6] := by
    intro x5 x6 h  H locs ls hA hS hl
    subst e23
    obtain ⟨t8, g9, h⟩ := ce_b1_e h
    refine ce_callSXv (As := [.int x6]) (rest := []) hx hb hml hown hB (c_X7_needIndex l hfl X G b  g9) ce_s_X7_needIndex ce_w309 ⟨Nat.le_of_ble_eq_true rfl, Nat.le_of_ble_eq_true rfl⟩ hF hA hS hl rfl rfl (Nat.le_of_ble_eq_true rfl) dX7_reason_25 ⟨(Nat.le_of_ble_eq_true rfl), (Nat.le_of_ble_eq_true rfl)⟩ (fun c22 H locs hA hS => ?_) (fun c22 ltc22 ce qq H locs hA hS hce hcv hcl => ?_)
    · have h := ce_it c22 h
      refine lv_iload_n hx hb dX7_reason_28 rfl (lv_at hl 3 rfl) ?_
      refine lv_iconst (v := 3) hx hb dX7_reason_29 (by decide) ?_
      obtain ⟨x10, g11, h⟩ := ce_b1_e h
      refine ce_callSi (As := [.int x5, .int 3]) (rest := []) hx hb hml hown hB (c_X7_isBelow l X G b  g11) ce_s_X7_isBelow ce_w586 ⟨Nat.le_of_ble_eq_true rfl, Nat.le_of_ble_eq_true rfl⟩ hF hA hS hl rfl rfl (Nat.le_of_ble_eq_true rfl) dX7_reason_30 ⟨Nat.le_of_ble_eq_true rfl, Nat.le_of_ble_eq_true rfl⟩ (fun H locs hA hS => ?_)
      obtain ⟨t12, g13, h⟩ := ce_b1_e h
      refine ce_callSXv (As := [.int x10]) (rest := []) hx hb hml hown hB (c_X7_needArgument l hfl X G b  g13) ce_s_X7_needArgument ce_w375 ⟨Nat.le_of_ble_eq_true rfl, Nat.le_of_ble_eq_true rfl⟩ hF hA hS hl rfl rfl (Nat.le_of_ble_eq_true rfl) dX7_reason_33 ⟨(Nat.le_of_ble_eq_true rfl), (Nat.le_of_ble_eq_true rfl)⟩ (fun c21 H locs hA hS => ?_) (fun c21 ltc21 ce qq H locs hA hS hce hcv hcl => ?_)
      · have h := ce_it c21 h
        refine lv_aload_n hx hb dX7_reason_36 rfl (lv_at hl 0 rfl) ?_
        refine ce_g_7_0 hx hb hB hown hK hA hk ce_w223 dX7_reason_37 ?_
        refine ce_g_6_1 hx hb hB hown hK hA (ce_kf_7_0 hk) ce_w157 dX7_reason_40 ?_
        refine lv_iload_n hx hb dX7_reason_43 rfl (lv_at hl 1 rfl) ?_
        obtain ⟨i15, h⟩ := ce_gi_e h
        obtain ⟨k14, e16, h⟩ := ce_nm_e h
        have hk14 : ce_kd k14 = 4 := e16 ▸ ce_kf_sub (ce_kf_6_1 (ce_kf_7_0 hk)) (ce_in_lt i15)
        refine ce_aaldS hx hb hK hA (ce_kf_6_1 (ce_kf_7_0 hk)) i15 dX7_reason_44 ?_
        refine ce_topr e16 ?_
        refine lv_iload_n hx hb dX7_reason_45 rfl (lv_at hl 2 rfl) ?_
        refine lv_iload_n hx hb dX7_reason_46 rfl (lv_at hl 3 rfl) ?_
        obtain ⟨x17, g18, h⟩ := ce_b1_e h
        refine ce_callSi (As := [.int a2, .int x5]) (rest := [.ref (b + k14)]) hx hb hml hown hB (c_X7_areaOf l X G b  g18) ce_s_X7_areaOf ce_w733 ⟨Nat.le_of_ble_eq_true rfl, Nat.le_of_ble_eq_true rfl⟩ hF hA hS hl rfl rfl (Nat.le_of_ble_eq_true rfl) dX7_reason_47 ⟨Nat.le_of_ble_eq_true rfl, Nat.le_of_ble_eq_true rfl⟩ (fun H locs hA hS => ?_)
        obtain ⟨x19, g20, h⟩ := ce_b1_e h
        refine ce_callVi (As := [.int x17]) (rest := []) hx hb hml hown hB (c_X4_reasonAgainst l X G b hk14 g20) ce_v_X4_reasonAgainst ce_w734 ⟨Nat.le_of_ble_eq_true rfl, Nat.le_of_ble_eq_true rfl⟩ hF hA hS (ce_rc_4 hK hA hk14) hl rfl rfl (Nat.le_of_ble_eq_true rfl) dX7_reason_50 ⟨Nat.le_of_ble_eq_true rfl, Nat.le_of_ble_eq_true rfl⟩ (fun H locs hA hS => ?_)
        cases h
        exact ce_iretX hx hb hr hlocks hA hS (Nat.le_of_ble_eq_true rfl) (Nat.le_of_ble_eq_true rfl) dX7_reason_53
      · have h := ce_ie c21 h
        cases h
        exact ce_out htb hlocks hce hcv hcl c21 ltc21 hA hS (Nat.le_of_ble_eq_true rfl) (Nat.le_of_ble_eq_true rfl)
    · have h := ce_ie c22 h
      cases h
      exact ce_out htb hlocks hce hcv hcl c22 ltc22 hA hS (Nat.le_of_ble_eq_true rfl) (Nat.le_of_ble_eq_true rfl)
  obtain ⟨u4, e24, h⟩ := ce_nm_e h
  have Ju4 : ∀ (x3 : Int32), u4 x3 = some (r, tc) → ce_Wg p l e (ce_R 7 101 2 12) s m (([.ref (b + k), .int a1, .int a2, .int a3] : List Value).toArray) below meth c 0 0 (vx_MQ below (ce_QT X b M (some (.int r)) tc) (ce_XT X b M tc) ([.ref (b + k), .int a1, .int a2, .int a3] : List Value).toArray s 2 12 (ce_Ab b)) X b M 4 [(0, .ref (b + k)), (1, .int a1), (2, .int a2), (3, .int x3)] 24 [] := by
    intro x3 h  H locs ls hA hS hl
    subst e24
    refine lv_iconst (v := 0) hx hb dX7_reason_24 (by decide) ?_
    exact Ju7 x3 0 h  _ _ _ hA hS (lv_sub hl [0, 1, 2, 3] rfl)
  refine lv_if_eq (tgt := 24) hx hb dX7_reason_8 (by decide) (fun c25 => ?_) (fun c25 => ?_)
  · have h := ce_it c25 h
    exact Ju4 a3 h  _ _ _ hA hS (lv_sub hl [0, 1, 2, 3] rfl)
  · have h := ce_ie c25 h
    refine lv_iload_n hx hb dX7_reason_11 rfl (lv_at hl 2 rfl) ?_
    refine lv_bipush (v := 16) hx hb dX7_reason_12 (by decide) ?_
    obtain ⟨x26, g27, h⟩ := ce_b1_e h
    refine ce_callSi (As := [.int a2, .int 16]) (rest := []) hx hb hml hown hB (c_X7_isBelow l X G b  g27) ce_s_X7_isBelow ce_w586 ⟨Nat.le_of_ble_eq_true rfl, Nat.le_of_ble_eq_true rfl⟩ hF hA hS hl rfl rfl (Nat.le_of_ble_eq_true rfl) dX7_reason_14 ⟨Nat.le_of_ble_eq_true rfl, Nat.le_of_ble_eq_true rfl⟩ (fun H locs hA hS => ?_)
    refine lv_if_eq (tgt := 24) hx hb dX7_reason_17 (by decide) (fun c28 => ?_) (fun c28 => ?_)
    · have h := ce_it c28 h
      exact Ju4 a3 h  _ _ _ hA hS (lv_sub hl [0, 1, 2, 3] rfl)
    · have h := ce_ie c28 h
      refine lv_iconst (v := 1) hx hb dX7_reason_20 (by decide) ?_
      refine lv_goto (tgt := 25) hx hb dX7_reason_21 (by decide) ?_
      exact Ju7 a3 1 h  _ _ _ hA hS (lv_sub hl [0, 1, 2, 3] rfl)
def f_X7_servedIn (k : Nat) (M : ce_M) (a1 : Int32) : Option (Int32 × Nat) :=
  ce_b1 (f_X6_isSubscriber (k + 1) M a1) (fun (x1 : Int32) =>
  ce_b1 (f_X7_needIndex M x1) (fun (t3 : Nat) =>
  if t3 = 0 then
    ce_b1 (f_X6_ticksUntilServed (k + 1) M a1) (fun (x5 : Int32) =>
    some (x5, 0))
  else
    some (0, t3)))
set_option maxRecDepth 100000 in
set_option maxHeartbeats 4000000 in
theorem c_X7_servedIn (l : Launch) (hfl : l.stackTraces = false) (X : ce_X) (G : ce_G) (b : Nat) {k : Nat} {a1 : Int32} {M : ce_M} (hk : ce_kd k = 7) {r : Int32} {tc : Nat} (h : f_X7_servedIn k M a1 = some (r, tc)) : ce_CtX l yX7_servedIn cX7_servedIn 2 (some .int) 7 101 1 6 X G b [.ref (b + k), .int a1] M (some (.int r)) M tc := by
  refine ce_ofWX (own := RX7) (by decide) rfl (Nat.le_of_ble_eq_true rfl) (fun p e s m below meth c ls hx hb hr hlocks hml hown hB hF hA hl hS htb => ?_)
  have hK := hF.1
  have hl : lv_has ls 2 [(0, .ref (b + k)), (1, .int a1)] := hl
  unfold f_X7_servedIn at h
  refine lv_aload_n hx hb dX7_servedIn_0 rfl (lv_at hl 0 rfl) ?_
  refine ce_g_7_0 hx hb hB hown hK hA hk ce_w223 dX7_servedIn_1 ?_
  refine lv_iload_n hx hb dX7_servedIn_4 rfl (lv_at hl 1 rfl) ?_
  obtain ⟨x1, g2, h⟩ := ce_b1_e h
  refine ce_callVi (As := [.int a1]) (rest := []) hx hb hml hown hB (c_X6_isSubscriber l X G b (ce_kf_7_0 hk) g2) ce_v_X6_isSubscriber ce_w626 ⟨Nat.le_of_ble_eq_true rfl, Nat.le_of_ble_eq_true rfl⟩ hF hA hS (ce_rc_6 hK hA (ce_kf_7_0 hk)) hl rfl rfl (Nat.le_of_ble_eq_true rfl) dX7_servedIn_5 ⟨Nat.le_of_ble_eq_true rfl, Nat.le_of_ble_eq_true rfl⟩ (fun H locs hA hS => ?_)
  obtain ⟨t3, g4, h⟩ := ce_b1_e h
  refine ce_callSXv (As := [.int x1]) (rest := []) hx hb hml hown hB (c_X7_needIndex l hfl X G b  g4) ce_s_X7_needIndex ce_w309 ⟨Nat.le_of_ble_eq_true rfl, Nat.le_of_ble_eq_true rfl⟩ hF hA hS hl rfl rfl (Nat.le_of_ble_eq_true rfl) dX7_servedIn_8 ⟨(Nat.le_of_ble_eq_true rfl), (Nat.le_of_ble_eq_true rfl)⟩ (fun c7 H locs hA hS => ?_) (fun c7 ltc7 ce qq H locs hA hS hce hcv hcl => ?_)
  · have h := ce_it c7 h
    refine lv_aload_n hx hb dX7_servedIn_11 rfl (lv_at hl 0 rfl) ?_
    refine ce_g_7_0 hx hb hB hown hK hA hk ce_w223 dX7_servedIn_12 ?_
    refine lv_iload_n hx hb dX7_servedIn_15 rfl (lv_at hl 1 rfl) ?_
    obtain ⟨x5, g6, h⟩ := ce_b1_e h
    refine ce_callVi (As := [.int a1]) (rest := []) hx hb hml hown hB (c_X6_ticksUntilServed l X G b (ce_kf_7_0 hk) g6) ce_v_X6_ticksUntilServed ce_w745 ⟨Nat.le_of_ble_eq_true rfl, Nat.le_of_ble_eq_true rfl⟩ hF hA hS (ce_rc_6 hK hA (ce_kf_7_0 hk)) hl rfl rfl (Nat.le_of_ble_eq_true rfl) dX7_servedIn_16 ⟨Nat.le_of_ble_eq_true rfl, Nat.le_of_ble_eq_true rfl⟩ (fun H locs hA hS => ?_)
    cases h
    exact ce_iretX hx hb hr hlocks hA hS (Nat.le_of_ble_eq_true rfl) (Nat.le_of_ble_eq_true rfl) dX7_servedIn_19
  · have h := ce_ie c7 h
    cases h
    exact ce_out htb hlocks hce hcv hcl c7 ltc7 hA hS (Nat.le_of_ble_eq_true rfl) (Nat.le_of_ble_eq_true rfl)
def f_X7_emptyIn (k : Nat) (M : ce_M) (a1 : Int32) : Option (ce_M × Int32 × Nat) :=
  ce_b1 (f_X6_isSubscriber (k + 1) M a1) (fun (x1 : Int32) =>
  ce_b1 (f_X7_needIndex M x1) (fun (t3 : Nat) =>
  if t3 = 0 then
    ce_b1 (f_X6_copyFrom (k + 69) M (k + 1)) (fun (M5 : ce_M) =>
    ce_b2 (f_X6_passUntilEmpty (k + 69) M5 a1) (fun (M7 : ce_M) (x8 : Int32) =>
    some (M7, x8, 0)))
  else
    some (M, 0, t3)))
set_option maxRecDepth 100000 in
set_option maxHeartbeats 4000000 in
theorem c_X7_emptyIn (l : Launch) (hfl : l.stackTraces = false) (X : ce_X) (G : ce_G) (b : Nat) {k : Nat} {a1 : Int32} {M : ce_M} (hk : ce_kd k = 7) {M' : ce_M} {r : Int32} {tc : Nat} (h : f_X7_emptyIn k M a1 = some (M', r, tc)) : ce_CtX l yX7_emptyIn cX7_emptyIn 2 (some .int) 7 110 1 6 X G b [.ref (b + k), .int a1] M (some (.int r)) M' tc := by
  refine ce_ofWX (own := RX7) (by decide) rfl (Nat.le_of_ble_eq_true rfl) (fun p e s m below meth c ls hx hb hr hlocks hml hown hB hF hA hl hS htb => ?_)
  have hK := hF.1
  have hl : lv_has ls 2 [(0, .ref (b + k)), (1, .int a1)] := hl
  unfold f_X7_emptyIn at h
  refine lv_aload_n hx hb dX7_emptyIn_0 rfl (lv_at hl 0 rfl) ?_
  refine ce_g_7_0 hx hb hB hown hK hA hk ce_w223 dX7_emptyIn_1 ?_
  refine lv_iload_n hx hb dX7_emptyIn_4 rfl (lv_at hl 1 rfl) ?_
  obtain ⟨x1, g2, h⟩ := ce_b1_e h
  refine ce_callVi (As := [.int a1]) (rest := []) hx hb hml hown hB (c_X6_isSubscriber l X G b (ce_kf_7_0 hk) g2) ce_v_X6_isSubscriber ce_w626 ⟨Nat.le_of_ble_eq_true rfl, Nat.le_of_ble_eq_true rfl⟩ hF hA hS (ce_rc_6 hK hA (ce_kf_7_0 hk)) hl rfl rfl (Nat.le_of_ble_eq_true rfl) dX7_emptyIn_5 ⟨Nat.le_of_ble_eq_true rfl, Nat.le_of_ble_eq_true rfl⟩ (fun H locs hA hS => ?_)
  obtain ⟨t3, g4, h⟩ := ce_b1_e h
  refine ce_callSXv (As := [.int x1]) (rest := []) hx hb hml hown hB (c_X7_needIndex l hfl X G b  g4) ce_s_X7_needIndex ce_w309 ⟨Nat.le_of_ble_eq_true rfl, Nat.le_of_ble_eq_true rfl⟩ hF hA hS hl rfl rfl (Nat.le_of_ble_eq_true rfl) dX7_emptyIn_8 ⟨(Nat.le_of_ble_eq_true rfl), (Nat.le_of_ble_eq_true rfl)⟩ (fun c10 H locs hA hS => ?_) (fun c10 ltc10 ce qq H locs hA hS hce hcv hcl => ?_)
  · have h := ce_it c10 h
    refine lv_aload_n hx hb dX7_emptyIn_11 rfl (lv_at hl 0 rfl) ?_
    refine ce_g_7_1 hx hb hB hown hK hA hk ce_w224 dX7_emptyIn_12 ?_
    refine lv_aload_n hx hb dX7_emptyIn_15 rfl (lv_at hl 0 rfl) ?_
    refine ce_g_7_0 hx hb hB hown hK hA hk ce_w223 dX7_emptyIn_16 ?_
    obtain ⟨M5, g6, h⟩ := ce_b1_e h
    refine ce_callVv (As := [.ref (b + (k + 1))]) (rest := []) hx hb hml hown hB (c_X6_copyFrom l X G b (ce_kf_7_1 hk) (ce_kf_7_0 hk) g6) ce_v_X6_copyFrom ce_w760 ⟨Nat.le_of_ble_eq_true rfl, Nat.le_of_ble_eq_true rfl⟩ hF hA hS (ce_rc_6 hK hA (ce_kf_7_1 hk)) hl rfl rfl (Nat.le_of_ble_eq_true rfl) dX7_emptyIn_19 ⟨Nat.le_of_ble_eq_true rfl, Nat.le_of_ble_eq_true rfl⟩ (fun H locs hA hS => ?_)
    refine lv_aload_n hx hb dX7_emptyIn_22 rfl (lv_at hl 0 rfl) ?_
    refine ce_g_7_1 hx hb hB hown hK hA hk ce_w224 dX7_emptyIn_23 ?_
    refine lv_iload_n hx hb dX7_emptyIn_26 rfl (lv_at hl 1 rfl) ?_
    obtain ⟨M7, x8, g9, h⟩ := ce_b2_e h
    refine ce_callVi (As := [.int a1]) (rest := []) hx hb hml hown hB (c_X6_passUntilEmpty l X G b (ce_kf_7_1 hk) g9) ce_v_X6_passUntilEmpty ce_w761 ⟨Nat.le_of_ble_eq_true rfl, Nat.le_of_ble_eq_true rfl⟩ hF hA hS (ce_rc_6 hK hA (ce_kf_7_1 hk)) hl rfl rfl (Nat.le_of_ble_eq_true rfl) dX7_emptyIn_27 ⟨Nat.le_of_ble_eq_true rfl, Nat.le_of_ble_eq_true rfl⟩ (fun H locs hA hS => ?_)
    cases h
    exact ce_iretX hx hb hr hlocks hA hS (Nat.le_of_ble_eq_true rfl) (Nat.le_of_ble_eq_true rfl) dX7_emptyIn_30
  · have h := ce_ie c10 h
    cases h
    exact ce_out htb hlocks hce hcv hcl c10 ltc10 hA hS (Nat.le_of_ble_eq_true rfl) (Nat.le_of_ble_eq_true rfl)
def f_X7_covered (k : Nat) (M : ce_M) (a1 : Int32) : Option (Int32 × Nat) :=
  ce_b1 (f_X6_isSubscriber (k + 1) M a1) (fun (x1 : Int32) =>
  ce_b1 (f_X7_needIndex M x1) (fun (t3 : Nat) =>
  if t3 = 0 then
    ce_gi a1 8 (ce_nm (((k + 1) + 2) + (10 + 7 * (Int32.toNatClampNeg a1))) (fun (k5 : Nat) =>
    ce_b1 (f_X4_coverage k5 M) (fun (x8 : Int32) =>
    some (x8, 0))))
  else
    some (0, t3)))
set_option maxRecDepth 100000 in
set_option maxHeartbeats 4000000 in
theorem c_X7_covered (l : Launch) (hfl : l.stackTraces = false) (X : ce_X) (G : ce_G) (b : Nat) {k : Nat} {a1 : Int32} {M : ce_M} (hk : ce_kd k = 7) {r : Int32} {tc : Nat} (h : f_X7_covered k M a1 = some (r, tc)) : ce_CtX l yX7_covered cX7_covered 2 (some .int) 7 101 1 6 X G b [.ref (b + k), .int a1] M (some (.int r)) M tc := by
  refine ce_ofWX (own := RX7) (by decide) rfl (Nat.le_of_ble_eq_true rfl) (fun p e s m below meth c ls hx hb hr hlocks hml hown hB hF hA hl hS htb => ?_)
  have hK := hF.1
  have hl : lv_has ls 2 [(0, .ref (b + k)), (1, .int a1)] := hl
  unfold f_X7_covered at h
  refine lv_aload_n hx hb dX7_covered_0 rfl (lv_at hl 0 rfl) ?_
  refine ce_g_7_0 hx hb hB hown hK hA hk ce_w223 dX7_covered_1 ?_
  refine lv_iload_n hx hb dX7_covered_4 rfl (lv_at hl 1 rfl) ?_
  obtain ⟨x1, g2, h⟩ := ce_b1_e h
  refine ce_callVi (As := [.int a1]) (rest := []) hx hb hml hown hB (c_X6_isSubscriber l X G b (ce_kf_7_0 hk) g2) ce_v_X6_isSubscriber ce_w626 ⟨Nat.le_of_ble_eq_true rfl, Nat.le_of_ble_eq_true rfl⟩ hF hA hS (ce_rc_6 hK hA (ce_kf_7_0 hk)) hl rfl rfl (Nat.le_of_ble_eq_true rfl) dX7_covered_5 ⟨Nat.le_of_ble_eq_true rfl, Nat.le_of_ble_eq_true rfl⟩ (fun H locs hA hS => ?_)
  obtain ⟨t3, g4, h⟩ := ce_b1_e h
  refine ce_callSXv (As := [.int x1]) (rest := []) hx hb hml hown hB (c_X7_needIndex l hfl X G b  g4) ce_s_X7_needIndex ce_w309 ⟨Nat.le_of_ble_eq_true rfl, Nat.le_of_ble_eq_true rfl⟩ hF hA hS hl rfl rfl (Nat.le_of_ble_eq_true rfl) dX7_covered_8 ⟨(Nat.le_of_ble_eq_true rfl), (Nat.le_of_ble_eq_true rfl)⟩ (fun c10 H locs hA hS => ?_) (fun c10 ltc10 ce qq H locs hA hS hce hcv hcl => ?_)
  · have h := ce_it c10 h
    refine lv_aload_n hx hb dX7_covered_11 rfl (lv_at hl 0 rfl) ?_
    refine ce_g_7_0 hx hb hB hown hK hA hk ce_w223 dX7_covered_12 ?_
    refine ce_g_6_1 hx hb hB hown hK hA (ce_kf_7_0 hk) ce_w157 dX7_covered_15 ?_
    refine lv_iload_n hx hb dX7_covered_18 rfl (lv_at hl 1 rfl) ?_
    obtain ⟨i6, h⟩ := ce_gi_e h
    obtain ⟨k5, e7, h⟩ := ce_nm_e h
    have hk5 : ce_kd k5 = 4 := e7 ▸ ce_kf_sub (ce_kf_6_1 (ce_kf_7_0 hk)) (ce_in_lt i6)
    refine ce_aaldS hx hb hK hA (ce_kf_6_1 (ce_kf_7_0 hk)) i6 dX7_covered_19 ?_
    refine ce_topr e7 ?_
    obtain ⟨x8, g9, h⟩ := ce_b1_e h
    refine ce_callVi (As := []) (rest := []) hx hb hml hown hB (c_X4_coverage l X G b hk5 g9) ce_v_X4_coverage ce_w772 ⟨Nat.le_of_ble_eq_true rfl, Nat.le_of_ble_eq_true rfl⟩ hF hA hS (ce_rc_4 hK hA hk5) hl rfl rfl (Nat.le_of_ble_eq_true rfl) dX7_covered_20 ⟨Nat.le_of_ble_eq_true rfl, Nat.le_of_ble_eq_true rfl⟩ (fun H locs hA hS => ?_)
    cases h
    exact ce_iretX hx hb hr hlocks hA hS (Nat.le_of_ble_eq_true rfl) (Nat.le_of_ble_eq_true rfl) dX7_covered_23
  · have h := ce_ie c10 h
    cases h
    exact ce_out htb hlocks hce hcv hcl c10 ltc10 hA hS (Nat.le_of_ble_eq_true rfl) (Nat.le_of_ble_eq_true rfl)
def f_X7_busiest (k : Nat) (M : ce_M) : Option Int32 :=
  ce_b1 (f_X6_busiestLeaf (k + 1) M) (fun (x1 : Int32) =>
  some x1)
set_option maxRecDepth 100000 in
set_option maxHeartbeats 4000000 in
theorem c_X7_busiest (l : Launch) (X : ce_X) (G : ce_G) (b : Nat) {k : Nat} {M : ce_M} (hk : ce_kd k = 7) {r : Int32} (h : f_X7_busiest k M = some r) : ce_Ct l yX7_busiest cX7_busiest 1 (some .int) 2 47 X G b [.ref (b + k)] M (some (.int r)) M := by
  refine ce_ofW (own := RX7) (by decide) rfl (Nat.le_of_ble_eq_true rfl) (fun p e s m below meth c ls hx hb hr hlocks hml hown hB hF hA hl hS => ?_)
  have hK := hF.1
  have hl : lv_has ls 1 [(0, .ref (b + k))] := hl
  unfold f_X7_busiest at h
  refine lv_aload_n hx hb dX7_busiest_0 rfl (lv_at hl 0 rfl) ?_
  refine ce_g_7_0 hx hb hB hown hK hA hk ce_w223 dX7_busiest_1 ?_
  obtain ⟨x1, g2, h⟩ := ce_b1_e h
  refine ce_callVi (As := []) (rest := []) hx hb hml hown hB (c_X6_busiestLeaf l X G b (ce_kf_7_0 hk) g2) ce_v_X6_busiestLeaf ce_w802 ⟨Nat.le_of_ble_eq_true rfl, Nat.le_of_ble_eq_true rfl⟩ hF hA hS (ce_rc_6 hK hA (ce_kf_7_0 hk)) hl rfl rfl (Nat.le_of_ble_eq_true rfl) dX7_busiest_4 ⟨Nat.le_of_ble_eq_true rfl, Nat.le_of_ble_eq_true rfl⟩ (fun H locs hA hS => ?_)
  cases h
  exact ce_iret hx hb hr hlocks hA hS dX7_busiest_7
def f_X7_type (k : Nat) (M : ce_M) (a1 : Int32) : Option (ce_M × Int32 × Nat) :=
  ce_b1 (f_X7_isBelow M a1 128) (fun (x1 : Int32) =>
  ce_b1 (f_X7_needArgument M x1) (fun (t3 : Nat) =>
  if t3 = 0 then
    ce_b1 (f_X0_isFull (k + 411) M) (fun (x5 : Int32) =>
    ce_nm (fun (x7 : Int32) =>
      ce_b1 (f_X7_needState M x7) (fun (t9 : Nat) =>
      if t9 = 0 then
        ce_b2 (f_X0_append (k + 411) M a1) (fun (M11 : ce_M) (x12 : Int32) =>
        some (M11, x12, 0))
      else
        some (M, 0, t9))) (fun (u8 : Int32 → Option (ce_M × Int32 × Nat)) =>
    if x5 = 0 then
      u8 1
    else
      u8 0))
  else
    some (M, 0, t3)))
set_option maxRecDepth 100000 in
set_option maxHeartbeats 4000000 in
theorem c_X7_type (l : Launch) (hfl : l.stackTraces = false) (X : ce_X) (G : ce_G) (b : Nat) {k : Nat} {a1 : Int32} {M : ce_M} (hk : ce_kd k = 7) {M' : ce_M} {r : Int32} {tc : Nat} (h : f_X7_type k M a1 = some (M', r, tc)) : ce_CtX l yX7_type cX7_type 2 (some .int) 7 101 2 12 X G b [.ref (b + k), .int a1] M (some (.int r)) M' tc := by
  refine ce_ofWX (own := RX7) (by decide) rfl (Nat.le_of_ble_eq_true rfl) (fun p e s m below meth c ls hx hb hr hlocks hml hown hB hF hA hl hS htb => ?_)
  have hK := hF.1
  have hl : lv_has ls 2 [(0, .ref (b + k)), (1, .int a1)] := hl
  unfold f_X7_type at h
  refine lv_iload_n hx hb dX7_type_0 rfl (lv_at hl 1 rfl) ?_
  refine lv_sipush (v := 128) hx hb dX7_type_1 (by decide) ?_
  obtain ⟨x1, g2, h⟩ := ce_b1_e h
  refine ce_callSi (As := [.int a1, .int 128]) (rest := []) hx hb hml hown hB (c_X7_isBelow l X G b  g2) ce_s_X7_isBelow ce_w586 ⟨Nat.le_of_ble_eq_true rfl, Nat.le_of_ble_eq_true rfl⟩ hF hA hS hl rfl rfl (Nat.le_of_ble_eq_true rfl) dX7_type_4 ⟨Nat.le_of_ble_eq_true rfl, Nat.le_of_ble_eq_true rfl⟩ (fun H locs hA hS => ?_)
  obtain ⟨t3, g4, h⟩ := ce_b1_e h
  refine ce_callSXv (As := [.int x1]) (rest := []) hx hb hml hown hB (c_X7_needArgument l hfl X G b  g4) ce_s_X7_needArgument ce_w375 ⟨Nat.le_of_ble_eq_true rfl, Nat.le_of_ble_eq_true rfl⟩ hF hA hS hl rfl rfl (Nat.le_of_ble_eq_true rfl) dX7_type_7 ⟨(Nat.le_of_ble_eq_true rfl), (Nat.le_of_ble_eq_true rfl)⟩ (fun c17 H locs hA hS => ?_) (fun c17 ltc17 ce qq H locs hA hS hce hcv hcl => ?_)
  · have h := ce_it c17 h
    refine lv_aload_n hx hb dX7_type_10 rfl (lv_at hl 0 rfl) ?_
    refine ce_g_7_3 hx hb hB hown hK hA hk ce_w226 dX7_type_11 ?_
    obtain ⟨x5, g6, h⟩ := ce_b1_e h
    refine ce_callVi (As := []) (rest := []) hx hb hml hown hB (c_X0_isFull l X G b (ce_kf_7_3 hk) g6) ce_v_X0_isFull ce_w783 ⟨Nat.le_of_ble_eq_true rfl, Nat.le_of_ble_eq_true rfl⟩ hF hA hS (ce_rc_0 hK hA (ce_kf_7_3 hk)) hl rfl rfl (Nat.le_of_ble_eq_true rfl) dX7_type_14 ⟨Nat.le_of_ble_eq_true rfl, Nat.le_of_ble_eq_true rfl⟩ (fun H locs hA hS => ?_)
    obtain ⟨u8, e15, h⟩ := ce_nm_e h
    have Ju8 : ∀ (x7 : Int32), u8 x7 = some (M', r, tc) → ce_Wg p l e (ce_R 7 101 2 12) s m (([.ref (b + k), .int a1] : List Value).toArray) below meth c 1 6 (vx_MQ below (ce_QT X b M' (some (.int r)) tc) (ce_XT X b M' tc) ([.ref (b + k), .int a1] : List Value).toArray s 2 12 (ce_Ab b)) X b M 2 [(0, .ref (b + k)), (1, .int a1)] 25 [.int x7] := by
      intro x7 h  H locs ls hA hS hl
      subst e15
      obtain ⟨t9, g10, h⟩ := ce_b1_e h
      refine ce_callSXv (As := [.int x7]) (rest := []) hx hb hml hown hB (c_X7_needState l hfl X G b  g10) ce_s_X7_needState ce_w393 ⟨Nat.le_of_ble_eq_true rfl, Nat.le_of_ble_eq_true rfl⟩ hF hA hS hl rfl rfl (Nat.le_of_ble_eq_true rfl) dX7_type_25 ⟨(Nat.le_of_ble_eq_true rfl), (Nat.le_of_ble_eq_true rfl)⟩ (fun c14 H locs hA hS => ?_) (fun c14 ltc14 ce qq H locs hA hS hce hcv hcl => ?_)
      · have h := ce_it c14 h
        refine lv_aload_n hx hb dX7_type_28 rfl (lv_at hl 0 rfl) ?_
        refine ce_g_7_3 hx hb hB hown hK hA hk ce_w226 dX7_type_29 ?_
        refine lv_iload_n hx hb dX7_type_32 rfl (lv_at hl 1 rfl) ?_
        obtain ⟨M11, x12, g13, h⟩ := ce_b2_e h
        refine ce_callVi (As := [.int a1]) (rest := []) hx hb hml hown hB (c_X0_append l X G b (ce_kf_7_3 hk) g13) ce_v_X0_append ce_w787 ⟨Nat.le_of_ble_eq_true rfl, Nat.le_of_ble_eq_true rfl⟩ hF hA hS (ce_rc_0 hK hA (ce_kf_7_3 hk)) hl rfl rfl (Nat.le_of_ble_eq_true rfl) dX7_type_33 ⟨Nat.le_of_ble_eq_true rfl, Nat.le_of_ble_eq_true rfl⟩ (fun H locs hA hS => ?_)
        cases h
        exact ce_iretX hx hb hr hlocks hA hS (Nat.le_of_ble_eq_true rfl) (Nat.le_of_ble_eq_true rfl) dX7_type_36
      · have h := ce_ie c14 h
        cases h
        exact ce_out htb hlocks hce hcv hcl c14 ltc14 hA hS (Nat.le_of_ble_eq_true rfl) (Nat.le_of_ble_eq_true rfl)
    refine lv_if_ne (tgt := 24) hx hb dX7_type_17 (by decide) (fun c16 => ?_) (fun c16 => ?_)
    · have h := ce_ie c16 h
      refine lv_iconst (v := 0) hx hb dX7_type_24 (by decide) ?_
      exact Ju8 0 h  _ _ _ hA hS (lv_sub hl [0, 1] rfl)
    · have h := ce_it c16 h
      refine lv_iconst (v := 1) hx hb dX7_type_20 (by decide) ?_
      refine lv_goto (tgt := 25) hx hb dX7_type_21 (by decide) ?_
      exact Ju8 1 h  _ _ _ hA hS (lv_sub hl [0, 1] rfl)
  · have h := ce_ie c17 h
    cases h
    exact ce_out htb hlocks hce hcv hcl c17 ltc17 hA hS (Nat.le_of_ble_eq_true rfl) (Nat.le_of_ble_eq_true rfl)
def f_X7_undo (k : Nat) (M : ce_M) : Option (ce_M × Int32 × Nat) :=
  ce_nm (fun (x1 : Int32) =>
      ce_b1 (f_X7_needState M x1) (fun (t3 : Nat) =>
      if t3 = 0 then
        ce_b2 (f_X5_restoreTo (k + 137) M (k + 1)) (fun (M5 : ce_M) (x6 : Int32) =>
        some (M5, x6, 0))
      else
        some (M, 0, t3))) (fun (u2 : Int32 → Option (ce_M × Int32 × Nat)) =>
  if (ce_rd M (k + 137) 2) ≤ 0 then
    u2 0
  else
    u2 1)
set_option maxRecDepth 100000 in
set_option maxHeartbeats 4000000 in
theorem c_X7_undo (l : Launch) (hfl : l.stackTraces = false) (X : ce_X) (G : ce_G) (b : Nat) {k : Nat} {M : ce_M} (hk : ce_kd k = 7) {M' : ce_M} {r : Int32} {tc : Nat} (h : f_X7_undo k M = some (M', r, tc)) : ce_CtX l yX7_undo cX7_undo 1 (some .int) 7 125 1 6 X G b [.ref (b + k)] M (some (.int r)) M' tc := by
  refine ce_ofWX (own := RX7) (by decide) rfl (Nat.le_of_ble_eq_true rfl) (fun p e s m below meth c ls hx hb hr hlocks hml hown hB hF hA hl hS htb => ?_)
  have hK := hF.1
  have hl : lv_has ls 1 [(0, .ref (b + k))] := hl
  unfold f_X7_undo at h
  refine lv_aload_n hx hb dX7_undo_0 rfl (lv_at hl 0 rfl) ?_
  refine ce_g_7_2 hx hb hB hown hK hA hk ce_w225 dX7_undo_1 ?_
  refine ce_g_5_2 hx hb hB hown hK hA (ce_kf_7_2 hk) ce_w192 dX7_undo_4 ?_
  obtain ⟨u2, e9, h⟩ := ce_nm_e h
  have Ju2 : ∀ (x1 : Int32), u2 x1 = some (M', r, tc) → ce_Wg p l e (ce_R 7 125 1 6) s m (([.ref (b + k)] : List Value).toArray) below meth c 0 0 (vx_MQ below (ce_QT X b M' (some (.int r)) tc) (ce_XT X b M' tc) ([.ref (b + k)] : List Value).toArray s 1 6 (ce_Ab b)) X b M 1 [(0, .ref (b + k))] 15 [.int x1] := by
    intro x1 h  H locs ls hA hS hl
    subst e9
    obtain ⟨t3, g4, h⟩ := ce_b1_e h
    refine ce_callSXv (As := [.int x1]) (rest := []) hx hb hml hown hB (c_X7_needState l hfl X G b  g4) ce_s_X7_needState ce_w393 ⟨Nat.le_of_ble_eq_true rfl, Nat.le_of_ble_eq_true rfl⟩ hF hA hS hl rfl rfl (Nat.le_of_ble_eq_true rfl) dX7_undo_15 ⟨(Nat.le_of_ble_eq_true rfl), (Nat.le_of_ble_eq_true rfl)⟩ (fun c8 H locs hA hS => ?_) (fun c8 ltc8 ce qq H locs hA hS hce hcv hcl => ?_)
    · have h := ce_it c8 h
      refine lv_aload_n hx hb dX7_undo_18 rfl (lv_at hl 0 rfl) ?_
      refine ce_g_7_2 hx hb hB hown hK hA hk ce_w225 dX7_undo_19 ?_
      refine lv_aload_n hx hb dX7_undo_22 rfl (lv_at hl 0 rfl) ?_
      refine ce_g_7_0 hx hb hB hown hK hA hk ce_w223 dX7_undo_23 ?_
      obtain ⟨M5, x6, g7, h⟩ := ce_b2_e h
      refine ce_callVi (As := [.ref (b + (k + 1))]) (rest := []) hx hb hml hown hB (c_X5_restoreTo l X G b (ce_kf_7_2 hk) (ce_kf_7_0 hk) g7) ce_v_X5_restoreTo ce_w610 ⟨Nat.le_of_ble_eq_true rfl, Nat.le_of_ble_eq_true rfl⟩ hF hA hS (ce_rc_5 hK hA (ce_kf_7_2 hk)) hl rfl rfl (Nat.le_of_ble_eq_true rfl) dX7_undo_26 ⟨Nat.le_of_ble_eq_true rfl, Nat.le_of_ble_eq_true rfl⟩ (fun H locs hA hS => ?_)
      cases h
      exact ce_iretX hx hb hr hlocks hA hS (Nat.le_of_ble_eq_true rfl) (Nat.le_of_ble_eq_true rfl) dX7_undo_29
    · have h := ce_ie c8 h
      cases h
      exact ce_out htb hlocks hce hcv hcl c8 ltc8 hA hS (Nat.le_of_ble_eq_true rfl) (Nat.le_of_ble_eq_true rfl)
  refine lv_if_le (tgt := 14) hx hb dX7_undo_7 (by decide) (fun c10 => ?_) (fun c10 => ?_)
  · have h := ce_it c10 h
    refine lv_iconst (v := 0) hx hb dX7_undo_14 (by decide) ?_
    exact Ju2 0 h  _ _ _ hA hS (lv_sub hl [0] rfl)
  · have h := ce_ie c10 h
    refine lv_iconst (v := 1) hx hb dX7_undo_10 (by decide) ?_
    refine lv_goto (tgt := 15) hx hb dX7_undo_11 (by decide) ?_
    exact Ju2 1 h  _ _ _ hA hS (lv_sub hl [0] rfl)
