def f_L_subscribe (M : ce_M) (a1 : Nat) (a2 : Int32) (a3 : Int32) (a4 : Int32) (a5 : Nat) : Option (ce_M × Int32) :=
  ce_b3 (f_X7_subscribe a1 M a2 a3 a4) (fun (M1 : ce_M) (x2 : Int32) (t3 : Nat) =>
  if t3 = 0 then
    ce_nm (ce_wl M1 1 (Int32.toInt64 x2)) (fun (M5 : ce_M) =>
    some (M5, 0))
  else
    if t3 = 1 then
      some (M1, 1)
    else
    if t3 = 2 then
      some (M1, 2)
    else
    if t3 = 3 then
      some (M1, 3)
    else
    none)
set_option maxRecDepth 100000 in
set_option maxHeartbeats 4000000 in
theorem c_L_subscribe (l : Launch) (hfl : l.stackTraces = false) (X : ce_X) (G : ce_G) (b : Nat) {a1 : Nat} {a2 : Int32} {a3 : Int32} {a4 : Int32} {a5 : Nat} {M : ce_M} (ha1 : ce_kd a1 = 7) (ha5 : ce_kd a5 = 12) {M' : ce_M} {r : Int32} (h : f_L_subscribe M a1 a2 a3 a4 a5 = some (M', r)) : ce_CtW l yL_subscribe cL_subscribe 6 (some .int) [(0, 12, 15, 13), (0, 12, 19, 15), (0, 12, 23, 17)] 9 182 3 18 X G b [.ref (b + a1), .int a2, .int a3, .int a4, .ref (b + a5)] M (some (.int r)) M' := by
  refine ce_ofWW (own := RL) (by decide) rfl (Nat.le_of_ble_eq_true rfl) (fun p e s m below meth c ls hx hb hr hlocks hml hown hB hF hA hl hS htab => ?_)
  have hK := hF.1
  have hl : lv_has ls 6 [(0, .ref (b + a1)), (1, .int a2), (2, .int a3), (3, .int a4), (4, .ref (b + a5))] := hl
  unfold f_L_subscribe at h
  refine lv_aload hx hb dL_subscribe_0 (lv_at hl 4 rfl) ?_
  refine lv_iconst (v := 0) hx hb dL_subscribe_2 (by decide) ?_
  refine lv_aload_n hx hb dL_subscribe_3 rfl (lv_at hl 0 rfl) ?_
  refine lv_iload_n hx hb dL_subscribe_4 rfl (lv_at hl 1 rfl) ?_
  refine lv_iload_n hx hb dL_subscribe_5 rfl (lv_at hl 2 rfl) ?_
  refine lv_iload_n hx hb dL_subscribe_6 rfl (lv_at hl 3 rfl) ?_
  obtain ⟨M1, x2, t3, g4, h⟩ := ce_b3_e h
  refine ce_callVXi (As := [.int a2, .int a3, .int a4]) (rest := [.int 0, .ref (b + a5)]) hx hb hml hown hB (c_X7_subscribe l hfl X G b ha1 g4) ce_v_X7_subscribe ce_w669 ⟨Nat.le_of_ble_eq_true rfl, Nat.le_of_ble_eq_true rfl⟩ hF hA hS (ce_rc_7 hK hA ha1) hl rfl rfl (Nat.le_of_ble_eq_true rfl) dL_subscribe_7 ⟨(Nat.le_of_ble_eq_true rfl), (Nat.le_of_ble_eq_true rfl)⟩ (fun c7 H locs hA hS => ?_) (fun c7 ltc7 ce qq H locs hA hS hce hcv hcl => ?_)
  · have h := ce_it c7 h
    refine lv_i2l hx hb dL_subscribe_10 rfl ?_
    obtain ⟨M5, e6, h⟩ := ce_nm_e h
    refine ce_last hx hb hK hA hS ha5 dL_subscribe_11 e6 (fun H locs hA hS => ?_)
    refine lv_goto (tgt := 27) hx hb dL_subscribe_12 (by decide) ?_
    refine lv_iconst (v := 0) hx hb dL_subscribe_27 (by decide) ?_
    cases h
    exact ce_iretW hx hb hr hlocks hA hS (Nat.le_of_ble_eq_true rfl) (Nat.le_of_ble_eq_true rfl) dL_subscribe_28
  · have h := ce_ie c7 h
    by_cases d8 : t3 = 1
    · have h := ce_it d8 h
      rw [d8] at hcl
      refine vx_catch (own := RL) (name := ce_IO) (E := ce_E 1) hown [] ⟨0, 12, 15, 13⟩ [⟨0, 12, 19, 15⟩, ⟨0, 12, 23, 17⟩] (htab.trans rfl) (fun _ h9 => nomatch h9) (by decide) (by decide) (hB _ ce_lk13) (va_Nw.use rfl hF.2.2.2.2.2.1.1) hce hcv hcl ?_
      refine lv_astore (lv' := [(5, .ref qq), (0, .ref (b + a1)), (1, .int a2), (2, .int a3), (3, .int a4), (4, .ref (b + a5))]) hx hb dL_subscribe_15 hl (by decide) rfl (fun ls hl => ?_)
      refine lv_iconst (v := 1) hx hb dL_subscribe_17 (by decide) ?_
      cases h
      exact ce_iretW hx hb hr hlocks hA hS (Nat.le_of_ble_eq_true rfl) (Nat.le_of_ble_eq_true rfl) dL_subscribe_18
    have h := ce_ie d8 h
    by_cases d9 : t3 = 2
    · have h := ce_it d9 h
      rw [d9] at hcl
      refine vx_catch (own := RL) (name := ce_IA) (E := ce_E 2) hown [⟨0, 12, 15, 13⟩] ⟨0, 12, 19, 15⟩ [⟨0, 12, 23, 17⟩] (htab.trans rfl) (fun z hz => by simp only [List.mem_cons, List.not_mem_nil, or_false] at hz; rcases hz with rfl; exact Or.inr (ce_passed hB (by decide) ce_lk13 hF.2.2.2.2.2.2.2.1)) (by decide) (by decide) (hB _ ce_lk15) (va_Nw.use rfl hF.2.2.2.2.2.1.2.1) hce hcv hcl ?_
      refine lv_astore (lv' := [(5, .ref qq), (0, .ref (b + a1)), (1, .int a2), (2, .int a3), (3, .int a4), (4, .ref (b + a5))]) hx hb dL_subscribe_19 hl (by decide) rfl (fun ls hl => ?_)
      refine lv_iconst (v := 2) hx hb dL_subscribe_21 (by decide) ?_
      cases h
      exact ce_iretW hx hb hr hlocks hA hS (Nat.le_of_ble_eq_true rfl) (Nat.le_of_ble_eq_true rfl) dL_subscribe_22
    have h := ce_ie d9 h
    by_cases d10 : t3 = 3
    · have h := ce_it d10 h
      rw [d10] at hcl
      refine vx_catch (own := RL) (name := ce_IS) (E := ce_E 3) hown [⟨0, 12, 15, 13⟩, ⟨0, 12, 19, 15⟩] ⟨0, 12, 23, 17⟩ [] (htab.trans rfl) (fun z hz => by simp only [List.mem_cons, List.not_mem_nil, or_false] at hz; rcases hz with rfl | rfl <;> first | exact Or.inr (ce_passed hB (by decide) ce_lk13 hF.2.2.2.2.2.2.2.2.1) | exact Or.inr (ce_passed hB (by decide) ce_lk15 hF.2.2.2.2.2.2.2.2.2)) (by decide) (by decide) (hB _ ce_lk17) (va_Nw.use rfl hF.2.2.2.2.2.1.2.2) hce hcv hcl ?_
      refine lv_astore (lv' := [(5, .ref qq), (0, .ref (b + a1)), (1, .int a2), (2, .int a3), (3, .int a4), (4, .ref (b + a5))]) hx hb dL_subscribe_23 hl (by decide) rfl (fun ls hl => ?_)
      refine lv_iconst (v := 3) hx hb dL_subscribe_25 (by decide) ?_
      cases h
      exact ce_iretW hx hb hr hlocks hA hS (Nat.le_of_ble_eq_true rfl) (Nat.le_of_ble_eq_true rfl) dL_subscribe_26
    have h := ce_ie d10 h
    cases h
def f_L_move (M : ce_M) (a1 : Nat) (a2 : Int32) (a3 : Int32) (a4 : Nat) : Option (ce_M × Int32) :=
  ce_b3 (f_X7_move a1 M a2 a3) (fun (M1 : ce_M) (x2 : Int32) (t3 : Nat) =>
  if t3 = 0 then
    ce_nm (ce_wl M1 1 (Int32.toInt64 x2)) (fun (M5 : ce_M) =>
    some (M5, 0))
  else
    if t3 = 1 then
      some (M1, 1)
    else
    if t3 = 3 then
      some (M1, 2)
    else
    none)
set_option maxRecDepth 100000 in
set_option maxHeartbeats 4000000 in
theorem c_L_move (l : Launch) (hfl : l.stackTraces = false) (X : ce_X) (G : ce_G) (b : Nat) {a1 : Nat} {a2 : Int32} {a3 : Int32} {a4 : Nat} {M : ce_M} (ha1 : ce_kd a1 = 7) (ha4 : ce_kd a4 = 12) {M' : ce_M} {r : Int32} (h : f_L_move M a1 a2 a3 a4 = some (M', r)) : ce_CtW l yL_move cL_move 5 (some .int) [(0, 10, 13, 13), (0, 10, 17, 17)] 9 181 3 18 X G b [.ref (b + a1), .int a2, .int a3, .ref (b + a4)] M (some (.int r)) M' := by
  refine ce_ofWW (own := RL) (by decide) rfl (Nat.le_of_ble_eq_true rfl) (fun p e s m below meth c ls hx hb hr hlocks hml hown hB hF hA hl hS htab => ?_)
  have hK := hF.1
  have hl : lv_has ls 5 [(0, .ref (b + a1)), (1, .int a2), (2, .int a3), (3, .ref (b + a4))] := hl
  unfold f_L_move at h
  refine lv_aload_n hx hb dL_move_0 rfl (lv_at hl 3 rfl) ?_
  refine lv_iconst (v := 0) hx hb dL_move_1 (by decide) ?_
  refine lv_aload_n hx hb dL_move_2 rfl (lv_at hl 0 rfl) ?_
  refine lv_iload_n hx hb dL_move_3 rfl (lv_at hl 1 rfl) ?_
  refine lv_iload_n hx hb dL_move_4 rfl (lv_at hl 2 rfl) ?_
  obtain ⟨M1, x2, t3, g4, h⟩ := ce_b3_e h
  refine ce_callVXi (As := [.int a2, .int a3]) (rest := [.int 0, .ref (b + a4)]) hx hb hml hown hB (c_X7_move l hfl X G b ha1 g4) ce_v_X7_move ce_w782 ⟨Nat.le_of_ble_eq_true rfl, Nat.le_of_ble_eq_true rfl⟩ hF hA hS (ce_rc_7 hK hA ha1) hl rfl rfl (Nat.le_of_ble_eq_true rfl) dL_move_5 ⟨(Nat.le_of_ble_eq_true rfl), (Nat.le_of_ble_eq_true rfl)⟩ (fun c7 H locs hA hS => ?_) (fun c7 ltc7 ce qq H locs hA hS hce hcv hcl => ?_)
  · have h := ce_it c7 h
    refine lv_i2l hx hb dL_move_8 rfl ?_
    obtain ⟨M5, e6, h⟩ := ce_nm_e h
    refine ce_last hx hb hK hA hS ha4 dL_move_9 e6 (fun H locs hA hS => ?_)
    refine lv_goto (tgt := 21) hx hb dL_move_10 (by decide) ?_
    refine lv_iconst (v := 0) hx hb dL_move_21 (by decide) ?_
    cases h
    exact ce_iretW hx hb hr hlocks hA hS (Nat.le_of_ble_eq_true rfl) (Nat.le_of_ble_eq_true rfl) dL_move_22
  · have h := ce_ie c7 h
    by_cases d8 : t3 = 1
    · have h := ce_it d8 h
      rw [d8] at hcl
      refine vx_catch (own := RL) (name := ce_IO) (E := ce_E 1) hown [] ⟨0, 10, 13, 13⟩ [⟨0, 10, 17, 17⟩] (htab.trans rfl) (fun _ h9 => nomatch h9) (by decide) (by decide) (hB _ ce_lk13) (va_Nw.use rfl hF.2.2.2.2.2.1.1) hce hcv hcl ?_
      refine lv_astore (lv' := [(4, .ref qq), (0, .ref (b + a1)), (1, .int a2), (2, .int a3), (3, .ref (b + a4))]) hx hb dL_move_13 hl (by decide) rfl (fun ls hl => ?_)
      refine lv_iconst (v := 1) hx hb dL_move_15 (by decide) ?_
      cases h
      exact ce_iretW hx hb hr hlocks hA hS (Nat.le_of_ble_eq_true rfl) (Nat.le_of_ble_eq_true rfl) dL_move_16
    have h := ce_ie d8 h
    by_cases d9 : t3 = 3
    · have h := ce_it d9 h
      rw [d9] at hcl
      refine vx_catch (own := RL) (name := ce_IS) (E := ce_E 3) hown [⟨0, 10, 13, 13⟩] ⟨0, 10, 17, 17⟩ [] (htab.trans rfl) (fun z hz => by simp only [List.mem_cons, List.not_mem_nil, or_false] at hz; rcases hz with rfl; exact Or.inr (ce_passed hB (by decide) ce_lk13 hF.2.2.2.2.2.2.2.2.1)) (by decide) (by decide) (hB _ ce_lk17) (va_Nw.use rfl hF.2.2.2.2.2.1.2.2) hce hcv hcl ?_
      refine lv_astore (lv' := [(4, .ref qq), (0, .ref (b + a1)), (1, .int a2), (2, .int a3), (3, .ref (b + a4))]) hx hb dL_move_17 hl (by decide) rfl (fun ls hl => ?_)
      refine lv_iconst (v := 2) hx hb dL_move_19 (by decide) ?_
      cases h
      exact ce_iretW hx hb hr hlocks hA hS (Nat.le_of_ble_eq_true rfl) (Nat.le_of_ble_eq_true rfl) dL_move_20
    have h := ce_ie d9 h
    cases h
def f_L_leave (M : ce_M) (a1 : Nat) (a2 : Int32) (a3 : Nat) : Option (ce_M × Int32) :=
  ce_b3 (f_X7_leave a1 M a2) (fun (M1 : ce_M) (x2 : Int32) (t3 : Nat) =>
  if t3 = 0 then
    ce_nm (ce_wl M1 1 (Int32.toInt64 x2)) (fun (M5 : ce_M) =>
    some (M5, 0))
  else
    if t3 = 1 then
      some (M1, 1)
    else
    if t3 = 3 then
      some (M1, 2)
    else
    none)
set_option maxRecDepth 100000 in
set_option maxHeartbeats 4000000 in
theorem c_L_leave (l : Launch) (hfl : l.stackTraces = false) (X : ce_X) (G : ce_G) (b : Nat) {a1 : Nat} {a2 : Int32} {a3 : Nat} {M : ce_M} (ha1 : ce_kd a1 = 7) (ha3 : ce_kd a3 = 12) {M' : ce_M} {r : Int32} (h : f_L_leave M a1 a2 a3 = some (M', r)) : ce_CtW l yL_leave cL_leave 4 (some .int) [(0, 9, 12, 13), (0, 9, 15, 17)] 9 180 3 18 X G b [.ref (b + a1), .int a2, .ref (b + a3)] M (some (.int r)) M' := by
  refine ce_ofWW (own := RL) (by decide) rfl (Nat.le_of_ble_eq_true rfl) (fun p e s m below meth c ls hx hb hr hlocks hml hown hB hF hA hl hS htab => ?_)
  have hK := hF.1
  have hl : lv_has ls 4 [(0, .ref (b + a1)), (1, .int a2), (2, .ref (b + a3))] := hl
  unfold f_L_leave at h
  refine lv_aload_n hx hb dL_leave_0 rfl (lv_at hl 2 rfl) ?_
  refine lv_iconst (v := 0) hx hb dL_leave_1 (by decide) ?_
  refine lv_aload_n hx hb dL_leave_2 rfl (lv_at hl 0 rfl) ?_
  refine lv_iload_n hx hb dL_leave_3 rfl (lv_at hl 1 rfl) ?_
  obtain ⟨M1, x2, t3, g4, h⟩ := ce_b3_e h
  refine ce_callVXi (As := [.int a2]) (rest := [.int 0, .ref (b + a3)]) hx hb hml hown hB (c_X7_leave l hfl X G b ha1 g4) ce_v_X7_leave ce_w789 ⟨Nat.le_of_ble_eq_true rfl, Nat.le_of_ble_eq_true rfl⟩ hF hA hS (ce_rc_7 hK hA ha1) hl rfl rfl (Nat.le_of_ble_eq_true rfl) dL_leave_4 ⟨(Nat.le_of_ble_eq_true rfl), (Nat.le_of_ble_eq_true rfl)⟩ (fun c7 H locs hA hS => ?_) (fun c7 ltc7 ce qq H locs hA hS hce hcv hcl => ?_)
  · have h := ce_it c7 h
    refine lv_i2l hx hb dL_leave_7 rfl ?_
    obtain ⟨M5, e6, h⟩ := ce_nm_e h
    refine ce_last hx hb hK hA hS ha3 dL_leave_8 e6 (fun H locs hA hS => ?_)
    refine lv_goto (tgt := 18) hx hb dL_leave_9 (by decide) ?_
    refine lv_iconst (v := 0) hx hb dL_leave_18 (by decide) ?_
    cases h
    exact ce_iretW hx hb hr hlocks hA hS (Nat.le_of_ble_eq_true rfl) (Nat.le_of_ble_eq_true rfl) dL_leave_19
  · have h := ce_ie c7 h
    by_cases d8 : t3 = 1
    · have h := ce_it d8 h
      rw [d8] at hcl
      refine vx_catch (own := RL) (name := ce_IO) (E := ce_E 1) hown [] ⟨0, 9, 12, 13⟩ [⟨0, 9, 15, 17⟩] (htab.trans rfl) (fun _ h9 => nomatch h9) (by decide) (by decide) (hB _ ce_lk13) (va_Nw.use rfl hF.2.2.2.2.2.1.1) hce hcv hcl ?_
      refine lv_astore_n (lv' := [(3, .ref qq), (0, .ref (b + a1)), (1, .int a2), (2, .ref (b + a3))]) hx hb dL_leave_12 rfl hl (by decide) rfl (fun ls hl => ?_)
      refine lv_iconst (v := 1) hx hb dL_leave_13 (by decide) ?_
      cases h
      exact ce_iretW hx hb hr hlocks hA hS (Nat.le_of_ble_eq_true rfl) (Nat.le_of_ble_eq_true rfl) dL_leave_14
    have h := ce_ie d8 h
    by_cases d9 : t3 = 3
    · have h := ce_it d9 h
      rw [d9] at hcl
      refine vx_catch (own := RL) (name := ce_IS) (E := ce_E 3) hown [⟨0, 9, 12, 13⟩] ⟨0, 9, 15, 17⟩ [] (htab.trans rfl) (fun z hz => by simp only [List.mem_cons, List.not_mem_nil, or_false] at hz; rcases hz with rfl; exact Or.inr (ce_passed hB (by decide) ce_lk13 hF.2.2.2.2.2.2.2.2.1)) (by decide) (by decide) (hB _ ce_lk17) (va_Nw.use rfl hF.2.2.2.2.2.1.2.2) hce hcv hcl ?_
      refine lv_astore_n (lv' := [(3, .ref qq), (0, .ref (b + a1)), (1, .int a2), (2, .ref (b + a3))]) hx hb dL_leave_15 rfl hl (by decide) rfl (fun ls hl => ?_)
      refine lv_iconst (v := 2) hx hb dL_leave_16 (by decide) ?_
      cases h
      exact ce_iretW hx hb hr hlocks hA hS (Nat.le_of_ble_eq_true rfl) (Nat.le_of_ble_eq_true rfl) dL_leave_17
    have h := ce_ie d9 h
    cases h
def f_L_setLevel (M : ce_M) (a1 : Nat) (a2 : Int32) (a3 : Int32) (a4 : Nat) : Option (ce_M × Int32) :=
  ce_b3 (f_X7_setLevel a1 M a2 a3) (fun (M1 : ce_M) (x2 : Int32) (t3 : Nat) =>
  if t3 = 0 then
    ce_nm (ce_wl M1 1 (Int32.toInt64 x2)) (fun (M5 : ce_M) =>
    some (M5, 0))
  else
    if t3 = 1 then
      some (M1, 1)
    else
    if t3 = 2 then
      some (M1, 2)
    else
    none)
set_option maxRecDepth 100000 in
set_option maxHeartbeats 4000000 in
theorem c_L_setLevel (l : Launch) (hfl : l.stackTraces = false) (X : ce_X) (G : ce_G) (b : Nat) {a1 : Nat} {a2 : Int32} {a3 : Int32} {a4 : Nat} {M : ce_M} (ha1 : ce_kd a1 = 7) (ha4 : ce_kd a4 = 12) {M' : ce_M} {r : Int32} (h : f_L_setLevel M a1 a2 a3 a4 = some (M', r)) : ce_CtW l yL_setLevel cL_setLevel 5 (some .int) [(0, 10, 13, 13), (0, 10, 17, 15)] 9 181 3 18 X G b [.ref (b + a1), .int a2, .int a3, .ref (b + a4)] M (some (.int r)) M' := by
  refine ce_ofWW (own := RL) (by decide) rfl (Nat.le_of_ble_eq_true rfl) (fun p e s m below meth c ls hx hb hr hlocks hml hown hB hF hA hl hS htab => ?_)
  have hK := hF.1
  have hl : lv_has ls 5 [(0, .ref (b + a1)), (1, .int a2), (2, .int a3), (3, .ref (b + a4))] := hl
  unfold f_L_setLevel at h
  refine lv_aload_n hx hb dL_setLevel_0 rfl (lv_at hl 3 rfl) ?_
  refine lv_iconst (v := 0) hx hb dL_setLevel_1 (by decide) ?_
  refine lv_aload_n hx hb dL_setLevel_2 rfl (lv_at hl 0 rfl) ?_
  refine lv_iload_n hx hb dL_setLevel_3 rfl (lv_at hl 1 rfl) ?_
  refine lv_iload_n hx hb dL_setLevel_4 rfl (lv_at hl 2 rfl) ?_
  obtain ⟨M1, x2, t3, g4, h⟩ := ce_b3_e h
  refine ce_callVXi (As := [.int a2, .int a3]) (rest := [.int 0, .ref (b + a4)]) hx hb hml hown hB (c_X7_setLevel l hfl X G b ha1 g4) ce_v_X7_setLevel ce_w796 ⟨Nat.le_of_ble_eq_true rfl, Nat.le_of_ble_eq_true rfl⟩ hF hA hS (ce_rc_7 hK hA ha1) hl rfl rfl (Nat.le_of_ble_eq_true rfl) dL_setLevel_5 ⟨(Nat.le_of_ble_eq_true rfl), (Nat.le_of_ble_eq_true rfl)⟩ (fun c7 H locs hA hS => ?_) (fun c7 ltc7 ce qq H locs hA hS hce hcv hcl => ?_)
  · have h := ce_it c7 h
    refine lv_i2l hx hb dL_setLevel_8 rfl ?_
    obtain ⟨M5, e6, h⟩ := ce_nm_e h
    refine ce_last hx hb hK hA hS ha4 dL_setLevel_9 e6 (fun H locs hA hS => ?_)
    refine lv_goto (tgt := 21) hx hb dL_setLevel_10 (by decide) ?_
    refine lv_iconst (v := 0) hx hb dL_setLevel_21 (by decide) ?_
    cases h
    exact ce_iretW hx hb hr hlocks hA hS (Nat.le_of_ble_eq_true rfl) (Nat.le_of_ble_eq_true rfl) dL_setLevel_22
  · have h := ce_ie c7 h
    by_cases d8 : t3 = 1
    · have h := ce_it d8 h
      rw [d8] at hcl
      refine vx_catch (own := RL) (name := ce_IO) (E := ce_E 1) hown [] ⟨0, 10, 13, 13⟩ [⟨0, 10, 17, 15⟩] (htab.trans rfl) (fun _ h9 => nomatch h9) (by decide) (by decide) (hB _ ce_lk13) (va_Nw.use rfl hF.2.2.2.2.2.1.1) hce hcv hcl ?_
      refine lv_astore (lv' := [(4, .ref qq), (0, .ref (b + a1)), (1, .int a2), (2, .int a3), (3, .ref (b + a4))]) hx hb dL_setLevel_13 hl (by decide) rfl (fun ls hl => ?_)
      refine lv_iconst (v := 1) hx hb dL_setLevel_15 (by decide) ?_
      cases h
      exact ce_iretW hx hb hr hlocks hA hS (Nat.le_of_ble_eq_true rfl) (Nat.le_of_ble_eq_true rfl) dL_setLevel_16
    have h := ce_ie d8 h
    by_cases d9 : t3 = 2
    · have h := ce_it d9 h
      rw [d9] at hcl
      refine vx_catch (own := RL) (name := ce_IA) (E := ce_E 2) hown [⟨0, 10, 13, 13⟩] ⟨0, 10, 17, 15⟩ [] (htab.trans rfl) (fun z hz => by simp only [List.mem_cons, List.not_mem_nil, or_false] at hz; rcases hz with rfl; exact Or.inr (ce_passed hB (by decide) ce_lk13 hF.2.2.2.2.2.2.2.1)) (by decide) (by decide) (hB _ ce_lk15) (va_Nw.use rfl hF.2.2.2.2.2.1.2.1) hce hcv hcl ?_
      refine lv_astore (lv' := [(4, .ref qq), (0, .ref (b + a1)), (1, .int a2), (2, .int a3), (3, .ref (b + a4))]) hx hb dL_setLevel_17 hl (by decide) rfl (fun ls hl => ?_)
      refine lv_iconst (v := 2) hx hb dL_setLevel_19 (by decide) ?_
      cases h
      exact ce_iretW hx hb hr hlocks hA hS (Nat.le_of_ble_eq_true rfl) (Nat.le_of_ble_eq_true rfl) dL_setLevel_20
    have h := ce_ie d9 h
    cases h
def f_L_set (M : ce_M) (a1 : Nat) (a2 : Int32) (a3 : Int32) (a4 : Nat) : Option (ce_M × Int32) :=
  ce_b3 (f_X7_set a1 M a2 a3) (fun (M1 : ce_M) (x2 : Int32) (t3 : Nat) =>
  if t3 = 0 then
    ce_nm (ce_wl M1 1 (Int32.toInt64 x2)) (fun (M5 : ce_M) =>
    some (M5, 0))
  else
    if t3 = 2 then
      some (M1, 1)
    else
    none)
set_option maxRecDepth 100000 in
set_option maxHeartbeats 4000000 in
theorem c_L_set (l : Launch) (hfl : l.stackTraces = false) (X : ce_X) (G : ce_G) (b : Nat) {a1 : Nat} {a2 : Int32} {a3 : Int32} {a4 : Nat} {M : ce_M} (ha1 : ce_kd a1 = 7) (ha4 : ce_kd a4 = 12) {M' : ce_M} {r : Int32} (h : f_L_set M a1 a2 a3 a4 = some (M', r)) : ce_CtW l yL_set cL_set 5 (some .int) [(0, 10, 13, 15)] 9 181 3 18 X G b [.ref (b + a1), .int a2, .int a3, .ref (b + a4)] M (some (.int r)) M' := by
  refine ce_ofWW (own := RL) (by decide) rfl (Nat.le_of_ble_eq_true rfl) (fun p e s m below meth c ls hx hb hr hlocks hml hown hB hF hA hl hS htab => ?_)
  have hK := hF.1
  have hl : lv_has ls 5 [(0, .ref (b + a1)), (1, .int a2), (2, .int a3), (3, .ref (b + a4))] := hl
  unfold f_L_set at h
  refine lv_aload_n hx hb dL_set_0 rfl (lv_at hl 3 rfl) ?_
  refine lv_iconst (v := 0) hx hb dL_set_1 (by decide) ?_
  refine lv_aload_n hx hb dL_set_2 rfl (lv_at hl 0 rfl) ?_
  refine lv_iload_n hx hb dL_set_3 rfl (lv_at hl 1 rfl) ?_
  refine lv_iload_n hx hb dL_set_4 rfl (lv_at hl 2 rfl) ?_
  obtain ⟨M1, x2, t3, g4, h⟩ := ce_b3_e h
  refine ce_callVXi (As := [.int a2, .int a3]) (rest := [.int 0, .ref (b + a4)]) hx hb hml hown hB (c_X7_set l hfl X G b ha1 g4) ce_v_X7_set ce_w803 ⟨Nat.le_of_ble_eq_true rfl, Nat.le_of_ble_eq_true rfl⟩ hF hA hS (ce_rc_7 hK hA ha1) hl rfl rfl (Nat.le_of_ble_eq_true rfl) dL_set_5 ⟨(Nat.le_of_ble_eq_true rfl), (Nat.le_of_ble_eq_true rfl)⟩ (fun c7 H locs hA hS => ?_) (fun c7 ltc7 ce qq H locs hA hS hce hcv hcl => ?_)
  · have h := ce_it c7 h
    refine lv_i2l hx hb dL_set_8 rfl ?_
    obtain ⟨M5, e6, h⟩ := ce_nm_e h
    refine ce_last hx hb hK hA hS ha4 dL_set_9 e6 (fun H locs hA hS => ?_)
    refine lv_goto (tgt := 17) hx hb dL_set_10 (by decide) ?_
    refine lv_iconst (v := 0) hx hb dL_set_17 (by decide) ?_
    cases h
    exact ce_iretW hx hb hr hlocks hA hS (Nat.le_of_ble_eq_true rfl) (Nat.le_of_ble_eq_true rfl) dL_set_18
  · have h := ce_ie c7 h
    by_cases d8 : t3 = 2
    · have h := ce_it d8 h
      rw [d8] at hcl
      refine vx_catch (own := RL) (name := ce_IA) (E := ce_E 2) hown [] ⟨0, 10, 13, 15⟩ [] (htab.trans rfl) (fun _ h9 => nomatch h9) (by decide) (by decide) (hB _ ce_lk15) (va_Nw.use rfl hF.2.2.2.2.2.1.2.1) hce hcv hcl ?_
      refine lv_astore (lv' := [(4, .ref qq), (0, .ref (b + a1)), (1, .int a2), (2, .int a3), (3, .ref (b + a4))]) hx hb dL_set_13 hl (by decide) rfl (fun ls hl => ?_)
      refine lv_iconst (v := 1) hx hb dL_set_15 (by decide) ?_
      cases h
      exact ce_iretW hx hb hr hlocks hA hS (Nat.le_of_ble_eq_true rfl) (Nat.le_of_ble_eq_true rfl) dL_set_16
    have h := ce_ie d8 h
    cases h
def f_L_publish (M : ce_M) (a1 : Nat) (a2 : Int32) (a3 : Int32) (a4 : Int32) (a5 : Nat) : Option (ce_M × Int32) :=
  ce_b3 (f_X7_publish a1 M a2 a3 a4) (fun (M1 : ce_M) (x2 : Int32) (t3 : Nat) =>
  if t3 = 0 then
    ce_nm (ce_wl M1 1 (Int32.toInt64 x2)) (fun (M5 : ce_M) =>
    some (M5, 0))
  else
    if t3 = 1 then
      some (M1, 1)
    else
    if t3 = 2 then
      some (M1, 2)
    else
    if t3 = 3 then
      some (M1, 3)
    else
    none)
set_option maxRecDepth 100000 in
set_option maxHeartbeats 4000000 in
theorem c_L_publish (l : Launch) (hfl : l.stackTraces = false) (X : ce_X) (G : ce_G) (b : Nat) {a1 : Nat} {a2 : Int32} {a3 : Int32} {a4 : Int32} {a5 : Nat} {M : ce_M} (ha1 : ce_kd a1 = 7) (ha5 : ce_kd a5 = 12) {M' : ce_M} {r : Int32} (h : f_L_publish M a1 a2 a3 a4 a5 = some (M', r)) : ce_CtW l yL_publish cL_publish 6 (some .int) [(0, 12, 15, 13), (0, 12, 19, 15), (0, 12, 23, 17)] 9 182 3 18 X G b [.ref (b + a1), .int a2, .int a3, .int a4, .ref (b + a5)] M (some (.int r)) M' := by
  refine ce_ofWW (own := RL) (by decide) rfl (Nat.le_of_ble_eq_true rfl) (fun p e s m below meth c ls hx hb hr hlocks hml hown hB hF hA hl hS htab => ?_)
  have hK := hF.1
  have hl : lv_has ls 6 [(0, .ref (b + a1)), (1, .int a2), (2, .int a3), (3, .int a4), (4, .ref (b + a5))] := hl
  unfold f_L_publish at h
  refine lv_aload hx hb dL_publish_0 (lv_at hl 4 rfl) ?_
  refine lv_iconst (v := 0) hx hb dL_publish_2 (by decide) ?_
  refine lv_aload_n hx hb dL_publish_3 rfl (lv_at hl 0 rfl) ?_
  refine lv_iload_n hx hb dL_publish_4 rfl (lv_at hl 1 rfl) ?_
  refine lv_iload_n hx hb dL_publish_5 rfl (lv_at hl 2 rfl) ?_
  refine lv_iload_n hx hb dL_publish_6 rfl (lv_at hl 3 rfl) ?_
  obtain ⟨M1, x2, t3, g4, h⟩ := ce_b3_e h
  refine ce_callVXi (As := [.int a2, .int a3, .int a4]) (rest := [.int 0, .ref (b + a5)]) hx hb hml hown hB (c_X7_publish l hfl X G b ha1 g4) ce_v_X7_publish ce_w810 ⟨Nat.le_of_ble_eq_true rfl, Nat.le_of_ble_eq_true rfl⟩ hF hA hS (ce_rc_7 hK hA ha1) hl rfl rfl (Nat.le_of_ble_eq_true rfl) dL_publish_7 ⟨(Nat.le_of_ble_eq_true rfl), (Nat.le_of_ble_eq_true rfl)⟩ (fun c7 H locs hA hS => ?_) (fun c7 ltc7 ce qq H locs hA hS hce hcv hcl => ?_)
  · have h := ce_it c7 h
    refine lv_i2l hx hb dL_publish_10 rfl ?_
    obtain ⟨M5, e6, h⟩ := ce_nm_e h
    refine ce_last hx hb hK hA hS ha5 dL_publish_11 e6 (fun H locs hA hS => ?_)
    refine lv_goto (tgt := 27) hx hb dL_publish_12 (by decide) ?_
    refine lv_iconst (v := 0) hx hb dL_publish_27 (by decide) ?_
    cases h
    exact ce_iretW hx hb hr hlocks hA hS (Nat.le_of_ble_eq_true rfl) (Nat.le_of_ble_eq_true rfl) dL_publish_28
  · have h := ce_ie c7 h
    by_cases d8 : t3 = 1
    · have h := ce_it d8 h
      rw [d8] at hcl
      refine vx_catch (own := RL) (name := ce_IO) (E := ce_E 1) hown [] ⟨0, 12, 15, 13⟩ [⟨0, 12, 19, 15⟩, ⟨0, 12, 23, 17⟩] (htab.trans rfl) (fun _ h9 => nomatch h9) (by decide) (by decide) (hB _ ce_lk13) (va_Nw.use rfl hF.2.2.2.2.2.1.1) hce hcv hcl ?_
      refine lv_astore (lv' := [(5, .ref qq), (0, .ref (b + a1)), (1, .int a2), (2, .int a3), (3, .int a4), (4, .ref (b + a5))]) hx hb dL_publish_15 hl (by decide) rfl (fun ls hl => ?_)
      refine lv_iconst (v := 1) hx hb dL_publish_17 (by decide) ?_
      cases h
      exact ce_iretW hx hb hr hlocks hA hS (Nat.le_of_ble_eq_true rfl) (Nat.le_of_ble_eq_true rfl) dL_publish_18
    have h := ce_ie d8 h
    by_cases d9 : t3 = 2
    · have h := ce_it d9 h
      rw [d9] at hcl
      refine vx_catch (own := RL) (name := ce_IA) (E := ce_E 2) hown [⟨0, 12, 15, 13⟩] ⟨0, 12, 19, 15⟩ [⟨0, 12, 23, 17⟩] (htab.trans rfl) (fun z hz => by simp only [List.mem_cons, List.not_mem_nil, or_false] at hz; rcases hz with rfl; exact Or.inr (ce_passed hB (by decide) ce_lk13 hF.2.2.2.2.2.2.2.1)) (by decide) (by decide) (hB _ ce_lk15) (va_Nw.use rfl hF.2.2.2.2.2.1.2.1) hce hcv hcl ?_
      refine lv_astore (lv' := [(5, .ref qq), (0, .ref (b + a1)), (1, .int a2), (2, .int a3), (3, .int a4), (4, .ref (b + a5))]) hx hb dL_publish_19 hl (by decide) rfl (fun ls hl => ?_)
      refine lv_iconst (v := 2) hx hb dL_publish_21 (by decide) ?_
      cases h
      exact ce_iretW hx hb hr hlocks hA hS (Nat.le_of_ble_eq_true rfl) (Nat.le_of_ble_eq_true rfl) dL_publish_22
    have h := ce_ie d9 h
    by_cases d10 : t3 = 3
    · have h := ce_it d10 h
      rw [d10] at hcl
      refine vx_catch (own := RL) (name := ce_IS) (E := ce_E 3) hown [⟨0, 12, 15, 13⟩, ⟨0, 12, 19, 15⟩] ⟨0, 12, 23, 17⟩ [] (htab.trans rfl) (fun z hz => by simp only [List.mem_cons, List.not_mem_nil, or_false] at hz; rcases hz with rfl | rfl <;> first | exact Or.inr (ce_passed hB (by decide) ce_lk13 hF.2.2.2.2.2.2.2.2.1) | exact Or.inr (ce_passed hB (by decide) ce_lk15 hF.2.2.2.2.2.2.2.2.2)) (by decide) (by decide) (hB _ ce_lk17) (va_Nw.use rfl hF.2.2.2.2.2.1.2.2) hce hcv hcl ?_
      refine lv_astore (lv' := [(5, .ref qq), (0, .ref (b + a1)), (1, .int a2), (2, .int a3), (3, .int a4), (4, .ref (b + a5))]) hx hb dL_publish_23 hl (by decide) rfl (fun ls hl => ?_)
      refine lv_iconst (v := 3) hx hb dL_publish_25 (by decide) ?_
      cases h
      exact ce_iretW hx hb hr hlocks hA hS (Nat.le_of_ble_eq_true rfl) (Nat.le_of_ble_eq_true rfl) dL_publish_26
    have h := ce_ie d10 h
    cases h
def f_L_pass (M : ce_M) (a1 : Nat) (a2 : Int32) (a3 : Nat) : Option (ce_M × Int32) :=
  ce_b3 (f_X7_pass a1 M a2) (fun (M1 : ce_M) (x2 : Int32) (t3 : Nat) =>
  if t3 = 0 then
    ce_nm (ce_wl M1 1 (Int32.toInt64 x2)) (fun (M5 : ce_M) =>
    some (M5, 0))
  else
    if t3 = 2 then
      some (M1, 1)
    else
    if t3 = 3 then
      some (M1, 2)
    else
    none)
set_option maxRecDepth 100000 in
set_option maxHeartbeats 4000000 in
theorem c_L_pass (l : Launch) (hfl : l.stackTraces = false) (X : ce_X) (G : ce_G) (b : Nat) {a1 : Nat} {a2 : Int32} {a3 : Nat} {M : ce_M} (ha1 : ce_kd a1 = 7) (ha3 : ce_kd a3 = 12) {M' : ce_M} {r : Int32} (h : f_L_pass M a1 a2 a3 = some (M', r)) : ce_CtW l yL_pass cL_pass 4 (some .int) [(0, 9, 12, 15), (0, 9, 15, 17)] 9 180 3 18 X G b [.ref (b + a1), .int a2, .ref (b + a3)] M (some (.int r)) M' := by
  refine ce_ofWW (own := RL) (by decide) rfl (Nat.le_of_ble_eq_true rfl) (fun p e s m below meth c ls hx hb hr hlocks hml hown hB hF hA hl hS htab => ?_)
  have hK := hF.1
  have hl : lv_has ls 4 [(0, .ref (b + a1)), (1, .int a2), (2, .ref (b + a3))] := hl
  unfold f_L_pass at h
  refine lv_aload_n hx hb dL_pass_0 rfl (lv_at hl 2 rfl) ?_
  refine lv_iconst (v := 0) hx hb dL_pass_1 (by decide) ?_
  refine lv_aload_n hx hb dL_pass_2 rfl (lv_at hl 0 rfl) ?_
  refine lv_iload_n hx hb dL_pass_3 rfl (lv_at hl 1 rfl) ?_
  obtain ⟨M1, x2, t3, g4, h⟩ := ce_b3_e h
  refine ce_callVXi (As := [.int a2]) (rest := [.int 0, .ref (b + a3)]) hx hb hml hown hB (c_X7_pass l hfl X G b ha1 g4) ce_v_X7_pass ce_w817 ⟨Nat.le_of_ble_eq_true rfl, Nat.le_of_ble_eq_true rfl⟩ hF hA hS (ce_rc_7 hK hA ha1) hl rfl rfl (Nat.le_of_ble_eq_true rfl) dL_pass_4 ⟨(Nat.le_of_ble_eq_true rfl), (Nat.le_of_ble_eq_true rfl)⟩ (fun c7 H locs hA hS => ?_) (fun c7 ltc7 ce qq H locs hA hS hce hcv hcl => ?_)
  · have h := ce_it c7 h
    refine lv_i2l hx hb dL_pass_7 rfl ?_
    obtain ⟨M5, e6, h⟩ := ce_nm_e h
    refine ce_last hx hb hK hA hS ha3 dL_pass_8 e6 (fun H locs hA hS => ?_)
    refine lv_goto (tgt := 18) hx hb dL_pass_9 (by decide) ?_
    refine lv_iconst (v := 0) hx hb dL_pass_18 (by decide) ?_
    cases h
    exact ce_iretW hx hb hr hlocks hA hS (Nat.le_of_ble_eq_true rfl) (Nat.le_of_ble_eq_true rfl) dL_pass_19
  · have h := ce_ie c7 h
    by_cases d8 : t3 = 2
    · have h := ce_it d8 h
      rw [d8] at hcl
      refine vx_catch (own := RL) (name := ce_IA) (E := ce_E 2) hown [] ⟨0, 9, 12, 15⟩ [⟨0, 9, 15, 17⟩] (htab.trans rfl) (fun _ h9 => nomatch h9) (by decide) (by decide) (hB _ ce_lk15) (va_Nw.use rfl hF.2.2.2.2.2.1.2.1) hce hcv hcl ?_
      refine lv_astore_n (lv' := [(3, .ref qq), (0, .ref (b + a1)), (1, .int a2), (2, .ref (b + a3))]) hx hb dL_pass_12 rfl hl (by decide) rfl (fun ls hl => ?_)
      refine lv_iconst (v := 1) hx hb dL_pass_13 (by decide) ?_
      cases h
      exact ce_iretW hx hb hr hlocks hA hS (Nat.le_of_ble_eq_true rfl) (Nat.le_of_ble_eq_true rfl) dL_pass_14
    have h := ce_ie d8 h
    by_cases d9 : t3 = 3
    · have h := ce_it d9 h
      rw [d9] at hcl
      refine vx_catch (own := RL) (name := ce_IS) (E := ce_E 3) hown [⟨0, 9, 12, 15⟩] ⟨0, 9, 15, 17⟩ [] (htab.trans rfl) (fun z hz => by simp only [List.mem_cons, List.not_mem_nil, or_false] at hz; rcases hz with rfl; exact Or.inr (ce_passed hB (by decide) ce_lk15 hF.2.2.2.2.2.2.2.2.2)) (by decide) (by decide) (hB _ ce_lk17) (va_Nw.use rfl hF.2.2.2.2.2.1.2.2) hce hcv hcl ?_
      refine lv_astore_n (lv' := [(3, .ref qq), (0, .ref (b + a1)), (1, .int a2), (2, .ref (b + a3))]) hx hb dL_pass_15 rfl hl (by decide) rfl (fun ls hl => ?_)
      refine lv_iconst (v := 2) hx hb dL_pass_16 (by decide) ?_
      cases h
      exact ce_iretW hx hb hr hlocks hA hS (Nat.le_of_ble_eq_true rfl) (Nat.le_of_ble_eq_true rfl) dL_pass_17
    have h := ce_ie d9 h
    cases h
def f_L_subscriber (M : ce_M) (a1 : Nat) (a2 : Int32) (a3 : Int32) (a4 : Nat) : Option (ce_M × Int32) :=
  ce_b2 (f_X7_subscriber a1 M a2 a3) (fun (x1 : Int32) (t2 : Nat) =>
  if t2 = 0 then
    ce_nm (ce_wl M 1 (Int32.toInt64 x1)) (fun (M4 : ce_M) =>
    some (M4, 0))
  else
    if t2 = 1 then
      some (M, 1)
    else
    if t2 = 2 then
      some (M, 2)
    else
    none)
set_option maxRecDepth 100000 in
set_option maxHeartbeats 4000000 in
theorem c_L_subscriber (l : Launch) (hfl : l.stackTraces = false) (X : ce_X) (G : ce_G) (b : Nat) {a1 : Nat} {a2 : Int32} {a3 : Int32} {a4 : Nat} {M : ce_M} (ha1 : ce_kd a1 = 7) (ha4 : ce_kd a4 = 12) {M' : ce_M} {r : Int32} (h : f_L_subscriber M a1 a2 a3 a4 = some (M', r)) : ce_CtW l yL_subscriber cL_subscriber 5 (some .int) [(0, 10, 13, 13), (0, 10, 17, 15)] 8 123 2 12 X G b [.ref (b + a1), .int a2, .int a3, .ref (b + a4)] M (some (.int r)) M' := by
  refine ce_ofWW (own := RL) (by decide) rfl (Nat.le_of_ble_eq_true rfl) (fun p e s m below meth c ls hx hb hr hlocks hml hown hB hF hA hl hS htab => ?_)
  have hK := hF.1
  have hl : lv_has ls 5 [(0, .ref (b + a1)), (1, .int a2), (2, .int a3), (3, .ref (b + a4))] := hl
  unfold f_L_subscriber at h
  refine lv_aload_n hx hb dL_subscriber_0 rfl (lv_at hl 3 rfl) ?_
  refine lv_iconst (v := 0) hx hb dL_subscriber_1 (by decide) ?_
  refine lv_aload_n hx hb dL_subscriber_2 rfl (lv_at hl 0 rfl) ?_
  refine lv_iload_n hx hb dL_subscriber_3 rfl (lv_at hl 1 rfl) ?_
  refine lv_iload_n hx hb dL_subscriber_4 rfl (lv_at hl 2 rfl) ?_
  obtain ⟨x1, t2, g3, h⟩ := ce_b2_e h
  refine ce_callVXi (As := [.int a2, .int a3]) (rest := [.int 0, .ref (b + a4)]) hx hb hml hown hB (c_X7_subscriber l hfl X G b ha1 g3) ce_v_X7_subscriber ce_w824 ⟨Nat.le_of_ble_eq_true rfl, Nat.le_of_ble_eq_true rfl⟩ hF hA hS (ce_rc_7 hK hA ha1) hl rfl rfl (Nat.le_of_ble_eq_true rfl) dL_subscriber_5 ⟨(Nat.le_of_ble_eq_true rfl), (Nat.le_of_ble_eq_true rfl)⟩ (fun c6 H locs hA hS => ?_) (fun c6 ltc6 ce qq H locs hA hS hce hcv hcl => ?_)
  · have h := ce_it c6 h
    refine lv_i2l hx hb dL_subscriber_8 rfl ?_
    obtain ⟨M4, e5, h⟩ := ce_nm_e h
    refine ce_last hx hb hK hA hS ha4 dL_subscriber_9 e5 (fun H locs hA hS => ?_)
    refine lv_goto (tgt := 21) hx hb dL_subscriber_10 (by decide) ?_
    refine lv_iconst (v := 0) hx hb dL_subscriber_21 (by decide) ?_
    cases h
    exact ce_iretW hx hb hr hlocks hA hS (Nat.le_of_ble_eq_true rfl) (Nat.le_of_ble_eq_true rfl) dL_subscriber_22
  · have h := ce_ie c6 h
    by_cases d7 : t2 = 1
    · have h := ce_it d7 h
      rw [d7] at hcl
      refine vx_catch (own := RL) (name := ce_IO) (E := ce_E 1) hown [] ⟨0, 10, 13, 13⟩ [⟨0, 10, 17, 15⟩] (htab.trans rfl) (fun _ h9 => nomatch h9) (by decide) (by decide) (hB _ ce_lk13) (va_Nw.use rfl hF.2.2.2.2.2.1.1) hce hcv hcl ?_
      refine lv_astore (lv' := [(4, .ref qq), (0, .ref (b + a1)), (1, .int a2), (2, .int a3), (3, .ref (b + a4))]) hx hb dL_subscriber_13 hl (by decide) rfl (fun ls hl => ?_)
      refine lv_iconst (v := 1) hx hb dL_subscriber_15 (by decide) ?_
      cases h
      exact ce_iretW hx hb hr hlocks hA hS (Nat.le_of_ble_eq_true rfl) (Nat.le_of_ble_eq_true rfl) dL_subscriber_16
    have h := ce_ie d7 h
    by_cases d8 : t2 = 2
    · have h := ce_it d8 h
      rw [d8] at hcl
      refine vx_catch (own := RL) (name := ce_IA) (E := ce_E 2) hown [⟨0, 10, 13, 13⟩] ⟨0, 10, 17, 15⟩ [] (htab.trans rfl) (fun z hz => by simp only [List.mem_cons, List.not_mem_nil, or_false] at hz; rcases hz with rfl; exact Or.inr (ce_passed hB (by decide) ce_lk13 hF.2.2.2.2.2.2.2.1)) (by decide) (by decide) (hB _ ce_lk15) (va_Nw.use rfl hF.2.2.2.2.2.1.2.1) hce hcv hcl ?_
      refine lv_astore (lv' := [(4, .ref qq), (0, .ref (b + a1)), (1, .int a2), (2, .int a3), (3, .ref (b + a4))]) hx hb dL_subscriber_17 hl (by decide) rfl (fun ls hl => ?_)
      refine lv_iconst (v := 2) hx hb dL_subscriber_19 (by decide) ?_
      cases h
      exact ce_iretW hx hb hr hlocks hA hS (Nat.le_of_ble_eq_true rfl) (Nat.le_of_ble_eq_true rfl) dL_subscriber_20
    have h := ce_ie d8 h
    cases h
def f_L_stay (M : ce_M) (a1 : Nat) (a2 : Int32) (a3 : Int32) (a4 : Int32) (a5 : Nat) : Option (ce_M × Int32) :=
  ce_b2 (f_X7_stay a1 M a2 a3 a4) (fun (x1 : Int32) (t2 : Nat) =>
  if t2 = 0 then
    ce_nm (ce_wl M 1 (Int32.toInt64 x1)) (fun (M4 : ce_M) =>
    some (M4, 0))
  else
    if t2 = 1 then
      some (M, 1)
    else
    if t2 = 2 then
      some (M, 2)
    else
    none)
set_option maxRecDepth 100000 in
set_option maxHeartbeats 4000000 in
theorem c_L_stay (l : Launch) (hfl : l.stackTraces = false) (X : ce_X) (G : ce_G) (b : Nat) {a1 : Nat} {a2 : Int32} {a3 : Int32} {a4 : Int32} {a5 : Nat} {M : ce_M} (ha1 : ce_kd a1 = 7) (ha5 : ce_kd a5 = 12) {M' : ce_M} {r : Int32} (h : f_L_stay M a1 a2 a3 a4 a5 = some (M', r)) : ce_CtW l yL_stay cL_stay 6 (some .int) [(0, 12, 15, 13), (0, 12, 19, 15)] 8 124 2 12 X G b [.ref (b + a1), .int a2, .int a3, .int a4, .ref (b + a5)] M (some (.int r)) M' := by
  refine ce_ofWW (own := RL) (by decide) rfl (Nat.le_of_ble_eq_true rfl) (fun p e s m below meth c ls hx hb hr hlocks hml hown hB hF hA hl hS htab => ?_)
  have hK := hF.1
  have hl : lv_has ls 6 [(0, .ref (b + a1)), (1, .int a2), (2, .int a3), (3, .int a4), (4, .ref (b + a5))] := hl
  unfold f_L_stay at h
  refine lv_aload hx hb dL_stay_0 (lv_at hl 4 rfl) ?_
  refine lv_iconst (v := 0) hx hb dL_stay_2 (by decide) ?_
  refine lv_aload_n hx hb dL_stay_3 rfl (lv_at hl 0 rfl) ?_
  refine lv_iload_n hx hb dL_stay_4 rfl (lv_at hl 1 rfl) ?_
  refine lv_iload_n hx hb dL_stay_5 rfl (lv_at hl 2 rfl) ?_
  refine lv_iload_n hx hb dL_stay_6 rfl (lv_at hl 3 rfl) ?_
  obtain ⟨x1, t2, g3, h⟩ := ce_b2_e h
  refine ce_callVXi (As := [.int a2, .int a3, .int a4]) (rest := [.int 0, .ref (b + a5)]) hx hb hml hown hB (c_X7_stay l hfl X G b ha1 g3) ce_v_X7_stay ce_w833 ⟨Nat.le_of_ble_eq_true rfl, Nat.le_of_ble_eq_true rfl⟩ hF hA hS (ce_rc_7 hK hA ha1) hl rfl rfl (Nat.le_of_ble_eq_true rfl) dL_stay_7 ⟨(Nat.le_of_ble_eq_true rfl), (Nat.le_of_ble_eq_true rfl)⟩ (fun c6 H locs hA hS => ?_) (fun c6 ltc6 ce qq H locs hA hS hce hcv hcl => ?_)
  · have h := ce_it c6 h
    refine lv_i2l hx hb dL_stay_10 rfl ?_
    obtain ⟨M4, e5, h⟩ := ce_nm_e h
    refine ce_last hx hb hK hA hS ha5 dL_stay_11 e5 (fun H locs hA hS => ?_)
    refine lv_goto (tgt := 23) hx hb dL_stay_12 (by decide) ?_
    refine lv_iconst (v := 0) hx hb dL_stay_23 (by decide) ?_
    cases h
    exact ce_iretW hx hb hr hlocks hA hS (Nat.le_of_ble_eq_true rfl) (Nat.le_of_ble_eq_true rfl) dL_stay_24
  · have h := ce_ie c6 h
    by_cases d7 : t2 = 1
    · have h := ce_it d7 h
      rw [d7] at hcl
      refine vx_catch (own := RL) (name := ce_IO) (E := ce_E 1) hown [] ⟨0, 12, 15, 13⟩ [⟨0, 12, 19, 15⟩] (htab.trans rfl) (fun _ h9 => nomatch h9) (by decide) (by decide) (hB _ ce_lk13) (va_Nw.use rfl hF.2.2.2.2.2.1.1) hce hcv hcl ?_
      refine lv_astore (lv' := [(5, .ref qq), (0, .ref (b + a1)), (1, .int a2), (2, .int a3), (3, .int a4), (4, .ref (b + a5))]) hx hb dL_stay_15 hl (by decide) rfl (fun ls hl => ?_)
      refine lv_iconst (v := 1) hx hb dL_stay_17 (by decide) ?_
      cases h
      exact ce_iretW hx hb hr hlocks hA hS (Nat.le_of_ble_eq_true rfl) (Nat.le_of_ble_eq_true rfl) dL_stay_18
    have h := ce_ie d7 h
    by_cases d8 : t2 = 2
    · have h := ce_it d8 h
      rw [d8] at hcl
      refine vx_catch (own := RL) (name := ce_IA) (E := ce_E 2) hown [⟨0, 12, 15, 13⟩] ⟨0, 12, 19, 15⟩ [] (htab.trans rfl) (fun z hz => by simp only [List.mem_cons, List.not_mem_nil, or_false] at hz; rcases hz with rfl; exact Or.inr (ce_passed hB (by decide) ce_lk13 hF.2.2.2.2.2.2.2.1)) (by decide) (by decide) (hB _ ce_lk15) (va_Nw.use rfl hF.2.2.2.2.2.1.2.1) hce hcv hcl ?_
      refine lv_astore (lv' := [(5, .ref qq), (0, .ref (b + a1)), (1, .int a2), (2, .int a3), (3, .int a4), (4, .ref (b + a5))]) hx hb dL_stay_19 hl (by decide) rfl (fun ls hl => ?_)
      refine lv_iconst (v := 2) hx hb dL_stay_21 (by decide) ?_
      cases h
      exact ce_iretW hx hb hr hlocks hA hS (Nat.le_of_ble_eq_true rfl) (Nat.le_of_ble_eq_true rfl) dL_stay_22
    have h := ce_ie d8 h
    cases h
def f_L_waiting (M : ce_M) (a1 : Nat) (a2 : Int32) (a3 : Int32) (a4 : Nat) : Option (ce_M × Int32) :=
  ce_b2 (f_X7_waiting a1 M a2 a3) (fun (x1 : Int32) (t2 : Nat) =>
  if t2 = 0 then
    ce_nm (ce_wl M 1 (Int32.toInt64 x1)) (fun (M4 : ce_M) =>
    some (M4, 0))
  else
    if t2 = 1 then
      some (M, 1)
    else
    if t2 = 2 then
      some (M, 2)
    else
    none)
set_option maxRecDepth 100000 in
set_option maxHeartbeats 4000000 in
theorem c_L_waiting (l : Launch) (hfl : l.stackTraces = false) (X : ce_X) (G : ce_G) (b : Nat) {a1 : Nat} {a2 : Int32} {a3 : Int32} {a4 : Nat} {M : ce_M} (ha1 : ce_kd a1 = 7) (ha4 : ce_kd a4 = 12) {M' : ce_M} {r : Int32} (h : f_L_waiting M a1 a2 a3 a4 = some (M', r)) : ce_CtW l yL_waiting cL_waiting 5 (some .int) [(0, 10, 13, 13), (0, 10, 17, 15)] 8 123 2 12 X G b [.ref (b + a1), .int a2, .int a3, .ref (b + a4)] M (some (.int r)) M' := by
  refine ce_ofWW (own := RL) (by decide) rfl (Nat.le_of_ble_eq_true rfl) (fun p e s m below meth c ls hx hb hr hlocks hml hown hB hF hA hl hS htab => ?_)
  have hK := hF.1
  have hl : lv_has ls 5 [(0, .ref (b + a1)), (1, .int a2), (2, .int a3), (3, .ref (b + a4))] := hl
  unfold f_L_waiting at h
  refine lv_aload_n hx hb dL_waiting_0 rfl (lv_at hl 3 rfl) ?_
  refine lv_iconst (v := 0) hx hb dL_waiting_1 (by decide) ?_
  refine lv_aload_n hx hb dL_waiting_2 rfl (lv_at hl 0 rfl) ?_
  refine lv_iload_n hx hb dL_waiting_3 rfl (lv_at hl 1 rfl) ?_
  refine lv_iload_n hx hb dL_waiting_4 rfl (lv_at hl 2 rfl) ?_
  obtain ⟨x1, t2, g3, h⟩ := ce_b2_e h
  refine ce_callVXi (As := [.int a2, .int a3]) (rest := [.int 0, .ref (b + a4)]) hx hb hml hown hB (c_X7_waiting l hfl X G b ha1 g3) ce_v_X7_waiting ce_w840 ⟨Nat.le_of_ble_eq_true rfl, Nat.le_of_ble_eq_true rfl⟩ hF hA hS (ce_rc_7 hK hA ha1) hl rfl rfl (Nat.le_of_ble_eq_true rfl) dL_waiting_5 ⟨(Nat.le_of_ble_eq_true rfl), (Nat.le_of_ble_eq_true rfl)⟩ (fun c6 H locs hA hS => ?_) (fun c6 ltc6 ce qq H locs hA hS hce hcv hcl => ?_)
  · have h := ce_it c6 h
    refine lv_i2l hx hb dL_waiting_8 rfl ?_
    obtain ⟨M4, e5, h⟩ := ce_nm_e h
    refine ce_last hx hb hK hA hS ha4 dL_waiting_9 e5 (fun H locs hA hS => ?_)
    refine lv_goto (tgt := 21) hx hb dL_waiting_10 (by decide) ?_
    refine lv_iconst (v := 0) hx hb dL_waiting_21 (by decide) ?_
    cases h
    exact ce_iretW hx hb hr hlocks hA hS (Nat.le_of_ble_eq_true rfl) (Nat.le_of_ble_eq_true rfl) dL_waiting_22
  · have h := ce_ie c6 h
    by_cases d7 : t2 = 1
    · have h := ce_it d7 h
      rw [d7] at hcl
      refine vx_catch (own := RL) (name := ce_IO) (E := ce_E 1) hown [] ⟨0, 10, 13, 13⟩ [⟨0, 10, 17, 15⟩] (htab.trans rfl) (fun _ h9 => nomatch h9) (by decide) (by decide) (hB _ ce_lk13) (va_Nw.use rfl hF.2.2.2.2.2.1.1) hce hcv hcl ?_
      refine lv_astore (lv' := [(4, .ref qq), (0, .ref (b + a1)), (1, .int a2), (2, .int a3), (3, .ref (b + a4))]) hx hb dL_waiting_13 hl (by decide) rfl (fun ls hl => ?_)
      refine lv_iconst (v := 1) hx hb dL_waiting_15 (by decide) ?_
      cases h
      exact ce_iretW hx hb hr hlocks hA hS (Nat.le_of_ble_eq_true rfl) (Nat.le_of_ble_eq_true rfl) dL_waiting_16
    have h := ce_ie d7 h
    by_cases d8 : t2 = 2
    · have h := ce_it d8 h
      rw [d8] at hcl
      refine vx_catch (own := RL) (name := ce_IA) (E := ce_E 2) hown [⟨0, 10, 13, 13⟩] ⟨0, 10, 17, 15⟩ [] (htab.trans rfl) (fun z hz => by simp only [List.mem_cons, List.not_mem_nil, or_false] at hz; rcases hz with rfl; exact Or.inr (ce_passed hB (by decide) ce_lk13 hF.2.2.2.2.2.2.2.1)) (by decide) (by decide) (hB _ ce_lk15) (va_Nw.use rfl hF.2.2.2.2.2.1.2.1) hce hcv hcl ?_
      refine lv_astore (lv' := [(4, .ref qq), (0, .ref (b + a1)), (1, .int a2), (2, .int a3), (3, .ref (b + a4))]) hx hb dL_waiting_17 hl (by decide) rfl (fun ls hl => ?_)
      refine lv_iconst (v := 2) hx hb dL_waiting_19 (by decide) ?_
      cases h
      exact ce_iretW hx hb hr hlocks hA hS (Nat.le_of_ble_eq_true rfl) (Nat.le_of_ble_eq_true rfl) dL_waiting_20
    have h := ce_ie d8 h
    cases h
def f_L_event (M : ce_M) (a1 : Nat) (a2 : Int32) (a3 : Int32) (a4 : Nat) : Option (ce_M × Int32) :=
  ce_b2 (f_X7_event a1 M a2 a3) (fun (x1 : Int32) (t2 : Nat) =>
  if t2 = 0 then
    ce_nm (ce_wl M 1 (Int32.toInt64 x1)) (fun (M4 : ce_M) =>
    some (M4, 0))
  else
    if t2 = 1 then
      some (M, 1)
    else
    if t2 = 2 then
      some (M, 2)
    else
    none)
set_option maxRecDepth 100000 in
set_option maxHeartbeats 4000000 in
theorem c_L_event (l : Launch) (hfl : l.stackTraces = false) (X : ce_X) (G : ce_G) (b : Nat) {a1 : Nat} {a2 : Int32} {a3 : Int32} {a4 : Nat} {M : ce_M} (ha1 : ce_kd a1 = 7) (ha4 : ce_kd a4 = 12) {M' : ce_M} {r : Int32} (h : f_L_event M a1 a2 a3 a4 = some (M', r)) : ce_CtW l yL_event cL_event 5 (some .int) [(0, 10, 13, 13), (0, 10, 17, 15)] 8 123 2 12 X G b [.ref (b + a1), .int a2, .int a3, .ref (b + a4)] M (some (.int r)) M' := by
  refine ce_ofWW (own := RL) (by decide) rfl (Nat.le_of_ble_eq_true rfl) (fun p e s m below meth c ls hx hb hr hlocks hml hown hB hF hA hl hS htab => ?_)
  have hK := hF.1
  have hl : lv_has ls 5 [(0, .ref (b + a1)), (1, .int a2), (2, .int a3), (3, .ref (b + a4))] := hl
  unfold f_L_event at h
  refine lv_aload_n hx hb dL_event_0 rfl (lv_at hl 3 rfl) ?_
  refine lv_iconst (v := 0) hx hb dL_event_1 (by decide) ?_
  refine lv_aload_n hx hb dL_event_2 rfl (lv_at hl 0 rfl) ?_
  refine lv_iload_n hx hb dL_event_3 rfl (lv_at hl 1 rfl) ?_
  refine lv_iload_n hx hb dL_event_4 rfl (lv_at hl 2 rfl) ?_
  obtain ⟨x1, t2, g3, h⟩ := ce_b2_e h
  refine ce_callVXi (As := [.int a2, .int a3]) (rest := [.int 0, .ref (b + a4)]) hx hb hml hown hB (c_X7_event l hfl X G b ha1 g3) ce_v_X7_event ce_w847 ⟨Nat.le_of_ble_eq_true rfl, Nat.le_of_ble_eq_true rfl⟩ hF hA hS (ce_rc_7 hK hA ha1) hl rfl rfl (Nat.le_of_ble_eq_true rfl) dL_event_5 ⟨(Nat.le_of_ble_eq_true rfl), (Nat.le_of_ble_eq_true rfl)⟩ (fun c6 H locs hA hS => ?_) (fun c6 ltc6 ce qq H locs hA hS hce hcv hcl => ?_)
  · have h := ce_it c6 h
    refine lv_i2l hx hb dL_event_8 rfl ?_
    obtain ⟨M4, e5, h⟩ := ce_nm_e h
    refine ce_last hx hb hK hA hS ha4 dL_event_9 e5 (fun H locs hA hS => ?_)
    refine lv_goto (tgt := 21) hx hb dL_event_10 (by decide) ?_
    refine lv_iconst (v := 0) hx hb dL_event_21 (by decide) ?_
    cases h
    exact ce_iretW hx hb hr hlocks hA hS (Nat.le_of_ble_eq_true rfl) (Nat.le_of_ble_eq_true rfl) dL_event_22
  · have h := ce_ie c6 h
    by_cases d7 : t2 = 1
    · have h := ce_it d7 h
      rw [d7] at hcl
      refine vx_catch (own := RL) (name := ce_IO) (E := ce_E 1) hown [] ⟨0, 10, 13, 13⟩ [⟨0, 10, 17, 15⟩] (htab.trans rfl) (fun _ h9 => nomatch h9) (by decide) (by decide) (hB _ ce_lk13) (va_Nw.use rfl hF.2.2.2.2.2.1.1) hce hcv hcl ?_
      refine lv_astore (lv' := [(4, .ref qq), (0, .ref (b + a1)), (1, .int a2), (2, .int a3), (3, .ref (b + a4))]) hx hb dL_event_13 hl (by decide) rfl (fun ls hl => ?_)
      refine lv_iconst (v := 1) hx hb dL_event_15 (by decide) ?_
      cases h
      exact ce_iretW hx hb hr hlocks hA hS (Nat.le_of_ble_eq_true rfl) (Nat.le_of_ble_eq_true rfl) dL_event_16
    have h := ce_ie d7 h
    by_cases d8 : t2 = 2
    · have h := ce_it d8 h
      rw [d8] at hcl
      refine vx_catch (own := RL) (name := ce_IA) (E := ce_E 2) hown [⟨0, 10, 13, 13⟩] ⟨0, 10, 17, 15⟩ [] (htab.trans rfl) (fun z hz => by simp only [List.mem_cons, List.not_mem_nil, or_false] at hz; rcases hz with rfl; exact Or.inr (ce_passed hB (by decide) ce_lk13 hF.2.2.2.2.2.2.2.1)) (by decide) (by decide) (hB _ ce_lk15) (va_Nw.use rfl hF.2.2.2.2.2.1.2.1) hce hcv hcl ?_
      refine lv_astore (lv' := [(4, .ref qq), (0, .ref (b + a1)), (1, .int a2), (2, .int a3), (3, .ref (b + a4))]) hx hb dL_event_17 hl (by decide) rfl (fun ls hl => ?_)
      refine lv_iconst (v := 2) hx hb dL_event_19 (by decide) ?_
      cases h
      exact ce_iretW hx hb hr hlocks hA hS (Nat.le_of_ble_eq_true rfl) (Nat.le_of_ble_eq_true rfl) dL_event_20
    have h := ce_ie d8 h
    cases h
def f_L_leaf (M : ce_M) (a1 : Nat) (a2 : Int32) (a3 : Int32) (a4 : Nat) : Option (ce_M × Int32) :=
  ce_b2 (f_X7_leaf a1 M a2 a3) (fun (x1 : Int32) (t2 : Nat) =>
  if t2 = 0 then
    ce_nm (ce_wl M 1 (Int32.toInt64 x1)) (fun (M4 : ce_M) =>
    some (M4, 0))
  else
    if t2 = 1 then
      some (M, 1)
    else
    if t2 = 2 then
      some (M, 2)
    else
    none)
set_option maxRecDepth 100000 in
set_option maxHeartbeats 4000000 in
theorem c_L_leaf (l : Launch) (hfl : l.stackTraces = false) (X : ce_X) (G : ce_G) (b : Nat) {a1 : Nat} {a2 : Int32} {a3 : Int32} {a4 : Nat} {M : ce_M} (ha1 : ce_kd a1 = 7) (ha4 : ce_kd a4 = 12) {M' : ce_M} {r : Int32} (h : f_L_leaf M a1 a2 a3 a4 = some (M', r)) : ce_CtW l yL_leaf cL_leaf 5 (some .int) [(0, 10, 13, 13), (0, 10, 17, 15)] 8 123 2 12 X G b [.ref (b + a1), .int a2, .int a3, .ref (b + a4)] M (some (.int r)) M' := by
  refine ce_ofWW (own := RL) (by decide) rfl (Nat.le_of_ble_eq_true rfl) (fun p e s m below meth c ls hx hb hr hlocks hml hown hB hF hA hl hS htab => ?_)
  have hK := hF.1
  have hl : lv_has ls 5 [(0, .ref (b + a1)), (1, .int a2), (2, .int a3), (3, .ref (b + a4))] := hl
  unfold f_L_leaf at h
  refine lv_aload_n hx hb dL_leaf_0 rfl (lv_at hl 3 rfl) ?_
  refine lv_iconst (v := 0) hx hb dL_leaf_1 (by decide) ?_
  refine lv_aload_n hx hb dL_leaf_2 rfl (lv_at hl 0 rfl) ?_
  refine lv_iload_n hx hb dL_leaf_3 rfl (lv_at hl 1 rfl) ?_
  refine lv_iload_n hx hb dL_leaf_4 rfl (lv_at hl 2 rfl) ?_
  obtain ⟨x1, t2, g3, h⟩ := ce_b2_e h
  refine ce_callVXi (As := [.int a2, .int a3]) (rest := [.int 0, .ref (b + a4)]) hx hb hml hown hB (c_X7_leaf l hfl X G b ha1 g3) ce_v_X7_leaf ce_w854 ⟨Nat.le_of_ble_eq_true rfl, Nat.le_of_ble_eq_true rfl⟩ hF hA hS (ce_rc_7 hK hA ha1) hl rfl rfl (Nat.le_of_ble_eq_true rfl) dL_leaf_5 ⟨(Nat.le_of_ble_eq_true rfl), (Nat.le_of_ble_eq_true rfl)⟩ (fun c6 H locs hA hS => ?_) (fun c6 ltc6 ce qq H locs hA hS hce hcv hcl => ?_)
  · have h := ce_it c6 h
    refine lv_i2l hx hb dL_leaf_8 rfl ?_
    obtain ⟨M4, e5, h⟩ := ce_nm_e h
    refine ce_last hx hb hK hA hS ha4 dL_leaf_9 e5 (fun H locs hA hS => ?_)
    refine lv_goto (tgt := 21) hx hb dL_leaf_10 (by decide) ?_
    refine lv_iconst (v := 0) hx hb dL_leaf_21 (by decide) ?_
    cases h
    exact ce_iretW hx hb hr hlocks hA hS (Nat.le_of_ble_eq_true rfl) (Nat.le_of_ble_eq_true rfl) dL_leaf_22
  · have h := ce_ie c6 h
    by_cases d7 : t2 = 1
    · have h := ce_it d7 h
      rw [d7] at hcl
      refine vx_catch (own := RL) (name := ce_IO) (E := ce_E 1) hown [] ⟨0, 10, 13, 13⟩ [⟨0, 10, 17, 15⟩] (htab.trans rfl) (fun _ h9 => nomatch h9) (by decide) (by decide) (hB _ ce_lk13) (va_Nw.use rfl hF.2.2.2.2.2.1.1) hce hcv hcl ?_
      refine lv_astore (lv' := [(4, .ref qq), (0, .ref (b + a1)), (1, .int a2), (2, .int a3), (3, .ref (b + a4))]) hx hb dL_leaf_13 hl (by decide) rfl (fun ls hl => ?_)
      refine lv_iconst (v := 1) hx hb dL_leaf_15 (by decide) ?_
      cases h
      exact ce_iretW hx hb hr hlocks hA hS (Nat.le_of_ble_eq_true rfl) (Nat.le_of_ble_eq_true rfl) dL_leaf_16
    have h := ce_ie d7 h
    by_cases d8 : t2 = 2
    · have h := ce_it d8 h
      rw [d8] at hcl
      refine vx_catch (own := RL) (name := ce_IA) (E := ce_E 2) hown [⟨0, 10, 13, 13⟩] ⟨0, 10, 17, 15⟩ [] (htab.trans rfl) (fun z hz => by simp only [List.mem_cons, List.not_mem_nil, or_false] at hz; rcases hz with rfl; exact Or.inr (ce_passed hB (by decide) ce_lk13 hF.2.2.2.2.2.2.2.1)) (by decide) (by decide) (hB _ ce_lk15) (va_Nw.use rfl hF.2.2.2.2.2.1.2.1) hce hcv hcl ?_
      refine lv_astore (lv' := [(4, .ref qq), (0, .ref (b + a1)), (1, .int a2), (2, .int a3), (3, .ref (b + a4))]) hx hb dL_leaf_17 hl (by decide) rfl (fun ls hl => ?_)
      refine lv_iconst (v := 2) hx hb dL_leaf_19 (by decide) ?_
      cases h
      exact ce_iretW hx hb hr hlocks hA hS (Nat.le_of_ble_eq_true rfl) (Nat.le_of_ble_eq_true rfl) dL_leaf_20
    have h := ce_ie d8 h
    cases h
def f_L_whole (M : ce_M) (a1 : Nat) (a2 : Int32) (a3 : Nat) : Option (ce_M × Int32) :=
  ce_b2 (f_X7_whole a1 M a2) (fun (x1 : Int32) (t2 : Nat) =>
  if t2 = 0 then
    ce_nm (ce_wl M 1 (Int32.toInt64 x1)) (fun (M4 : ce_M) =>
    some (M4, 0))
  else
    if t2 = 2 then
      some (M, 1)
    else
    none)
set_option maxRecDepth 100000 in
set_option maxHeartbeats 4000000 in
theorem c_L_whole (l : Launch) (hfl : l.stackTraces = false) (X : ce_X) (G : ce_G) (b : Nat) {a1 : Nat} {a2 : Int32} {a3 : Nat} {M : ce_M} (ha1 : ce_kd a1 = 7) (ha3 : ce_kd a3 = 12) {M' : ce_M} {r : Int32} (h : f_L_whole M a1 a2 a3 = some (M', r)) : ce_CtW l yL_whole cL_whole 4 (some .int) [(0, 9, 12, 15)] 8 122 1 6 X G b [.ref (b + a1), .int a2, .ref (b + a3)] M (some (.int r)) M' := by
  refine ce_ofWW (own := RL) (by decide) rfl (Nat.le_of_ble_eq_true rfl) (fun p e s m below meth c ls hx hb hr hlocks hml hown hB hF hA hl hS htab => ?_)
  have hK := hF.1
  have hl : lv_has ls 4 [(0, .ref (b + a1)), (1, .int a2), (2, .ref (b + a3))] := hl
  unfold f_L_whole at h
  refine lv_aload_n hx hb dL_whole_0 rfl (lv_at hl 2 rfl) ?_
  refine lv_iconst (v := 0) hx hb dL_whole_1 (by decide) ?_
  refine lv_aload_n hx hb dL_whole_2 rfl (lv_at hl 0 rfl) ?_
  refine lv_iload_n hx hb dL_whole_3 rfl (lv_at hl 1 rfl) ?_
  obtain ⟨x1, t2, g3, h⟩ := ce_b2_e h
  refine ce_callVXi (As := [.int a2]) (rest := [.int 0, .ref (b + a3)]) hx hb hml hown hB (c_X7_whole l hfl X G b ha1 g3) ce_v_X7_whole ce_w861 ⟨Nat.le_of_ble_eq_true rfl, Nat.le_of_ble_eq_true rfl⟩ hF hA hS (ce_rc_7 hK hA ha1) hl rfl rfl (Nat.le_of_ble_eq_true rfl) dL_whole_4 ⟨(Nat.le_of_ble_eq_true rfl), (Nat.le_of_ble_eq_true rfl)⟩ (fun c6 H locs hA hS => ?_) (fun c6 ltc6 ce qq H locs hA hS hce hcv hcl => ?_)
  · have h := ce_it c6 h
    refine lv_i2l hx hb dL_whole_7 rfl ?_
    obtain ⟨M4, e5, h⟩ := ce_nm_e h
    refine ce_last hx hb hK hA hS ha3 dL_whole_8 e5 (fun H locs hA hS => ?_)
    refine lv_goto (tgt := 15) hx hb dL_whole_9 (by decide) ?_
    refine lv_iconst (v := 0) hx hb dL_whole_15 (by decide) ?_
    cases h
    exact ce_iretW hx hb hr hlocks hA hS (Nat.le_of_ble_eq_true rfl) (Nat.le_of_ble_eq_true rfl) dL_whole_16
  · have h := ce_ie c6 h
    by_cases d7 : t2 = 2
    · have h := ce_it d7 h
      rw [d7] at hcl
      refine vx_catch (own := RL) (name := ce_IA) (E := ce_E 2) hown [] ⟨0, 9, 12, 15⟩ [] (htab.trans rfl) (fun _ h9 => nomatch h9) (by decide) (by decide) (hB _ ce_lk15) (va_Nw.use rfl hF.2.2.2.2.2.1.2.1) hce hcv hcl ?_
      refine lv_astore_n (lv' := [(3, .ref qq), (0, .ref (b + a1)), (1, .int a2), (2, .ref (b + a3))]) hx hb dL_whole_12 rfl hl (by decide) rfl (fun ls hl => ?_)
      refine lv_iconst (v := 1) hx hb dL_whole_13 (by decide) ?_
      cases h
      exact ce_iretW hx hb hr hlocks hA hS (Nat.le_of_ble_eq_true rfl) (Nat.le_of_ble_eq_true rfl) dL_whole_14
    have h := ce_ie d7 h
    cases h
def f_L_wouldReach (M : ce_M) (a1 : Nat) (a2 : Int32) (a3 : Int32) (a4 : Int32) (a5 : Nat) : Option (ce_M × Int32) :=
  ce_b2 (f_X7_wouldReach a1 M a2 a3 a4) (fun (x1 : Int32) (t2 : Nat) =>
  if t2 = 0 then
    ce_nm (ce_wl M 1 (Int32.toInt64 x1)) (fun (M4 : ce_M) =>
    some (M4, 0))
  else
    if t2 = 1 then
      some (M, 1)
    else
    if t2 = 2 then
      some (M, 2)
    else
    none)
set_option maxRecDepth 100000 in
set_option maxHeartbeats 4000000 in
theorem c_L_wouldReach (l : Launch) (hfl : l.stackTraces = false) (X : ce_X) (G : ce_G) (b : Nat) {a1 : Nat} {a2 : Int32} {a3 : Int32} {a4 : Int32} {a5 : Nat} {M : ce_M} (ha1 : ce_kd a1 = 7) (ha5 : ce_kd a5 = 12) {M' : ce_M} {r : Int32} (h : f_L_wouldReach M a1 a2 a3 a4 a5 = some (M', r)) : ce_CtW l yL_wouldReach cL_wouldReach 6 (some .int) [(0, 12, 15, 13), (0, 12, 19, 15)] 8 124 2 12 X G b [.ref (b + a1), .int a2, .int a3, .int a4, .ref (b + a5)] M (some (.int r)) M' := by
  refine ce_ofWW (own := RL) (by decide) rfl (Nat.le_of_ble_eq_true rfl) (fun p e s m below meth c ls hx hb hr hlocks hml hown hB hF hA hl hS htab => ?_)
  have hK := hF.1
  have hl : lv_has ls 6 [(0, .ref (b + a1)), (1, .int a2), (2, .int a3), (3, .int a4), (4, .ref (b + a5))] := hl
  unfold f_L_wouldReach at h
  refine lv_aload hx hb dL_wouldReach_0 (lv_at hl 4 rfl) ?_
  refine lv_iconst (v := 0) hx hb dL_wouldReach_2 (by decide) ?_
  refine lv_aload_n hx hb dL_wouldReach_3 rfl (lv_at hl 0 rfl) ?_
  refine lv_iload_n hx hb dL_wouldReach_4 rfl (lv_at hl 1 rfl) ?_
  refine lv_iload_n hx hb dL_wouldReach_5 rfl (lv_at hl 2 rfl) ?_
  refine lv_iload_n hx hb dL_wouldReach_6 rfl (lv_at hl 3 rfl) ?_
  obtain ⟨x1, t2, g3, h⟩ := ce_b2_e h
  refine ce_callVXi (As := [.int a2, .int a3, .int a4]) (rest := [.int 0, .ref (b + a5)]) hx hb hml hown hB (c_X7_wouldReach l hfl X G b ha1 g3) ce_v_X7_wouldReach ce_w868 ⟨Nat.le_of_ble_eq_true rfl, Nat.le_of_ble_eq_true rfl⟩ hF hA hS (ce_rc_7 hK hA ha1) hl rfl rfl (Nat.le_of_ble_eq_true rfl) dL_wouldReach_7 ⟨(Nat.le_of_ble_eq_true rfl), (Nat.le_of_ble_eq_true rfl)⟩ (fun c6 H locs hA hS => ?_) (fun c6 ltc6 ce qq H locs hA hS hce hcv hcl => ?_)
  · have h := ce_it c6 h
    refine lv_i2l hx hb dL_wouldReach_10 rfl ?_
    obtain ⟨M4, e5, h⟩ := ce_nm_e h
    refine ce_last hx hb hK hA hS ha5 dL_wouldReach_11 e5 (fun H locs hA hS => ?_)
    refine lv_goto (tgt := 23) hx hb dL_wouldReach_12 (by decide) ?_
    refine lv_iconst (v := 0) hx hb dL_wouldReach_23 (by decide) ?_
    cases h
    exact ce_iretW hx hb hr hlocks hA hS (Nat.le_of_ble_eq_true rfl) (Nat.le_of_ble_eq_true rfl) dL_wouldReach_24
  · have h := ce_ie c6 h
    by_cases d7 : t2 = 1
    · have h := ce_it d7 h
      rw [d7] at hcl
      refine vx_catch (own := RL) (name := ce_IO) (E := ce_E 1) hown [] ⟨0, 12, 15, 13⟩ [⟨0, 12, 19, 15⟩] (htab.trans rfl) (fun _ h9 => nomatch h9) (by decide) (by decide) (hB _ ce_lk13) (va_Nw.use rfl hF.2.2.2.2.2.1.1) hce hcv hcl ?_
      refine lv_astore (lv' := [(5, .ref qq), (0, .ref (b + a1)), (1, .int a2), (2, .int a3), (3, .int a4), (4, .ref (b + a5))]) hx hb dL_wouldReach_15 hl (by decide) rfl (fun ls hl => ?_)
      refine lv_iconst (v := 1) hx hb dL_wouldReach_17 (by decide) ?_
      cases h
      exact ce_iretW hx hb hr hlocks hA hS (Nat.le_of_ble_eq_true rfl) (Nat.le_of_ble_eq_true rfl) dL_wouldReach_18
    have h := ce_ie d7 h
    by_cases d8 : t2 = 2
    · have h := ce_it d8 h
      rw [d8] at hcl
      refine vx_catch (own := RL) (name := ce_IA) (E := ce_E 2) hown [⟨0, 12, 15, 13⟩] ⟨0, 12, 19, 15⟩ [] (htab.trans rfl) (fun z hz => by simp only [List.mem_cons, List.not_mem_nil, or_false] at hz; rcases hz with rfl; exact Or.inr (ce_passed hB (by decide) ce_lk13 hF.2.2.2.2.2.2.2.1)) (by decide) (by decide) (hB _ ce_lk15) (va_Nw.use rfl hF.2.2.2.2.2.1.2.1) hce hcv hcl ?_
      refine lv_astore (lv' := [(5, .ref qq), (0, .ref (b + a1)), (1, .int a2), (2, .int a3), (3, .int a4), (4, .ref (b + a5))]) hx hb dL_wouldReach_19 hl (by decide) rfl (fun ls hl => ?_)
      refine lv_iconst (v := 2) hx hb dL_wouldReach_21 (by decide) ?_
      cases h
      exact ce_iretW hx hb hr hlocks hA hS (Nat.le_of_ble_eq_true rfl) (Nat.le_of_ble_eq_true rfl) dL_wouldReach_22
    have h := ce_ie d8 h
    cases h
def f_L_reason (M : ce_M) (a1 : Nat) (a2 : Int32) (a3 : Int32) (a4 : Int32) (a5 : Nat) : Option (ce_M × Int32) :=
  ce_b2 (f_X7_reason a1 M a2 a3 a4) (fun (x1 : Int32) (t2 : Nat) =>
  if t2 = 0 then
    ce_nm (ce_wl M 1 (Int32.toInt64 x1)) (fun (M4 : ce_M) =>
    some (M4, 0))
  else
    if t2 = 1 then
      some (M, 1)
    else
    if t2 = 2 then
      some (M, 2)
    else
    none)
set_option maxRecDepth 100000 in
set_option maxHeartbeats 4000000 in
theorem c_L_reason (l : Launch) (hfl : l.stackTraces = false) (X : ce_X) (G : ce_G) (b : Nat) {a1 : Nat} {a2 : Int32} {a3 : Int32} {a4 : Int32} {a5 : Nat} {M : ce_M} (ha1 : ce_kd a1 = 7) (ha5 : ce_kd a5 = 12) {M' : ce_M} {r : Int32} (h : f_L_reason M a1 a2 a3 a4 a5 = some (M', r)) : ce_CtW l yL_reason cL_reason 6 (some .int) [(0, 12, 15, 13), (0, 12, 19, 15)] 8 124 2 12 X G b [.ref (b + a1), .int a2, .int a3, .int a4, .ref (b + a5)] M (some (.int r)) M' := by
  refine ce_ofWW (own := RL) (by decide) rfl (Nat.le_of_ble_eq_true rfl) (fun p e s m below meth c ls hx hb hr hlocks hml hown hB hF hA hl hS htab => ?_)
  have hK := hF.1
  have hl : lv_has ls 6 [(0, .ref (b + a1)), (1, .int a2), (2, .int a3), (3, .int a4), (4, .ref (b + a5))] := hl
  unfold f_L_reason at h
  refine lv_aload hx hb dL_reason_0 (lv_at hl 4 rfl) ?_
  refine lv_iconst (v := 0) hx hb dL_reason_2 (by decide) ?_
  refine lv_aload_n hx hb dL_reason_3 rfl (lv_at hl 0 rfl) ?_
  refine lv_iload_n hx hb dL_reason_4 rfl (lv_at hl 1 rfl) ?_
  refine lv_iload_n hx hb dL_reason_5 rfl (lv_at hl 2 rfl) ?_
  refine lv_iload_n hx hb dL_reason_6 rfl (lv_at hl 3 rfl) ?_
  obtain ⟨x1, t2, g3, h⟩ := ce_b2_e h
  refine ce_callVXi (As := [.int a2, .int a3, .int a4]) (rest := [.int 0, .ref (b + a5)]) hx hb hml hown hB (c_X7_reason l hfl X G b ha1 g3) ce_v_X7_reason ce_w877 ⟨Nat.le_of_ble_eq_true rfl, Nat.le_of_ble_eq_true rfl⟩ hF hA hS (ce_rc_7 hK hA ha1) hl rfl rfl (Nat.le_of_ble_eq_true rfl) dL_reason_7 ⟨(Nat.le_of_ble_eq_true rfl), (Nat.le_of_ble_eq_true rfl)⟩ (fun c6 H locs hA hS => ?_) (fun c6 ltc6 ce qq H locs hA hS hce hcv hcl => ?_)
  · have h := ce_it c6 h
    refine lv_i2l hx hb dL_reason_10 rfl ?_
    obtain ⟨M4, e5, h⟩ := ce_nm_e h
    refine ce_last hx hb hK hA hS ha5 dL_reason_11 e5 (fun H locs hA hS => ?_)
    refine lv_goto (tgt := 23) hx hb dL_reason_12 (by decide) ?_
    refine lv_iconst (v := 0) hx hb dL_reason_23 (by decide) ?_
    cases h
    exact ce_iretW hx hb hr hlocks hA hS (Nat.le_of_ble_eq_true rfl) (Nat.le_of_ble_eq_true rfl) dL_reason_24
  · have h := ce_ie c6 h
    by_cases d7 : t2 = 1
    · have h := ce_it d7 h
      rw [d7] at hcl
      refine vx_catch (own := RL) (name := ce_IO) (E := ce_E 1) hown [] ⟨0, 12, 15, 13⟩ [⟨0, 12, 19, 15⟩] (htab.trans rfl) (fun _ h9 => nomatch h9) (by decide) (by decide) (hB _ ce_lk13) (va_Nw.use rfl hF.2.2.2.2.2.1.1) hce hcv hcl ?_
      refine lv_astore (lv' := [(5, .ref qq), (0, .ref (b + a1)), (1, .int a2), (2, .int a3), (3, .int a4), (4, .ref (b + a5))]) hx hb dL_reason_15 hl (by decide) rfl (fun ls hl => ?_)
      refine lv_iconst (v := 1) hx hb dL_reason_17 (by decide) ?_
      cases h
      exact ce_iretW hx hb hr hlocks hA hS (Nat.le_of_ble_eq_true rfl) (Nat.le_of_ble_eq_true rfl) dL_reason_18
    have h := ce_ie d7 h
    by_cases d8 : t2 = 2
    · have h := ce_it d8 h
      rw [d8] at hcl
      refine vx_catch (own := RL) (name := ce_IA) (E := ce_E 2) hown [⟨0, 12, 15, 13⟩] ⟨0, 12, 19, 15⟩ [] (htab.trans rfl) (fun z hz => by simp only [List.mem_cons, List.not_mem_nil, or_false] at hz; rcases hz with rfl; exact Or.inr (ce_passed hB (by decide) ce_lk13 hF.2.2.2.2.2.2.2.1)) (by decide) (by decide) (hB _ ce_lk15) (va_Nw.use rfl hF.2.2.2.2.2.1.2.1) hce hcv hcl ?_
      refine lv_astore (lv' := [(5, .ref qq), (0, .ref (b + a1)), (1, .int a2), (2, .int a3), (3, .int a4), (4, .ref (b + a5))]) hx hb dL_reason_19 hl (by decide) rfl (fun ls hl => ?_)
      refine lv_iconst (v := 2) hx hb dL_reason_21 (by decide) ?_
      cases h
      exact ce_iretW hx hb hr hlocks hA hS (Nat.le_of_ble_eq_true rfl) (Nat.le_of_ble_eq_true rfl) dL_reason_22
    have h := ce_ie d8 h
    cases h
def f_L_servedIn (M : ce_M) (a1 : Nat) (a2 : Int32) (a3 : Nat) : Option (ce_M × Int32) :=
  ce_b2 (f_X7_servedIn a1 M a2) (fun (x1 : Int32) (t2 : Nat) =>
  if t2 = 0 then
    ce_nm (ce_wl M 1 (Int32.toInt64 x1)) (fun (M4 : ce_M) =>
    some (M4, 0))
  else
    if t2 = 1 then
      some (M, 1)
    else
    none)
set_option maxRecDepth 100000 in
set_option maxHeartbeats 4000000 in
theorem c_L_servedIn (l : Launch) (hfl : l.stackTraces = false) (X : ce_X) (G : ce_G) (b : Nat) {a1 : Nat} {a2 : Int32} {a3 : Nat} {M : ce_M} (ha1 : ce_kd a1 = 7) (ha3 : ce_kd a3 = 12) {M' : ce_M} {r : Int32} (h : f_L_servedIn M a1 a2 a3 = some (M', r)) : ce_CtW l yL_servedIn cL_servedIn 4 (some .int) [(0, 9, 12, 13)] 8 122 1 6 X G b [.ref (b + a1), .int a2, .ref (b + a3)] M (some (.int r)) M' := by
  refine ce_ofWW (own := RL) (by decide) rfl (Nat.le_of_ble_eq_true rfl) (fun p e s m below meth c ls hx hb hr hlocks hml hown hB hF hA hl hS htab => ?_)
  have hK := hF.1
  have hl : lv_has ls 4 [(0, .ref (b + a1)), (1, .int a2), (2, .ref (b + a3))] := hl
  unfold f_L_servedIn at h
  refine lv_aload_n hx hb dL_servedIn_0 rfl (lv_at hl 2 rfl) ?_
  refine lv_iconst (v := 0) hx hb dL_servedIn_1 (by decide) ?_
  refine lv_aload_n hx hb dL_servedIn_2 rfl (lv_at hl 0 rfl) ?_
  refine lv_iload_n hx hb dL_servedIn_3 rfl (lv_at hl 1 rfl) ?_
  obtain ⟨x1, t2, g3, h⟩ := ce_b2_e h
  refine ce_callVXi (As := [.int a2]) (rest := [.int 0, .ref (b + a3)]) hx hb hml hown hB (c_X7_servedIn l hfl X G b ha1 g3) ce_v_X7_servedIn ce_w889 ⟨Nat.le_of_ble_eq_true rfl, Nat.le_of_ble_eq_true rfl⟩ hF hA hS (ce_rc_7 hK hA ha1) hl rfl rfl (Nat.le_of_ble_eq_true rfl) dL_servedIn_4 ⟨(Nat.le_of_ble_eq_true rfl), (Nat.le_of_ble_eq_true rfl)⟩ (fun c6 H locs hA hS => ?_) (fun c6 ltc6 ce qq H locs hA hS hce hcv hcl => ?_)
  · have h := ce_it c6 h
    refine lv_i2l hx hb dL_servedIn_7 rfl ?_
    obtain ⟨M4, e5, h⟩ := ce_nm_e h
    refine ce_last hx hb hK hA hS ha3 dL_servedIn_8 e5 (fun H locs hA hS => ?_)
    refine lv_goto (tgt := 15) hx hb dL_servedIn_9 (by decide) ?_
    refine lv_iconst (v := 0) hx hb dL_servedIn_15 (by decide) ?_
    cases h
    exact ce_iretW hx hb hr hlocks hA hS (Nat.le_of_ble_eq_true rfl) (Nat.le_of_ble_eq_true rfl) dL_servedIn_16
  · have h := ce_ie c6 h
    by_cases d7 : t2 = 1
    · have h := ce_it d7 h
      rw [d7] at hcl
      refine vx_catch (own := RL) (name := ce_IO) (E := ce_E 1) hown [] ⟨0, 9, 12, 13⟩ [] (htab.trans rfl) (fun _ h9 => nomatch h9) (by decide) (by decide) (hB _ ce_lk13) (va_Nw.use rfl hF.2.2.2.2.2.1.1) hce hcv hcl ?_
      refine lv_astore_n (lv' := [(3, .ref qq), (0, .ref (b + a1)), (1, .int a2), (2, .ref (b + a3))]) hx hb dL_servedIn_12 rfl hl (by decide) rfl (fun ls hl => ?_)
      refine lv_iconst (v := 1) hx hb dL_servedIn_13 (by decide) ?_
      cases h
      exact ce_iretW hx hb hr hlocks hA hS (Nat.le_of_ble_eq_true rfl) (Nat.le_of_ble_eq_true rfl) dL_servedIn_14
    have h := ce_ie d7 h
    cases h
def f_L_emptyIn (M : ce_M) (a1 : Nat) (a2 : Int32) (a3 : Nat) : Option (ce_M × Int32) :=
  ce_b3 (f_X7_emptyIn a1 M a2) (fun (M1 : ce_M) (x2 : Int32) (t3 : Nat) =>
  if t3 = 0 then
    ce_nm (ce_wl M1 1 (Int32.toInt64 x2)) (fun (M5 : ce_M) =>
    some (M5, 0))
  else
    if t3 = 1 then
      some (M1, 1)
    else
    none)
set_option maxRecDepth 100000 in
set_option maxHeartbeats 4000000 in
theorem c_L_emptyIn (l : Launch) (hfl : l.stackTraces = false) (X : ce_X) (G : ce_G) (b : Nat) {a1 : Nat} {a2 : Int32} {a3 : Nat} {M : ce_M} (ha1 : ce_kd a1 = 7) (ha3 : ce_kd a3 = 12) {M' : ce_M} {r : Int32} (h : f_L_emptyIn M a1 a2 a3 = some (M', r)) : ce_CtW l yL_emptyIn cL_emptyIn 4 (some .int) [(0, 9, 12, 13)] 8 131 1 6 X G b [.ref (b + a1), .int a2, .ref (b + a3)] M (some (.int r)) M' := by
  refine ce_ofWW (own := RL) (by decide) rfl (Nat.le_of_ble_eq_true rfl) (fun p e s m below meth c ls hx hb hr hlocks hml hown hB hF hA hl hS htab => ?_)
  have hK := hF.1
  have hl : lv_has ls 4 [(0, .ref (b + a1)), (1, .int a2), (2, .ref (b + a3))] := hl
  unfold f_L_emptyIn at h
  refine lv_aload_n hx hb dL_emptyIn_0 rfl (lv_at hl 2 rfl) ?_
  refine lv_iconst (v := 0) hx hb dL_emptyIn_1 (by decide) ?_
  refine lv_aload_n hx hb dL_emptyIn_2 rfl (lv_at hl 0 rfl) ?_
  refine lv_iload_n hx hb dL_emptyIn_3 rfl (lv_at hl 1 rfl) ?_
  obtain ⟨M1, x2, t3, g4, h⟩ := ce_b3_e h
  refine ce_callVXi (As := [.int a2]) (rest := [.int 0, .ref (b + a3)]) hx hb hml hown hB (c_X7_emptyIn l hfl X G b ha1 g4) ce_v_X7_emptyIn ce_w896 ⟨Nat.le_of_ble_eq_true rfl, Nat.le_of_ble_eq_true rfl⟩ hF hA hS (ce_rc_7 hK hA ha1) hl rfl rfl (Nat.le_of_ble_eq_true rfl) dL_emptyIn_4 ⟨(Nat.le_of_ble_eq_true rfl), (Nat.le_of_ble_eq_true rfl)⟩ (fun c7 H locs hA hS => ?_) (fun c7 ltc7 ce qq H locs hA hS hce hcv hcl => ?_)
  · have h := ce_it c7 h
    refine lv_i2l hx hb dL_emptyIn_7 rfl ?_
    obtain ⟨M5, e6, h⟩ := ce_nm_e h
    refine ce_last hx hb hK hA hS ha3 dL_emptyIn_8 e6 (fun H locs hA hS => ?_)
    refine lv_goto (tgt := 15) hx hb dL_emptyIn_9 (by decide) ?_
    refine lv_iconst (v := 0) hx hb dL_emptyIn_15 (by decide) ?_
    cases h
    exact ce_iretW hx hb hr hlocks hA hS (Nat.le_of_ble_eq_true rfl) (Nat.le_of_ble_eq_true rfl) dL_emptyIn_16
  · have h := ce_ie c7 h
    by_cases d8 : t3 = 1
    · have h := ce_it d8 h
      rw [d8] at hcl
      refine vx_catch (own := RL) (name := ce_IO) (E := ce_E 1) hown [] ⟨0, 9, 12, 13⟩ [] (htab.trans rfl) (fun _ h9 => nomatch h9) (by decide) (by decide) (hB _ ce_lk13) (va_Nw.use rfl hF.2.2.2.2.2.1.1) hce hcv hcl ?_
      refine lv_astore_n (lv' := [(3, .ref qq), (0, .ref (b + a1)), (1, .int a2), (2, .ref (b + a3))]) hx hb dL_emptyIn_12 rfl hl (by decide) rfl (fun ls hl => ?_)
      refine lv_iconst (v := 1) hx hb dL_emptyIn_13 (by decide) ?_
      cases h
      exact ce_iretW hx hb hr hlocks hA hS (Nat.le_of_ble_eq_true rfl) (Nat.le_of_ble_eq_true rfl) dL_emptyIn_14
    have h := ce_ie d8 h
    cases h
def f_L_covered (M : ce_M) (a1 : Nat) (a2 : Int32) (a3 : Nat) : Option (ce_M × Int32) :=
  ce_b2 (f_X7_covered a1 M a2) (fun (x1 : Int32) (t2 : Nat) =>
  if t2 = 0 then
    ce_nm (ce_wl M 1 (Int32.toInt64 x1)) (fun (M4 : ce_M) =>
    some (M4, 0))
  else
    if t2 = 1 then
      some (M, 1)
    else
    none)
set_option maxRecDepth 100000 in
set_option maxHeartbeats 4000000 in
theorem c_L_covered (l : Launch) (hfl : l.stackTraces = false) (X : ce_X) (G : ce_G) (b : Nat) {a1 : Nat} {a2 : Int32} {a3 : Nat} {M : ce_M} (ha1 : ce_kd a1 = 7) (ha3 : ce_kd a3 = 12) {M' : ce_M} {r : Int32} (h : f_L_covered M a1 a2 a3 = some (M', r)) : ce_CtW l yL_covered cL_covered 4 (some .int) [(0, 9, 12, 13)] 8 122 1 6 X G b [.ref (b + a1), .int a2, .ref (b + a3)] M (some (.int r)) M' := by
  refine ce_ofWW (own := RL) (by decide) rfl (Nat.le_of_ble_eq_true rfl) (fun p e s m below meth c ls hx hb hr hlocks hml hown hB hF hA hl hS htab => ?_)
  have hK := hF.1
  have hl : lv_has ls 4 [(0, .ref (b + a1)), (1, .int a2), (2, .ref (b + a3))] := hl
  unfold f_L_covered at h
  refine lv_aload_n hx hb dL_covered_0 rfl (lv_at hl 2 rfl) ?_
  refine lv_iconst (v := 0) hx hb dL_covered_1 (by decide) ?_
  refine lv_aload_n hx hb dL_covered_2 rfl (lv_at hl 0 rfl) ?_
  refine lv_iload_n hx hb dL_covered_3 rfl (lv_at hl 1 rfl) ?_
  obtain ⟨x1, t2, g3, h⟩ := ce_b2_e h
  refine ce_callVXi (As := [.int a2]) (rest := [.int 0, .ref (b + a3)]) hx hb hml hown hB (c_X7_covered l hfl X G b ha1 g3) ce_v_X7_covered ce_w908 ⟨Nat.le_of_ble_eq_true rfl, Nat.le_of_ble_eq_true rfl⟩ hF hA hS (ce_rc_7 hK hA ha1) hl rfl rfl (Nat.le_of_ble_eq_true rfl) dL_covered_4 ⟨(Nat.le_of_ble_eq_true rfl), (Nat.le_of_ble_eq_true rfl)⟩ (fun c6 H locs hA hS => ?_) (fun c6 ltc6 ce qq H locs hA hS hce hcv hcl => ?_)
  · have h := ce_it c6 h
    refine lv_i2l hx hb dL_covered_7 rfl ?_
    obtain ⟨M4, e5, h⟩ := ce_nm_e h
    refine ce_last hx hb hK hA hS ha3 dL_covered_8 e5 (fun H locs hA hS => ?_)
    refine lv_goto (tgt := 15) hx hb dL_covered_9 (by decide) ?_
    refine lv_iconst (v := 0) hx hb dL_covered_15 (by decide) ?_
    cases h
    exact ce_iretW hx hb hr hlocks hA hS (Nat.le_of_ble_eq_true rfl) (Nat.le_of_ble_eq_true rfl) dL_covered_16
  · have h := ce_ie c6 h
    by_cases d7 : t2 = 1
    · have h := ce_it d7 h
      rw [d7] at hcl
      refine vx_catch (own := RL) (name := ce_IO) (E := ce_E 1) hown [] ⟨0, 9, 12, 13⟩ [] (htab.trans rfl) (fun _ h9 => nomatch h9) (by decide) (by decide) (hB _ ce_lk13) (va_Nw.use rfl hF.2.2.2.2.2.1.1) hce hcv hcl ?_
      refine lv_astore_n (lv' := [(3, .ref qq), (0, .ref (b + a1)), (1, .int a2), (2, .ref (b + a3))]) hx hb dL_covered_12 rfl hl (by decide) rfl (fun ls hl => ?_)
      refine lv_iconst (v := 1) hx hb dL_covered_13 (by decide) ?_
      cases h
      exact ce_iretW hx hb hr hlocks hA hS (Nat.le_of_ble_eq_true rfl) (Nat.le_of_ble_eq_true rfl) dL_covered_14
    have h := ce_ie d7 h
    cases h
def f_L_type (M : ce_M) (a1 : Nat) (a2 : Int32) (a3 : Nat) : Option (ce_M × Int32) :=
  ce_b3 (f_X7_type a1 M a2) (fun (M1 : ce_M) (x2 : Int32) (t3 : Nat) =>
  if t3 = 0 then
    ce_nm (ce_wl M1 1 (Int32.toInt64 x2)) (fun (M5 : ce_M) =>
    some (M5, 0))
  else
    if t3 = 2 then
      some (M1, 1)
    else
    if t3 = 3 then
      some (M1, 2)
    else
    none)
set_option maxRecDepth 100000 in
set_option maxHeartbeats 4000000 in
theorem c_L_type (l : Launch) (hfl : l.stackTraces = false) (X : ce_X) (G : ce_G) (b : Nat) {a1 : Nat} {a2 : Int32} {a3 : Nat} {M : ce_M} (ha1 : ce_kd a1 = 7) (ha3 : ce_kd a3 = 12) {M' : ce_M} {r : Int32} (h : f_L_type M a1 a2 a3 = some (M', r)) : ce_CtW l yL_type cL_type 4 (some .int) [(0, 9, 12, 15), (0, 9, 15, 17)] 8 122 2 12 X G b [.ref (b + a1), .int a2, .ref (b + a3)] M (some (.int r)) M' := by
  refine ce_ofWW (own := RL) (by decide) rfl (Nat.le_of_ble_eq_true rfl) (fun p e s m below meth c ls hx hb hr hlocks hml hown hB hF hA hl hS htab => ?_)
  have hK := hF.1
  have hl : lv_has ls 4 [(0, .ref (b + a1)), (1, .int a2), (2, .ref (b + a3))] := hl
  unfold f_L_type at h
  refine lv_aload_n hx hb dL_type_0 rfl (lv_at hl 2 rfl) ?_
  refine lv_iconst (v := 0) hx hb dL_type_1 (by decide) ?_
  refine lv_aload_n hx hb dL_type_2 rfl (lv_at hl 0 rfl) ?_
  refine lv_iload_n hx hb dL_type_3 rfl (lv_at hl 1 rfl) ?_
  obtain ⟨M1, x2, t3, g4, h⟩ := ce_b3_e h
  refine ce_callVXi (As := [.int a2]) (rest := [.int 0, .ref (b + a3)]) hx hb hml hown hB (c_X7_type l hfl X G b ha1 g4) ce_v_X7_type ce_w915 ⟨Nat.le_of_ble_eq_true rfl, Nat.le_of_ble_eq_true rfl⟩ hF hA hS (ce_rc_7 hK hA ha1) hl rfl rfl (Nat.le_of_ble_eq_true rfl) dL_type_4 ⟨(Nat.le_of_ble_eq_true rfl), (Nat.le_of_ble_eq_true rfl)⟩ (fun c7 H locs hA hS => ?_) (fun c7 ltc7 ce qq H locs hA hS hce hcv hcl => ?_)
  · have h := ce_it c7 h
    refine lv_i2l hx hb dL_type_7 rfl ?_
    obtain ⟨M5, e6, h⟩ := ce_nm_e h
    refine ce_last hx hb hK hA hS ha3 dL_type_8 e6 (fun H locs hA hS => ?_)
    refine lv_goto (tgt := 18) hx hb dL_type_9 (by decide) ?_
    refine lv_iconst (v := 0) hx hb dL_type_18 (by decide) ?_
    cases h
    exact ce_iretW hx hb hr hlocks hA hS (Nat.le_of_ble_eq_true rfl) (Nat.le_of_ble_eq_true rfl) dL_type_19
  · have h := ce_ie c7 h
    by_cases d8 : t3 = 2
    · have h := ce_it d8 h
      rw [d8] at hcl
      refine vx_catch (own := RL) (name := ce_IA) (E := ce_E 2) hown [] ⟨0, 9, 12, 15⟩ [⟨0, 9, 15, 17⟩] (htab.trans rfl) (fun _ h9 => nomatch h9) (by decide) (by decide) (hB _ ce_lk15) (va_Nw.use rfl hF.2.2.2.2.2.1.2.1) hce hcv hcl ?_
      refine lv_astore_n (lv' := [(3, .ref qq), (0, .ref (b + a1)), (1, .int a2), (2, .ref (b + a3))]) hx hb dL_type_12 rfl hl (by decide) rfl (fun ls hl => ?_)
      refine lv_iconst (v := 1) hx hb dL_type_13 (by decide) ?_
      cases h
      exact ce_iretW hx hb hr hlocks hA hS (Nat.le_of_ble_eq_true rfl) (Nat.le_of_ble_eq_true rfl) dL_type_14
    have h := ce_ie d8 h
    by_cases d9 : t3 = 3
    · have h := ce_it d9 h
      rw [d9] at hcl
      refine vx_catch (own := RL) (name := ce_IS) (E := ce_E 3) hown [⟨0, 9, 12, 15⟩] ⟨0, 9, 15, 17⟩ [] (htab.trans rfl) (fun z hz => by simp only [List.mem_cons, List.not_mem_nil, or_false] at hz; rcases hz with rfl; exact Or.inr (ce_passed hB (by decide) ce_lk15 hF.2.2.2.2.2.2.2.2.2)) (by decide) (by decide) (hB _ ce_lk17) (va_Nw.use rfl hF.2.2.2.2.2.1.2.2) hce hcv hcl ?_
      refine lv_astore_n (lv' := [(3, .ref qq), (0, .ref (b + a1)), (1, .int a2), (2, .ref (b + a3))]) hx hb dL_type_15 rfl hl (by decide) rfl (fun ls hl => ?_)
      refine lv_iconst (v := 2) hx hb dL_type_16 (by decide) ?_
      cases h
      exact ce_iretW hx hb hr hlocks hA hS (Nat.le_of_ble_eq_true rfl) (Nat.le_of_ble_eq_true rfl) dL_type_17
    have h := ce_ie d9 h
    cases h
def f_L_undo (M : ce_M) (a1 : Nat) (a2 : Nat) : Option (ce_M × Int32) :=
  ce_b3 (f_X7_undo a1 M) (fun (M1 : ce_M) (x2 : Int32) (t3 : Nat) =>
  if t3 = 0 then
    ce_nm (ce_wl M1 1 (Int32.toInt64 x2)) (fun (M5 : ce_M) =>
    some (M5, 0))
  else
    if t3 = 3 then
      some (M1, 1)
    else
    none)
set_option maxRecDepth 100000 in
set_option maxHeartbeats 4000000 in
theorem c_L_undo (l : Launch) (hfl : l.stackTraces = false) (X : ce_X) (G : ce_G) (b : Nat) {a1 : Nat} {a2 : Nat} {M : ce_M} (ha1 : ce_kd a1 = 7) (ha2 : ce_kd a2 = 12) {M' : ce_M} {r : Int32} (h : f_L_undo M a1 a2 = some (M', r)) : ce_CtW l yL_undo cL_undo 3 (some .int) [(0, 8, 11, 17)] 8 145 1 6 X G b [.ref (b + a1), .ref (b + a2)] M (some (.int r)) M' := by
  refine ce_ofWW (own := RL) (by decide) rfl (Nat.le_of_ble_eq_true rfl) (fun p e s m below meth c ls hx hb hr hlocks hml hown hB hF hA hl hS htab => ?_)
  have hK := hF.1
  have hl : lv_has ls 3 [(0, .ref (b + a1)), (1, .ref (b + a2))] := hl
  unfold f_L_undo at h
  refine lv_aload_n hx hb dL_undo_0 rfl (lv_at hl 1 rfl) ?_
  refine lv_iconst (v := 0) hx hb dL_undo_1 (by decide) ?_
  refine lv_aload_n hx hb dL_undo_2 rfl (lv_at hl 0 rfl) ?_
  obtain ⟨M1, x2, t3, g4, h⟩ := ce_b3_e h
  refine ce_callVXi (As := []) (rest := [.int 0, .ref (b + a2)]) hx hb hml hown hB (c_X7_undo l hfl X G b ha1 g4) ce_v_X7_undo ce_w930 ⟨Nat.le_of_ble_eq_true rfl, Nat.le_of_ble_eq_true rfl⟩ hF hA hS (ce_rc_7 hK hA ha1) hl rfl rfl (Nat.le_of_ble_eq_true rfl) dL_undo_3 ⟨(Nat.le_of_ble_eq_true rfl), (Nat.le_of_ble_eq_true rfl)⟩ (fun c7 H locs hA hS => ?_) (fun c7 ltc7 ce qq H locs hA hS hce hcv hcl => ?_)
  · have h := ce_it c7 h
    refine lv_i2l hx hb dL_undo_6 rfl ?_
    obtain ⟨M5, e6, h⟩ := ce_nm_e h
    refine ce_last hx hb hK hA hS ha2 dL_undo_7 e6 (fun H locs hA hS => ?_)
    refine lv_goto (tgt := 14) hx hb dL_undo_8 (by decide) ?_
    refine lv_iconst (v := 0) hx hb dL_undo_14 (by decide) ?_
    cases h
    exact ce_iretW hx hb hr hlocks hA hS (Nat.le_of_ble_eq_true rfl) (Nat.le_of_ble_eq_true rfl) dL_undo_15
  · have h := ce_ie c7 h
    by_cases d8 : t3 = 3
    · have h := ce_it d8 h
      rw [d8] at hcl
      refine vx_catch (own := RL) (name := ce_IS) (E := ce_E 3) hown [] ⟨0, 8, 11, 17⟩ [] (htab.trans rfl) (fun _ h9 => nomatch h9) (by decide) (by decide) (hB _ ce_lk17) (va_Nw.use rfl hF.2.2.2.2.2.1.2.2) hce hcv hcl ?_
      refine lv_astore_n (lv' := [(2, .ref qq), (0, .ref (b + a1)), (1, .ref (b + a2))]) hx hb dL_undo_11 rfl hl (by decide) rfl (fun ls hl => ?_)
      refine lv_iconst (v := 1) hx hb dL_undo_12 (by decide) ?_
      cases h
      exact ce_iretW hx hb hr hlocks hA hS (Nat.le_of_ble_eq_true rfl) (Nat.le_of_ble_eq_true rfl) dL_undo_13
    have h := ce_ie d8 h
    cases h
