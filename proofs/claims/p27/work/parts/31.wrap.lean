def f_L_cell (M : ce_M) (a2 : Int32) (L : Nat) (xs : Nat → Int32) : Option Int32 :=
  ce_nm (fun (x1 : Int32) =>
      some (x1 ^^^ (ce_ushr x1 15))) (fun (u2 : Int32 → Option Int32) =>
  if (Int32.ofNat L) ≤ a2 then
    u2 (916318735 * (a2 + 3))
  else
    ce_gi a2 L (ce_nm (xs (Int32.toNatClampNeg a2)) (fun (x5 : Int32) =>
    u2 x5)))
set_option maxRecDepth 100000 in
set_option maxHeartbeats 4000000 in
theorem c_L_cell (l : Launch) (X : ce_X) (G : ce_G) (b : Nat) {a2 : Int32} {M : ce_M}  {r : Int32} (h : f_L_cell M a2 G.2.2.2.1 G.2.2.2.2 = some r) : ce_Ct l yL_cell cL_cell 3 (some .int) 0 0 X G b [.ref G.2.2.1, .int a2] M (some (.int r)) M := by
  refine ce_ofW (own := RL) (by decide) rfl (Nat.le_of_ble_eq_true rfl) (fun p e s m below meth c ls hx hb hr hlocks hml hown hB hF hA hl hS => ?_)
  have hK := hF.1
  have hl : lv_has ls 3 [(0, .ref G.2.2.1), (1, .int a2)] := hl
  unfold f_L_cell at h
  refine lv_iload_n hx hb dL_cell_0 rfl (lv_at hl 1 rfl) ?_
  refine lv_aload_n hx hb dL_cell_1 rfl (lv_at hl 0 rfl) ?_
  refine va_tlen hx hb (hF.2.2.2.1.narrow (fun _ h => h.1)) hS rfl dL_cell_2 ?_
  obtain ⟨u2, e3, h⟩ := ce_nm_e h
  have Ju2 : ∀ (x1 : Int32), u2 x1 = some r → ce_Wg p l e (ce_R 0 0 0 0) s m (([.ref G.2.2.1, .int a2] : List Value).toArray) below meth c 0 0 (MQ below (ce_Q X b M (some (.int r))) ([.ref G.2.2.1, .int a2] : List Value).toArray s 0 0 (ce_Ab b)) X b M 3 [] 18 [.int x1] := by
    intro x1 h  H locs ls hA hS hl
    subst e3
    refine lv_istore_n (lv' := [(2, .int x1)]) hx hb dL_cell_18 rfl hl (by decide) rfl (fun ls hl => ?_)
    refine lv_iload_n hx hb dL_cell_19 rfl (lv_at hl 0 rfl) ?_
    refine lv_iload_n hx hb dL_cell_20 rfl (lv_at hl 0 rfl) ?_
    refine lv_bipush (v := 15) hx hb dL_cell_21 (by decide) ?_
    refine lv_iushr hx hb dL_cell_23 rfl ?_
    refine lv_ixor hx hb dL_cell_24 ?_
    cases h
    exact ce_iret hx hb hr hlocks hA hS dL_cell_25
  refine lv_icmp_ge (tgt := 12) hx hb dL_cell_3 (by decide) (fun c4 => ?_) (fun c4 => ?_)
  · have h := ce_it c4 h
    refine lv_ldc (v := 916318735) hx hb hown (hB _ ce_w239) dL_cell_12 ?_
    refine lv_iload_n hx hb dL_cell_14 rfl (lv_at hl 1 rfl) ?_
    refine lv_iconst (v := 3) hx hb dL_cell_15 (by decide) ?_
    refine lv_iadd hx hb dL_cell_16 ?_
    refine lv_imul hx hb dL_cell_17 ?_
    exact Ju2 (916318735 * (a2 + 3)) h  _ _ _ hA hS (lv_sub hl [] rfl)
  · have h := ce_ie c4 h
    refine lv_aload_n hx hb dL_cell_6 rfl (lv_at hl 0 rfl) ?_
    refine lv_iload_n hx hb dL_cell_7 rfl (lv_at hl 1 rfl) ?_
    obtain ⟨i6, h⟩ := ce_gi_e h
    obtain ⟨x5, e7, h⟩ := ce_nm_e h
    refine va_ti hx hb (hF.2.2.2.1.narrow (fun _ h => h.1)) hS i6 (v := .int x5) (by rw [← e7]) dL_cell_8 ?_
    refine lv_goto (tgt := 18) hx hb dL_cell_9 (by decide) ?_
    exact Ju2 x5 h  _ _ _ hA hS (lv_sub hl [] rfl)
def f_L_low (M : ce_M) (a1 : Int32) (a2 : Int32) : Option Int32 :=
  ce_gn a2 (
  some ((a1 &&& 2147483647) - (a1 &&& 2147483647) / a2 * a2))
set_option maxRecDepth 100000 in
set_option maxHeartbeats 4000000 in
theorem c_L_low (l : Launch) (X : ce_X) (G : ce_G) (b : Nat) {a1 : Int32} {a2 : Int32} {M : ce_M}  {r : Int32} (h : f_L_low M a1 a2 = some r) : ce_Ct l yL_low cL_low 2 (some .int) 0 0 X G b [.int a1, .int a2] M (some (.int r)) M := by
  refine ce_ofW (own := RL) (by decide) rfl (Nat.le_of_ble_eq_true rfl) (fun p e s m below meth c ls hx hb hr hlocks hml hown hB hF hA hl hS => ?_)
  have hK := hF.1
  have hl : lv_has ls 2 [(0, .int a1), (1, .int a2)] := hl
  unfold f_L_low at h
  refine lv_iload_n hx hb dL_low_0 rfl (lv_at hl 0 rfl) ?_
  refine lv_ldc (v := 2147483647) hx hb hown (hB _ ce_w243) dL_low_1 ?_
  refine lv_iand hx hb dL_low_3 ?_
  refine lv_iload_n hx hb dL_low_4 rfl (lv_at hl 1 rfl) ?_
  obtain ⟨i1, h⟩ := ce_gn_e h
  refine lv_irem hx hb dL_low_5 i1 ?_
  cases h
  exact ce_iret hx hb hr hlocks hA hS dL_low_6
def f_L_joins (M : ce_M) (a1 : Nat) (a2 : Int32) (a3 : Int32) (a4 : Int32) : Option (ce_M × Int32) :=
  ce_b3 (f_X7_subscribe a1 M a2 a3 a4) (fun (M1 : ce_M) (x2 : Int32) (t3 : Nat) =>
  if t3 = 0 then
    some (M1, x2)
  else
    if t3 = 1 then
      some (M1, (-900000003))
    else
    if t3 = 2 then
      some (M1, (-900000001))
    else
    if t3 = 3 then
      some (M1, (-900000002))
    else
    none)
set_option maxRecDepth 100000 in
set_option maxHeartbeats 4000000 in
theorem c_L_joins (l : Launch) (hfl : l.stackTraces = false) (X : ce_X) (G : ce_G) (b : Nat) {a1 : Nat} {a2 : Int32} {a3 : Int32} {a4 : Int32} {M : ce_M} (ha1 : ce_kd a1 = 7) {M' : ce_M} {r : Int32} (h : f_L_joins M a1 a2 a3 a4 = some (M', r)) : ce_CtW l yL_joins cL_joins 5 (some .int) [(0, 7, 8, 15), (0, 7, 13, 18), (0, 7, 18, 21)] 9 182 3 18 X G b [.ref (b + a1), .int a2, .int a3, .int a4] M (some (.int r)) M' := by
  refine ce_ofWW (own := RL) (by decide) rfl (Nat.le_of_ble_eq_true rfl) (fun p e s m below meth c ls hx hb hr hlocks hml hown hB hF hA hl hS htab => ?_)
  have hK := hF.1
  have hl : lv_has ls 5 [(0, .ref (b + a1)), (1, .int a2), (2, .int a3), (3, .int a4)] := hl
  unfold f_L_joins at h
  refine lv_aload_n hx hb dL_joins_0 rfl (lv_at hl 0 rfl) ?_
  refine lv_iload_n hx hb dL_joins_1 rfl (lv_at hl 1 rfl) ?_
  refine lv_iload_n hx hb dL_joins_2 rfl (lv_at hl 2 rfl) ?_
  refine lv_iload_n hx hb dL_joins_3 rfl (lv_at hl 3 rfl) ?_
  obtain ⟨M1, x2, t3, g4, h⟩ := ce_b3_e h
  refine ce_callVXi (As := [.int a2, .int a3, .int a4]) (rest := []) hx hb hml hown hB (c_X7_subscribe l hfl X G b ha1 g4) ce_v_X7_subscribe ce_w250 ⟨Nat.le_of_ble_eq_true rfl, Nat.le_of_ble_eq_true rfl⟩ hF hA hS (ce_rc_7 hK hA ha1) hl rfl rfl (Nat.le_of_ble_eq_true rfl) dL_joins_4 ⟨(Nat.le_of_ble_eq_true rfl), (Nat.le_of_ble_eq_true rfl)⟩ (fun c5 H locs hA hS => ?_) (fun c5 ltc5 ce qq H locs hA hS hce hcv hcl => ?_)
  · have h := ce_it c5 h
    cases h
    exact ce_iretW hx hb hr hlocks hA hS (Nat.le_of_ble_eq_true rfl) (Nat.le_of_ble_eq_true rfl) dL_joins_7
  · have h := ce_ie c5 h
    by_cases d6 : t3 = 1
    · have h := ce_it d6 h
      rw [d6] at hcl
      refine vx_catch (own := RL) (name := ce_IO) (E := ce_E 1) hown [] ⟨0, 7, 8, 15⟩ [⟨0, 7, 13, 18⟩, ⟨0, 7, 18, 21⟩] (htab.trans rfl) (fun _ h9 => nomatch h9) (by decide) (by decide) (hB _ ce_lk15) (va_Nw.use rfl hF.2.2.2.2.2.1.1) hce hcv hcl ?_
      refine lv_astore (lv' := [(4, .ref qq), (0, .ref (b + a1)), (1, .int a2), (2, .int a3), (3, .int a4)]) hx hb dL_joins_8 hl (by decide) rfl (fun ls hl => ?_)
      refine lv_ldc (v := (-900000003)) hx hb hown (hB _ ce_w555) dL_joins_10 ?_
      cases h
      exact ce_iretW hx hb hr hlocks hA hS (Nat.le_of_ble_eq_true rfl) (Nat.le_of_ble_eq_true rfl) dL_joins_12
    have h := ce_ie d6 h
    by_cases d7 : t3 = 2
    · have h := ce_it d7 h
      rw [d7] at hcl
      refine vx_catch (own := RL) (name := ce_IA) (E := ce_E 2) hown [⟨0, 7, 8, 15⟩] ⟨0, 7, 13, 18⟩ [⟨0, 7, 18, 21⟩] (htab.trans rfl) (fun z hz => by simp only [List.mem_cons, List.not_mem_nil, or_false] at hz; rcases hz with rfl; exact Or.inr (ce_passed hB (by decide) ce_lk15 hF.2.2.2.2.2.2.2.1)) (by decide) (by decide) (hB _ ce_lk18) (va_Nw.use rfl hF.2.2.2.2.2.1.2.1) hce hcv hcl ?_
      refine lv_astore (lv' := [(4, .ref qq), (0, .ref (b + a1)), (1, .int a2), (2, .int a3), (3, .int a4)]) hx hb dL_joins_13 hl (by decide) rfl (fun ls hl => ?_)
      refine lv_ldc (v := (-900000001)) hx hb hown (hB _ ce_w556) dL_joins_15 ?_
      cases h
      exact ce_iretW hx hb hr hlocks hA hS (Nat.le_of_ble_eq_true rfl) (Nat.le_of_ble_eq_true rfl) dL_joins_17
    have h := ce_ie d7 h
    by_cases d8 : t3 = 3
    · have h := ce_it d8 h
      rw [d8] at hcl
      refine vx_catch (own := RL) (name := ce_IS) (E := ce_E 3) hown [⟨0, 7, 8, 15⟩, ⟨0, 7, 13, 18⟩] ⟨0, 7, 18, 21⟩ [] (htab.trans rfl) (fun z hz => by simp only [List.mem_cons, List.not_mem_nil, or_false] at hz; rcases hz with rfl | rfl <;> first | exact Or.inr (ce_passed hB (by decide) ce_lk15 hF.2.2.2.2.2.2.2.2.1) | exact Or.inr (ce_passed hB (by decide) ce_lk18 hF.2.2.2.2.2.2.2.2.2)) (by decide) (by decide) (hB _ ce_lk21) (va_Nw.use rfl hF.2.2.2.2.2.1.2.2) hce hcv hcl ?_
      refine lv_astore (lv' := [(4, .ref qq), (0, .ref (b + a1)), (1, .int a2), (2, .int a3), (3, .int a4)]) hx hb dL_joins_18 hl (by decide) rfl (fun ls hl => ?_)
      refine lv_ldc (v := (-900000002)) hx hb hown (hB _ ce_w557) dL_joins_20 ?_
      cases h
      exact ce_iretW hx hb hr hlocks hA hS (Nat.le_of_ble_eq_true rfl) (Nat.le_of_ble_eq_true rfl) dL_joins_22
    have h := ce_ie d8 h
    cases h
def f_L_goes (M : ce_M) (a1 : Nat) (a2 : Int32) (a3 : Int32) : Option (ce_M × Int32) :=
  ce_b3 (f_X7_move a1 M a2 a3) (fun (M1 : ce_M) (x2 : Int32) (t3 : Nat) =>
  if t3 = 0 then
    some (M1, x2)
  else
    if t3 = 1 then
      some (M1, (-900000003))
    else
    if t3 = 3 then
      some (M1, (-900000002))
    else
    none)
set_option maxRecDepth 100000 in
set_option maxHeartbeats 4000000 in
theorem c_L_goes (l : Launch) (hfl : l.stackTraces = false) (X : ce_X) (G : ce_G) (b : Nat) {a1 : Nat} {a2 : Int32} {a3 : Int32} {M : ce_M} (ha1 : ce_kd a1 = 7) {M' : ce_M} {r : Int32} (h : f_L_goes M a1 a2 a3 = some (M', r)) : ce_CtW l yL_goes cL_goes 4 (some .int) [(0, 6, 7, 15), (0, 6, 11, 21)] 9 181 3 18 X G b [.ref (b + a1), .int a2, .int a3] M (some (.int r)) M' := by
  refine ce_ofWW (own := RL) (by decide) rfl (Nat.le_of_ble_eq_true rfl) (fun p e s m below meth c ls hx hb hr hlocks hml hown hB hF hA hl hS htab => ?_)
  have hK := hF.1
  have hl : lv_has ls 4 [(0, .ref (b + a1)), (1, .int a2), (2, .int a3)] := hl
  unfold f_L_goes at h
  refine lv_aload_n hx hb dL_goes_0 rfl (lv_at hl 0 rfl) ?_
  refine lv_iload_n hx hb dL_goes_1 rfl (lv_at hl 1 rfl) ?_
  refine lv_iload_n hx hb dL_goes_2 rfl (lv_at hl 2 rfl) ?_
  obtain ⟨M1, x2, t3, g4, h⟩ := ce_b3_e h
  refine ce_callVXi (As := [.int a2, .int a3]) (rest := []) hx hb hml hown hB (c_X7_move l hfl X G b ha1 g4) ce_v_X7_move ce_w699 ⟨Nat.le_of_ble_eq_true rfl, Nat.le_of_ble_eq_true rfl⟩ hF hA hS (ce_rc_7 hK hA ha1) hl rfl rfl (Nat.le_of_ble_eq_true rfl) dL_goes_3 ⟨(Nat.le_of_ble_eq_true rfl), (Nat.le_of_ble_eq_true rfl)⟩ (fun c5 H locs hA hS => ?_) (fun c5 ltc5 ce qq H locs hA hS hce hcv hcl => ?_)
  · have h := ce_it c5 h
    cases h
    exact ce_iretW hx hb hr hlocks hA hS (Nat.le_of_ble_eq_true rfl) (Nat.le_of_ble_eq_true rfl) dL_goes_6
  · have h := ce_ie c5 h
    by_cases d6 : t3 = 1
    · have h := ce_it d6 h
      rw [d6] at hcl
      refine vx_catch (own := RL) (name := ce_IO) (E := ce_E 1) hown [] ⟨0, 6, 7, 15⟩ [⟨0, 6, 11, 21⟩] (htab.trans rfl) (fun _ h9 => nomatch h9) (by decide) (by decide) (hB _ ce_lk15) (va_Nw.use rfl hF.2.2.2.2.2.1.1) hce hcv hcl ?_
      refine lv_astore_n (lv' := [(3, .ref qq), (0, .ref (b + a1)), (1, .int a2), (2, .int a3)]) hx hb dL_goes_7 rfl hl (by decide) rfl (fun ls hl => ?_)
      refine lv_ldc (v := (-900000003)) hx hb hown (hB _ ce_w555) dL_goes_8 ?_
      cases h
      exact ce_iretW hx hb hr hlocks hA hS (Nat.le_of_ble_eq_true rfl) (Nat.le_of_ble_eq_true rfl) dL_goes_10
    have h := ce_ie d6 h
    by_cases d7 : t3 = 3
    · have h := ce_it d7 h
      rw [d7] at hcl
      refine vx_catch (own := RL) (name := ce_IS) (E := ce_E 3) hown [⟨0, 6, 7, 15⟩] ⟨0, 6, 11, 21⟩ [] (htab.trans rfl) (fun z hz => by simp only [List.mem_cons, List.not_mem_nil, or_false] at hz; rcases hz with rfl; exact Or.inr (ce_passed hB (by decide) ce_lk15 hF.2.2.2.2.2.2.2.2.1)) (by decide) (by decide) (hB _ ce_lk21) (va_Nw.use rfl hF.2.2.2.2.2.1.2.2) hce hcv hcl ?_
      refine lv_astore_n (lv' := [(3, .ref qq), (0, .ref (b + a1)), (1, .int a2), (2, .int a3)]) hx hb dL_goes_11 rfl hl (by decide) rfl (fun ls hl => ?_)
      refine lv_ldc (v := (-900000002)) hx hb hown (hB _ ce_w557) dL_goes_12 ?_
      cases h
      exact ce_iretW hx hb hr hlocks hA hS (Nat.le_of_ble_eq_true rfl) (Nat.le_of_ble_eq_true rfl) dL_goes_14
    have h := ce_ie d7 h
    cases h
def f_L_quits (M : ce_M) (a1 : Nat) (a2 : Int32) : Option (ce_M × Int32) :=
  ce_b3 (f_X7_leave a1 M a2) (fun (M1 : ce_M) (x2 : Int32) (t3 : Nat) =>
  if t3 = 0 then
    some (M1, x2)
  else
    if t3 = 1 then
      some (M1, (-900000003))
    else
    if t3 = 3 then
      some (M1, (-900000002))
    else
    none)
set_option maxRecDepth 100000 in
set_option maxHeartbeats 4000000 in
theorem c_L_quits (l : Launch) (hfl : l.stackTraces = false) (X : ce_X) (G : ce_G) (b : Nat) {a1 : Nat} {a2 : Int32} {M : ce_M} (ha1 : ce_kd a1 = 7) {M' : ce_M} {r : Int32} (h : f_L_quits M a1 a2 = some (M', r)) : ce_CtW l yL_quits cL_quits 3 (some .int) [(0, 5, 6, 15), (0, 5, 10, 21)] 9 180 3 18 X G b [.ref (b + a1), .int a2] M (some (.int r)) M' := by
  refine ce_ofWW (own := RL) (by decide) rfl (Nat.le_of_ble_eq_true rfl) (fun p e s m below meth c ls hx hb hr hlocks hml hown hB hF hA hl hS htab => ?_)
  have hK := hF.1
  have hl : lv_has ls 3 [(0, .ref (b + a1)), (1, .int a2)] := hl
  unfold f_L_quits at h
  refine lv_aload_n hx hb dL_quits_0 rfl (lv_at hl 0 rfl) ?_
  refine lv_iload_n hx hb dL_quits_1 rfl (lv_at hl 1 rfl) ?_
  obtain ⟨M1, x2, t3, g4, h⟩ := ce_b3_e h
  refine ce_callVXi (As := [.int a2]) (rest := []) hx hb hml hown hB (c_X7_leave l hfl X G b ha1 g4) ce_v_X7_leave ce_w706 ⟨Nat.le_of_ble_eq_true rfl, Nat.le_of_ble_eq_true rfl⟩ hF hA hS (ce_rc_7 hK hA ha1) hl rfl rfl (Nat.le_of_ble_eq_true rfl) dL_quits_2 ⟨(Nat.le_of_ble_eq_true rfl), (Nat.le_of_ble_eq_true rfl)⟩ (fun c5 H locs hA hS => ?_) (fun c5 ltc5 ce qq H locs hA hS hce hcv hcl => ?_)
  · have h := ce_it c5 h
    cases h
    exact ce_iretW hx hb hr hlocks hA hS (Nat.le_of_ble_eq_true rfl) (Nat.le_of_ble_eq_true rfl) dL_quits_5
  · have h := ce_ie c5 h
    by_cases d6 : t3 = 1
    · have h := ce_it d6 h
      rw [d6] at hcl
      refine vx_catch (own := RL) (name := ce_IO) (E := ce_E 1) hown [] ⟨0, 5, 6, 15⟩ [⟨0, 5, 10, 21⟩] (htab.trans rfl) (fun _ h9 => nomatch h9) (by decide) (by decide) (hB _ ce_lk15) (va_Nw.use rfl hF.2.2.2.2.2.1.1) hce hcv hcl ?_
      refine lv_astore_n (lv' := [(2, .ref qq), (0, .ref (b + a1)), (1, .int a2)]) hx hb dL_quits_6 rfl hl (by decide) rfl (fun ls hl => ?_)
      refine lv_ldc (v := (-900000003)) hx hb hown (hB _ ce_w555) dL_quits_7 ?_
      cases h
      exact ce_iretW hx hb hr hlocks hA hS (Nat.le_of_ble_eq_true rfl) (Nat.le_of_ble_eq_true rfl) dL_quits_9
    have h := ce_ie d6 h
    by_cases d7 : t3 = 3
    · have h := ce_it d7 h
      rw [d7] at hcl
      refine vx_catch (own := RL) (name := ce_IS) (E := ce_E 3) hown [⟨0, 5, 6, 15⟩] ⟨0, 5, 10, 21⟩ [] (htab.trans rfl) (fun z hz => by simp only [List.mem_cons, List.not_mem_nil, or_false] at hz; rcases hz with rfl; exact Or.inr (ce_passed hB (by decide) ce_lk15 hF.2.2.2.2.2.2.2.2.1)) (by decide) (by decide) (hB _ ce_lk21) (va_Nw.use rfl hF.2.2.2.2.2.1.2.2) hce hcv hcl ?_
      refine lv_astore_n (lv' := [(2, .ref qq), (0, .ref (b + a1)), (1, .int a2)]) hx hb dL_quits_10 rfl hl (by decide) rfl (fun ls hl => ?_)
      refine lv_ldc (v := (-900000002)) hx hb hown (hB _ ce_w557) dL_quits_11 ?_
      cases h
      exact ce_iretW hx hb hr hlocks hA hS (Nat.le_of_ble_eq_true rfl) (Nat.le_of_ble_eq_true rfl) dL_quits_13
    have h := ce_ie d7 h
    cases h
def f_L_levels (M : ce_M) (a1 : Nat) (a2 : Int32) (a3 : Int32) : Option (ce_M × Int32) :=
  ce_b3 (f_X7_setLevel a1 M a2 a3) (fun (M1 : ce_M) (x2 : Int32) (t3 : Nat) =>
  if t3 = 0 then
    some (M1, x2)
  else
    if t3 = 1 then
      some (M1, (-900000003))
    else
    if t3 = 2 then
      some (M1, (-900000001))
    else
    none)
set_option maxRecDepth 100000 in
set_option maxHeartbeats 4000000 in
theorem c_L_levels (l : Launch) (hfl : l.stackTraces = false) (X : ce_X) (G : ce_G) (b : Nat) {a1 : Nat} {a2 : Int32} {a3 : Int32} {M : ce_M} (ha1 : ce_kd a1 = 7) {M' : ce_M} {r : Int32} (h : f_L_levels M a1 a2 a3 = some (M', r)) : ce_CtW l yL_levels cL_levels 4 (some .int) [(0, 6, 7, 15), (0, 6, 11, 18)] 9 181 3 18 X G b [.ref (b + a1), .int a2, .int a3] M (some (.int r)) M' := by
  refine ce_ofWW (own := RL) (by decide) rfl (Nat.le_of_ble_eq_true rfl) (fun p e s m below meth c ls hx hb hr hlocks hml hown hB hF hA hl hS htab => ?_)
  have hK := hF.1
  have hl : lv_has ls 4 [(0, .ref (b + a1)), (1, .int a2), (2, .int a3)] := hl
  unfold f_L_levels at h
  refine lv_aload_n hx hb dL_levels_0 rfl (lv_at hl 0 rfl) ?_
  refine lv_iload_n hx hb dL_levels_1 rfl (lv_at hl 1 rfl) ?_
  refine lv_iload_n hx hb dL_levels_2 rfl (lv_at hl 2 rfl) ?_
  obtain ⟨M1, x2, t3, g4, h⟩ := ce_b3_e h
  refine ce_callVXi (As := [.int a2, .int a3]) (rest := []) hx hb hml hown hB (c_X7_setLevel l hfl X G b ha1 g4) ce_v_X7_setLevel ce_w713 ⟨Nat.le_of_ble_eq_true rfl, Nat.le_of_ble_eq_true rfl⟩ hF hA hS (ce_rc_7 hK hA ha1) hl rfl rfl (Nat.le_of_ble_eq_true rfl) dL_levels_3 ⟨(Nat.le_of_ble_eq_true rfl), (Nat.le_of_ble_eq_true rfl)⟩ (fun c5 H locs hA hS => ?_) (fun c5 ltc5 ce qq H locs hA hS hce hcv hcl => ?_)
  · have h := ce_it c5 h
    cases h
    exact ce_iretW hx hb hr hlocks hA hS (Nat.le_of_ble_eq_true rfl) (Nat.le_of_ble_eq_true rfl) dL_levels_6
  · have h := ce_ie c5 h
    by_cases d6 : t3 = 1
    · have h := ce_it d6 h
      rw [d6] at hcl
      refine vx_catch (own := RL) (name := ce_IO) (E := ce_E 1) hown [] ⟨0, 6, 7, 15⟩ [⟨0, 6, 11, 18⟩] (htab.trans rfl) (fun _ h9 => nomatch h9) (by decide) (by decide) (hB _ ce_lk15) (va_Nw.use rfl hF.2.2.2.2.2.1.1) hce hcv hcl ?_
      refine lv_astore_n (lv' := [(3, .ref qq), (0, .ref (b + a1)), (1, .int a2), (2, .int a3)]) hx hb dL_levels_7 rfl hl (by decide) rfl (fun ls hl => ?_)
      refine lv_ldc (v := (-900000003)) hx hb hown (hB _ ce_w555) dL_levels_8 ?_
      cases h
      exact ce_iretW hx hb hr hlocks hA hS (Nat.le_of_ble_eq_true rfl) (Nat.le_of_ble_eq_true rfl) dL_levels_10
    have h := ce_ie d6 h
    by_cases d7 : t3 = 2
    · have h := ce_it d7 h
      rw [d7] at hcl
      refine vx_catch (own := RL) (name := ce_IA) (E := ce_E 2) hown [⟨0, 6, 7, 15⟩] ⟨0, 6, 11, 18⟩ [] (htab.trans rfl) (fun z hz => by simp only [List.mem_cons, List.not_mem_nil, or_false] at hz; rcases hz with rfl; exact Or.inr (ce_passed hB (by decide) ce_lk15 hF.2.2.2.2.2.2.2.1)) (by decide) (by decide) (hB _ ce_lk18) (va_Nw.use rfl hF.2.2.2.2.2.1.2.1) hce hcv hcl ?_
      refine lv_astore_n (lv' := [(3, .ref qq), (0, .ref (b + a1)), (1, .int a2), (2, .int a3)]) hx hb dL_levels_11 rfl hl (by decide) rfl (fun ls hl => ?_)
      refine lv_ldc (v := (-900000001)) hx hb hown (hB _ ce_w556) dL_levels_12 ?_
      cases h
      exact ce_iretW hx hb hr hlocks hA hS (Nat.le_of_ble_eq_true rfl) (Nat.le_of_ble_eq_true rfl) dL_levels_14
    have h := ce_ie d7 h
    cases h
def f_L_sets (M : ce_M) (a1 : Nat) (a2 : Int32) (a3 : Int32) : Option (ce_M × Int32) :=
  ce_b3 (f_X7_set a1 M a2 a3) (fun (M1 : ce_M) (x2 : Int32) (t3 : Nat) =>
  if t3 = 0 then
    some (M1, x2)
  else
    if t3 = 2 then
      some (M1, (-900000001))
    else
    none)
set_option maxRecDepth 100000 in
set_option maxHeartbeats 4000000 in
theorem c_L_sets (l : Launch) (hfl : l.stackTraces = false) (X : ce_X) (G : ce_G) (b : Nat) {a1 : Nat} {a2 : Int32} {a3 : Int32} {M : ce_M} (ha1 : ce_kd a1 = 7) {M' : ce_M} {r : Int32} (h : f_L_sets M a1 a2 a3 = some (M', r)) : ce_CtW l yL_sets cL_sets 4 (some .int) [(0, 6, 7, 18)] 9 181 3 18 X G b [.ref (b + a1), .int a2, .int a3] M (some (.int r)) M' := by
  refine ce_ofWW (own := RL) (by decide) rfl (Nat.le_of_ble_eq_true rfl) (fun p e s m below meth c ls hx hb hr hlocks hml hown hB hF hA hl hS htab => ?_)
  have hK := hF.1
  have hl : lv_has ls 4 [(0, .ref (b + a1)), (1, .int a2), (2, .int a3)] := hl
  unfold f_L_sets at h
  refine lv_aload_n hx hb dL_sets_0 rfl (lv_at hl 0 rfl) ?_
  refine lv_iload_n hx hb dL_sets_1 rfl (lv_at hl 1 rfl) ?_
  refine lv_iload_n hx hb dL_sets_2 rfl (lv_at hl 2 rfl) ?_
  obtain ⟨M1, x2, t3, g4, h⟩ := ce_b3_e h
  refine ce_callVXi (As := [.int a2, .int a3]) (rest := []) hx hb hml hown hB (c_X7_set l hfl X G b ha1 g4) ce_v_X7_set ce_w561 ⟨Nat.le_of_ble_eq_true rfl, Nat.le_of_ble_eq_true rfl⟩ hF hA hS (ce_rc_7 hK hA ha1) hl rfl rfl (Nat.le_of_ble_eq_true rfl) dL_sets_3 ⟨(Nat.le_of_ble_eq_true rfl), (Nat.le_of_ble_eq_true rfl)⟩ (fun c5 H locs hA hS => ?_) (fun c5 ltc5 ce qq H locs hA hS hce hcv hcl => ?_)
  · have h := ce_it c5 h
    cases h
    exact ce_iretW hx hb hr hlocks hA hS (Nat.le_of_ble_eq_true rfl) (Nat.le_of_ble_eq_true rfl) dL_sets_6
  · have h := ce_ie c5 h
    by_cases d6 : t3 = 2
    · have h := ce_it d6 h
      rw [d6] at hcl
      refine vx_catch (own := RL) (name := ce_IA) (E := ce_E 2) hown [] ⟨0, 6, 7, 18⟩ [] (htab.trans rfl) (fun _ h9 => nomatch h9) (by decide) (by decide) (hB _ ce_lk18) (va_Nw.use rfl hF.2.2.2.2.2.1.2.1) hce hcv hcl ?_
      refine lv_astore_n (lv' := [(3, .ref qq), (0, .ref (b + a1)), (1, .int a2), (2, .int a3)]) hx hb dL_sets_7 rfl hl (by decide) rfl (fun ls hl => ?_)
      refine lv_ldc (v := (-900000001)) hx hb hown (hB _ ce_w556) dL_sets_8 ?_
      cases h
      exact ce_iretW hx hb hr hlocks hA hS (Nat.le_of_ble_eq_true rfl) (Nat.le_of_ble_eq_true rfl) dL_sets_10
    have h := ce_ie d6 h
    cases h
def f_L_sends (M : ce_M) (a1 : Nat) (a2 : Int32) (a3 : Int32) (a4 : Int32) : Option (ce_M × Int32) :=
  ce_b3 (f_X7_publish a1 M a2 a3 a4) (fun (M1 : ce_M) (x2 : Int32) (t3 : Nat) =>
  if t3 = 0 then
    some (M1, x2)
  else
    if t3 = 1 then
      some (M1, (-900000003))
    else
    if t3 = 2 then
      some (M1, (-900000001))
    else
    if t3 = 3 then
      some (M1, (-900000002))
    else
    none)
set_option maxRecDepth 100000 in
set_option maxHeartbeats 4000000 in
theorem c_L_sends (l : Launch) (hfl : l.stackTraces = false) (X : ce_X) (G : ce_G) (b : Nat) {a1 : Nat} {a2 : Int32} {a3 : Int32} {a4 : Int32} {M : ce_M} (ha1 : ce_kd a1 = 7) {M' : ce_M} {r : Int32} (h : f_L_sends M a1 a2 a3 a4 = some (M', r)) : ce_CtW l yL_sends cL_sends 5 (some .int) [(0, 7, 8, 15), (0, 7, 13, 18), (0, 7, 18, 21)] 9 182 3 18 X G b [.ref (b + a1), .int a2, .int a3, .int a4] M (some (.int r)) M' := by
  refine ce_ofWW (own := RL) (by decide) rfl (Nat.le_of_ble_eq_true rfl) (fun p e s m below meth c ls hx hb hr hlocks hml hown hB hF hA hl hS htab => ?_)
  have hK := hF.1
  have hl : lv_has ls 5 [(0, .ref (b + a1)), (1, .int a2), (2, .int a3), (3, .int a4)] := hl
  unfold f_L_sends at h
  refine lv_aload_n hx hb dL_sends_0 rfl (lv_at hl 0 rfl) ?_
  refine lv_iload_n hx hb dL_sends_1 rfl (lv_at hl 1 rfl) ?_
  refine lv_iload_n hx hb dL_sends_2 rfl (lv_at hl 2 rfl) ?_
  refine lv_iload_n hx hb dL_sends_3 rfl (lv_at hl 3 rfl) ?_
  obtain ⟨M1, x2, t3, g4, h⟩ := ce_b3_e h
  refine ce_callVXi (As := [.int a2, .int a3, .int a4]) (rest := []) hx hb hml hown hB (c_X7_publish l hfl X G b ha1 g4) ce_v_X7_publish ce_w568 ⟨Nat.le_of_ble_eq_true rfl, Nat.le_of_ble_eq_true rfl⟩ hF hA hS (ce_rc_7 hK hA ha1) hl rfl rfl (Nat.le_of_ble_eq_true rfl) dL_sends_4 ⟨(Nat.le_of_ble_eq_true rfl), (Nat.le_of_ble_eq_true rfl)⟩ (fun c5 H locs hA hS => ?_) (fun c5 ltc5 ce qq H locs hA hS hce hcv hcl => ?_)
  · have h := ce_it c5 h
    cases h
    exact ce_iretW hx hb hr hlocks hA hS (Nat.le_of_ble_eq_true rfl) (Nat.le_of_ble_eq_true rfl) dL_sends_7
  · have h := ce_ie c5 h
    by_cases d6 : t3 = 1
    · have h := ce_it d6 h
      rw [d6] at hcl
      refine vx_catch (own := RL) (name := ce_IO) (E := ce_E 1) hown [] ⟨0, 7, 8, 15⟩ [⟨0, 7, 13, 18⟩, ⟨0, 7, 18, 21⟩] (htab.trans rfl) (fun _ h9 => nomatch h9) (by decide) (by decide) (hB _ ce_lk15) (va_Nw.use rfl hF.2.2.2.2.2.1.1) hce hcv hcl ?_
      refine lv_astore (lv' := [(4, .ref qq), (0, .ref (b + a1)), (1, .int a2), (2, .int a3), (3, .int a4)]) hx hb dL_sends_8 hl (by decide) rfl (fun ls hl => ?_)
      refine lv_ldc (v := (-900000003)) hx hb hown (hB _ ce_w555) dL_sends_10 ?_
      cases h
      exact ce_iretW hx hb hr hlocks hA hS (Nat.le_of_ble_eq_true rfl) (Nat.le_of_ble_eq_true rfl) dL_sends_12
    have h := ce_ie d6 h
    by_cases d7 : t3 = 2
    · have h := ce_it d7 h
      rw [d7] at hcl
      refine vx_catch (own := RL) (name := ce_IA) (E := ce_E 2) hown [⟨0, 7, 8, 15⟩] ⟨0, 7, 13, 18⟩ [⟨0, 7, 18, 21⟩] (htab.trans rfl) (fun z hz => by simp only [List.mem_cons, List.not_mem_nil, or_false] at hz; rcases hz with rfl; exact Or.inr (ce_passed hB (by decide) ce_lk15 hF.2.2.2.2.2.2.2.1)) (by decide) (by decide) (hB _ ce_lk18) (va_Nw.use rfl hF.2.2.2.2.2.1.2.1) hce hcv hcl ?_
      refine lv_astore (lv' := [(4, .ref qq), (0, .ref (b + a1)), (1, .int a2), (2, .int a3), (3, .int a4)]) hx hb dL_sends_13 hl (by decide) rfl (fun ls hl => ?_)
      refine lv_ldc (v := (-900000001)) hx hb hown (hB _ ce_w556) dL_sends_15 ?_
      cases h
      exact ce_iretW hx hb hr hlocks hA hS (Nat.le_of_ble_eq_true rfl) (Nat.le_of_ble_eq_true rfl) dL_sends_17
    have h := ce_ie d7 h
    by_cases d8 : t3 = 3
    · have h := ce_it d8 h
      rw [d8] at hcl
      refine vx_catch (own := RL) (name := ce_IS) (E := ce_E 3) hown [⟨0, 7, 8, 15⟩, ⟨0, 7, 13, 18⟩] ⟨0, 7, 18, 21⟩ [] (htab.trans rfl) (fun z hz => by simp only [List.mem_cons, List.not_mem_nil, or_false] at hz; rcases hz with rfl | rfl <;> first | exact Or.inr (ce_passed hB (by decide) ce_lk15 hF.2.2.2.2.2.2.2.2.1) | exact Or.inr (ce_passed hB (by decide) ce_lk18 hF.2.2.2.2.2.2.2.2.2)) (by decide) (by decide) (hB _ ce_lk21) (va_Nw.use rfl hF.2.2.2.2.2.1.2.2) hce hcv hcl ?_
      refine lv_astore (lv' := [(4, .ref qq), (0, .ref (b + a1)), (1, .int a2), (2, .int a3), (3, .int a4)]) hx hb dL_sends_18 hl (by decide) rfl (fun ls hl => ?_)
      refine lv_ldc (v := (-900000002)) hx hb hown (hB _ ce_w557) dL_sends_20 ?_
      cases h
      exact ce_iretW hx hb hr hlocks hA hS (Nat.le_of_ble_eq_true rfl) (Nat.le_of_ble_eq_true rfl) dL_sends_22
    have h := ce_ie d8 h
    cases h
def f_L_passes (M : ce_M) (a1 : Nat) (a2 : Int32) : Option (ce_M × Int32) :=
  ce_b3 (f_X7_pass a1 M a2) (fun (M1 : ce_M) (x2 : Int32) (t3 : Nat) =>
  if t3 = 0 then
    some (M1, x2)
  else
    if t3 = 2 then
      some (M1, (-900000001))
    else
    if t3 = 3 then
      some (M1, (-900000002))
    else
    none)
set_option maxRecDepth 100000 in
set_option maxHeartbeats 4000000 in
theorem c_L_passes (l : Launch) (hfl : l.stackTraces = false) (X : ce_X) (G : ce_G) (b : Nat) {a1 : Nat} {a2 : Int32} {M : ce_M} (ha1 : ce_kd a1 = 7) {M' : ce_M} {r : Int32} (h : f_L_passes M a1 a2 = some (M', r)) : ce_CtW l yL_passes cL_passes 3 (some .int) [(0, 5, 6, 18), (0, 5, 10, 21)] 9 180 3 18 X G b [.ref (b + a1), .int a2] M (some (.int r)) M' := by
  refine ce_ofWW (own := RL) (by decide) rfl (Nat.le_of_ble_eq_true rfl) (fun p e s m below meth c ls hx hb hr hlocks hml hown hB hF hA hl hS htab => ?_)
  have hK := hF.1
  have hl : lv_has ls 3 [(0, .ref (b + a1)), (1, .int a2)] := hl
  unfold f_L_passes at h
  refine lv_aload_n hx hb dL_passes_0 rfl (lv_at hl 0 rfl) ?_
  refine lv_iload_n hx hb dL_passes_1 rfl (lv_at hl 1 rfl) ?_
  obtain ⟨M1, x2, t3, g4, h⟩ := ce_b3_e h
  refine ce_callVXi (As := [.int a2]) (rest := []) hx hb hml hown hB (c_X7_pass l hfl X G b ha1 g4) ce_v_X7_pass ce_w575 ⟨Nat.le_of_ble_eq_true rfl, Nat.le_of_ble_eq_true rfl⟩ hF hA hS (ce_rc_7 hK hA ha1) hl rfl rfl (Nat.le_of_ble_eq_true rfl) dL_passes_2 ⟨(Nat.le_of_ble_eq_true rfl), (Nat.le_of_ble_eq_true rfl)⟩ (fun c5 H locs hA hS => ?_) (fun c5 ltc5 ce qq H locs hA hS hce hcv hcl => ?_)
  · have h := ce_it c5 h
    cases h
    exact ce_iretW hx hb hr hlocks hA hS (Nat.le_of_ble_eq_true rfl) (Nat.le_of_ble_eq_true rfl) dL_passes_5
  · have h := ce_ie c5 h
    by_cases d6 : t3 = 2
    · have h := ce_it d6 h
      rw [d6] at hcl
      refine vx_catch (own := RL) (name := ce_IA) (E := ce_E 2) hown [] ⟨0, 5, 6, 18⟩ [⟨0, 5, 10, 21⟩] (htab.trans rfl) (fun _ h9 => nomatch h9) (by decide) (by decide) (hB _ ce_lk18) (va_Nw.use rfl hF.2.2.2.2.2.1.2.1) hce hcv hcl ?_
      refine lv_astore_n (lv' := [(2, .ref qq), (0, .ref (b + a1)), (1, .int a2)]) hx hb dL_passes_6 rfl hl (by decide) rfl (fun ls hl => ?_)
      refine lv_ldc (v := (-900000001)) hx hb hown (hB _ ce_w556) dL_passes_7 ?_
      cases h
      exact ce_iretW hx hb hr hlocks hA hS (Nat.le_of_ble_eq_true rfl) (Nat.le_of_ble_eq_true rfl) dL_passes_9
    have h := ce_ie d6 h
    by_cases d7 : t3 = 3
    · have h := ce_it d7 h
      rw [d7] at hcl
      refine vx_catch (own := RL) (name := ce_IS) (E := ce_E 3) hown [⟨0, 5, 6, 18⟩] ⟨0, 5, 10, 21⟩ [] (htab.trans rfl) (fun z hz => by simp only [List.mem_cons, List.not_mem_nil, or_false] at hz; rcases hz with rfl; exact Or.inr (ce_passed hB (by decide) ce_lk18 hF.2.2.2.2.2.2.2.2.2)) (by decide) (by decide) (hB _ ce_lk21) (va_Nw.use rfl hF.2.2.2.2.2.1.2.2) hce hcv hcl ?_
      refine lv_astore_n (lv' := [(2, .ref qq), (0, .ref (b + a1)), (1, .int a2)]) hx hb dL_passes_10 rfl hl (by decide) rfl (fun ls hl => ?_)
      refine lv_ldc (v := (-900000002)) hx hb hown (hB _ ce_w557) dL_passes_11 ?_
      cases h
      exact ce_iretW hx hb hr hlocks hA hS (Nat.le_of_ble_eq_true rfl) (Nat.le_of_ble_eq_true rfl) dL_passes_13
    have h := ce_ie d7 h
    cases h
def f_L_one (M : ce_M) (a1 : Nat) (a2 : Int32) (a3 : Int32) : Option Int32 :=
  ce_b2 (f_X7_subscriber a1 M a2 a3) (fun (x1 : Int32) (t2 : Nat) =>
  if t2 = 0 then
    some x1
  else
    if t2 = 1 then
      some (-900000003)
    else
    if t2 = 2 then
      some (-900000001)
    else
    none)
set_option maxRecDepth 100000 in
set_option maxHeartbeats 4000000 in
theorem c_L_one (l : Launch) (hfl : l.stackTraces = false) (X : ce_X) (G : ce_G) (b : Nat) {a1 : Nat} {a2 : Int32} {a3 : Int32} {M : ce_M} (ha1 : ce_kd a1 = 7) {r : Int32} (h : f_L_one M a1 a2 a3 = some r) : ce_CtW l yL_one cL_one 4 (some .int) [(0, 6, 7, 15), (0, 6, 11, 18)] 8 123 2 12 X G b [.ref (b + a1), .int a2, .int a3] M (some (.int r)) M := by
  refine ce_ofWW (own := RL) (by decide) rfl (Nat.le_of_ble_eq_true rfl) (fun p e s m below meth c ls hx hb hr hlocks hml hown hB hF hA hl hS htab => ?_)
  have hK := hF.1
  have hl : lv_has ls 4 [(0, .ref (b + a1)), (1, .int a2), (2, .int a3)] := hl
  unfold f_L_one at h
  refine lv_aload_n hx hb dL_one_0 rfl (lv_at hl 0 rfl) ?_
  refine lv_iload_n hx hb dL_one_1 rfl (lv_at hl 1 rfl) ?_
  refine lv_iload_n hx hb dL_one_2 rfl (lv_at hl 2 rfl) ?_
  obtain ⟨x1, t2, g3, h⟩ := ce_b2_e h
  refine ce_callVXi (As := [.int a2, .int a3]) (rest := []) hx hb hml hown hB (c_X7_subscriber l hfl X G b ha1 g3) ce_v_X7_subscriber ce_w622 ⟨Nat.le_of_ble_eq_true rfl, Nat.le_of_ble_eq_true rfl⟩ hF hA hS (ce_rc_7 hK hA ha1) hl rfl rfl (Nat.le_of_ble_eq_true rfl) dL_one_3 ⟨(Nat.le_of_ble_eq_true rfl), (Nat.le_of_ble_eq_true rfl)⟩ (fun c4 H locs hA hS => ?_) (fun c4 ltc4 ce qq H locs hA hS hce hcv hcl => ?_)
  · have h := ce_it c4 h
    cases h
    exact ce_iretW hx hb hr hlocks hA hS (Nat.le_of_ble_eq_true rfl) (Nat.le_of_ble_eq_true rfl) dL_one_6
  · have h := ce_ie c4 h
    by_cases d5 : t2 = 1
    · have h := ce_it d5 h
      rw [d5] at hcl
      refine vx_catch (own := RL) (name := ce_IO) (E := ce_E 1) hown [] ⟨0, 6, 7, 15⟩ [⟨0, 6, 11, 18⟩] (htab.trans rfl) (fun _ h9 => nomatch h9) (by decide) (by decide) (hB _ ce_lk15) (va_Nw.use rfl hF.2.2.2.2.2.1.1) hce hcv hcl ?_
      refine lv_astore_n (lv' := [(3, .ref qq), (0, .ref (b + a1)), (1, .int a2), (2, .int a3)]) hx hb dL_one_7 rfl hl (by decide) rfl (fun ls hl => ?_)
      refine lv_ldc (v := (-900000003)) hx hb hown (hB _ ce_w555) dL_one_8 ?_
      cases h
      exact ce_iretW hx hb hr hlocks hA hS (Nat.le_of_ble_eq_true rfl) (Nat.le_of_ble_eq_true rfl) dL_one_10
    have h := ce_ie d5 h
    by_cases d6 : t2 = 2
    · have h := ce_it d6 h
      rw [d6] at hcl
      refine vx_catch (own := RL) (name := ce_IA) (E := ce_E 2) hown [⟨0, 6, 7, 15⟩] ⟨0, 6, 11, 18⟩ [] (htab.trans rfl) (fun z hz => by simp only [List.mem_cons, List.not_mem_nil, or_false] at hz; rcases hz with rfl; exact Or.inr (ce_passed hB (by decide) ce_lk15 hF.2.2.2.2.2.2.2.1)) (by decide) (by decide) (hB _ ce_lk18) (va_Nw.use rfl hF.2.2.2.2.2.1.2.1) hce hcv hcl ?_
      refine lv_astore_n (lv' := [(3, .ref qq), (0, .ref (b + a1)), (1, .int a2), (2, .int a3)]) hx hb dL_one_11 rfl hl (by decide) rfl (fun ls hl => ?_)
      refine lv_ldc (v := (-900000001)) hx hb hown (hB _ ce_w556) dL_one_12 ?_
      cases h
      exact ce_iretW hx hb hr hlocks hA hS (Nat.le_of_ble_eq_true rfl) (Nat.le_of_ble_eq_true rfl) dL_one_14
    have h := ce_ie d6 h
    cases h
def f_L_stay (M : ce_M) (a1 : Nat) (a2 : Int32) (a3 : Int32) (a4 : Int32) : Option Int32 :=
  ce_b2 (f_X7_stay a1 M a2 a3 a4) (fun (x1 : Int32) (t2 : Nat) =>
  if t2 = 0 then
    some x1
  else
    if t2 = 1 then
      some (-900000003)
    else
    if t2 = 2 then
      some (-900000001)
    else
    none)
set_option maxRecDepth 100000 in
set_option maxHeartbeats 4000000 in
theorem c_L_stay (l : Launch) (hfl : l.stackTraces = false) (X : ce_X) (G : ce_G) (b : Nat) {a1 : Nat} {a2 : Int32} {a3 : Int32} {a4 : Int32} {M : ce_M} (ha1 : ce_kd a1 = 7) {r : Int32} (h : f_L_stay M a1 a2 a3 a4 = some r) : ce_CtW l yL_stay cL_stay 5 (some .int) [(0, 7, 8, 15), (0, 7, 13, 18)] 8 124 2 12 X G b [.ref (b + a1), .int a2, .int a3, .int a4] M (some (.int r)) M := by
  refine ce_ofWW (own := RL) (by decide) rfl (Nat.le_of_ble_eq_true rfl) (fun p e s m below meth c ls hx hb hr hlocks hml hown hB hF hA hl hS htab => ?_)
  have hK := hF.1
  have hl : lv_has ls 5 [(0, .ref (b + a1)), (1, .int a2), (2, .int a3), (3, .int a4)] := hl
  unfold f_L_stay at h
  refine lv_aload_n hx hb dL_stay_0 rfl (lv_at hl 0 rfl) ?_
  refine lv_iload_n hx hb dL_stay_1 rfl (lv_at hl 1 rfl) ?_
  refine lv_iload_n hx hb dL_stay_2 rfl (lv_at hl 2 rfl) ?_
  refine lv_iload_n hx hb dL_stay_3 rfl (lv_at hl 3 rfl) ?_
  obtain ⟨x1, t2, g3, h⟩ := ce_b2_e h
  refine ce_callVXi (As := [.int a2, .int a3, .int a4]) (rest := []) hx hb hml hown hB (c_X7_stay l hfl X G b ha1 g3) ce_v_X7_stay ce_w631 ⟨Nat.le_of_ble_eq_true rfl, Nat.le_of_ble_eq_true rfl⟩ hF hA hS (ce_rc_7 hK hA ha1) hl rfl rfl (Nat.le_of_ble_eq_true rfl) dL_stay_4 ⟨(Nat.le_of_ble_eq_true rfl), (Nat.le_of_ble_eq_true rfl)⟩ (fun c4 H locs hA hS => ?_) (fun c4 ltc4 ce qq H locs hA hS hce hcv hcl => ?_)
  · have h := ce_it c4 h
    cases h
    exact ce_iretW hx hb hr hlocks hA hS (Nat.le_of_ble_eq_true rfl) (Nat.le_of_ble_eq_true rfl) dL_stay_7
  · have h := ce_ie c4 h
    by_cases d5 : t2 = 1
    · have h := ce_it d5 h
      rw [d5] at hcl
      refine vx_catch (own := RL) (name := ce_IO) (E := ce_E 1) hown [] ⟨0, 7, 8, 15⟩ [⟨0, 7, 13, 18⟩] (htab.trans rfl) (fun _ h9 => nomatch h9) (by decide) (by decide) (hB _ ce_lk15) (va_Nw.use rfl hF.2.2.2.2.2.1.1) hce hcv hcl ?_
      refine lv_astore (lv' := [(4, .ref qq), (0, .ref (b + a1)), (1, .int a2), (2, .int a3), (3, .int a4)]) hx hb dL_stay_8 hl (by decide) rfl (fun ls hl => ?_)
      refine lv_ldc (v := (-900000003)) hx hb hown (hB _ ce_w555) dL_stay_10 ?_
      cases h
      exact ce_iretW hx hb hr hlocks hA hS (Nat.le_of_ble_eq_true rfl) (Nat.le_of_ble_eq_true rfl) dL_stay_12
    have h := ce_ie d5 h
    by_cases d6 : t2 = 2
    · have h := ce_it d6 h
      rw [d6] at hcl
      refine vx_catch (own := RL) (name := ce_IA) (E := ce_E 2) hown [⟨0, 7, 8, 15⟩] ⟨0, 7, 13, 18⟩ [] (htab.trans rfl) (fun z hz => by simp only [List.mem_cons, List.not_mem_nil, or_false] at hz; rcases hz with rfl; exact Or.inr (ce_passed hB (by decide) ce_lk15 hF.2.2.2.2.2.2.2.1)) (by decide) (by decide) (hB _ ce_lk18) (va_Nw.use rfl hF.2.2.2.2.2.1.2.1) hce hcv hcl ?_
      refine lv_astore (lv' := [(4, .ref qq), (0, .ref (b + a1)), (1, .int a2), (2, .int a3), (3, .int a4)]) hx hb dL_stay_13 hl (by decide) rfl (fun ls hl => ?_)
      refine lv_ldc (v := (-900000001)) hx hb hown (hB _ ce_w556) dL_stay_15 ?_
      cases h
      exact ce_iretW hx hb hr hlocks hA hS (Nat.le_of_ble_eq_true rfl) (Nat.le_of_ble_eq_true rfl) dL_stay_17
    have h := ce_ie d6 h
    cases h
def f_L_box (M : ce_M) (a1 : Nat) (a2 : Int32) (a3 : Int32) : Option Int32 :=
  ce_b2 (f_X7_waiting a1 M a2 a3) (fun (x1 : Int32) (t2 : Nat) =>
  if t2 = 0 then
    some x1
  else
    if t2 = 1 then
      some (-900000003)
    else
    if t2 = 2 then
      some (-900000001)
    else
    none)
set_option maxRecDepth 100000 in
set_option maxHeartbeats 4000000 in
theorem c_L_box (l : Launch) (hfl : l.stackTraces = false) (X : ce_X) (G : ce_G) (b : Nat) {a1 : Nat} {a2 : Int32} {a3 : Int32} {M : ce_M} (ha1 : ce_kd a1 = 7) {r : Int32} (h : f_L_box M a1 a2 a3 = some r) : ce_CtW l yL_box cL_box 4 (some .int) [(0, 6, 7, 15), (0, 6, 11, 18)] 8 123 2 12 X G b [.ref (b + a1), .int a2, .int a3] M (some (.int r)) M := by
  refine ce_ofWW (own := RL) (by decide) rfl (Nat.le_of_ble_eq_true rfl) (fun p e s m below meth c ls hx hb hr hlocks hml hown hB hF hA hl hS htab => ?_)
  have hK := hF.1
  have hl : lv_has ls 4 [(0, .ref (b + a1)), (1, .int a2), (2, .int a3)] := hl
  unfold f_L_box at h
  refine lv_aload_n hx hb dL_box_0 rfl (lv_at hl 0 rfl) ?_
  refine lv_iload_n hx hb dL_box_1 rfl (lv_at hl 1 rfl) ?_
  refine lv_iload_n hx hb dL_box_2 rfl (lv_at hl 2 rfl) ?_
  obtain ⟨x1, t2, g3, h⟩ := ce_b2_e h
  refine ce_callVXi (As := [.int a2, .int a3]) (rest := []) hx hb hml hown hB (c_X7_waiting l hfl X G b ha1 g3) ce_v_X7_waiting ce_w642 ⟨Nat.le_of_ble_eq_true rfl, Nat.le_of_ble_eq_true rfl⟩ hF hA hS (ce_rc_7 hK hA ha1) hl rfl rfl (Nat.le_of_ble_eq_true rfl) dL_box_3 ⟨(Nat.le_of_ble_eq_true rfl), (Nat.le_of_ble_eq_true rfl)⟩ (fun c4 H locs hA hS => ?_) (fun c4 ltc4 ce qq H locs hA hS hce hcv hcl => ?_)
  · have h := ce_it c4 h
    cases h
    exact ce_iretW hx hb hr hlocks hA hS (Nat.le_of_ble_eq_true rfl) (Nat.le_of_ble_eq_true rfl) dL_box_6
  · have h := ce_ie c4 h
    by_cases d5 : t2 = 1
    · have h := ce_it d5 h
      rw [d5] at hcl
      refine vx_catch (own := RL) (name := ce_IO) (E := ce_E 1) hown [] ⟨0, 6, 7, 15⟩ [⟨0, 6, 11, 18⟩] (htab.trans rfl) (fun _ h9 => nomatch h9) (by decide) (by decide) (hB _ ce_lk15) (va_Nw.use rfl hF.2.2.2.2.2.1.1) hce hcv hcl ?_
      refine lv_astore_n (lv' := [(3, .ref qq), (0, .ref (b + a1)), (1, .int a2), (2, .int a3)]) hx hb dL_box_7 rfl hl (by decide) rfl (fun ls hl => ?_)
      refine lv_ldc (v := (-900000003)) hx hb hown (hB _ ce_w555) dL_box_8 ?_
      cases h
      exact ce_iretW hx hb hr hlocks hA hS (Nat.le_of_ble_eq_true rfl) (Nat.le_of_ble_eq_true rfl) dL_box_10
    have h := ce_ie d5 h
    by_cases d6 : t2 = 2
    · have h := ce_it d6 h
      rw [d6] at hcl
      refine vx_catch (own := RL) (name := ce_IA) (E := ce_E 2) hown [⟨0, 6, 7, 15⟩] ⟨0, 6, 11, 18⟩ [] (htab.trans rfl) (fun z hz => by simp only [List.mem_cons, List.not_mem_nil, or_false] at hz; rcases hz with rfl; exact Or.inr (ce_passed hB (by decide) ce_lk15 hF.2.2.2.2.2.2.2.1)) (by decide) (by decide) (hB _ ce_lk18) (va_Nw.use rfl hF.2.2.2.2.2.1.2.1) hce hcv hcl ?_
      refine lv_astore_n (lv' := [(3, .ref qq), (0, .ref (b + a1)), (1, .int a2), (2, .int a3)]) hx hb dL_box_11 rfl hl (by decide) rfl (fun ls hl => ?_)
      refine lv_ldc (v := (-900000001)) hx hb hown (hB _ ce_w556) dL_box_12 ?_
      cases h
      exact ce_iretW hx hb hr hlocks hA hS (Nat.le_of_ble_eq_true rfl) (Nat.le_of_ble_eq_true rfl) dL_box_14
    have h := ce_ie d6 h
    cases h
def f_L_event (M : ce_M) (a1 : Nat) (a2 : Int32) (a3 : Int32) : Option Int32 :=
  ce_b2 (f_X7_event a1 M a2 a3) (fun (x1 : Int32) (t2 : Nat) =>
  if t2 = 0 then
    some x1
  else
    if t2 = 1 then
      some (-900000003)
    else
    if t2 = 2 then
      some (-900000001)
    else
    none)
set_option maxRecDepth 100000 in
set_option maxHeartbeats 4000000 in
theorem c_L_event (l : Launch) (hfl : l.stackTraces = false) (X : ce_X) (G : ce_G) (b : Nat) {a1 : Nat} {a2 : Int32} {a3 : Int32} {M : ce_M} (ha1 : ce_kd a1 = 7) {r : Int32} (h : f_L_event M a1 a2 a3 = some r) : ce_CtW l yL_event cL_event 4 (some .int) [(0, 6, 7, 15), (0, 6, 11, 18)] 8 123 2 12 X G b [.ref (b + a1), .int a2, .int a3] M (some (.int r)) M := by
  refine ce_ofWW (own := RL) (by decide) rfl (Nat.le_of_ble_eq_true rfl) (fun p e s m below meth c ls hx hb hr hlocks hml hown hB hF hA hl hS htab => ?_)
  have hK := hF.1
  have hl : lv_has ls 4 [(0, .ref (b + a1)), (1, .int a2), (2, .int a3)] := hl
  unfold f_L_event at h
  refine lv_aload_n hx hb dL_event_0 rfl (lv_at hl 0 rfl) ?_
  refine lv_iload_n hx hb dL_event_1 rfl (lv_at hl 1 rfl) ?_
  refine lv_iload_n hx hb dL_event_2 rfl (lv_at hl 2 rfl) ?_
  obtain ⟨x1, t2, g3, h⟩ := ce_b2_e h
  refine ce_callVXi (As := [.int a2, .int a3]) (rest := []) hx hb hml hown hB (c_X7_event l hfl X G b ha1 g3) ce_v_X7_event ce_w650 ⟨Nat.le_of_ble_eq_true rfl, Nat.le_of_ble_eq_true rfl⟩ hF hA hS (ce_rc_7 hK hA ha1) hl rfl rfl (Nat.le_of_ble_eq_true rfl) dL_event_3 ⟨(Nat.le_of_ble_eq_true rfl), (Nat.le_of_ble_eq_true rfl)⟩ (fun c4 H locs hA hS => ?_) (fun c4 ltc4 ce qq H locs hA hS hce hcv hcl => ?_)
  · have h := ce_it c4 h
    cases h
    exact ce_iretW hx hb hr hlocks hA hS (Nat.le_of_ble_eq_true rfl) (Nat.le_of_ble_eq_true rfl) dL_event_6
  · have h := ce_ie c4 h
    by_cases d5 : t2 = 1
    · have h := ce_it d5 h
      rw [d5] at hcl
      refine vx_catch (own := RL) (name := ce_IO) (E := ce_E 1) hown [] ⟨0, 6, 7, 15⟩ [⟨0, 6, 11, 18⟩] (htab.trans rfl) (fun _ h9 => nomatch h9) (by decide) (by decide) (hB _ ce_lk15) (va_Nw.use rfl hF.2.2.2.2.2.1.1) hce hcv hcl ?_
      refine lv_astore_n (lv' := [(3, .ref qq), (0, .ref (b + a1)), (1, .int a2), (2, .int a3)]) hx hb dL_event_7 rfl hl (by decide) rfl (fun ls hl => ?_)
      refine lv_ldc (v := (-900000003)) hx hb hown (hB _ ce_w555) dL_event_8 ?_
      cases h
      exact ce_iretW hx hb hr hlocks hA hS (Nat.le_of_ble_eq_true rfl) (Nat.le_of_ble_eq_true rfl) dL_event_10
    have h := ce_ie d5 h
    by_cases d6 : t2 = 2
    · have h := ce_it d6 h
      rw [d6] at hcl
      refine vx_catch (own := RL) (name := ce_IA) (E := ce_E 2) hown [⟨0, 6, 7, 15⟩] ⟨0, 6, 11, 18⟩ [] (htab.trans rfl) (fun z hz => by simp only [List.mem_cons, List.not_mem_nil, or_false] at hz; rcases hz with rfl; exact Or.inr (ce_passed hB (by decide) ce_lk15 hF.2.2.2.2.2.2.2.1)) (by decide) (by decide) (hB _ ce_lk18) (va_Nw.use rfl hF.2.2.2.2.2.1.2.1) hce hcv hcl ?_
      refine lv_astore_n (lv' := [(3, .ref qq), (0, .ref (b + a1)), (1, .int a2), (2, .int a3)]) hx hb dL_event_11 rfl hl (by decide) rfl (fun ls hl => ?_)
      refine lv_ldc (v := (-900000001)) hx hb hown (hB _ ce_w556) dL_event_12 ?_
      cases h
      exact ce_iretW hx hb hr hlocks hA hS (Nat.le_of_ble_eq_true rfl) (Nat.le_of_ble_eq_true rfl) dL_event_14
    have h := ce_ie d6 h
    cases h
def f_L_leaf (M : ce_M) (a1 : Nat) (a2 : Int32) (a3 : Int32) : Option Int32 :=
  ce_b2 (f_X7_leaf a1 M a2 a3) (fun (x1 : Int32) (t2 : Nat) =>
  if t2 = 0 then
    some x1
  else
    if t2 = 1 then
      some (-900000003)
    else
    if t2 = 2 then
      some (-900000001)
    else
    none)
set_option maxRecDepth 100000 in
set_option maxHeartbeats 4000000 in
theorem c_L_leaf (l : Launch) (hfl : l.stackTraces = false) (X : ce_X) (G : ce_G) (b : Nat) {a1 : Nat} {a2 : Int32} {a3 : Int32} {M : ce_M} (ha1 : ce_kd a1 = 7) {r : Int32} (h : f_L_leaf M a1 a2 a3 = some r) : ce_CtW l yL_leaf cL_leaf 4 (some .int) [(0, 6, 7, 15), (0, 6, 11, 18)] 8 123 2 12 X G b [.ref (b + a1), .int a2, .int a3] M (some (.int r)) M := by
  refine ce_ofWW (own := RL) (by decide) rfl (Nat.le_of_ble_eq_true rfl) (fun p e s m below meth c ls hx hb hr hlocks hml hown hB hF hA hl hS htab => ?_)
  have hK := hF.1
  have hl : lv_has ls 4 [(0, .ref (b + a1)), (1, .int a2), (2, .int a3)] := hl
  unfold f_L_leaf at h
  refine lv_aload_n hx hb dL_leaf_0 rfl (lv_at hl 0 rfl) ?_
  refine lv_iload_n hx hb dL_leaf_1 rfl (lv_at hl 1 rfl) ?_
  refine lv_iload_n hx hb dL_leaf_2 rfl (lv_at hl 2 rfl) ?_
  obtain ⟨x1, t2, g3, h⟩ := ce_b2_e h
  refine ce_callVXi (As := [.int a2, .int a3]) (rest := []) hx hb hml hown hB (c_X7_leaf l hfl X G b ha1 g3) ce_v_X7_leaf ce_w673 ⟨Nat.le_of_ble_eq_true rfl, Nat.le_of_ble_eq_true rfl⟩ hF hA hS (ce_rc_7 hK hA ha1) hl rfl rfl (Nat.le_of_ble_eq_true rfl) dL_leaf_3 ⟨(Nat.le_of_ble_eq_true rfl), (Nat.le_of_ble_eq_true rfl)⟩ (fun c4 H locs hA hS => ?_) (fun c4 ltc4 ce qq H locs hA hS hce hcv hcl => ?_)
  · have h := ce_it c4 h
    cases h
    exact ce_iretW hx hb hr hlocks hA hS (Nat.le_of_ble_eq_true rfl) (Nat.le_of_ble_eq_true rfl) dL_leaf_6
  · have h := ce_ie c4 h
    by_cases d5 : t2 = 1
    · have h := ce_it d5 h
      rw [d5] at hcl
      refine vx_catch (own := RL) (name := ce_IO) (E := ce_E 1) hown [] ⟨0, 6, 7, 15⟩ [⟨0, 6, 11, 18⟩] (htab.trans rfl) (fun _ h9 => nomatch h9) (by decide) (by decide) (hB _ ce_lk15) (va_Nw.use rfl hF.2.2.2.2.2.1.1) hce hcv hcl ?_
      refine lv_astore_n (lv' := [(3, .ref qq), (0, .ref (b + a1)), (1, .int a2), (2, .int a3)]) hx hb dL_leaf_7 rfl hl (by decide) rfl (fun ls hl => ?_)
      refine lv_ldc (v := (-900000003)) hx hb hown (hB _ ce_w555) dL_leaf_8 ?_
      cases h
      exact ce_iretW hx hb hr hlocks hA hS (Nat.le_of_ble_eq_true rfl) (Nat.le_of_ble_eq_true rfl) dL_leaf_10
    have h := ce_ie d5 h
    by_cases d6 : t2 = 2
    · have h := ce_it d6 h
      rw [d6] at hcl
      refine vx_catch (own := RL) (name := ce_IA) (E := ce_E 2) hown [⟨0, 6, 7, 15⟩] ⟨0, 6, 11, 18⟩ [] (htab.trans rfl) (fun z hz => by simp only [List.mem_cons, List.not_mem_nil, or_false] at hz; rcases hz with rfl; exact Or.inr (ce_passed hB (by decide) ce_lk15 hF.2.2.2.2.2.2.2.1)) (by decide) (by decide) (hB _ ce_lk18) (va_Nw.use rfl hF.2.2.2.2.2.1.2.1) hce hcv hcl ?_
      refine lv_astore_n (lv' := [(3, .ref qq), (0, .ref (b + a1)), (1, .int a2), (2, .int a3)]) hx hb dL_leaf_11 rfl hl (by decide) rfl (fun ls hl => ?_)
      refine lv_ldc (v := (-900000001)) hx hb hown (hB _ ce_w556) dL_leaf_12 ?_
      cases h
      exact ce_iretW hx hb hr hlocks hA hS (Nat.le_of_ble_eq_true rfl) (Nat.le_of_ble_eq_true rfl) dL_leaf_14
    have h := ce_ie d6 h
    cases h
def f_L_whole (M : ce_M) (a1 : Nat) (a2 : Int32) : Option Int32 :=
  ce_b2 (f_X7_whole a1 M a2) (fun (x1 : Int32) (t2 : Nat) =>
  if t2 = 0 then
    some x1
  else
    if t2 = 2 then
      some (-900000001)
    else
    none)
set_option maxRecDepth 100000 in
set_option maxHeartbeats 4000000 in
theorem c_L_whole (l : Launch) (hfl : l.stackTraces = false) (X : ce_X) (G : ce_G) (b : Nat) {a1 : Nat} {a2 : Int32} {M : ce_M} (ha1 : ce_kd a1 = 7) {r : Int32} (h : f_L_whole M a1 a2 = some r) : ce_CtW l yL_whole cL_whole 3 (some .int) [(0, 5, 6, 18)] 8 122 1 6 X G b [.ref (b + a1), .int a2] M (some (.int r)) M := by
  refine ce_ofWW (own := RL) (by decide) rfl (Nat.le_of_ble_eq_true rfl) (fun p e s m below meth c ls hx hb hr hlocks hml hown hB hF hA hl hS htab => ?_)
  have hK := hF.1
  have hl : lv_has ls 3 [(0, .ref (b + a1)), (1, .int a2)] := hl
  unfold f_L_whole at h
  refine lv_aload_n hx hb dL_whole_0 rfl (lv_at hl 0 rfl) ?_
  refine lv_iload_n hx hb dL_whole_1 rfl (lv_at hl 1 rfl) ?_
  obtain ⟨x1, t2, g3, h⟩ := ce_b2_e h
  refine ce_callVXi (As := [.int a2]) (rest := []) hx hb hml hown hB (c_X7_whole l hfl X G b ha1 g3) ce_v_X7_whole ce_w582 ⟨Nat.le_of_ble_eq_true rfl, Nat.le_of_ble_eq_true rfl⟩ hF hA hS (ce_rc_7 hK hA ha1) hl rfl rfl (Nat.le_of_ble_eq_true rfl) dL_whole_2 ⟨(Nat.le_of_ble_eq_true rfl), (Nat.le_of_ble_eq_true rfl)⟩ (fun c4 H locs hA hS => ?_) (fun c4 ltc4 ce qq H locs hA hS hce hcv hcl => ?_)
  · have h := ce_it c4 h
    cases h
    exact ce_iretW hx hb hr hlocks hA hS (Nat.le_of_ble_eq_true rfl) (Nat.le_of_ble_eq_true rfl) dL_whole_5
  · have h := ce_ie c4 h
    by_cases d5 : t2 = 2
    · have h := ce_it d5 h
      rw [d5] at hcl
      refine vx_catch (own := RL) (name := ce_IA) (E := ce_E 2) hown [] ⟨0, 5, 6, 18⟩ [] (htab.trans rfl) (fun _ h9 => nomatch h9) (by decide) (by decide) (hB _ ce_lk18) (va_Nw.use rfl hF.2.2.2.2.2.1.2.1) hce hcv hcl ?_
      refine lv_astore_n (lv' := [(2, .ref qq), (0, .ref (b + a1)), (1, .int a2)]) hx hb dL_whole_6 rfl hl (by decide) rfl (fun ls hl => ?_)
      refine lv_ldc (v := (-900000001)) hx hb hown (hB _ ce_w556) dL_whole_7 ?_
      cases h
      exact ce_iretW hx hb hr hlocks hA hS (Nat.le_of_ble_eq_true rfl) (Nat.le_of_ble_eq_true rfl) dL_whole_9
    have h := ce_ie d5 h
    cases h
def f_L_would (M : ce_M) (a1 : Nat) (a2 : Int32) (a3 : Int32) (a4 : Int32) : Option Int32 :=
  ce_b2 (f_X7_wouldReach a1 M a2 a3 a4) (fun (x1 : Int32) (t2 : Nat) =>
  if t2 = 0 then
    some x1
  else
    if t2 = 1 then
      some (-900000003)
    else
    if t2 = 2 then
      some (-900000001)
    else
    none)
set_option maxRecDepth 100000 in
set_option maxHeartbeats 4000000 in
theorem c_L_would (l : Launch) (hfl : l.stackTraces = false) (X : ce_X) (G : ce_G) (b : Nat) {a1 : Nat} {a2 : Int32} {a3 : Int32} {a4 : Int32} {M : ce_M} (ha1 : ce_kd a1 = 7) {r : Int32} (h : f_L_would M a1 a2 a3 a4 = some r) : ce_CtW l yL_would cL_would 5 (some .int) [(0, 7, 8, 15), (0, 7, 13, 18)] 8 124 2 12 X G b [.ref (b + a1), .int a2, .int a3, .int a4] M (some (.int r)) M := by
  refine ce_ofWW (own := RL) (by decide) rfl (Nat.le_of_ble_eq_true rfl) (fun p e s m below meth c ls hx hb hr hlocks hml hown hB hF hA hl hS htab => ?_)
  have hK := hF.1
  have hl : lv_has ls 5 [(0, .ref (b + a1)), (1, .int a2), (2, .int a3), (3, .int a4)] := hl
  unfold f_L_would at h
  refine lv_aload_n hx hb dL_would_0 rfl (lv_at hl 0 rfl) ?_
  refine lv_iload_n hx hb dL_would_1 rfl (lv_at hl 1 rfl) ?_
  refine lv_iload_n hx hb dL_would_2 rfl (lv_at hl 2 rfl) ?_
  refine lv_iload_n hx hb dL_would_3 rfl (lv_at hl 3 rfl) ?_
  obtain ⟨x1, t2, g3, h⟩ := ce_b2_e h
  refine ce_callVXi (As := [.int a2, .int a3, .int a4]) (rest := []) hx hb hml hown hB (c_X7_wouldReach l hfl X G b ha1 g3) ce_v_X7_wouldReach ce_w720 ⟨Nat.le_of_ble_eq_true rfl, Nat.le_of_ble_eq_true rfl⟩ hF hA hS (ce_rc_7 hK hA ha1) hl rfl rfl (Nat.le_of_ble_eq_true rfl) dL_would_4 ⟨(Nat.le_of_ble_eq_true rfl), (Nat.le_of_ble_eq_true rfl)⟩ (fun c4 H locs hA hS => ?_) (fun c4 ltc4 ce qq H locs hA hS hce hcv hcl => ?_)
  · have h := ce_it c4 h
    cases h
    exact ce_iretW hx hb hr hlocks hA hS (Nat.le_of_ble_eq_true rfl) (Nat.le_of_ble_eq_true rfl) dL_would_7
  · have h := ce_ie c4 h
    by_cases d5 : t2 = 1
    · have h := ce_it d5 h
      rw [d5] at hcl
      refine vx_catch (own := RL) (name := ce_IO) (E := ce_E 1) hown [] ⟨0, 7, 8, 15⟩ [⟨0, 7, 13, 18⟩] (htab.trans rfl) (fun _ h9 => nomatch h9) (by decide) (by decide) (hB _ ce_lk15) (va_Nw.use rfl hF.2.2.2.2.2.1.1) hce hcv hcl ?_
      refine lv_astore (lv' := [(4, .ref qq), (0, .ref (b + a1)), (1, .int a2), (2, .int a3), (3, .int a4)]) hx hb dL_would_8 hl (by decide) rfl (fun ls hl => ?_)
      refine lv_ldc (v := (-900000003)) hx hb hown (hB _ ce_w555) dL_would_10 ?_
      cases h
      exact ce_iretW hx hb hr hlocks hA hS (Nat.le_of_ble_eq_true rfl) (Nat.le_of_ble_eq_true rfl) dL_would_12
    have h := ce_ie d5 h
    by_cases d6 : t2 = 2
    · have h := ce_it d6 h
      rw [d6] at hcl
      refine vx_catch (own := RL) (name := ce_IA) (E := ce_E 2) hown [⟨0, 7, 8, 15⟩] ⟨0, 7, 13, 18⟩ [] (htab.trans rfl) (fun z hz => by simp only [List.mem_cons, List.not_mem_nil, or_false] at hz; rcases hz with rfl; exact Or.inr (ce_passed hB (by decide) ce_lk15 hF.2.2.2.2.2.2.2.1)) (by decide) (by decide) (hB _ ce_lk18) (va_Nw.use rfl hF.2.2.2.2.2.1.2.1) hce hcv hcl ?_
      refine lv_astore (lv' := [(4, .ref qq), (0, .ref (b + a1)), (1, .int a2), (2, .int a3), (3, .int a4)]) hx hb dL_would_13 hl (by decide) rfl (fun ls hl => ?_)
      refine lv_ldc (v := (-900000001)) hx hb hown (hB _ ce_w556) dL_would_15 ?_
      cases h
      exact ce_iretW hx hb hr hlocks hA hS (Nat.le_of_ble_eq_true rfl) (Nat.le_of_ble_eq_true rfl) dL_would_17
    have h := ce_ie d6 h
    cases h
def f_L_why (M : ce_M) (a1 : Nat) (a2 : Int32) (a3 : Int32) (a4 : Int32) : Option Int32 :=
  ce_b2 (f_X7_reason a1 M a2 a3 a4) (fun (x1 : Int32) (t2 : Nat) =>
  if t2 = 0 then
    some x1
  else
    if t2 = 1 then
      some (-900000003)
    else
    if t2 = 2 then
      some (-900000001)
    else
    none)
set_option maxRecDepth 100000 in
set_option maxHeartbeats 4000000 in
theorem c_L_why (l : Launch) (hfl : l.stackTraces = false) (X : ce_X) (G : ce_G) (b : Nat) {a1 : Nat} {a2 : Int32} {a3 : Int32} {a4 : Int32} {M : ce_M} (ha1 : ce_kd a1 = 7) {r : Int32} (h : f_L_why M a1 a2 a3 a4 = some r) : ce_CtW l yL_why cL_why 5 (some .int) [(0, 7, 8, 15), (0, 7, 13, 18)] 8 124 2 12 X G b [.ref (b + a1), .int a2, .int a3, .int a4] M (some (.int r)) M := by
  refine ce_ofWW (own := RL) (by decide) rfl (Nat.le_of_ble_eq_true rfl) (fun p e s m below meth c ls hx hb hr hlocks hml hown hB hF hA hl hS htab => ?_)
  have hK := hF.1
  have hl : lv_has ls 5 [(0, .ref (b + a1)), (1, .int a2), (2, .int a3), (3, .int a4)] := hl
  unfold f_L_why at h
  refine lv_aload_n hx hb dL_why_0 rfl (lv_at hl 0 rfl) ?_
  refine lv_iload_n hx hb dL_why_1 rfl (lv_at hl 1 rfl) ?_
  refine lv_iload_n hx hb dL_why_2 rfl (lv_at hl 2 rfl) ?_
  refine lv_iload_n hx hb dL_why_3 rfl (lv_at hl 3 rfl) ?_
  obtain ⟨x1, t2, g3, h⟩ := ce_b2_e h
  refine ce_callVXi (As := [.int a2, .int a3, .int a4]) (rest := []) hx hb hml hown hB (c_X7_reason l hfl X G b ha1 g3) ce_v_X7_reason ce_w729 ⟨Nat.le_of_ble_eq_true rfl, Nat.le_of_ble_eq_true rfl⟩ hF hA hS (ce_rc_7 hK hA ha1) hl rfl rfl (Nat.le_of_ble_eq_true rfl) dL_why_4 ⟨(Nat.le_of_ble_eq_true rfl), (Nat.le_of_ble_eq_true rfl)⟩ (fun c4 H locs hA hS => ?_) (fun c4 ltc4 ce qq H locs hA hS hce hcv hcl => ?_)
  · have h := ce_it c4 h
    cases h
    exact ce_iretW hx hb hr hlocks hA hS (Nat.le_of_ble_eq_true rfl) (Nat.le_of_ble_eq_true rfl) dL_why_7
  · have h := ce_ie c4 h
    by_cases d5 : t2 = 1
    · have h := ce_it d5 h
      rw [d5] at hcl
      refine vx_catch (own := RL) (name := ce_IO) (E := ce_E 1) hown [] ⟨0, 7, 8, 15⟩ [⟨0, 7, 13, 18⟩] (htab.trans rfl) (fun _ h9 => nomatch h9) (by decide) (by decide) (hB _ ce_lk15) (va_Nw.use rfl hF.2.2.2.2.2.1.1) hce hcv hcl ?_
      refine lv_astore (lv' := [(4, .ref qq), (0, .ref (b + a1)), (1, .int a2), (2, .int a3), (3, .int a4)]) hx hb dL_why_8 hl (by decide) rfl (fun ls hl => ?_)
      refine lv_ldc (v := (-900000003)) hx hb hown (hB _ ce_w555) dL_why_10 ?_
      cases h
      exact ce_iretW hx hb hr hlocks hA hS (Nat.le_of_ble_eq_true rfl) (Nat.le_of_ble_eq_true rfl) dL_why_12
    have h := ce_ie d5 h
    by_cases d6 : t2 = 2
    · have h := ce_it d6 h
      rw [d6] at hcl
      refine vx_catch (own := RL) (name := ce_IA) (E := ce_E 2) hown [⟨0, 7, 8, 15⟩] ⟨0, 7, 13, 18⟩ [] (htab.trans rfl) (fun z hz => by simp only [List.mem_cons, List.not_mem_nil, or_false] at hz; rcases hz with rfl; exact Or.inr (ce_passed hB (by decide) ce_lk15 hF.2.2.2.2.2.2.2.1)) (by decide) (by decide) (hB _ ce_lk18) (va_Nw.use rfl hF.2.2.2.2.2.1.2.1) hce hcv hcl ?_
      refine lv_astore (lv' := [(4, .ref qq), (0, .ref (b + a1)), (1, .int a2), (2, .int a3), (3, .int a4)]) hx hb dL_why_13 hl (by decide) rfl (fun ls hl => ?_)
      refine lv_ldc (v := (-900000001)) hx hb hown (hB _ ce_w556) dL_why_15 ?_
      cases h
      exact ce_iretW hx hb hr hlocks hA hS (Nat.le_of_ble_eq_true rfl) (Nat.le_of_ble_eq_true rfl) dL_why_17
    have h := ce_ie d6 h
    cases h
def f_L_served (M : ce_M) (a1 : Nat) (a2 : Int32) : Option Int32 :=
  ce_b2 (f_X7_servedIn a1 M a2) (fun (x1 : Int32) (t2 : Nat) =>
  if t2 = 0 then
    some x1
  else
    if t2 = 1 then
      some (-900000003)
    else
    none)
set_option maxRecDepth 100000 in
set_option maxHeartbeats 4000000 in
theorem c_L_served (l : Launch) (hfl : l.stackTraces = false) (X : ce_X) (G : ce_G) (b : Nat) {a1 : Nat} {a2 : Int32} {M : ce_M} (ha1 : ce_kd a1 = 7) {r : Int32} (h : f_L_served M a1 a2 = some r) : ce_CtW l yL_served cL_served 3 (some .int) [(0, 5, 6, 15)] 8 122 1 6 X G b [.ref (b + a1), .int a2] M (some (.int r)) M := by
  refine ce_ofWW (own := RL) (by decide) rfl (Nat.le_of_ble_eq_true rfl) (fun p e s m below meth c ls hx hb hr hlocks hml hown hB hF hA hl hS htab => ?_)
  have hK := hF.1
  have hl : lv_has ls 3 [(0, .ref (b + a1)), (1, .int a2)] := hl
  unfold f_L_served at h
  refine lv_aload_n hx hb dL_served_0 rfl (lv_at hl 0 rfl) ?_
  refine lv_iload_n hx hb dL_served_1 rfl (lv_at hl 1 rfl) ?_
  obtain ⟨x1, t2, g3, h⟩ := ce_b2_e h
  refine ce_callVXi (As := [.int a2]) (rest := []) hx hb hml hown hB (c_X7_servedIn l hfl X G b ha1 g3) ce_v_X7_servedIn ce_w741 ⟨Nat.le_of_ble_eq_true rfl, Nat.le_of_ble_eq_true rfl⟩ hF hA hS (ce_rc_7 hK hA ha1) hl rfl rfl (Nat.le_of_ble_eq_true rfl) dL_served_2 ⟨(Nat.le_of_ble_eq_true rfl), (Nat.le_of_ble_eq_true rfl)⟩ (fun c4 H locs hA hS => ?_) (fun c4 ltc4 ce qq H locs hA hS hce hcv hcl => ?_)
  · have h := ce_it c4 h
    cases h
    exact ce_iretW hx hb hr hlocks hA hS (Nat.le_of_ble_eq_true rfl) (Nat.le_of_ble_eq_true rfl) dL_served_5
  · have h := ce_ie c4 h
    by_cases d5 : t2 = 1
    · have h := ce_it d5 h
      rw [d5] at hcl
      refine vx_catch (own := RL) (name := ce_IO) (E := ce_E 1) hown [] ⟨0, 5, 6, 15⟩ [] (htab.trans rfl) (fun _ h9 => nomatch h9) (by decide) (by decide) (hB _ ce_lk15) (va_Nw.use rfl hF.2.2.2.2.2.1.1) hce hcv hcl ?_
      refine lv_astore_n (lv' := [(2, .ref qq), (0, .ref (b + a1)), (1, .int a2)]) hx hb dL_served_6 rfl hl (by decide) rfl (fun ls hl => ?_)
      refine lv_ldc (v := (-900000003)) hx hb hown (hB _ ce_w555) dL_served_7 ?_
      cases h
      exact ce_iretW hx hb hr hlocks hA hS (Nat.le_of_ble_eq_true rfl) (Nat.le_of_ble_eq_true rfl) dL_served_9
    have h := ce_ie d5 h
    cases h
def f_L_empty (M : ce_M) (a1 : Nat) (a2 : Int32) : Option (ce_M × Int32) :=
  ce_b3 (f_X7_emptyIn a1 M a2) (fun (M1 : ce_M) (x2 : Int32) (t3 : Nat) =>
  if t3 = 0 then
    some (M1, x2)
  else
    if t3 = 1 then
      some (M1, (-900000003))
    else
    none)
set_option maxRecDepth 100000 in
set_option maxHeartbeats 4000000 in
theorem c_L_empty (l : Launch) (hfl : l.stackTraces = false) (X : ce_X) (G : ce_G) (b : Nat) {a1 : Nat} {a2 : Int32} {M : ce_M} (ha1 : ce_kd a1 = 7) {M' : ce_M} {r : Int32} (h : f_L_empty M a1 a2 = some (M', r)) : ce_CtW l yL_empty cL_empty 3 (some .int) [(0, 5, 6, 15)] 8 131 1 6 X G b [.ref (b + a1), .int a2] M (some (.int r)) M' := by
  refine ce_ofWW (own := RL) (by decide) rfl (Nat.le_of_ble_eq_true rfl) (fun p e s m below meth c ls hx hb hr hlocks hml hown hB hF hA hl hS htab => ?_)
  have hK := hF.1
  have hl : lv_has ls 3 [(0, .ref (b + a1)), (1, .int a2)] := hl
  unfold f_L_empty at h
  refine lv_aload_n hx hb dL_empty_0 rfl (lv_at hl 0 rfl) ?_
  refine lv_iload_n hx hb dL_empty_1 rfl (lv_at hl 1 rfl) ?_
  obtain ⟨M1, x2, t3, g4, h⟩ := ce_b3_e h
  refine ce_callVXi (As := [.int a2]) (rest := []) hx hb hml hown hB (c_X7_emptyIn l hfl X G b ha1 g4) ce_v_X7_emptyIn ce_w756 ⟨Nat.le_of_ble_eq_true rfl, Nat.le_of_ble_eq_true rfl⟩ hF hA hS (ce_rc_7 hK hA ha1) hl rfl rfl (Nat.le_of_ble_eq_true rfl) dL_empty_2 ⟨(Nat.le_of_ble_eq_true rfl), (Nat.le_of_ble_eq_true rfl)⟩ (fun c5 H locs hA hS => ?_) (fun c5 ltc5 ce qq H locs hA hS hce hcv hcl => ?_)
  · have h := ce_it c5 h
    cases h
    exact ce_iretW hx hb hr hlocks hA hS (Nat.le_of_ble_eq_true rfl) (Nat.le_of_ble_eq_true rfl) dL_empty_5
  · have h := ce_ie c5 h
    by_cases d6 : t3 = 1
    · have h := ce_it d6 h
      rw [d6] at hcl
      refine vx_catch (own := RL) (name := ce_IO) (E := ce_E 1) hown [] ⟨0, 5, 6, 15⟩ [] (htab.trans rfl) (fun _ h9 => nomatch h9) (by decide) (by decide) (hB _ ce_lk15) (va_Nw.use rfl hF.2.2.2.2.2.1.1) hce hcv hcl ?_
      refine lv_astore_n (lv' := [(2, .ref qq), (0, .ref (b + a1)), (1, .int a2)]) hx hb dL_empty_6 rfl hl (by decide) rfl (fun ls hl => ?_)
      refine lv_ldc (v := (-900000003)) hx hb hown (hB _ ce_w555) dL_empty_7 ?_
      cases h
      exact ce_iretW hx hb hr hlocks hA hS (Nat.le_of_ble_eq_true rfl) (Nat.le_of_ble_eq_true rfl) dL_empty_9
    have h := ce_ie d6 h
    cases h
def f_L_covers (M : ce_M) (a1 : Nat) (a2 : Int32) : Option Int32 :=
  ce_b2 (f_X7_covered a1 M a2) (fun (x1 : Int32) (t2 : Nat) =>
  if t2 = 0 then
    some x1
  else
    if t2 = 1 then
      some (-900000003)
    else
    none)
set_option maxRecDepth 100000 in
set_option maxHeartbeats 4000000 in
theorem c_L_covers (l : Launch) (hfl : l.stackTraces = false) (X : ce_X) (G : ce_G) (b : Nat) {a1 : Nat} {a2 : Int32} {M : ce_M} (ha1 : ce_kd a1 = 7) {r : Int32} (h : f_L_covers M a1 a2 = some r) : ce_CtW l yL_covers cL_covers 3 (some .int) [(0, 5, 6, 15)] 8 122 1 6 X G b [.ref (b + a1), .int a2] M (some (.int r)) M := by
  refine ce_ofWW (own := RL) (by decide) rfl (Nat.le_of_ble_eq_true rfl) (fun p e s m below meth c ls hx hb hr hlocks hml hown hB hF hA hl hS htab => ?_)
  have hK := hF.1
  have hl : lv_has ls 3 [(0, .ref (b + a1)), (1, .int a2)] := hl
  unfold f_L_covers at h
  refine lv_aload_n hx hb dL_covers_0 rfl (lv_at hl 0 rfl) ?_
  refine lv_iload_n hx hb dL_covers_1 rfl (lv_at hl 1 rfl) ?_
  obtain ⟨x1, t2, g3, h⟩ := ce_b2_e h
  refine ce_callVXi (As := [.int a2]) (rest := []) hx hb hml hown hB (c_X7_covered l hfl X G b ha1 g3) ce_v_X7_covered ce_w768 ⟨Nat.le_of_ble_eq_true rfl, Nat.le_of_ble_eq_true rfl⟩ hF hA hS (ce_rc_7 hK hA ha1) hl rfl rfl (Nat.le_of_ble_eq_true rfl) dL_covers_2 ⟨(Nat.le_of_ble_eq_true rfl), (Nat.le_of_ble_eq_true rfl)⟩ (fun c4 H locs hA hS => ?_) (fun c4 ltc4 ce qq H locs hA hS hce hcv hcl => ?_)
  · have h := ce_it c4 h
    cases h
    exact ce_iretW hx hb hr hlocks hA hS (Nat.le_of_ble_eq_true rfl) (Nat.le_of_ble_eq_true rfl) dL_covers_5
  · have h := ce_ie c4 h
    by_cases d5 : t2 = 1
    · have h := ce_it d5 h
      rw [d5] at hcl
      refine vx_catch (own := RL) (name := ce_IO) (E := ce_E 1) hown [] ⟨0, 5, 6, 15⟩ [] (htab.trans rfl) (fun _ h9 => nomatch h9) (by decide) (by decide) (hB _ ce_lk15) (va_Nw.use rfl hF.2.2.2.2.2.1.1) hce hcv hcl ?_
      refine lv_astore_n (lv' := [(2, .ref qq), (0, .ref (b + a1)), (1, .int a2)]) hx hb dL_covers_6 rfl hl (by decide) rfl (fun ls hl => ?_)
      refine lv_ldc (v := (-900000003)) hx hb hown (hB _ ce_w555) dL_covers_7 ?_
      cases h
      exact ce_iretW hx hb hr hlocks hA hS (Nat.le_of_ble_eq_true rfl) (Nat.le_of_ble_eq_true rfl) dL_covers_9
    have h := ce_ie d5 h
    cases h
def f_L_types (M : ce_M) (a1 : Nat) (a2 : Int32) : Option (ce_M × Int32) :=
  ce_b3 (f_X7_type a1 M a2) (fun (M1 : ce_M) (x2 : Int32) (t3 : Nat) =>
  if t3 = 0 then
    some (M1, x2)
  else
    if t3 = 2 then
      some (M1, (-900000001))
    else
    if t3 = 3 then
      some (M1, (-900000002))
    else
    none)
set_option maxRecDepth 100000 in
set_option maxHeartbeats 4000000 in
theorem c_L_types (l : Launch) (hfl : l.stackTraces = false) (X : ce_X) (G : ce_G) (b : Nat) {a1 : Nat} {a2 : Int32} {M : ce_M} (ha1 : ce_kd a1 = 7) {M' : ce_M} {r : Int32} (h : f_L_types M a1 a2 = some (M', r)) : ce_CtW l yL_types cL_types 3 (some .int) [(0, 5, 6, 18), (0, 5, 10, 21)] 8 122 2 12 X G b [.ref (b + a1), .int a2] M (some (.int r)) M' := by
  refine ce_ofWW (own := RL) (by decide) rfl (Nat.le_of_ble_eq_true rfl) (fun p e s m below meth c ls hx hb hr hlocks hml hown hB hF hA hl hS htab => ?_)
  have hK := hF.1
  have hl : lv_has ls 3 [(0, .ref (b + a1)), (1, .int a2)] := hl
  unfold f_L_types at h
  refine lv_aload_n hx hb dL_types_0 rfl (lv_at hl 0 rfl) ?_
  refine lv_iload_n hx hb dL_types_1 rfl (lv_at hl 1 rfl) ?_
  obtain ⟨M1, x2, t3, g4, h⟩ := ce_b3_e h
  refine ce_callVXi (As := [.int a2]) (rest := []) hx hb hml hown hB (c_X7_type l hfl X G b ha1 g4) ce_v_X7_type ce_w779 ⟨Nat.le_of_ble_eq_true rfl, Nat.le_of_ble_eq_true rfl⟩ hF hA hS (ce_rc_7 hK hA ha1) hl rfl rfl (Nat.le_of_ble_eq_true rfl) dL_types_2 ⟨(Nat.le_of_ble_eq_true rfl), (Nat.le_of_ble_eq_true rfl)⟩ (fun c5 H locs hA hS => ?_) (fun c5 ltc5 ce qq H locs hA hS hce hcv hcl => ?_)
  · have h := ce_it c5 h
    cases h
    exact ce_iretW hx hb hr hlocks hA hS (Nat.le_of_ble_eq_true rfl) (Nat.le_of_ble_eq_true rfl) dL_types_5
  · have h := ce_ie c5 h
    by_cases d6 : t3 = 2
    · have h := ce_it d6 h
      rw [d6] at hcl
      refine vx_catch (own := RL) (name := ce_IA) (E := ce_E 2) hown [] ⟨0, 5, 6, 18⟩ [⟨0, 5, 10, 21⟩] (htab.trans rfl) (fun _ h9 => nomatch h9) (by decide) (by decide) (hB _ ce_lk18) (va_Nw.use rfl hF.2.2.2.2.2.1.2.1) hce hcv hcl ?_
      refine lv_astore_n (lv' := [(2, .ref qq), (0, .ref (b + a1)), (1, .int a2)]) hx hb dL_types_6 rfl hl (by decide) rfl (fun ls hl => ?_)
      refine lv_ldc (v := (-900000001)) hx hb hown (hB _ ce_w556) dL_types_7 ?_
      cases h
      exact ce_iretW hx hb hr hlocks hA hS (Nat.le_of_ble_eq_true rfl) (Nat.le_of_ble_eq_true rfl) dL_types_9
    have h := ce_ie d6 h
    by_cases d7 : t3 = 3
    · have h := ce_it d7 h
      rw [d7] at hcl
      refine vx_catch (own := RL) (name := ce_IS) (E := ce_E 3) hown [⟨0, 5, 6, 18⟩] ⟨0, 5, 10, 21⟩ [] (htab.trans rfl) (fun z hz => by simp only [List.mem_cons, List.not_mem_nil, or_false] at hz; rcases hz with rfl; exact Or.inr (ce_passed hB (by decide) ce_lk18 hF.2.2.2.2.2.2.2.2.2)) (by decide) (by decide) (hB _ ce_lk21) (va_Nw.use rfl hF.2.2.2.2.2.1.2.2) hce hcv hcl ?_
      refine lv_astore_n (lv' := [(2, .ref qq), (0, .ref (b + a1)), (1, .int a2)]) hx hb dL_types_10 rfl hl (by decide) rfl (fun ls hl => ?_)
      refine lv_ldc (v := (-900000002)) hx hb hown (hB _ ce_w557) dL_types_11 ?_
      cases h
      exact ce_iretW hx hb hr hlocks hA hS (Nat.le_of_ble_eq_true rfl) (Nat.le_of_ble_eq_true rfl) dL_types_13
    have h := ce_ie d7 h
    cases h
def f_L_back (M : ce_M) (a1 : Nat) : Option (ce_M × Int32) :=
  ce_b3 (f_X7_undo a1 M) (fun (M1 : ce_M) (x2 : Int32) (t3 : Nat) =>
  if t3 = 0 then
    some (M1, x2)
  else
    if t3 = 3 then
      some (M1, (-900000002))
    else
    none)
set_option maxRecDepth 100000 in
set_option maxHeartbeats 4000000 in
theorem c_L_back (l : Launch) (hfl : l.stackTraces = false) (X : ce_X) (G : ce_G) (b : Nat) {a1 : Nat} {M : ce_M} (ha1 : ce_kd a1 = 7) {M' : ce_M} {r : Int32} (h : f_L_back M a1 = some (M', r)) : ce_CtW l yL_back cL_back 2 (some .int) [(0, 4, 5, 21)] 8 145 1 6 X G b [.ref (b + a1)] M (some (.int r)) M' := by
  refine ce_ofWW (own := RL) (by decide) rfl (Nat.le_of_ble_eq_true rfl) (fun p e s m below meth c ls hx hb hr hlocks hml hown hB hF hA hl hS htab => ?_)
  have hK := hF.1
  have hl : lv_has ls 2 [(0, .ref (b + a1))] := hl
  unfold f_L_back at h
  refine lv_aload_n hx hb dL_back_0 rfl (lv_at hl 0 rfl) ?_
  obtain ⟨M1, x2, t3, g4, h⟩ := ce_b3_e h
  refine ce_callVXi (As := []) (rest := []) hx hb hml hown hB (c_X7_undo l hfl X G b ha1 g4) ce_v_X7_undo ce_w606 ⟨Nat.le_of_ble_eq_true rfl, Nat.le_of_ble_eq_true rfl⟩ hF hA hS (ce_rc_7 hK hA ha1) hl rfl rfl (Nat.le_of_ble_eq_true rfl) dL_back_1 ⟨(Nat.le_of_ble_eq_true rfl), (Nat.le_of_ble_eq_true rfl)⟩ (fun c5 H locs hA hS => ?_) (fun c5 ltc5 ce qq H locs hA hS hce hcv hcl => ?_)
  · have h := ce_it c5 h
    cases h
    exact ce_iretW hx hb hr hlocks hA hS (Nat.le_of_ble_eq_true rfl) (Nat.le_of_ble_eq_true rfl) dL_back_4
  · have h := ce_ie c5 h
    by_cases d6 : t3 = 3
    · have h := ce_it d6 h
      rw [d6] at hcl
      refine vx_catch (own := RL) (name := ce_IS) (E := ce_E 3) hown [] ⟨0, 4, 5, 21⟩ [] (htab.trans rfl) (fun _ h9 => nomatch h9) (by decide) (by decide) (hB _ ce_lk21) (va_Nw.use rfl hF.2.2.2.2.2.1.2.2) hce hcv hcl ?_
      refine lv_astore_n (lv' := [(1, .ref qq), (0, .ref (b + a1))]) hx hb dL_back_5 rfl hl (by decide) rfl (fun ls hl => ?_)
      refine lv_ldc (v := (-900000002)) hx hb hown (hB _ ce_w557) dL_back_6 ?_
      cases h
      exact ce_iretW hx hb hr hlocks hA hS (Nat.le_of_ble_eq_true rfl) (Nat.le_of_ble_eq_true rfl) dL_back_8
    have h := ce_ie d6 h
    cases h
def f0_L_joins (M : ce_M) (a1 : Nat) (a2 : Int32) (a3 : Int32) (a4 : Int32) : Option (ce_M × Int32) :=
  ce_b3 (f_X7_subscribe a1 M a2 a3 a4) (fun (M1 : ce_M) (x2 : Int32) (t3 : Nat) =>
  if t3 = 0 then
    some (M1, x2)
  else
    none)
set_option maxRecDepth 100000 in
set_option maxHeartbeats 4000000 in
theorem c0_L_joins (l : Launch) (hfl : l.stackTraces = false) (X : ce_X) (G : ce_G) (b : Nat) {a1 : Nat} {a2 : Int32} {a3 : Int32} {a4 : Int32} {M : ce_M} (ha1 : ce_kd a1 = 7) {M' : ce_M} {r : Int32} (h : f0_L_joins M a1 a2 a3 a4 = some (M', r)) : ce_CtW l yL_joins cL_joins 5 (some .int) [(0, 7, 8, 15), (0, 7, 13, 18), (0, 7, 18, 21)] 9 182 0 0 X G b [.ref (b + a1), .int a2, .int a3, .int a4] M (some (.int r)) M' := by
  refine ce_ofWW (own := RL) (by decide) rfl (Nat.le_of_ble_eq_true rfl) (fun p e s m below meth c ls hx hb hr hlocks hml hown hB hF hA hl hS htab => ?_)
  have hK := hF.1
  have hl : lv_has ls 5 [(0, .ref (b + a1)), (1, .int a2), (2, .int a3), (3, .int a4)] := hl
  unfold f0_L_joins at h
  refine lv_aload_n hx hb dL_joins_0 rfl (lv_at hl 0 rfl) ?_
  refine lv_iload_n hx hb dL_joins_1 rfl (lv_at hl 1 rfl) ?_
  refine lv_iload_n hx hb dL_joins_2 rfl (lv_at hl 2 rfl) ?_
  refine lv_iload_n hx hb dL_joins_3 rfl (lv_at hl 3 rfl) ?_
  obtain ⟨M1, x2, t3, g4, h⟩ := ce_b3_e h
  by_cases c5 : t3 = 0
  · have h := ce_it c5 h
    rw [c5] at g4
    refine ce_callVXi (tc := 0) (As := [.int a2, .int a3, .int a4]) (rest := []) hx hb hml hown hB (c0_X7_subscribe l hfl X G b ha1 g4) ce_v_X7_subscribe ce_w250 ⟨Nat.le_of_ble_eq_true rfl, Nat.le_of_ble_eq_true rfl⟩ hF hA hS (ce_rc_7 hK hA ha1) hl rfl rfl (Nat.le_of_ble_eq_true rfl) dL_joins_4 ⟨(Nat.le_of_ble_eq_true rfl), (Nat.le_of_ble_eq_true rfl)⟩ (fun _ H locs hA hS => ?_) (fun lt => absurd rfl lt)
    cases h
    exact ce_iretW hx hb hr hlocks hA hS (Nat.le_of_ble_eq_true rfl) (Nat.le_of_ble_eq_true rfl) dL_joins_7
  · have h := ce_ie c5 h
    cases h
def f0_L_goes (M : ce_M) (a1 : Nat) (a2 : Int32) (a3 : Int32) : Option (ce_M × Int32) :=
  ce_b3 (f_X7_move a1 M a2 a3) (fun (M1 : ce_M) (x2 : Int32) (t3 : Nat) =>
  if t3 = 0 then
    some (M1, x2)
  else
    none)
set_option maxRecDepth 100000 in
set_option maxHeartbeats 4000000 in
theorem c0_L_goes (l : Launch) (hfl : l.stackTraces = false) (X : ce_X) (G : ce_G) (b : Nat) {a1 : Nat} {a2 : Int32} {a3 : Int32} {M : ce_M} (ha1 : ce_kd a1 = 7) {M' : ce_M} {r : Int32} (h : f0_L_goes M a1 a2 a3 = some (M', r)) : ce_CtW l yL_goes cL_goes 4 (some .int) [(0, 6, 7, 15), (0, 6, 11, 21)] 9 181 0 0 X G b [.ref (b + a1), .int a2, .int a3] M (some (.int r)) M' := by
  refine ce_ofWW (own := RL) (by decide) rfl (Nat.le_of_ble_eq_true rfl) (fun p e s m below meth c ls hx hb hr hlocks hml hown hB hF hA hl hS htab => ?_)
  have hK := hF.1
  have hl : lv_has ls 4 [(0, .ref (b + a1)), (1, .int a2), (2, .int a3)] := hl
  unfold f0_L_goes at h
  refine lv_aload_n hx hb dL_goes_0 rfl (lv_at hl 0 rfl) ?_
  refine lv_iload_n hx hb dL_goes_1 rfl (lv_at hl 1 rfl) ?_
  refine lv_iload_n hx hb dL_goes_2 rfl (lv_at hl 2 rfl) ?_
  obtain ⟨M1, x2, t3, g4, h⟩ := ce_b3_e h
  by_cases c5 : t3 = 0
  · have h := ce_it c5 h
    rw [c5] at g4
    refine ce_callVXi (tc := 0) (As := [.int a2, .int a3]) (rest := []) hx hb hml hown hB (c0_X7_move l hfl X G b ha1 g4) ce_v_X7_move ce_w699 ⟨Nat.le_of_ble_eq_true rfl, Nat.le_of_ble_eq_true rfl⟩ hF hA hS (ce_rc_7 hK hA ha1) hl rfl rfl (Nat.le_of_ble_eq_true rfl) dL_goes_3 ⟨(Nat.le_of_ble_eq_true rfl), (Nat.le_of_ble_eq_true rfl)⟩ (fun _ H locs hA hS => ?_) (fun lt => absurd rfl lt)
    cases h
    exact ce_iretW hx hb hr hlocks hA hS (Nat.le_of_ble_eq_true rfl) (Nat.le_of_ble_eq_true rfl) dL_goes_6
  · have h := ce_ie c5 h
    cases h
def f0_L_quits (M : ce_M) (a1 : Nat) (a2 : Int32) : Option (ce_M × Int32) :=
  ce_b3 (f_X7_leave a1 M a2) (fun (M1 : ce_M) (x2 : Int32) (t3 : Nat) =>
  if t3 = 0 then
    some (M1, x2)
  else
    none)
set_option maxRecDepth 100000 in
set_option maxHeartbeats 4000000 in
theorem c0_L_quits (l : Launch) (hfl : l.stackTraces = false) (X : ce_X) (G : ce_G) (b : Nat) {a1 : Nat} {a2 : Int32} {M : ce_M} (ha1 : ce_kd a1 = 7) {M' : ce_M} {r : Int32} (h : f0_L_quits M a1 a2 = some (M', r)) : ce_CtW l yL_quits cL_quits 3 (some .int) [(0, 5, 6, 15), (0, 5, 10, 21)] 9 180 0 0 X G b [.ref (b + a1), .int a2] M (some (.int r)) M' := by
  refine ce_ofWW (own := RL) (by decide) rfl (Nat.le_of_ble_eq_true rfl) (fun p e s m below meth c ls hx hb hr hlocks hml hown hB hF hA hl hS htab => ?_)
  have hK := hF.1
  have hl : lv_has ls 3 [(0, .ref (b + a1)), (1, .int a2)] := hl
  unfold f0_L_quits at h
  refine lv_aload_n hx hb dL_quits_0 rfl (lv_at hl 0 rfl) ?_
  refine lv_iload_n hx hb dL_quits_1 rfl (lv_at hl 1 rfl) ?_
  obtain ⟨M1, x2, t3, g4, h⟩ := ce_b3_e h
  by_cases c5 : t3 = 0
  · have h := ce_it c5 h
    rw [c5] at g4
    refine ce_callVXi (tc := 0) (As := [.int a2]) (rest := []) hx hb hml hown hB (c0_X7_leave l hfl X G b ha1 g4) ce_v_X7_leave ce_w706 ⟨Nat.le_of_ble_eq_true rfl, Nat.le_of_ble_eq_true rfl⟩ hF hA hS (ce_rc_7 hK hA ha1) hl rfl rfl (Nat.le_of_ble_eq_true rfl) dL_quits_2 ⟨(Nat.le_of_ble_eq_true rfl), (Nat.le_of_ble_eq_true rfl)⟩ (fun _ H locs hA hS => ?_) (fun lt => absurd rfl lt)
    cases h
    exact ce_iretW hx hb hr hlocks hA hS (Nat.le_of_ble_eq_true rfl) (Nat.le_of_ble_eq_true rfl) dL_quits_5
  · have h := ce_ie c5 h
    cases h
def f0_L_levels (M : ce_M) (a1 : Nat) (a2 : Int32) (a3 : Int32) : Option (ce_M × Int32) :=
  ce_b3 (f_X7_setLevel a1 M a2 a3) (fun (M1 : ce_M) (x2 : Int32) (t3 : Nat) =>
  if t3 = 0 then
    some (M1, x2)
  else
    none)
set_option maxRecDepth 100000 in
set_option maxHeartbeats 4000000 in
theorem c0_L_levels (l : Launch) (hfl : l.stackTraces = false) (X : ce_X) (G : ce_G) (b : Nat) {a1 : Nat} {a2 : Int32} {a3 : Int32} {M : ce_M} (ha1 : ce_kd a1 = 7) {M' : ce_M} {r : Int32} (h : f0_L_levels M a1 a2 a3 = some (M', r)) : ce_CtW l yL_levels cL_levels 4 (some .int) [(0, 6, 7, 15), (0, 6, 11, 18)] 9 181 0 0 X G b [.ref (b + a1), .int a2, .int a3] M (some (.int r)) M' := by
  refine ce_ofWW (own := RL) (by decide) rfl (Nat.le_of_ble_eq_true rfl) (fun p e s m below meth c ls hx hb hr hlocks hml hown hB hF hA hl hS htab => ?_)
  have hK := hF.1
  have hl : lv_has ls 4 [(0, .ref (b + a1)), (1, .int a2), (2, .int a3)] := hl
  unfold f0_L_levels at h
  refine lv_aload_n hx hb dL_levels_0 rfl (lv_at hl 0 rfl) ?_
  refine lv_iload_n hx hb dL_levels_1 rfl (lv_at hl 1 rfl) ?_
  refine lv_iload_n hx hb dL_levels_2 rfl (lv_at hl 2 rfl) ?_
  obtain ⟨M1, x2, t3, g4, h⟩ := ce_b3_e h
  by_cases c5 : t3 = 0
  · have h := ce_it c5 h
    rw [c5] at g4
    refine ce_callVXi (tc := 0) (As := [.int a2, .int a3]) (rest := []) hx hb hml hown hB (c0_X7_setLevel l hfl X G b ha1 g4) ce_v_X7_setLevel ce_w713 ⟨Nat.le_of_ble_eq_true rfl, Nat.le_of_ble_eq_true rfl⟩ hF hA hS (ce_rc_7 hK hA ha1) hl rfl rfl (Nat.le_of_ble_eq_true rfl) dL_levels_3 ⟨(Nat.le_of_ble_eq_true rfl), (Nat.le_of_ble_eq_true rfl)⟩ (fun _ H locs hA hS => ?_) (fun lt => absurd rfl lt)
    cases h
    exact ce_iretW hx hb hr hlocks hA hS (Nat.le_of_ble_eq_true rfl) (Nat.le_of_ble_eq_true rfl) dL_levels_6
  · have h := ce_ie c5 h
    cases h
def f0_L_sets (M : ce_M) (a1 : Nat) (a2 : Int32) (a3 : Int32) : Option (ce_M × Int32) :=
  ce_b3 (f_X7_set a1 M a2 a3) (fun (M1 : ce_M) (x2 : Int32) (t3 : Nat) =>
  if t3 = 0 then
    some (M1, x2)
  else
    none)
set_option maxRecDepth 100000 in
set_option maxHeartbeats 4000000 in
theorem c0_L_sets (l : Launch) (hfl : l.stackTraces = false) (X : ce_X) (G : ce_G) (b : Nat) {a1 : Nat} {a2 : Int32} {a3 : Int32} {M : ce_M} (ha1 : ce_kd a1 = 7) {M' : ce_M} {r : Int32} (h : f0_L_sets M a1 a2 a3 = some (M', r)) : ce_CtW l yL_sets cL_sets 4 (some .int) [(0, 6, 7, 18)] 9 181 0 0 X G b [.ref (b + a1), .int a2, .int a3] M (some (.int r)) M' := by
  refine ce_ofWW (own := RL) (by decide) rfl (Nat.le_of_ble_eq_true rfl) (fun p e s m below meth c ls hx hb hr hlocks hml hown hB hF hA hl hS htab => ?_)
  have hK := hF.1
  have hl : lv_has ls 4 [(0, .ref (b + a1)), (1, .int a2), (2, .int a3)] := hl
  unfold f0_L_sets at h
  refine lv_aload_n hx hb dL_sets_0 rfl (lv_at hl 0 rfl) ?_
  refine lv_iload_n hx hb dL_sets_1 rfl (lv_at hl 1 rfl) ?_
  refine lv_iload_n hx hb dL_sets_2 rfl (lv_at hl 2 rfl) ?_
  obtain ⟨M1, x2, t3, g4, h⟩ := ce_b3_e h
  by_cases c5 : t3 = 0
  · have h := ce_it c5 h
    rw [c5] at g4
    refine ce_callVXi (tc := 0) (As := [.int a2, .int a3]) (rest := []) hx hb hml hown hB (c0_X7_set l hfl X G b ha1 g4) ce_v_X7_set ce_w561 ⟨Nat.le_of_ble_eq_true rfl, Nat.le_of_ble_eq_true rfl⟩ hF hA hS (ce_rc_7 hK hA ha1) hl rfl rfl (Nat.le_of_ble_eq_true rfl) dL_sets_3 ⟨(Nat.le_of_ble_eq_true rfl), (Nat.le_of_ble_eq_true rfl)⟩ (fun _ H locs hA hS => ?_) (fun lt => absurd rfl lt)
    cases h
    exact ce_iretW hx hb hr hlocks hA hS (Nat.le_of_ble_eq_true rfl) (Nat.le_of_ble_eq_true rfl) dL_sets_6
  · have h := ce_ie c5 h
    cases h
def f0_L_sends (M : ce_M) (a1 : Nat) (a2 : Int32) (a3 : Int32) (a4 : Int32) : Option (ce_M × Int32) :=
  ce_b3 (f_X7_publish a1 M a2 a3 a4) (fun (M1 : ce_M) (x2 : Int32) (t3 : Nat) =>
  if t3 = 0 then
    some (M1, x2)
  else
    none)
set_option maxRecDepth 100000 in
set_option maxHeartbeats 4000000 in
theorem c0_L_sends (l : Launch) (hfl : l.stackTraces = false) (X : ce_X) (G : ce_G) (b : Nat) {a1 : Nat} {a2 : Int32} {a3 : Int32} {a4 : Int32} {M : ce_M} (ha1 : ce_kd a1 = 7) {M' : ce_M} {r : Int32} (h : f0_L_sends M a1 a2 a3 a4 = some (M', r)) : ce_CtW l yL_sends cL_sends 5 (some .int) [(0, 7, 8, 15), (0, 7, 13, 18), (0, 7, 18, 21)] 9 182 0 0 X G b [.ref (b + a1), .int a2, .int a3, .int a4] M (some (.int r)) M' := by
  refine ce_ofWW (own := RL) (by decide) rfl (Nat.le_of_ble_eq_true rfl) (fun p e s m below meth c ls hx hb hr hlocks hml hown hB hF hA hl hS htab => ?_)
  have hK := hF.1
  have hl : lv_has ls 5 [(0, .ref (b + a1)), (1, .int a2), (2, .int a3), (3, .int a4)] := hl
  unfold f0_L_sends at h
  refine lv_aload_n hx hb dL_sends_0 rfl (lv_at hl 0 rfl) ?_
  refine lv_iload_n hx hb dL_sends_1 rfl (lv_at hl 1 rfl) ?_
  refine lv_iload_n hx hb dL_sends_2 rfl (lv_at hl 2 rfl) ?_
  refine lv_iload_n hx hb dL_sends_3 rfl (lv_at hl 3 rfl) ?_
  obtain ⟨M1, x2, t3, g4, h⟩ := ce_b3_e h
  by_cases c5 : t3 = 0
  · have h := ce_it c5 h
    rw [c5] at g4
    refine ce_callVXi (tc := 0) (As := [.int a2, .int a3, .int a4]) (rest := []) hx hb hml hown hB (c0_X7_publish l hfl X G b ha1 g4) ce_v_X7_publish ce_w568 ⟨Nat.le_of_ble_eq_true rfl, Nat.le_of_ble_eq_true rfl⟩ hF hA hS (ce_rc_7 hK hA ha1) hl rfl rfl (Nat.le_of_ble_eq_true rfl) dL_sends_4 ⟨(Nat.le_of_ble_eq_true rfl), (Nat.le_of_ble_eq_true rfl)⟩ (fun _ H locs hA hS => ?_) (fun lt => absurd rfl lt)
    cases h
    exact ce_iretW hx hb hr hlocks hA hS (Nat.le_of_ble_eq_true rfl) (Nat.le_of_ble_eq_true rfl) dL_sends_7
  · have h := ce_ie c5 h
    cases h
def f0_L_passes (M : ce_M) (a1 : Nat) (a2 : Int32) : Option (ce_M × Int32) :=
  ce_b3 (f_X7_pass a1 M a2) (fun (M1 : ce_M) (x2 : Int32) (t3 : Nat) =>
  if t3 = 0 then
    some (M1, x2)
  else
    none)
set_option maxRecDepth 100000 in
set_option maxHeartbeats 4000000 in
theorem c0_L_passes (l : Launch) (hfl : l.stackTraces = false) (X : ce_X) (G : ce_G) (b : Nat) {a1 : Nat} {a2 : Int32} {M : ce_M} (ha1 : ce_kd a1 = 7) {M' : ce_M} {r : Int32} (h : f0_L_passes M a1 a2 = some (M', r)) : ce_CtW l yL_passes cL_passes 3 (some .int) [(0, 5, 6, 18), (0, 5, 10, 21)] 9 180 0 0 X G b [.ref (b + a1), .int a2] M (some (.int r)) M' := by
  refine ce_ofWW (own := RL) (by decide) rfl (Nat.le_of_ble_eq_true rfl) (fun p e s m below meth c ls hx hb hr hlocks hml hown hB hF hA hl hS htab => ?_)
  have hK := hF.1
  have hl : lv_has ls 3 [(0, .ref (b + a1)), (1, .int a2)] := hl
  unfold f0_L_passes at h
  refine lv_aload_n hx hb dL_passes_0 rfl (lv_at hl 0 rfl) ?_
  refine lv_iload_n hx hb dL_passes_1 rfl (lv_at hl 1 rfl) ?_
  obtain ⟨M1, x2, t3, g4, h⟩ := ce_b3_e h
  by_cases c5 : t3 = 0
  · have h := ce_it c5 h
    rw [c5] at g4
    refine ce_callVXi (tc := 0) (As := [.int a2]) (rest := []) hx hb hml hown hB (c0_X7_pass l hfl X G b ha1 g4) ce_v_X7_pass ce_w575 ⟨Nat.le_of_ble_eq_true rfl, Nat.le_of_ble_eq_true rfl⟩ hF hA hS (ce_rc_7 hK hA ha1) hl rfl rfl (Nat.le_of_ble_eq_true rfl) dL_passes_2 ⟨(Nat.le_of_ble_eq_true rfl), (Nat.le_of_ble_eq_true rfl)⟩ (fun _ H locs hA hS => ?_) (fun lt => absurd rfl lt)
    cases h
    exact ce_iretW hx hb hr hlocks hA hS (Nat.le_of_ble_eq_true rfl) (Nat.le_of_ble_eq_true rfl) dL_passes_5
  · have h := ce_ie c5 h
    cases h
def f0_L_one (M : ce_M) (a1 : Nat) (a2 : Int32) (a3 : Int32) : Option Int32 :=
  ce_b2 (f_X7_subscriber a1 M a2 a3) (fun (x1 : Int32) (t2 : Nat) =>
  if t2 = 0 then
    some x1
  else
    none)
set_option maxRecDepth 100000 in
set_option maxHeartbeats 4000000 in
theorem c0_L_one (l : Launch) (hfl : l.stackTraces = false) (X : ce_X) (G : ce_G) (b : Nat) {a1 : Nat} {a2 : Int32} {a3 : Int32} {M : ce_M} (ha1 : ce_kd a1 = 7) {r : Int32} (h : f0_L_one M a1 a2 a3 = some r) : ce_CtW l yL_one cL_one 4 (some .int) [(0, 6, 7, 15), (0, 6, 11, 18)] 8 123 0 0 X G b [.ref (b + a1), .int a2, .int a3] M (some (.int r)) M := by
  refine ce_ofWW (own := RL) (by decide) rfl (Nat.le_of_ble_eq_true rfl) (fun p e s m below meth c ls hx hb hr hlocks hml hown hB hF hA hl hS htab => ?_)
  have hK := hF.1
  have hl : lv_has ls 4 [(0, .ref (b + a1)), (1, .int a2), (2, .int a3)] := hl
  unfold f0_L_one at h
  refine lv_aload_n hx hb dL_one_0 rfl (lv_at hl 0 rfl) ?_
  refine lv_iload_n hx hb dL_one_1 rfl (lv_at hl 1 rfl) ?_
  refine lv_iload_n hx hb dL_one_2 rfl (lv_at hl 2 rfl) ?_
  obtain ⟨x1, t2, g3, h⟩ := ce_b2_e h
  by_cases c4 : t2 = 0
  · have h := ce_it c4 h
    rw [c4] at g3
    refine ce_callVXi (tc := 0) (As := [.int a2, .int a3]) (rest := []) hx hb hml hown hB (c0_X7_subscriber l hfl X G b ha1 g3) ce_v_X7_subscriber ce_w622 ⟨Nat.le_of_ble_eq_true rfl, Nat.le_of_ble_eq_true rfl⟩ hF hA hS (ce_rc_7 hK hA ha1) hl rfl rfl (Nat.le_of_ble_eq_true rfl) dL_one_3 ⟨(Nat.le_of_ble_eq_true rfl), (Nat.le_of_ble_eq_true rfl)⟩ (fun _ H locs hA hS => ?_) (fun lt => absurd rfl lt)
    cases h
    exact ce_iretW hx hb hr hlocks hA hS (Nat.le_of_ble_eq_true rfl) (Nat.le_of_ble_eq_true rfl) dL_one_6
  · have h := ce_ie c4 h
    cases h
def f0_L_stay (M : ce_M) (a1 : Nat) (a2 : Int32) (a3 : Int32) (a4 : Int32) : Option Int32 :=
  ce_b2 (f_X7_stay a1 M a2 a3 a4) (fun (x1 : Int32) (t2 : Nat) =>
  if t2 = 0 then
    some x1
  else
    none)
set_option maxRecDepth 100000 in
set_option maxHeartbeats 4000000 in
theorem c0_L_stay (l : Launch) (hfl : l.stackTraces = false) (X : ce_X) (G : ce_G) (b : Nat) {a1 : Nat} {a2 : Int32} {a3 : Int32} {a4 : Int32} {M : ce_M} (ha1 : ce_kd a1 = 7) {r : Int32} (h : f0_L_stay M a1 a2 a3 a4 = some r) : ce_CtW l yL_stay cL_stay 5 (some .int) [(0, 7, 8, 15), (0, 7, 13, 18)] 8 124 0 0 X G b [.ref (b + a1), .int a2, .int a3, .int a4] M (some (.int r)) M := by
  refine ce_ofWW (own := RL) (by decide) rfl (Nat.le_of_ble_eq_true rfl) (fun p e s m below meth c ls hx hb hr hlocks hml hown hB hF hA hl hS htab => ?_)
  have hK := hF.1
  have hl : lv_has ls 5 [(0, .ref (b + a1)), (1, .int a2), (2, .int a3), (3, .int a4)] := hl
  unfold f0_L_stay at h
  refine lv_aload_n hx hb dL_stay_0 rfl (lv_at hl 0 rfl) ?_
  refine lv_iload_n hx hb dL_stay_1 rfl (lv_at hl 1 rfl) ?_
  refine lv_iload_n hx hb dL_stay_2 rfl (lv_at hl 2 rfl) ?_
  refine lv_iload_n hx hb dL_stay_3 rfl (lv_at hl 3 rfl) ?_
  obtain ⟨x1, t2, g3, h⟩ := ce_b2_e h
  by_cases c4 : t2 = 0
  · have h := ce_it c4 h
    rw [c4] at g3
    refine ce_callVXi (tc := 0) (As := [.int a2, .int a3, .int a4]) (rest := []) hx hb hml hown hB (c0_X7_stay l hfl X G b ha1 g3) ce_v_X7_stay ce_w631 ⟨Nat.le_of_ble_eq_true rfl, Nat.le_of_ble_eq_true rfl⟩ hF hA hS (ce_rc_7 hK hA ha1) hl rfl rfl (Nat.le_of_ble_eq_true rfl) dL_stay_4 ⟨(Nat.le_of_ble_eq_true rfl), (Nat.le_of_ble_eq_true rfl)⟩ (fun _ H locs hA hS => ?_) (fun lt => absurd rfl lt)
    cases h
    exact ce_iretW hx hb hr hlocks hA hS (Nat.le_of_ble_eq_true rfl) (Nat.le_of_ble_eq_true rfl) dL_stay_7
  · have h := ce_ie c4 h
    cases h
def f0_L_box (M : ce_M) (a1 : Nat) (a2 : Int32) (a3 : Int32) : Option Int32 :=
  ce_b2 (f_X7_waiting a1 M a2 a3) (fun (x1 : Int32) (t2 : Nat) =>
  if t2 = 0 then
    some x1
  else
    none)
set_option maxRecDepth 100000 in
set_option maxHeartbeats 4000000 in
theorem c0_L_box (l : Launch) (hfl : l.stackTraces = false) (X : ce_X) (G : ce_G) (b : Nat) {a1 : Nat} {a2 : Int32} {a3 : Int32} {M : ce_M} (ha1 : ce_kd a1 = 7) {r : Int32} (h : f0_L_box M a1 a2 a3 = some r) : ce_CtW l yL_box cL_box 4 (some .int) [(0, 6, 7, 15), (0, 6, 11, 18)] 8 123 0 0 X G b [.ref (b + a1), .int a2, .int a3] M (some (.int r)) M := by
  refine ce_ofWW (own := RL) (by decide) rfl (Nat.le_of_ble_eq_true rfl) (fun p e s m below meth c ls hx hb hr hlocks hml hown hB hF hA hl hS htab => ?_)
  have hK := hF.1
  have hl : lv_has ls 4 [(0, .ref (b + a1)), (1, .int a2), (2, .int a3)] := hl
  unfold f0_L_box at h
  refine lv_aload_n hx hb dL_box_0 rfl (lv_at hl 0 rfl) ?_
  refine lv_iload_n hx hb dL_box_1 rfl (lv_at hl 1 rfl) ?_
  refine lv_iload_n hx hb dL_box_2 rfl (lv_at hl 2 rfl) ?_
  obtain ⟨x1, t2, g3, h⟩ := ce_b2_e h
  by_cases c4 : t2 = 0
  · have h := ce_it c4 h
    rw [c4] at g3
    refine ce_callVXi (tc := 0) (As := [.int a2, .int a3]) (rest := []) hx hb hml hown hB (c0_X7_waiting l hfl X G b ha1 g3) ce_v_X7_waiting ce_w642 ⟨Nat.le_of_ble_eq_true rfl, Nat.le_of_ble_eq_true rfl⟩ hF hA hS (ce_rc_7 hK hA ha1) hl rfl rfl (Nat.le_of_ble_eq_true rfl) dL_box_3 ⟨(Nat.le_of_ble_eq_true rfl), (Nat.le_of_ble_eq_true rfl)⟩ (fun _ H locs hA hS => ?_) (fun lt => absurd rfl lt)
    cases h
    exact ce_iretW hx hb hr hlocks hA hS (Nat.le_of_ble_eq_true rfl) (Nat.le_of_ble_eq_true rfl) dL_box_6
  · have h := ce_ie c4 h
    cases h
def f0_L_event (M : ce_M) (a1 : Nat) (a2 : Int32) (a3 : Int32) : Option Int32 :=
  ce_b2 (f_X7_event a1 M a2 a3) (fun (x1 : Int32) (t2 : Nat) =>
  if t2 = 0 then
    some x1
  else
    none)
set_option maxRecDepth 100000 in
set_option maxHeartbeats 4000000 in
theorem c0_L_event (l : Launch) (hfl : l.stackTraces = false) (X : ce_X) (G : ce_G) (b : Nat) {a1 : Nat} {a2 : Int32} {a3 : Int32} {M : ce_M} (ha1 : ce_kd a1 = 7) {r : Int32} (h : f0_L_event M a1 a2 a3 = some r) : ce_CtW l yL_event cL_event 4 (some .int) [(0, 6, 7, 15), (0, 6, 11, 18)] 8 123 0 0 X G b [.ref (b + a1), .int a2, .int a3] M (some (.int r)) M := by
  refine ce_ofWW (own := RL) (by decide) rfl (Nat.le_of_ble_eq_true rfl) (fun p e s m below meth c ls hx hb hr hlocks hml hown hB hF hA hl hS htab => ?_)
  have hK := hF.1
  have hl : lv_has ls 4 [(0, .ref (b + a1)), (1, .int a2), (2, .int a3)] := hl
  unfold f0_L_event at h
  refine lv_aload_n hx hb dL_event_0 rfl (lv_at hl 0 rfl) ?_
  refine lv_iload_n hx hb dL_event_1 rfl (lv_at hl 1 rfl) ?_
  refine lv_iload_n hx hb dL_event_2 rfl (lv_at hl 2 rfl) ?_
  obtain ⟨x1, t2, g3, h⟩ := ce_b2_e h
  by_cases c4 : t2 = 0
  · have h := ce_it c4 h
    rw [c4] at g3
    refine ce_callVXi (tc := 0) (As := [.int a2, .int a3]) (rest := []) hx hb hml hown hB (c0_X7_event l hfl X G b ha1 g3) ce_v_X7_event ce_w650 ⟨Nat.le_of_ble_eq_true rfl, Nat.le_of_ble_eq_true rfl⟩ hF hA hS (ce_rc_7 hK hA ha1) hl rfl rfl (Nat.le_of_ble_eq_true rfl) dL_event_3 ⟨(Nat.le_of_ble_eq_true rfl), (Nat.le_of_ble_eq_true rfl)⟩ (fun _ H locs hA hS => ?_) (fun lt => absurd rfl lt)
    cases h
    exact ce_iretW hx hb hr hlocks hA hS (Nat.le_of_ble_eq_true rfl) (Nat.le_of_ble_eq_true rfl) dL_event_6
  · have h := ce_ie c4 h
    cases h
def f0_L_leaf (M : ce_M) (a1 : Nat) (a2 : Int32) (a3 : Int32) : Option Int32 :=
  ce_b2 (f_X7_leaf a1 M a2 a3) (fun (x1 : Int32) (t2 : Nat) =>
  if t2 = 0 then
    some x1
  else
    none)
set_option maxRecDepth 100000 in
set_option maxHeartbeats 4000000 in
theorem c0_L_leaf (l : Launch) (hfl : l.stackTraces = false) (X : ce_X) (G : ce_G) (b : Nat) {a1 : Nat} {a2 : Int32} {a3 : Int32} {M : ce_M} (ha1 : ce_kd a1 = 7) {r : Int32} (h : f0_L_leaf M a1 a2 a3 = some r) : ce_CtW l yL_leaf cL_leaf 4 (some .int) [(0, 6, 7, 15), (0, 6, 11, 18)] 8 123 0 0 X G b [.ref (b + a1), .int a2, .int a3] M (some (.int r)) M := by
  refine ce_ofWW (own := RL) (by decide) rfl (Nat.le_of_ble_eq_true rfl) (fun p e s m below meth c ls hx hb hr hlocks hml hown hB hF hA hl hS htab => ?_)
  have hK := hF.1
  have hl : lv_has ls 4 [(0, .ref (b + a1)), (1, .int a2), (2, .int a3)] := hl
  unfold f0_L_leaf at h
  refine lv_aload_n hx hb dL_leaf_0 rfl (lv_at hl 0 rfl) ?_
  refine lv_iload_n hx hb dL_leaf_1 rfl (lv_at hl 1 rfl) ?_
  refine lv_iload_n hx hb dL_leaf_2 rfl (lv_at hl 2 rfl) ?_
  obtain ⟨x1, t2, g3, h⟩ := ce_b2_e h
  by_cases c4 : t2 = 0
  · have h := ce_it c4 h
    rw [c4] at g3
    refine ce_callVXi (tc := 0) (As := [.int a2, .int a3]) (rest := []) hx hb hml hown hB (c0_X7_leaf l hfl X G b ha1 g3) ce_v_X7_leaf ce_w673 ⟨Nat.le_of_ble_eq_true rfl, Nat.le_of_ble_eq_true rfl⟩ hF hA hS (ce_rc_7 hK hA ha1) hl rfl rfl (Nat.le_of_ble_eq_true rfl) dL_leaf_3 ⟨(Nat.le_of_ble_eq_true rfl), (Nat.le_of_ble_eq_true rfl)⟩ (fun _ H locs hA hS => ?_) (fun lt => absurd rfl lt)
    cases h
    exact ce_iretW hx hb hr hlocks hA hS (Nat.le_of_ble_eq_true rfl) (Nat.le_of_ble_eq_true rfl) dL_leaf_6
  · have h := ce_ie c4 h
    cases h
def f0_L_whole (M : ce_M) (a1 : Nat) (a2 : Int32) : Option Int32 :=
  ce_b2 (f_X7_whole a1 M a2) (fun (x1 : Int32) (t2 : Nat) =>
  if t2 = 0 then
    some x1
  else
    none)
set_option maxRecDepth 100000 in
set_option maxHeartbeats 4000000 in
theorem c0_L_whole (l : Launch) (hfl : l.stackTraces = false) (X : ce_X) (G : ce_G) (b : Nat) {a1 : Nat} {a2 : Int32} {M : ce_M} (ha1 : ce_kd a1 = 7) {r : Int32} (h : f0_L_whole M a1 a2 = some r) : ce_CtW l yL_whole cL_whole 3 (some .int) [(0, 5, 6, 18)] 8 122 0 0 X G b [.ref (b + a1), .int a2] M (some (.int r)) M := by
  refine ce_ofWW (own := RL) (by decide) rfl (Nat.le_of_ble_eq_true rfl) (fun p e s m below meth c ls hx hb hr hlocks hml hown hB hF hA hl hS htab => ?_)
  have hK := hF.1
  have hl : lv_has ls 3 [(0, .ref (b + a1)), (1, .int a2)] := hl
  unfold f0_L_whole at h
  refine lv_aload_n hx hb dL_whole_0 rfl (lv_at hl 0 rfl) ?_
  refine lv_iload_n hx hb dL_whole_1 rfl (lv_at hl 1 rfl) ?_
  obtain ⟨x1, t2, g3, h⟩ := ce_b2_e h
  by_cases c4 : t2 = 0
  · have h := ce_it c4 h
    rw [c4] at g3
    refine ce_callVXi (tc := 0) (As := [.int a2]) (rest := []) hx hb hml hown hB (c0_X7_whole l hfl X G b ha1 g3) ce_v_X7_whole ce_w582 ⟨Nat.le_of_ble_eq_true rfl, Nat.le_of_ble_eq_true rfl⟩ hF hA hS (ce_rc_7 hK hA ha1) hl rfl rfl (Nat.le_of_ble_eq_true rfl) dL_whole_2 ⟨(Nat.le_of_ble_eq_true rfl), (Nat.le_of_ble_eq_true rfl)⟩ (fun _ H locs hA hS => ?_) (fun lt => absurd rfl lt)
    cases h
    exact ce_iretW hx hb hr hlocks hA hS (Nat.le_of_ble_eq_true rfl) (Nat.le_of_ble_eq_true rfl) dL_whole_5
  · have h := ce_ie c4 h
    cases h
def f0_L_would (M : ce_M) (a1 : Nat) (a2 : Int32) (a3 : Int32) (a4 : Int32) : Option Int32 :=
  ce_b2 (f_X7_wouldReach a1 M a2 a3 a4) (fun (x1 : Int32) (t2 : Nat) =>
  if t2 = 0 then
    some x1
  else
    none)
set_option maxRecDepth 100000 in
set_option maxHeartbeats 4000000 in
theorem c0_L_would (l : Launch) (hfl : l.stackTraces = false) (X : ce_X) (G : ce_G) (b : Nat) {a1 : Nat} {a2 : Int32} {a3 : Int32} {a4 : Int32} {M : ce_M} (ha1 : ce_kd a1 = 7) {r : Int32} (h : f0_L_would M a1 a2 a3 a4 = some r) : ce_CtW l yL_would cL_would 5 (some .int) [(0, 7, 8, 15), (0, 7, 13, 18)] 8 124 0 0 X G b [.ref (b + a1), .int a2, .int a3, .int a4] M (some (.int r)) M := by
  refine ce_ofWW (own := RL) (by decide) rfl (Nat.le_of_ble_eq_true rfl) (fun p e s m below meth c ls hx hb hr hlocks hml hown hB hF hA hl hS htab => ?_)
  have hK := hF.1
  have hl : lv_has ls 5 [(0, .ref (b + a1)), (1, .int a2), (2, .int a3), (3, .int a4)] := hl
  unfold f0_L_would at h
  refine lv_aload_n hx hb dL_would_0 rfl (lv_at hl 0 rfl) ?_
  refine lv_iload_n hx hb dL_would_1 rfl (lv_at hl 1 rfl) ?_
  refine lv_iload_n hx hb dL_would_2 rfl (lv_at hl 2 rfl) ?_
  refine lv_iload_n hx hb dL_would_3 rfl (lv_at hl 3 rfl) ?_
  obtain ⟨x1, t2, g3, h⟩ := ce_b2_e h
  by_cases c4 : t2 = 0
  · have h := ce_it c4 h
    rw [c4] at g3
    refine ce_callVXi (tc := 0) (As := [.int a2, .int a3, .int a4]) (rest := []) hx hb hml hown hB (c0_X7_wouldReach l hfl X G b ha1 g3) ce_v_X7_wouldReach ce_w720 ⟨Nat.le_of_ble_eq_true rfl, Nat.le_of_ble_eq_true rfl⟩ hF hA hS (ce_rc_7 hK hA ha1) hl rfl rfl (Nat.le_of_ble_eq_true rfl) dL_would_4 ⟨(Nat.le_of_ble_eq_true rfl), (Nat.le_of_ble_eq_true rfl)⟩ (fun _ H locs hA hS => ?_) (fun lt => absurd rfl lt)
    cases h
    exact ce_iretW hx hb hr hlocks hA hS (Nat.le_of_ble_eq_true rfl) (Nat.le_of_ble_eq_true rfl) dL_would_7
  · have h := ce_ie c4 h
    cases h
def f0_L_why (M : ce_M) (a1 : Nat) (a2 : Int32) (a3 : Int32) (a4 : Int32) : Option Int32 :=
  ce_b2 (f_X7_reason a1 M a2 a3 a4) (fun (x1 : Int32) (t2 : Nat) =>
  if t2 = 0 then
    some x1
  else
    none)
set_option maxRecDepth 100000 in
set_option maxHeartbeats 4000000 in
theorem c0_L_why (l : Launch) (hfl : l.stackTraces = false) (X : ce_X) (G : ce_G) (b : Nat) {a1 : Nat} {a2 : Int32} {a3 : Int32} {a4 : Int32} {M : ce_M} (ha1 : ce_kd a1 = 7) {r : Int32} (h : f0_L_why M a1 a2 a3 a4 = some r) : ce_CtW l yL_why cL_why 5 (some .int) [(0, 7, 8, 15), (0, 7, 13, 18)] 8 124 0 0 X G b [.ref (b + a1), .int a2, .int a3, .int a4] M (some (.int r)) M := by
  refine ce_ofWW (own := RL) (by decide) rfl (Nat.le_of_ble_eq_true rfl) (fun p e s m below meth c ls hx hb hr hlocks hml hown hB hF hA hl hS htab => ?_)
  have hK := hF.1
  have hl : lv_has ls 5 [(0, .ref (b + a1)), (1, .int a2), (2, .int a3), (3, .int a4)] := hl
  unfold f0_L_why at h
  refine lv_aload_n hx hb dL_why_0 rfl (lv_at hl 0 rfl) ?_
  refine lv_iload_n hx hb dL_why_1 rfl (lv_at hl 1 rfl) ?_
  refine lv_iload_n hx hb dL_why_2 rfl (lv_at hl 2 rfl) ?_
  refine lv_iload_n hx hb dL_why_3 rfl (lv_at hl 3 rfl) ?_
  obtain ⟨x1, t2, g3, h⟩ := ce_b2_e h
  by_cases c4 : t2 = 0
  · have h := ce_it c4 h
    rw [c4] at g3
    refine ce_callVXi (tc := 0) (As := [.int a2, .int a3, .int a4]) (rest := []) hx hb hml hown hB (c0_X7_reason l hfl X G b ha1 g3) ce_v_X7_reason ce_w729 ⟨Nat.le_of_ble_eq_true rfl, Nat.le_of_ble_eq_true rfl⟩ hF hA hS (ce_rc_7 hK hA ha1) hl rfl rfl (Nat.le_of_ble_eq_true rfl) dL_why_4 ⟨(Nat.le_of_ble_eq_true rfl), (Nat.le_of_ble_eq_true rfl)⟩ (fun _ H locs hA hS => ?_) (fun lt => absurd rfl lt)
    cases h
    exact ce_iretW hx hb hr hlocks hA hS (Nat.le_of_ble_eq_true rfl) (Nat.le_of_ble_eq_true rfl) dL_why_7
  · have h := ce_ie c4 h
    cases h
def f0_L_served (M : ce_M) (a1 : Nat) (a2 : Int32) : Option Int32 :=
  ce_b2 (f_X7_servedIn a1 M a2) (fun (x1 : Int32) (t2 : Nat) =>
  if t2 = 0 then
    some x1
  else
    none)
set_option maxRecDepth 100000 in
set_option maxHeartbeats 4000000 in
theorem c0_L_served (l : Launch) (hfl : l.stackTraces = false) (X : ce_X) (G : ce_G) (b : Nat) {a1 : Nat} {a2 : Int32} {M : ce_M} (ha1 : ce_kd a1 = 7) {r : Int32} (h : f0_L_served M a1 a2 = some r) : ce_CtW l yL_served cL_served 3 (some .int) [(0, 5, 6, 15)] 8 122 0 0 X G b [.ref (b + a1), .int a2] M (some (.int r)) M := by
  refine ce_ofWW (own := RL) (by decide) rfl (Nat.le_of_ble_eq_true rfl) (fun p e s m below meth c ls hx hb hr hlocks hml hown hB hF hA hl hS htab => ?_)
  have hK := hF.1
  have hl : lv_has ls 3 [(0, .ref (b + a1)), (1, .int a2)] := hl
  unfold f0_L_served at h
  refine lv_aload_n hx hb dL_served_0 rfl (lv_at hl 0 rfl) ?_
  refine lv_iload_n hx hb dL_served_1 rfl (lv_at hl 1 rfl) ?_
  obtain ⟨x1, t2, g3, h⟩ := ce_b2_e h
  by_cases c4 : t2 = 0
  · have h := ce_it c4 h
    rw [c4] at g3
    refine ce_callVXi (tc := 0) (As := [.int a2]) (rest := []) hx hb hml hown hB (c0_X7_servedIn l hfl X G b ha1 g3) ce_v_X7_servedIn ce_w741 ⟨Nat.le_of_ble_eq_true rfl, Nat.le_of_ble_eq_true rfl⟩ hF hA hS (ce_rc_7 hK hA ha1) hl rfl rfl (Nat.le_of_ble_eq_true rfl) dL_served_2 ⟨(Nat.le_of_ble_eq_true rfl), (Nat.le_of_ble_eq_true rfl)⟩ (fun _ H locs hA hS => ?_) (fun lt => absurd rfl lt)
    cases h
    exact ce_iretW hx hb hr hlocks hA hS (Nat.le_of_ble_eq_true rfl) (Nat.le_of_ble_eq_true rfl) dL_served_5
  · have h := ce_ie c4 h
    cases h
def f0_L_empty (M : ce_M) (a1 : Nat) (a2 : Int32) : Option (ce_M × Int32) :=
  ce_b3 (f_X7_emptyIn a1 M a2) (fun (M1 : ce_M) (x2 : Int32) (t3 : Nat) =>
  if t3 = 0 then
    some (M1, x2)
  else
    none)
set_option maxRecDepth 100000 in
set_option maxHeartbeats 4000000 in
theorem c0_L_empty (l : Launch) (hfl : l.stackTraces = false) (X : ce_X) (G : ce_G) (b : Nat) {a1 : Nat} {a2 : Int32} {M : ce_M} (ha1 : ce_kd a1 = 7) {M' : ce_M} {r : Int32} (h : f0_L_empty M a1 a2 = some (M', r)) : ce_CtW l yL_empty cL_empty 3 (some .int) [(0, 5, 6, 15)] 8 131 0 0 X G b [.ref (b + a1), .int a2] M (some (.int r)) M' := by
  refine ce_ofWW (own := RL) (by decide) rfl (Nat.le_of_ble_eq_true rfl) (fun p e s m below meth c ls hx hb hr hlocks hml hown hB hF hA hl hS htab => ?_)
  have hK := hF.1
  have hl : lv_has ls 3 [(0, .ref (b + a1)), (1, .int a2)] := hl
  unfold f0_L_empty at h
  refine lv_aload_n hx hb dL_empty_0 rfl (lv_at hl 0 rfl) ?_
  refine lv_iload_n hx hb dL_empty_1 rfl (lv_at hl 1 rfl) ?_
  obtain ⟨M1, x2, t3, g4, h⟩ := ce_b3_e h
  by_cases c5 : t3 = 0
  · have h := ce_it c5 h
    rw [c5] at g4
    refine ce_callVXi (tc := 0) (As := [.int a2]) (rest := []) hx hb hml hown hB (c0_X7_emptyIn l hfl X G b ha1 g4) ce_v_X7_emptyIn ce_w756 ⟨Nat.le_of_ble_eq_true rfl, Nat.le_of_ble_eq_true rfl⟩ hF hA hS (ce_rc_7 hK hA ha1) hl rfl rfl (Nat.le_of_ble_eq_true rfl) dL_empty_2 ⟨(Nat.le_of_ble_eq_true rfl), (Nat.le_of_ble_eq_true rfl)⟩ (fun _ H locs hA hS => ?_) (fun lt => absurd rfl lt)
    cases h
    exact ce_iretW hx hb hr hlocks hA hS (Nat.le_of_ble_eq_true rfl) (Nat.le_of_ble_eq_true rfl) dL_empty_5
  · have h := ce_ie c5 h
    cases h
def f0_L_covers (M : ce_M) (a1 : Nat) (a2 : Int32) : Option Int32 :=
  ce_b2 (f_X7_covered a1 M a2) (fun (x1 : Int32) (t2 : Nat) =>
  if t2 = 0 then
    some x1
  else
    none)
set_option maxRecDepth 100000 in
set_option maxHeartbeats 4000000 in
theorem c0_L_covers (l : Launch) (hfl : l.stackTraces = false) (X : ce_X) (G : ce_G) (b : Nat) {a1 : Nat} {a2 : Int32} {M : ce_M} (ha1 : ce_kd a1 = 7) {r : Int32} (h : f0_L_covers M a1 a2 = some r) : ce_CtW l yL_covers cL_covers 3 (some .int) [(0, 5, 6, 15)] 8 122 0 0 X G b [.ref (b + a1), .int a2] M (some (.int r)) M := by
  refine ce_ofWW (own := RL) (by decide) rfl (Nat.le_of_ble_eq_true rfl) (fun p e s m below meth c ls hx hb hr hlocks hml hown hB hF hA hl hS htab => ?_)
  have hK := hF.1
  have hl : lv_has ls 3 [(0, .ref (b + a1)), (1, .int a2)] := hl
  unfold f0_L_covers at h
  refine lv_aload_n hx hb dL_covers_0 rfl (lv_at hl 0 rfl) ?_
  refine lv_iload_n hx hb dL_covers_1 rfl (lv_at hl 1 rfl) ?_
  obtain ⟨x1, t2, g3, h⟩ := ce_b2_e h
  by_cases c4 : t2 = 0
  · have h := ce_it c4 h
    rw [c4] at g3
    refine ce_callVXi (tc := 0) (As := [.int a2]) (rest := []) hx hb hml hown hB (c0_X7_covered l hfl X G b ha1 g3) ce_v_X7_covered ce_w768 ⟨Nat.le_of_ble_eq_true rfl, Nat.le_of_ble_eq_true rfl⟩ hF hA hS (ce_rc_7 hK hA ha1) hl rfl rfl (Nat.le_of_ble_eq_true rfl) dL_covers_2 ⟨(Nat.le_of_ble_eq_true rfl), (Nat.le_of_ble_eq_true rfl)⟩ (fun _ H locs hA hS => ?_) (fun lt => absurd rfl lt)
    cases h
    exact ce_iretW hx hb hr hlocks hA hS (Nat.le_of_ble_eq_true rfl) (Nat.le_of_ble_eq_true rfl) dL_covers_5
  · have h := ce_ie c4 h
    cases h
def f0_L_back (M : ce_M) (a1 : Nat) : Option (ce_M × Int32) :=
  ce_b3 (f_X7_undo a1 M) (fun (M1 : ce_M) (x2 : Int32) (t3 : Nat) =>
  if t3 = 0 then
    some (M1, x2)
  else
    none)
set_option maxRecDepth 100000 in
set_option maxHeartbeats 4000000 in
theorem c0_L_back (l : Launch) (hfl : l.stackTraces = false) (X : ce_X) (G : ce_G) (b : Nat) {a1 : Nat} {M : ce_M} (ha1 : ce_kd a1 = 7) {M' : ce_M} {r : Int32} (h : f0_L_back M a1 = some (M', r)) : ce_CtW l yL_back cL_back 2 (some .int) [(0, 4, 5, 21)] 8 145 0 0 X G b [.ref (b + a1)] M (some (.int r)) M' := by
  refine ce_ofWW (own := RL) (by decide) rfl (Nat.le_of_ble_eq_true rfl) (fun p e s m below meth c ls hx hb hr hlocks hml hown hB hF hA hl hS htab => ?_)
  have hK := hF.1
  have hl : lv_has ls 2 [(0, .ref (b + a1))] := hl
  unfold f0_L_back at h
  refine lv_aload_n hx hb dL_back_0 rfl (lv_at hl 0 rfl) ?_
  obtain ⟨M1, x2, t3, g4, h⟩ := ce_b3_e h
  by_cases c5 : t3 = 0
  · have h := ce_it c5 h
    rw [c5] at g4
    refine ce_callVXi (tc := 0) (As := []) (rest := []) hx hb hml hown hB (c0_X7_undo l hfl X G b ha1 g4) ce_v_X7_undo ce_w606 ⟨Nat.le_of_ble_eq_true rfl, Nat.le_of_ble_eq_true rfl⟩ hF hA hS (ce_rc_7 hK hA ha1) hl rfl rfl (Nat.le_of_ble_eq_true rfl) dL_back_1 ⟨(Nat.le_of_ble_eq_true rfl), (Nat.le_of_ble_eq_true rfl)⟩ (fun _ H locs hA hS => ?_) (fun lt => absurd rfl lt)
    cases h
    exact ce_iretW hx hb hr hlocks hA hS (Nat.le_of_ble_eq_true rfl) (Nat.le_of_ble_eq_true rfl) dL_back_4
  · have h := ce_ie c5 h
    cases h
