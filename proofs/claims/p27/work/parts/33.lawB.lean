def f_L_isOne_L379 (M : ce_M) (a1 : Nat) (a2 : Int32) (u40 : Int32 → Option Int32) (rec37 : Int32 → Int32 → Int32 → Option Int32) (x34 : Int32) (x35 : Int32) (x36 : Int32) : Option Int32 :=
  ce_b1 (f0_L_one M a1 a2 6) (fun (x129 : Int32) =>
  if x129 ≤ x36 then
    u40 x34
  else
    if x34 = 0 then
      u40 x34
    else
      ce_b1 (f0_L_box M a1 a2 x36) (fun (x133 : Int32) =>
      if x133 ≤ x35 then
        ce_nm (x36 + 1) (fun (x136 : Int32) =>
        rec37 0 x133 x136)
      else
        ce_b1 (f0_L_whole M a1 2) (fun (x138 : Int32) =>
        if x138 ≤ x133 then
          ce_nm (x36 + 1) (fun (x141 : Int32) =>
          rec37 0 x133 x141)
        else
          ce_b1 (f0_L_event M a1 x133 4) (fun (x143 : Int32) =>
          if ((x143 >>> (a2 &&& 31)) &&& 1) = 1 then
            ce_b1 (f0_L_event M a1 x133 5) (fun (x148 : Int32) =>
            if ((x148 >>> (a2 &&& 31)) &&& 1) = 0 then
              ce_nm (x36 + 1) (fun (x153 : Int32) =>
              rec37 1 x133 x153)
            else
              ce_nm (x36 + 1) (fun (x151 : Int32) =>
              rec37 0 x133 x151))
          else
            ce_nm (x36 + 1) (fun (x146 : Int32) =>
            rec37 0 x133 x146)))))
def f_L_isOne_L328 (M : ce_M) (a1 : Nat) (a2 : Int32) (u33 : Int32 → Int32 → Option Int32) (rec29 : Int32 → Int32 → Int32 → Option Int32) (x26 : Int32) (x27 : Int32) (x28 : Int32) : Option Int32 :=
  ce_b1 (f0_L_whole M a1 2) (fun (x156 : Int32) =>
  if x156 ≤ x28 then
    u33 x26 x27
  else
    ce_b1 (f0_L_event M a1 x28 4) (fun (x159 : Int32) =>
    ce_nm (x26 + ((x159 >>> (a2 &&& 31)) &&& 1)) (fun (x161 : Int32) =>
    ce_b1 (f0_L_event M a1 x28 5) (fun (x163 : Int32) =>
    ce_nm (x27 + ((x163 >>> (a2 &&& 31)) &&& 1)) (fun (x165 : Int32) =>
    ce_nm (x28 + 1) (fun (x167 : Int32) =>
    rec29 x161 x165 x167))))))
def f_L_isOne_L175 (M : ce_M) (a1 : Nat) (a2 : Int32) (u21 : Int32 → Int32 → Option Int32) (rec17 : Int32 → Int32 → Int32 → Int32 → Option Int32) (x13 : Int32) (x14 : Int32) (x15 : Int32) (x16 : Int32) : Option Int32 :=
  if 10 ≤ x16 then
    u21 x13 x15
  else
    ce_b1 (f0_L_stay M a1 a2 x16 0) (fun (x185 : Int32) =>
    if x185 = (-1) then
      u21 x13 x15
    else
      ce_nm (fun (x190 : Int32) =>
      ce_b1 (f0_L_stay M a1 a2 x16 1) (fun (x192 : Int32) =>
      ce_nm (x15 + 1) (fun (x194 : Int32) =>
      ce_nm (x16 + 1) (fun (x196 : Int32) =>
      rec17 x190 x192 x194 x196)))) (fun (u191 : Int32 → Option Int32) =>
      ce_nm (fun (z189 : Unit) =>
      u191 0) (fun (u188 : Unit → Option Int32) =>
      if x13 = 0 then
        u188 ()
      else
        ce_b1 (f0_L_stay M a1 a2 x16 1) (fun (x201 : Int32) =>
        if x14 < x201 then
          u188 ()
        else
          if x16 = 0 then
            u191 1
          else
            ce_b1 (f0_L_stay M a1 a2 x16 2) (fun (x205 : Int32) =>
            if x205 = x14 then
              u191 1
            else
              u188 ())))))
def f_L_isOne (M : ce_M) (a1 : Nat) (a2 : Int32) : Option Int32 :=
  ce_b1 (f0_L_one M a1 a2 5) (fun (x1 : Int32) =>
  ce_b1 (f0_L_whole M a1 3) (fun (x3 : Int32) =>
  ce_b1 (f0_L_one M a1 a2 6) (fun (x5 : Int32) =>
  ce_nm (fun (x9 : Int32) =>
      ce_nm (fun (x11 : Int32) =>
          ce_nm (fun (x19 : Int32) (x20 : Int32) =>
              ce_nm (fun (x24 : Int32) =>
                  ce_nm (fun (x31 : Int32) (x32 : Int32) =>
                      ce_nm (fun (x39 : Int32) =>
                          ce_nm (fun (x43 : Int32) =>
                              ce_nm (fun (x47 : Int32) =>
                                  if x43 = 0 then
                                    some 0
                                  else
                                    ce_b1 (f0_L_served M a1 a2) (fun (x50 : Int32) =>
                                    ce_nm (fun (x52 : Int32) =>
                                      if x52 = x47 then
                                        ce_b1 (f0_L_served M a1 a2) (fun (x55 : Int32) =>
                                        ce_nm (fun (x57 : Int32) =>
                                          ce_nm (fun (x59 : Int32) =>
                                              if x57 = x59 then
                                                ce_b1 (f0_L_covers M a1 a2) (fun (x62 : Int32) =>
                                                ce_nm (fun (x64 : Int32) =>
                                                  ce_nm (fun (x66 : Int32) =>
                                                      if x64 = x66 then
                                                        if x1 = 0 then
                                                          some 1
                                                        else
                                                          ce_b1 (f0_L_covers M a1 a2) (fun (x70 : Int32) =>
                                                          ce_b1 (f0_L_one M a1 a2 4) (fun (x72 : Int32) =>
                                                          if ((x70 >>> (x72 &&& 31)) &&& 1) = 1 then
                                                            ce_b1 (f0_L_covers M a1 a2) (fun (x75 : Int32) =>
                                                            ce_b1 (f0_L_one M a1 a2 1) (fun (x77 : Int32) =>
                                                            if x77 = 0 then
                                                              if x75 = 65535 then
                                                                some 1
                                                              else
                                                                some 0
                                                            else
                                                              ce_b1 (f0_L_one M a1 a2 1) (fun (x80 : Int32) =>
                                                              if x80 = 2 then
                                                                ce_b1 (f0_L_one M a1 a2 4) (fun (x86 : Int32) =>
                                                                if x75 = (1 <<< (x86 &&& 31)) then
                                                                  some 1
                                                                else
                                                                  some 0)
                                                              else
                                                                ce_b1 (f0_L_covers M a1 a2) (fun (x83 : Int32) =>
                                                                if x75 = x83 then
                                                                  some 1
                                                                else
                                                                  some 0))))
                                                          else
                                                            some 0))
                                                      else
                                                        some 0) (fun (u67 : Int32 → Option Int32) =>
                                                  if x1 = 0 then
                                                    u67 1
                                                  else
                                                    u67 0)) (fun (u65 : Int32 → Option Int32) =>
                                                if x62 = 0 then
                                                  u65 1
                                                else
                                                  u65 0))
                                              else
                                                some 0) (fun (u60 : Int32 → Option Int32) =>
                                          if x1 = 0 then
                                            u60 1
                                          else
                                            u60 0)) (fun (u58 : Int32 → Option Int32) =>
                                        if x55 = (-1) then
                                          u58 1
                                        else
                                          u58 0))
                                      else
                                        some 0) (fun (u53 : Int32 → Option Int32) =>
                                    if x50 = 0 then
                                      u53 1
                                    else
                                      u53 0))) (fun (u48 : Int32 → Option Int32) =>
                              ce_nm (fun (z46 : Unit) =>
                                  u48 0) (fun (u45 : Unit → Option Int32) =>
                              if x1 = 1 then
                                ce_b1 (f0_L_one M a1 a2 2) (fun (x103 : Int32) =>
                                ce_b1 (f0_L_one M a1 a2 4) (fun (x105 : Int32) =>
                                if x103 = x105 then
                                  u48 1
                                else
                                  u45 ()))
                              else
                                u45 ()))) (fun (u44 : Int32 → Option Int32) =>
                          ce_nm (fun (z42 : Unit) =>
                              u44 0) (fun (u41 : Unit → Option Int32) =>
                          if x39 = 0 then
                            u41 ()
                          else
                            ce_b1 (f0_L_one M a1 a2 7) (fun (x111 : Int32) =>
                            if x111 = x31 then
                              ce_b1 (f0_L_one M a1 a2 8) (fun (x114 : Int32) =>
                              if x114 = x32 then
                                ce_b1 (f0_L_one M a1 a2 9) (fun (x117 : Int32) =>
                                ce_b1 (f0_L_one M a1 a2 6) (fun (x119 : Int32) =>
                                if x31 < ((x32 + x117) + x119) then
                                  u41 ()
                                else
                                  if x1 = 0 then
                                    u44 1
                                  else
                                    ce_b1 (f0_L_one M a1 a2 9) (fun (x123 : Int32) =>
                                    ce_b1 (f0_L_one M a1 a2 6) (fun (x125 : Int32) =>
                                    if x31 = ((x32 + x123) + x125) then
                                      u44 1
                                    else
                                      u41 ()))))
                              else
                                u41 ())
                            else
                              u41 ())))) (fun (u40 : Int32 → Option Int32) =>
                      ce_lp3 (f_L_isOne_L379 M a1 a2 u40) ce_FU x24 (-1) 0)) (fun (u33 : Int32 → Int32 → Option Int32) =>
                  ce_lp3 (f_L_isOne_L328 M a1 a2 u33) ce_FU 0 0 0)) (fun (u25 : Int32 → Option Int32) =>
              ce_nm (fun (z23 : Unit) =>
                  u25 0) (fun (u22 : Unit → Option Int32) =>
              if x19 = 0 then
                u22 ()
              else
                if x20 ≤ 0 then
                  u22 ()
                else
                  ce_b1 (f0_L_stay M a1 a2 10 0) (fun (x173 : Int32) =>
                  if x173 = (-1) then
                    ce_b1 (f0_L_one M a1 a2 10) (fun (x176 : Int32) =>
                    if 9 ≤ x176 then
                      if x20 = 10 then
                        u25 1
                      else
                        u22 ()
                    else
                      ce_b1 (f0_L_one M a1 a2 10) (fun (x180 : Int32) =>
                      if x20 = (x180 + 1) then
                        u25 1
                      else
                        u22 ()))
                  else
                    u22 ())))) (fun (u21 : Int32 → Int32 → Option Int32) =>
          ce_lp4 (f_L_isOne_L175 M a1 a2 u21) ce_FU x9 x11 0 0)) (fun (u12 : Int32 → Option Int32) =>
      if x1 = 1 then
        u12 x3
      else
        ce_b1 (f0_L_stay M a1 a2 0 2) (fun (x210 : Int32) =>
        u12 x210))) (fun (u10 : Int32 → Option Int32) =>
  ce_nm (fun (z8 : Unit) =>
      u10 0) (fun (u7 : Unit → Option Int32) =>
  if x5 < 0 then
    u7 ()
  else
    ce_b1 (f0_L_one M a1 a2 6) (fun (x215 : Int32) =>
    if 12 < x215 then
      u7 ()
    else
      ce_b1 (f0_L_one M a1 a2 3) (fun (x218 : Int32) =>
      if x3 < x218 then
        u7 ()
      else
        ce_b1 (f0_L_one M a1 a2 11) (fun (x221 : Int32) =>
        if (x3 + 9) < x221 then
          u7 ()
        else
          ce_b1 (f0_L_stay M a1 a2 0 0) (fun (x224 : Int32) =>
          ce_b1 (f0_L_one M a1 a2 4) (fun (x226 : Int32) =>
          if x224 = x226 then
            ce_b1 (f0_L_stay M a1 a2 0 2) (fun (x229 : Int32) =>
            ce_nm (fun (x231 : Int32) =>
      ce_nm (fun (x233 : Int32) =>
          if x231 = x233 then
            ce_nm (fun (z237 : Unit) =>
              ce_b1 (f0_L_one M a1 a2 0) (fun (x238 : Int32) =>
              if x238 = 2 then
                ce_b1 (f0_L_one M a1 a2 2) (fun (x241 : Int32) =>
                ce_b1 (f0_L_one M a1 a2 4) (fun (x243 : Int32) =>
                if x241 = x243 then
                  u10 1
                else
                  u7 ()))
              else
                u10 1)) (fun (u236 : Unit → Option Int32) =>
            if x1 = 1 then
              u236 ()
            else
              ce_b1 (f0_L_one M a1 a2 6) (fun (x248 : Int32) =>
              if x248 = 0 then
                u236 ()
              else
                u7 ()))
          else
            u7 ()) (fun (u234 : Int32 → Option Int32) =>
      if x1 = 1 then
        u234 1
      else
        u234 0)) (fun (u232 : Int32 → Option Int32) =>
            if x229 = (-1) then
              u232 1
            else
              u232 0))
          else
            u7 ()))))))))))
set_option maxRecDepth 100000 in
set_option maxHeartbeats 4000000 in
theorem c_L_isOne (l : Launch) (hfl : l.stackTraces = false) (X : ce_X) (G : ce_G) (b : Nat) {a1 : Nat} {a2 : Int32} {M : ce_M} (ha1 : ce_kd a1 = 7) {r : Int32} (h : f_L_isOne M a1 a2 = some r) : ce_Ct l yL_isOne cL_isOne 12 (some .boolean) 9 148 X G b [.ref (b + a1), .int a2] M (some (.int r)) M := by
  refine ce_ofW (own := RL) (by decide) rfl (Nat.le_of_ble_eq_true rfl) (fun p e s m below meth c ls hx hb hr hlocks hml hown hB hF hA hl hS => ?_)
  have hK := hF.1
  have hl : lv_has ls 12 [(0, .ref (b + a1)), (1, .int a2)] := hl
  unfold f_L_isOne at h
  refine lv_aload_n hx hb dL_isOne_0 rfl (lv_at hl 0 rfl) ?_
  refine lv_iload_n hx hb dL_isOne_1 rfl (lv_at hl 1 rfl) ?_
  refine lv_iconst (v := 5) hx hb dL_isOne_2 (by decide) ?_
  obtain ⟨x1, g2, h⟩ := ce_b1_e h
  refine ce_callWi (As := [.ref (b + a1), .int a2, .int 5]) (rest := []) hx hb hml hown hB (c0_L_one l hfl X G b ha1 g2) ce_s_L_one ce_w619 ⟨Nat.le_of_ble_eq_true rfl, Nat.le_of_ble_eq_true rfl⟩ hF hA hS hl rfl rfl (Nat.le_of_ble_eq_true rfl) dL_isOne_3 ⟨Nat.le_of_ble_eq_true rfl, Nat.le_of_ble_eq_true rfl⟩ (fun H locs hA hS => ?_)
  refine lv_istore_n (lv' := [(2, .int x1), (0, .ref (b + a1)), (1, .int a2)]) hx hb dL_isOne_6 rfl hl (by decide) rfl (fun ls hl => ?_)
  refine lv_aload_n hx hb dL_isOne_7 rfl (lv_at hl 1 rfl) ?_
  refine lv_iconst (v := 3) hx hb dL_isOne_8 (by decide) ?_
  obtain ⟨x3, g4, h⟩ := ce_b1_e h
  refine ce_callWi (As := [.ref (b + a1), .int 3]) (rest := []) hx hb hml hown hB (c0_L_whole l hfl X G b ha1 g4) ce_s_L_whole ce_w579 ⟨Nat.le_of_ble_eq_true rfl, Nat.le_of_ble_eq_true rfl⟩ hF hA hS hl rfl rfl (Nat.le_of_ble_eq_true rfl) dL_isOne_9 ⟨Nat.le_of_ble_eq_true rfl, Nat.le_of_ble_eq_true rfl⟩ (fun H locs hA hS => ?_)
  refine lv_istore_n (lv' := [(3, .int x3), (2, .int x1), (0, .ref (b + a1)), (1, .int a2)]) hx hb dL_isOne_12 rfl hl (by decide) rfl (fun ls hl => ?_)
  refine lv_aload_n hx hb dL_isOne_13 rfl (lv_at hl 2 rfl) ?_
  refine lv_iload_n hx hb dL_isOne_14 rfl (lv_at hl 3 rfl) ?_
  refine lv_bipush (v := 6) hx hb dL_isOne_15 (by decide) ?_
  obtain ⟨x5, g6, h⟩ := ce_b1_e h
  refine ce_callWi (As := [.ref (b + a1), .int a2, .int 6]) (rest := []) hx hb hml hown hB (c0_L_one l hfl X G b ha1 g6) ce_s_L_one ce_w619 ⟨Nat.le_of_ble_eq_true rfl, Nat.le_of_ble_eq_true rfl⟩ hF hA hS hl rfl rfl (Nat.le_of_ble_eq_true rfl) dL_isOne_17 ⟨Nat.le_of_ble_eq_true rfl, Nat.le_of_ble_eq_true rfl⟩ (fun H locs hA hS => ?_)
  obtain ⟨u10, e212, h⟩ := ce_nm_e h
  have Ju10 : ∀ (x9 : Int32), u10 x9 = some r → ce_Wg p l e (ce_R 9 148 0 0) s m (([.ref (b + a1), .int a2] : List Value).toArray) below meth c 0 0 (MQ below (ce_Q X b M (some (.int r))) ([.ref (b + a1), .int a2] : List Value).toArray s 0 0 (ce_Ab b)) X b M 12 [(0, .ref (b + a1)), (1, .int a2), (2, .int x1), (3, .int x3)] 149 [.int x9] := by
    intro x9 h  H locs ls hA hS hl
    subst e212
    refine lv_istore (lv' := [(4, .int x9), (0, .ref (b + a1)), (1, .int a2), (2, .int x1), (3, .int x3)]) hx hb dL_isOne_149 hl (by decide) rfl (fun ls hl => ?_)
    refine lv_iload_n hx hb dL_isOne_151 rfl (lv_at hl 3 rfl) ?_
    refine lv_iconst (v := 1) hx hb dL_isOne_152 (by decide) ?_
    obtain ⟨u12, e208, h⟩ := ce_nm_e h
    have Ju12 : ∀ (x11 : Int32), u12 x11 = some r → ce_Wg p l e (ce_R 9 148 0 0) s m (([.ref (b + a1), .int a2] : List Value).toArray) below meth c 0 0 (MQ below (ce_Q X b M (some (.int r))) ([.ref (b + a1), .int a2] : List Value).toArray s 0 0 (ce_Ab b)) X b M 12 [(0, .ref (b + a1)), (1, .int a2), (2, .int x1), (4, .int x9)] 167 [.int x11] := by
      intro x11 h  H locs ls hA hS hl
      subst e208
      refine lv_istore (lv' := [(5, .int x11), (0, .ref (b + a1)), (1, .int a2), (2, .int x1), (4, .int x9)]) hx hb dL_isOne_167 hl (by decide) rfl (fun ls hl => ?_)
      refine lv_iconst (v := 0) hx hb dL_isOne_169 (by decide) ?_
      refine lv_istore (lv' := [(6, .int 0), (5, .int x11), (0, .ref (b + a1)), (1, .int a2), (2, .int x1), (4, .int x9)]) hx hb dL_isOne_170 hl (by decide) rfl (fun ls hl => ?_)
      refine lv_iconst (v := 0) hx hb dL_isOne_172 (by decide) ?_
      refine lv_istore (lv' := [(7, .int 0), (6, .int 0), (5, .int x11), (0, .ref (b + a1)), (1, .int a2), (2, .int x1), (4, .int x9)]) hx hb dL_isOne_173 hl (by decide) rfl (fun ls hl => ?_)
      obtain ⟨u21, e183, h⟩ := ce_nm_e h
      have Ju21 : ∀ (x19 : Int32) (x20 : Int32), u21 x19 x20 = some r → ce_Wg p l e (ce_R 9 148 0 0) s m (([.ref (b + a1), .int a2] : List Value).toArray) below meth c 0 0 (MQ below (ce_Q X b M (some (.int r))) ([.ref (b + a1), .int a2] : List Value).toArray s 0 0 (ce_Ab b)) X b M 12 [(0, .ref (b + a1)), (1, .int a2), (2, .int x1), (4, .int x19), (6, .int x20)] 256 [] := by
        intro x19 x20 h  H locs ls hA hS hl
        subst e183
        refine lv_iload hx hb dL_isOne_256 (lv_at hl 3 rfl) ?_
        obtain ⟨u25, e169, h⟩ := ce_nm_e h
        have Ju25 : ∀ (x24 : Int32), u25 x24 = some r → ce_Wg p l e (ce_R 9 148 0 0) s m (([.ref (b + a1), .int a2] : List Value).toArray) below meth c 0 0 (MQ below (ce_Q X b M (some (.int r))) ([.ref (b + a1), .int a2] : List Value).toArray s 0 0 (ce_Ab b)) X b M 12 [(0, .ref (b + a1)), (1, .int a2), (2, .int x1)] 314 [.int x24] := by
          intro x24 h  H locs ls hA hS hl
          subst e169
          refine lv_istore (lv' := [(4, .int x24), (0, .ref (b + a1)), (1, .int a2), (2, .int x1)]) hx hb dL_isOne_314 hl (by decide) rfl (fun ls hl => ?_)
          refine lv_iconst (v := 0) hx hb dL_isOne_316 (by decide) ?_
          refine lv_istore (lv' := [(7, .int 0), (4, .int x24), (0, .ref (b + a1)), (1, .int a2), (2, .int x1)]) hx hb dL_isOne_317 hl (by decide) rfl (fun ls hl => ?_)
          refine lv_iconst (v := 0) hx hb dL_isOne_319 (by decide) ?_
          refine lv_istore (lv' := [(8, .int 0), (7, .int 0), (4, .int x24), (0, .ref (b + a1)), (1, .int a2), (2, .int x1)]) hx hb dL_isOne_320 hl (by decide) rfl (fun ls hl => ?_)
          refine lv_iconst (v := (-1)) hx hb dL_isOne_322 (by decide) ?_
          refine lv_istore (lv' := [(9, .int (-1)), (8, .int 0), (7, .int 0), (4, .int x24), (0, .ref (b + a1)), (1, .int a2), (2, .int x1)]) hx hb dL_isOne_323 hl (by decide) rfl (fun ls hl => ?_)
          refine lv_iconst (v := 0) hx hb dL_isOne_325 (by decide) ?_
          refine lv_istore (lv' := [(10, .int 0), (9, .int (-1)), (8, .int 0), (7, .int 0), (4, .int x24), (0, .ref (b + a1)), (1, .int a2), (2, .int x1)]) hx hb dL_isOne_326 hl (by decide) rfl (fun ls hl => ?_)
          obtain ⟨u33, e155, h⟩ := ce_nm_e h
          have Ju33 : ∀ (x31 : Int32) (x32 : Int32), u33 x31 x32 = some r → ce_Wg p l e (ce_R 9 148 0 0) s m (([.ref (b + a1), .int a2] : List Value).toArray) below meth c 0 0 (MQ below (ce_Q X b M (some (.int r))) ([.ref (b + a1), .int a2] : List Value).toArray s 0 0 (ce_Ab b)) X b M 12 [(0, .ref (b + a1)), (1, .int a2), (2, .int x1), (4, .int x24), (7, .int x31), (8, .int x32), (9, .int (-1))] 376 [] := by
            intro x31 x32 h  H locs ls hA hS hl
            subst e155
            refine lv_iconst (v := 0) hx hb dL_isOne_376 (by decide) ?_
            refine lv_istore (lv' := [(10, .int 0), (0, .ref (b + a1)), (1, .int a2), (2, .int x1), (4, .int x24), (7, .int x31), (8, .int x32), (9, .int (-1))]) hx hb dL_isOne_377 hl (by decide) rfl (fun ls hl => ?_)
            obtain ⟨u40, e128, h⟩ := ce_nm_e h
            have Ju40 : ∀ (x39 : Int32), u40 x39 = some r → ce_Wg p l e (ce_R 9 148 0 0) s m (([.ref (b + a1), .int a2] : List Value).toArray) below meth c 0 0 (MQ below (ce_Q X b M (some (.int r))) ([.ref (b + a1), .int a2] : List Value).toArray s 0 0 (ce_Ab b)) X b M 12 [(0, .ref (b + a1)), (1, .int a2), (2, .int x1), (4, .int x39), (7, .int x31), (8, .int x32)] 468 [] := by
              intro x39 h  H locs ls hA hS hl
              subst e128
              refine lv_iload hx hb dL_isOne_468 (lv_at hl 3 rfl) ?_
              obtain ⟨u44, e108, h⟩ := ce_nm_e h
              have Ju44 : ∀ (x43 : Int32), u44 x43 = some r → ce_Wg p l e (ce_R 9 148 0 0) s m (([.ref (b + a1), .int a2] : List Value).toArray) below meth c 0 0 (MQ below (ce_Q X b M (some (.int r))) ([.ref (b + a1), .int a2] : List Value).toArray s 0 0 (ce_Ab b)) X b M 12 [(0, .ref (b + a1)), (1, .int a2), (2, .int x1)] 552 [.int x43] := by
                intro x43 h  H locs ls hA hS hl
                subst e108
                refine lv_istore (lv' := [(4, .int x43), (0, .ref (b + a1)), (1, .int a2), (2, .int x1)]) hx hb dL_isOne_552 hl (by decide) rfl (fun ls hl => ?_)
                refine lv_iload_n hx hb dL_isOne_554 rfl (lv_at hl 3 rfl) ?_
                refine lv_iconst (v := 1) hx hb dL_isOne_555 (by decide) ?_
                obtain ⟨u48, e100, h⟩ := ce_nm_e h
                have Ju48 : ∀ (x47 : Int32), u48 x47 = some r → ce_Wg p l e (ce_R 9 148 0 0) s m (([.ref (b + a1), .int a2] : List Value).toArray) below meth c 0 0 (MQ below (ce_Q X b M (some (.int r))) ([.ref (b + a1), .int a2] : List Value).toArray s 0 0 (ce_Ab b)) X b M 12 [(0, .ref (b + a1)), (1, .int a2), (2, .int x1), (4, .int x43)] 579 [.int x47] := by
                  intro x47 h  H locs ls hA hS hl
                  subst e100
                  refine lv_istore (lv' := [(10, .int x47), (0, .ref (b + a1)), (1, .int a2), (2, .int x1), (4, .int x43)]) hx hb dL_isOne_579 hl (by decide) rfl (fun ls hl => ?_)
                  refine lv_iload hx hb dL_isOne_581 (lv_at hl 4 rfl) ?_
                  refine lv_if_eq (tgt := 729) hx hb dL_isOne_583 (by decide) (fun c49 => ?_) (fun c49 => ?_)
                  · have h := ce_it c49 h
                    refine lv_iconst (v := 0) hx hb dL_isOne_729 (by decide) ?_
                    cases h
                    exact ce_zret hx hb hr hlocks (Or.inl rfl) hA hS dL_isOne_730
                  · have h := ce_ie c49 h
                    refine lv_aload_n hx hb dL_isOne_586 rfl (lv_at hl 1 rfl) ?_
                    refine lv_iload_n hx hb dL_isOne_587 rfl (lv_at hl 2 rfl) ?_
                    obtain ⟨x50, g51, h⟩ := ce_b1_e h
                    refine ce_callWi (As := [.ref (b + a1), .int a2]) (rest := []) hx hb hml hown hB (c0_L_served l hfl X G b ha1 g51) ce_s_L_served ce_w738 ⟨Nat.le_of_ble_eq_true rfl, Nat.le_of_ble_eq_true rfl⟩ hF hA hS hl rfl rfl (Nat.le_of_ble_eq_true rfl) dL_isOne_588 ⟨Nat.le_of_ble_eq_true rfl, Nat.le_of_ble_eq_true rfl⟩ (fun H locs hA hS => ?_)
                    obtain ⟨u53, e98, h⟩ := ce_nm_e h
                    have Ju53 : ∀ (x52 : Int32), u53 x52 = some r → ce_Wg p l e (ce_R 9 148 0 0) s m (([.ref (b + a1), .int a2] : List Value).toArray) below meth c 0 0 (MQ below (ce_Q X b M (some (.int r))) ([.ref (b + a1), .int a2] : List Value).toArray s 0 0 (ce_Ab b)) X b M 12 [(0, .ref (b + a1)), (1, .int a2), (2, .int x1), (10, .int x47)] 599 [.int x52] := by
                      intro x52 h  H locs ls hA hS hl
                      subst e98
                      refine lv_iload hx hb dL_isOne_599 (lv_at hl 3 rfl) ?_
                      refine lv_icmp_ne (tgt := 729) hx hb dL_isOne_601 (by decide) (fun c54 => ?_) (fun c54 => ?_)
                      · have h := ce_ie c54 h
                        refine lv_iconst (v := 0) hx hb dL_isOne_729 (by decide) ?_
                        cases h
                        exact ce_zret hx hb hr hlocks (Or.inl rfl) hA hS dL_isOne_730
                      · have h := ce_it c54 h
                        refine lv_aload_n hx hb dL_isOne_604 rfl (lv_at hl 0 rfl) ?_
                        refine lv_iload_n hx hb dL_isOne_605 rfl (lv_at hl 1 rfl) ?_
                        obtain ⟨x55, g56, h⟩ := ce_b1_e h
                        refine ce_callWi (As := [.ref (b + a1), .int a2]) (rest := []) hx hb hml hown hB (c0_L_served l hfl X G b ha1 g56) ce_s_L_served ce_w738 ⟨Nat.le_of_ble_eq_true rfl, Nat.le_of_ble_eq_true rfl⟩ hF hA hS hl rfl rfl (Nat.le_of_ble_eq_true rfl) dL_isOne_606 ⟨Nat.le_of_ble_eq_true rfl, Nat.le_of_ble_eq_true rfl⟩ (fun H locs hA hS => ?_)
                        refine lv_iconst (v := (-1)) hx hb dL_isOne_609 (by decide) ?_
                        obtain ⟨u58, e96, h⟩ := ce_nm_e h
                        have Ju58 : ∀ (x57 : Int32), u58 x57 = some r → ce_Wg p l e (ce_R 9 148 0 0) s m (([.ref (b + a1), .int a2] : List Value).toArray) below meth c 0 0 (MQ below (ce_Q X b M (some (.int r))) ([.ref (b + a1), .int a2] : List Value).toArray s 0 0 (ce_Ab b)) X b M 12 [(0, .ref (b + a1)), (1, .int a2), (2, .int x1)] 618 [.int x57] := by
                          intro x57 h  H locs ls hA hS hl
                          subst e96
                          refine lv_iload_n hx hb dL_isOne_618 rfl (lv_at hl 2 rfl) ?_
                          obtain ⟨u60, e94, h⟩ := ce_nm_e h
                          have Ju60 : ∀ (x59 : Int32), u60 x59 = some r → ce_Wg p l e (ce_R 9 148 0 0) s m (([.ref (b + a1), .int a2] : List Value).toArray) below meth c 0 0 (MQ below (ce_Q X b M (some (.int r))) ([.ref (b + a1), .int a2] : List Value).toArray s 0 0 (ce_Ab b)) X b M 12 [(0, .ref (b + a1)), (1, .int a2), (2, .int x1)] 627 [.int x59, .int x57] := by
                            intro x59 h  H locs ls hA hS hl
                            subst e94
                            refine lv_icmp_ne (tgt := 729) hx hb dL_isOne_627 (by decide) (fun c61 => ?_) (fun c61 => ?_)
                            · have h := ce_ie c61 h
                              refine lv_iconst (v := 0) hx hb dL_isOne_729 (by decide) ?_
                              cases h
                              exact ce_zret hx hb hr hlocks (Or.inl rfl) hA hS dL_isOne_730
                            · have h := ce_it c61 h
                              refine lv_aload_n hx hb dL_isOne_630 rfl (lv_at hl 0 rfl) ?_
                              refine lv_iload_n hx hb dL_isOne_631 rfl (lv_at hl 1 rfl) ?_
                              obtain ⟨x62, g63, h⟩ := ce_b1_e h
                              refine ce_callWi (As := [.ref (b + a1), .int a2]) (rest := []) hx hb hml hown hB (c0_L_covers l hfl X G b ha1 g63) ce_s_L_covers ce_w765 ⟨Nat.le_of_ble_eq_true rfl, Nat.le_of_ble_eq_true rfl⟩ hF hA hS hl rfl rfl (Nat.le_of_ble_eq_true rfl) dL_isOne_632 ⟨Nat.le_of_ble_eq_true rfl, Nat.le_of_ble_eq_true rfl⟩ (fun H locs hA hS => ?_)
                              obtain ⟨u65, e92, h⟩ := ce_nm_e h
                              have Ju65 : ∀ (x64 : Int32), u65 x64 = some r → ce_Wg p l e (ce_R 9 148 0 0) s m (([.ref (b + a1), .int a2] : List Value).toArray) below meth c 0 0 (MQ below (ce_Q X b M (some (.int r))) ([.ref (b + a1), .int a2] : List Value).toArray s 0 0 (ce_Ab b)) X b M 12 [(0, .ref (b + a1)), (1, .int a2), (2, .int x1)] 643 [.int x64] := by
                                intro x64 h  H locs ls hA hS hl
                                subst e92
                                refine lv_iload_n hx hb dL_isOne_643 rfl (lv_at hl 2 rfl) ?_
                                obtain ⟨u67, e90, h⟩ := ce_nm_e h
                                have Ju67 : ∀ (x66 : Int32), u67 x66 = some r → ce_Wg p l e (ce_R 9 148 0 0) s m (([.ref (b + a1), .int a2] : List Value).toArray) below meth c 0 0 (MQ below (ce_Q X b M (some (.int r))) ([.ref (b + a1), .int a2] : List Value).toArray s 0 0 (ce_Ab b)) X b M 12 [(0, .ref (b + a1)), (1, .int a2), (2, .int x1)] 652 [.int x66, .int x64] := by
                                  intro x66 h  H locs ls hA hS hl
                                  subst e90
                                  refine lv_icmp_ne (tgt := 729) hx hb dL_isOne_652 (by decide) (fun c68 => ?_) (fun c68 => ?_)
                                  · have h := ce_ie c68 h
                                    refine lv_iconst (v := 0) hx hb dL_isOne_729 (by decide) ?_
                                    cases h
                                    exact ce_zret hx hb hr hlocks (Or.inl rfl) hA hS dL_isOne_730
                                  · have h := ce_it c68 h
                                    refine lv_iload_n hx hb dL_isOne_655 rfl (lv_at hl 2 rfl) ?_
                                    refine lv_if_eq (tgt := 725) hx hb dL_isOne_656 (by decide) (fun c69 => ?_) (fun c69 => ?_)
                                    · have h := ce_it c69 h
                                      refine lv_iconst (v := 1) hx hb dL_isOne_725 (by decide) ?_
                                      refine lv_goto (tgt := 730) hx hb dL_isOne_726 (by decide) ?_
                                      cases h
                                      exact ce_zret hx hb hr hlocks (Or.inr rfl) hA hS dL_isOne_730
                                    · have h := ce_ie c69 h
                                      refine lv_aload_n hx hb dL_isOne_659 rfl (lv_at hl 0 rfl) ?_
                                      refine lv_iload_n hx hb dL_isOne_660 rfl (lv_at hl 1 rfl) ?_
                                      obtain ⟨x70, g71, h⟩ := ce_b1_e h
                                      refine ce_callWi (As := [.ref (b + a1), .int a2]) (rest := []) hx hb hml hown hB (c0_L_covers l hfl X G b ha1 g71) ce_s_L_covers ce_w765 ⟨Nat.le_of_ble_eq_true rfl, Nat.le_of_ble_eq_true rfl⟩ hF hA hS hl rfl rfl (Nat.le_of_ble_eq_true rfl) dL_isOne_661 ⟨Nat.le_of_ble_eq_true rfl, Nat.le_of_ble_eq_true rfl⟩ (fun H locs hA hS => ?_)
                                      refine lv_aload_n hx hb dL_isOne_664 rfl (lv_at hl 0 rfl) ?_
                                      refine lv_iload_n hx hb dL_isOne_665 rfl (lv_at hl 1 rfl) ?_
                                      refine lv_iconst (v := 4) hx hb dL_isOne_666 (by decide) ?_
                                      obtain ⟨x72, g73, h⟩ := ce_b1_e h
                                      refine ce_callWi (As := [.ref (b + a1), .int a2, .int 4]) (rest := [.int x70]) hx hb hml hown hB (c0_L_one l hfl X G b ha1 g73) ce_s_L_one ce_w619 ⟨Nat.le_of_ble_eq_true rfl, Nat.le_of_ble_eq_true rfl⟩ hF hA hS hl rfl rfl (Nat.le_of_ble_eq_true rfl) dL_isOne_667 ⟨Nat.le_of_ble_eq_true rfl, Nat.le_of_ble_eq_true rfl⟩ (fun H locs hA hS => ?_)
                                      refine lv_ishr hx hb dL_isOne_670 ?_
                                      refine lv_iconst (v := 1) hx hb dL_isOne_671 (by decide) ?_
                                      refine lv_iand hx hb dL_isOne_672 ?_
                                      refine lv_iconst (v := 1) hx hb dL_isOne_673 (by decide) ?_
                                      refine lv_icmp_ne (tgt := 729) hx hb dL_isOne_674 (by decide) (fun c74 => ?_) (fun c74 => ?_)
                                      · have h := ce_ie c74 h
                                        refine lv_iconst (v := 0) hx hb dL_isOne_729 (by decide) ?_
                                        cases h
                                        exact ce_zret hx hb hr hlocks (Or.inl rfl) hA hS dL_isOne_730
                                      · have h := ce_it c74 h
                                        refine lv_aload_n hx hb dL_isOne_677 rfl (lv_at hl 0 rfl) ?_
                                        refine lv_iload_n hx hb dL_isOne_678 rfl (lv_at hl 1 rfl) ?_
                                        obtain ⟨x75, g76, h⟩ := ce_b1_e h
                                        refine ce_callWi (As := [.ref (b + a1), .int a2]) (rest := []) hx hb hml hown hB (c0_L_covers l hfl X G b ha1 g76) ce_s_L_covers ce_w765 ⟨Nat.le_of_ble_eq_true rfl, Nat.le_of_ble_eq_true rfl⟩ hF hA hS hl rfl rfl (Nat.le_of_ble_eq_true rfl) dL_isOne_679 ⟨Nat.le_of_ble_eq_true rfl, Nat.le_of_ble_eq_true rfl⟩ (fun H locs hA hS => ?_)
                                        refine lv_aload_n hx hb dL_isOne_682 rfl (lv_at hl 0 rfl) ?_
                                        refine lv_iload_n hx hb dL_isOne_683 rfl (lv_at hl 1 rfl) ?_
                                        refine lv_iconst (v := 1) hx hb dL_isOne_684 (by decide) ?_
                                        obtain ⟨x77, g78, h⟩ := ce_b1_e h
                                        refine ce_callWi (As := [.ref (b + a1), .int a2, .int 1]) (rest := [.int x75]) hx hb hml hown hB (c0_L_one l hfl X G b ha1 g78) ce_s_L_one ce_w619 ⟨Nat.le_of_ble_eq_true rfl, Nat.le_of_ble_eq_true rfl⟩ hF hA hS hl rfl rfl (Nat.le_of_ble_eq_true rfl) dL_isOne_685 ⟨Nat.le_of_ble_eq_true rfl, Nat.le_of_ble_eq_true rfl⟩ (fun H locs hA hS => ?_)
                                        refine lv_if_ne (tgt := 696) hx hb dL_isOne_688 (by decide) (fun c79 => ?_) (fun c79 => ?_)
                                        · have h := ce_ie c79 h
                                          refine lv_aload_n hx hb dL_isOne_696 rfl (lv_at hl 0 rfl) ?_
                                          refine lv_iload_n hx hb dL_isOne_697 rfl (lv_at hl 1 rfl) ?_
                                          refine lv_iconst (v := 1) hx hb dL_isOne_698 (by decide) ?_
                                          obtain ⟨x80, g81, h⟩ := ce_b1_e h
                                          refine ce_callWi (As := [.ref (b + a1), .int a2, .int 1]) (rest := [.int x75]) hx hb hml hown hB (c0_L_one l hfl X G b ha1 g81) ce_s_L_one ce_w619 ⟨Nat.le_of_ble_eq_true rfl, Nat.le_of_ble_eq_true rfl⟩ hF hA hS hl rfl rfl (Nat.le_of_ble_eq_true rfl) dL_isOne_699 ⟨Nat.le_of_ble_eq_true rfl, Nat.le_of_ble_eq_true rfl⟩ (fun H locs hA hS => ?_)
                                          refine lv_iconst (v := 2) hx hb dL_isOne_702 (by decide) ?_
                                          refine lv_icmp_ne (tgt := 717) hx hb dL_isOne_703 (by decide) (fun c82 => ?_) (fun c82 => ?_)
                                          · have h := ce_ie c82 h
                                            refine lv_aload_n hx hb dL_isOne_717 rfl (lv_at hl 0 rfl) ?_
                                            refine lv_iload_n hx hb dL_isOne_718 rfl (lv_at hl 1 rfl) ?_
                                            obtain ⟨x83, g84, h⟩ := ce_b1_e h
                                            refine ce_callWi (As := [.ref (b + a1), .int a2]) (rest := [.int x75]) hx hb hml hown hB (c0_L_covers l hfl X G b ha1 g84) ce_s_L_covers ce_w765 ⟨Nat.le_of_ble_eq_true rfl, Nat.le_of_ble_eq_true rfl⟩ hF hA hS hl rfl rfl (Nat.le_of_ble_eq_true rfl) dL_isOne_719 ⟨Nat.le_of_ble_eq_true rfl, Nat.le_of_ble_eq_true rfl⟩ (fun H locs hA hS => ?_)
                                            refine lv_icmp_ne (tgt := 729) hx hb dL_isOne_722 (by decide) (fun c85 => ?_) (fun c85 => ?_)
                                            · have h := ce_ie c85 h
                                              refine lv_iconst (v := 0) hx hb dL_isOne_729 (by decide) ?_
                                              cases h
                                              exact ce_zret hx hb hr hlocks (Or.inl rfl) hA hS dL_isOne_730
                                            · have h := ce_it c85 h
                                              refine lv_iconst (v := 1) hx hb dL_isOne_725 (by decide) ?_
                                              refine lv_goto (tgt := 730) hx hb dL_isOne_726 (by decide) ?_
                                              cases h
                                              exact ce_zret hx hb hr hlocks (Or.inr rfl) hA hS dL_isOne_730
                                          · have h := ce_it c82 h
                                            refine lv_iconst (v := 1) hx hb dL_isOne_706 (by decide) ?_
                                            refine lv_aload_n hx hb dL_isOne_707 rfl (lv_at hl 0 rfl) ?_
                                            refine lv_iload_n hx hb dL_isOne_708 rfl (lv_at hl 1 rfl) ?_
                                            refine lv_iconst (v := 4) hx hb dL_isOne_709 (by decide) ?_
                                            obtain ⟨x86, g87, h⟩ := ce_b1_e h
                                            refine ce_callWi (As := [.ref (b + a1), .int a2, .int 4]) (rest := [.int 1, .int x75]) hx hb hml hown hB (c0_L_one l hfl X G b ha1 g87) ce_s_L_one ce_w619 ⟨Nat.le_of_ble_eq_true rfl, Nat.le_of_ble_eq_true rfl⟩ hF hA hS hl rfl rfl (Nat.le_of_ble_eq_true rfl) dL_isOne_710 ⟨Nat.le_of_ble_eq_true rfl, Nat.le_of_ble_eq_true rfl⟩ (fun H locs hA hS => ?_)
                                            refine lv_ishl hx hb dL_isOne_713 ?_
                                            refine lv_goto (tgt := 722) hx hb dL_isOne_714 (by decide) ?_
                                            refine lv_icmp_ne (tgt := 729) hx hb dL_isOne_722 (by decide) (fun c88 => ?_) (fun c88 => ?_)
                                            · have h := ce_ie c88 h
                                              refine lv_iconst (v := 0) hx hb dL_isOne_729 (by decide) ?_
                                              cases h
                                              exact ce_zret hx hb hr hlocks (Or.inl rfl) hA hS dL_isOne_730
                                            · have h := ce_it c88 h
                                              refine lv_iconst (v := 1) hx hb dL_isOne_725 (by decide) ?_
                                              refine lv_goto (tgt := 730) hx hb dL_isOne_726 (by decide) ?_
                                              cases h
                                              exact ce_zret hx hb hr hlocks (Or.inr rfl) hA hS dL_isOne_730
                                        · have h := ce_it c79 h
                                          refine lv_ldc (v := 65535) hx hb hown (hB _ ce_w797) dL_isOne_691 ?_
                                          refine lv_goto (tgt := 722) hx hb dL_isOne_693 (by decide) ?_
                                          refine lv_icmp_ne (tgt := 729) hx hb dL_isOne_722 (by decide) (fun c89 => ?_) (fun c89 => ?_)
                                          · have h := ce_ie c89 h
                                            refine lv_iconst (v := 0) hx hb dL_isOne_729 (by decide) ?_
                                            cases h
                                            exact ce_zret hx hb hr hlocks (Or.inl rfl) hA hS dL_isOne_730
                                          · have h := ce_it c89 h
                                            refine lv_iconst (v := 1) hx hb dL_isOne_725 (by decide) ?_
                                            refine lv_goto (tgt := 730) hx hb dL_isOne_726 (by decide) ?_
                                            cases h
                                            exact ce_zret hx hb hr hlocks (Or.inr rfl) hA hS dL_isOne_730
                                refine lv_if_ne (tgt := 651) hx hb dL_isOne_644 (by decide) (fun c91 => ?_) (fun c91 => ?_)
                                · have h := ce_ie c91 h
                                  refine lv_iconst (v := 0) hx hb dL_isOne_651 (by decide) ?_
                                  exact Ju67 0 h  _ _ _ hA hS (lv_sub hl [0, 1, 2] rfl)
                                · have h := ce_it c91 h
                                  refine lv_iconst (v := 1) hx hb dL_isOne_647 (by decide) ?_
                                  refine lv_goto (tgt := 652) hx hb dL_isOne_648 (by decide) ?_
                                  exact Ju67 1 h  _ _ _ hA hS (lv_sub hl [0, 1, 2] rfl)
                              refine lv_if_ne (tgt := 642) hx hb dL_isOne_635 (by decide) (fun c93 => ?_) (fun c93 => ?_)
                              · have h := ce_ie c93 h
                                refine lv_iconst (v := 0) hx hb dL_isOne_642 (by decide) ?_
                                exact Ju65 0 h  _ _ _ hA hS (lv_sub hl [0, 1, 2] rfl)
                              · have h := ce_it c93 h
                                refine lv_iconst (v := 1) hx hb dL_isOne_638 (by decide) ?_
                                refine lv_goto (tgt := 643) hx hb dL_isOne_639 (by decide) ?_
                                exact Ju65 1 h  _ _ _ hA hS (lv_sub hl [0, 1, 2] rfl)
                          refine lv_if_ne (tgt := 626) hx hb dL_isOne_619 (by decide) (fun c95 => ?_) (fun c95 => ?_)
                          · have h := ce_ie c95 h
                            refine lv_iconst (v := 0) hx hb dL_isOne_626 (by decide) ?_
                            exact Ju60 0 h  _ _ _ hA hS (lv_sub hl [0, 1, 2] rfl)
                          · have h := ce_it c95 h
                            refine lv_iconst (v := 1) hx hb dL_isOne_622 (by decide) ?_
                            refine lv_goto (tgt := 627) hx hb dL_isOne_623 (by decide) ?_
                            exact Ju60 1 h  _ _ _ hA hS (lv_sub hl [0, 1, 2] rfl)
                        refine lv_icmp_ne (tgt := 617) hx hb dL_isOne_610 (by decide) (fun c97 => ?_) (fun c97 => ?_)
                        · have h := ce_ie c97 h
                          refine lv_iconst (v := 0) hx hb dL_isOne_617 (by decide) ?_
                          exact Ju58 0 h  _ _ _ hA hS (lv_sub hl [0, 1, 2] rfl)
                        · have h := ce_it c97 h
                          refine lv_iconst (v := 1) hx hb dL_isOne_613 (by decide) ?_
                          refine lv_goto (tgt := 618) hx hb dL_isOne_614 (by decide) ?_
                          exact Ju58 1 h  _ _ _ hA hS (lv_sub hl [0, 1, 2] rfl)
                    refine lv_if_ne (tgt := 598) hx hb dL_isOne_591 (by decide) (fun c99 => ?_) (fun c99 => ?_)
                    · have h := ce_ie c99 h
                      refine lv_iconst (v := 0) hx hb dL_isOne_598 (by decide) ?_
                      exact Ju53 0 h  _ _ _ hA hS (lv_sub hl [1, 2, 3, 0] rfl)
                    · have h := ce_it c99 h
                      refine lv_iconst (v := 1) hx hb dL_isOne_594 (by decide) ?_
                      refine lv_goto (tgt := 599) hx hb dL_isOne_595 (by decide) ?_
                      exact Ju53 1 h  _ _ _ hA hS (lv_sub hl [1, 2, 3, 0] rfl)
                obtain ⟨u45, e101, h⟩ := ce_nm_e h
                have Ju45 : ∀ (z46 : Unit), u45 z46 = some r → ce_Wg p l e (ce_R 9 148 0 0) s m (([.ref (b + a1), .int a2] : List Value).toArray) below meth c 0 0 (MQ below (ce_Q X b M (some (.int r))) ([.ref (b + a1), .int a2] : List Value).toArray s 0 0 (ce_Ab b)) X b M 12 [(0, .ref (b + a1)), (1, .int a2), (2, .int x1), (4, .int x43)] 578 [] := by
                  intro z46 h  H locs ls hA hS hl
                  subst e101
                  refine lv_iconst (v := 0) hx hb dL_isOne_578 (by decide) ?_
                  exact Ju48 0 h  _ _ _ hA hS (lv_sub hl [0, 1, 2, 3] rfl)
                refine lv_icmp_ne (tgt := 578) hx hb dL_isOne_556 (by decide) (fun c102 => ?_) (fun c102 => ?_)
                · have h := ce_ie c102 h
                  exact Ju45 () h  _ _ _ hA hS (lv_sub hl [1, 2, 3, 0] rfl)
                · have h := ce_it c102 h
                  refine lv_aload_n hx hb dL_isOne_559 rfl (lv_at hl 1 rfl) ?_
                  refine lv_iload_n hx hb dL_isOne_560 rfl (lv_at hl 2 rfl) ?_
                  refine lv_iconst (v := 2) hx hb dL_isOne_561 (by decide) ?_
                  obtain ⟨x103, g104, h⟩ := ce_b1_e h
                  refine ce_callWi (As := [.ref (b + a1), .int a2, .int 2]) (rest := []) hx hb hml hown hB (c0_L_one l hfl X G b ha1 g104) ce_s_L_one ce_w619 ⟨Nat.le_of_ble_eq_true rfl, Nat.le_of_ble_eq_true rfl⟩ hF hA hS hl rfl rfl (Nat.le_of_ble_eq_true rfl) dL_isOne_562 ⟨Nat.le_of_ble_eq_true rfl, Nat.le_of_ble_eq_true rfl⟩ (fun H locs hA hS => ?_)
                  refine lv_aload_n hx hb dL_isOne_565 rfl (lv_at hl 1 rfl) ?_
                  refine lv_iload_n hx hb dL_isOne_566 rfl (lv_at hl 2 rfl) ?_
                  refine lv_iconst (v := 4) hx hb dL_isOne_567 (by decide) ?_
                  obtain ⟨x105, g106, h⟩ := ce_b1_e h
                  refine ce_callWi (As := [.ref (b + a1), .int a2, .int 4]) (rest := [.int x103]) hx hb hml hown hB (c0_L_one l hfl X G b ha1 g106) ce_s_L_one ce_w619 ⟨Nat.le_of_ble_eq_true rfl, Nat.le_of_ble_eq_true rfl⟩ hF hA hS hl rfl rfl (Nat.le_of_ble_eq_true rfl) dL_isOne_568 ⟨Nat.le_of_ble_eq_true rfl, Nat.le_of_ble_eq_true rfl⟩ (fun H locs hA hS => ?_)
                  refine lv_icmp_ne (tgt := 578) hx hb dL_isOne_571 (by decide) (fun c107 => ?_) (fun c107 => ?_)
                  · have h := ce_ie c107 h
                    exact Ju45 () h  _ _ _ hA hS (lv_sub hl [1, 2, 3, 0] rfl)
                  · have h := ce_it c107 h
                    refine lv_iconst (v := 1) hx hb dL_isOne_574 (by decide) ?_
                    refine lv_goto (tgt := 579) hx hb dL_isOne_575 (by decide) ?_
                    exact Ju48 1 h  _ _ _ hA hS (lv_sub hl [1, 2, 3, 0] rfl)
              obtain ⟨u41, e109, h⟩ := ce_nm_e h
              have Ju41 : ∀ (z42 : Unit), u41 z42 = some r → ce_Wg p l e (ce_R 9 148 0 0) s m (([.ref (b + a1), .int a2] : List Value).toArray) below meth c 0 0 (MQ below (ce_Q X b M (some (.int r))) ([.ref (b + a1), .int a2] : List Value).toArray s 0 0 (ce_Ab b)) X b M 12 [(0, .ref (b + a1)), (1, .int a2), (2, .int x1)] 551 [] := by
                intro z42 h  H locs ls hA hS hl
                subst e109
                refine lv_iconst (v := 0) hx hb dL_isOne_551 (by decide) ?_
                exact Ju44 0 h  _ _ _ hA hS (lv_sub hl [0, 1, 2] rfl)
              refine lv_if_eq (tgt := 551) hx hb dL_isOne_470 (by decide) (fun c110 => ?_) (fun c110 => ?_)
              · have h := ce_it c110 h
                exact Ju41 () h  _ _ _ hA hS (lv_sub hl [0, 1, 2] rfl)
              · have h := ce_ie c110 h
                refine lv_aload_n hx hb dL_isOne_473 rfl (lv_at hl 0 rfl) ?_
                refine lv_iload_n hx hb dL_isOne_474 rfl (lv_at hl 1 rfl) ?_
                refine lv_bipush (v := 7) hx hb dL_isOne_475 (by decide) ?_
                obtain ⟨x111, g112, h⟩ := ce_b1_e h
                refine ce_callWi (As := [.ref (b + a1), .int a2, .int 7]) (rest := []) hx hb hml hown hB (c0_L_one l hfl X G b ha1 g112) ce_s_L_one ce_w619 ⟨Nat.le_of_ble_eq_true rfl, Nat.le_of_ble_eq_true rfl⟩ hF hA hS hl rfl rfl (Nat.le_of_ble_eq_true rfl) dL_isOne_477 ⟨Nat.le_of_ble_eq_true rfl, Nat.le_of_ble_eq_true rfl⟩ (fun H locs hA hS => ?_)
                refine lv_iload hx hb dL_isOne_480 (lv_at hl 4 rfl) ?_
                refine lv_icmp_ne (tgt := 551) hx hb dL_isOne_482 (by decide) (fun c113 => ?_) (fun c113 => ?_)
                · have h := ce_ie c113 h
                  exact Ju41 () h  _ _ _ hA hS (lv_sub hl [0, 1, 2] rfl)
                · have h := ce_it c113 h
                  refine lv_aload_n hx hb dL_isOne_485 rfl (lv_at hl 0 rfl) ?_
                  refine lv_iload_n hx hb dL_isOne_486 rfl (lv_at hl 1 rfl) ?_
                  refine lv_bipush (v := 8) hx hb dL_isOne_487 (by decide) ?_
                  obtain ⟨x114, g115, h⟩ := ce_b1_e h
                  refine ce_callWi (As := [.ref (b + a1), .int a2, .int 8]) (rest := []) hx hb hml hown hB (c0_L_one l hfl X G b ha1 g115) ce_s_L_one ce_w619 ⟨Nat.le_of_ble_eq_true rfl, Nat.le_of_ble_eq_true rfl⟩ hF hA hS hl rfl rfl (Nat.le_of_ble_eq_true rfl) dL_isOne_489 ⟨Nat.le_of_ble_eq_true rfl, Nat.le_of_ble_eq_true rfl⟩ (fun H locs hA hS => ?_)
                  refine lv_iload hx hb dL_isOne_492 (lv_at hl 5 rfl) ?_
                  refine lv_icmp_ne (tgt := 551) hx hb dL_isOne_494 (by decide) (fun c116 => ?_) (fun c116 => ?_)
                  · have h := ce_ie c116 h
                    exact Ju41 () h  _ _ _ hA hS (lv_sub hl [0, 1, 2] rfl)
                  · have h := ce_it c116 h
                    refine lv_iload hx hb dL_isOne_497 (lv_at hl 4 rfl) ?_
                    refine lv_iload hx hb dL_isOne_499 (lv_at hl 5 rfl) ?_
                    refine lv_aload_n hx hb dL_isOne_501 rfl (lv_at hl 0 rfl) ?_
                    refine lv_iload_n hx hb dL_isOne_502 rfl (lv_at hl 1 rfl) ?_
                    refine lv_bipush (v := 9) hx hb dL_isOne_503 (by decide) ?_
                    obtain ⟨x117, g118, h⟩ := ce_b1_e h
                    refine ce_callWi (As := [.ref (b + a1), .int a2, .int 9]) (rest := [.int x32, .int x31]) hx hb hml hown hB (c0_L_one l hfl X G b ha1 g118) ce_s_L_one ce_w619 ⟨Nat.le_of_ble_eq_true rfl, Nat.le_of_ble_eq_true rfl⟩ hF hA hS hl rfl rfl (Nat.le_of_ble_eq_true rfl) dL_isOne_505 ⟨Nat.le_of_ble_eq_true rfl, Nat.le_of_ble_eq_true rfl⟩ (fun H locs hA hS => ?_)
                    refine lv_iadd hx hb dL_isOne_508 ?_
                    refine lv_aload_n hx hb dL_isOne_509 rfl (lv_at hl 0 rfl) ?_
                    refine lv_iload_n hx hb dL_isOne_510 rfl (lv_at hl 1 rfl) ?_
                    refine lv_bipush (v := 6) hx hb dL_isOne_511 (by decide) ?_
                    obtain ⟨x119, g120, h⟩ := ce_b1_e h
                    refine ce_callWi (As := [.ref (b + a1), .int a2, .int 6]) (rest := [.int (x32 + x117), .int x31]) hx hb hml hown hB (c0_L_one l hfl X G b ha1 g120) ce_s_L_one ce_w619 ⟨Nat.le_of_ble_eq_true rfl, Nat.le_of_ble_eq_true rfl⟩ hF hA hS hl rfl rfl (Nat.le_of_ble_eq_true rfl) dL_isOne_513 ⟨Nat.le_of_ble_eq_true rfl, Nat.le_of_ble_eq_true rfl⟩ (fun H locs hA hS => ?_)
                    refine lv_iadd hx hb dL_isOne_516 ?_
                    refine lv_icmp_lt (tgt := 551) hx hb dL_isOne_517 (by decide) (fun c121 => ?_) (fun c121 => ?_)
                    · have h := ce_it c121 h
                      exact Ju41 () h  _ _ _ hA hS (lv_sub hl [0, 1, 2] rfl)
                    · have h := ce_ie c121 h
                      refine lv_iload_n hx hb dL_isOne_520 rfl (lv_at hl 2 rfl) ?_
                      refine lv_if_eq (tgt := 547) hx hb dL_isOne_521 (by decide) (fun c122 => ?_) (fun c122 => ?_)
                      · have h := ce_it c122 h
                        refine lv_iconst (v := 1) hx hb dL_isOne_547 (by decide) ?_
                        refine lv_goto (tgt := 552) hx hb dL_isOne_548 (by decide) ?_
                        exact Ju44 1 h  _ _ _ hA hS (lv_sub hl [0, 1, 2] rfl)
                      · have h := ce_ie c122 h
                        refine lv_iload hx hb dL_isOne_524 (lv_at hl 4 rfl) ?_
                        refine lv_iload hx hb dL_isOne_526 (lv_at hl 5 rfl) ?_
                        refine lv_aload_n hx hb dL_isOne_528 rfl (lv_at hl 0 rfl) ?_
                        refine lv_iload_n hx hb dL_isOne_529 rfl (lv_at hl 1 rfl) ?_
                        refine lv_bipush (v := 9) hx hb dL_isOne_530 (by decide) ?_
                        obtain ⟨x123, g124, h⟩ := ce_b1_e h
                        refine ce_callWi (As := [.ref (b + a1), .int a2, .int 9]) (rest := [.int x32, .int x31]) hx hb hml hown hB (c0_L_one l hfl X G b ha1 g124) ce_s_L_one ce_w619 ⟨Nat.le_of_ble_eq_true rfl, Nat.le_of_ble_eq_true rfl⟩ hF hA hS hl rfl rfl (Nat.le_of_ble_eq_true rfl) dL_isOne_532 ⟨Nat.le_of_ble_eq_true rfl, Nat.le_of_ble_eq_true rfl⟩ (fun H locs hA hS => ?_)
                        refine lv_iadd hx hb dL_isOne_535 ?_
                        refine lv_aload_n hx hb dL_isOne_536 rfl (lv_at hl 0 rfl) ?_
                        refine lv_iload_n hx hb dL_isOne_537 rfl (lv_at hl 1 rfl) ?_
                        refine lv_bipush (v := 6) hx hb dL_isOne_538 (by decide) ?_
                        obtain ⟨x125, g126, h⟩ := ce_b1_e h
                        refine ce_callWi (As := [.ref (b + a1), .int a2, .int 6]) (rest := [.int (x32 + x123), .int x31]) hx hb hml hown hB (c0_L_one l hfl X G b ha1 g126) ce_s_L_one ce_w619 ⟨Nat.le_of_ble_eq_true rfl, Nat.le_of_ble_eq_true rfl⟩ hF hA hS hl rfl rfl (Nat.le_of_ble_eq_true rfl) dL_isOne_540 ⟨Nat.le_of_ble_eq_true rfl, Nat.le_of_ble_eq_true rfl⟩ (fun H locs hA hS => ?_)
                        refine lv_iadd hx hb dL_isOne_543 ?_
                        refine lv_icmp_ne (tgt := 551) hx hb dL_isOne_544 (by decide) (fun c127 => ?_) (fun c127 => ?_)
                        · have h := ce_ie c127 h
                          exact Ju41 () h  _ _ _ hA hS (lv_sub hl [0, 1, 2] rfl)
                        · have h := ce_it c127 h
                          refine lv_iconst (v := 1) hx hb dL_isOne_547 (by decide) ?_
                          refine lv_goto (tgt := 552) hx hb dL_isOne_548 (by decide) ?_
                          exact Ju44 1 h  _ _ _ hA hS (lv_sub hl [0, 1, 2] rfl)
            refine ce_lp3_i (y := r) (P := fun (x34 : Int32) (x35 : Int32) (x36 : Int32) => ce_Wg p l e (ce_R 9 148 0 0) s m (([.ref (b + a1), .int a2] : List Value).toArray) below meth c 0 0 (MQ below (ce_Q X b M (some (.int r))) ([.ref (b + a1), .int a2] : List Value).toArray s 0 0 (ce_Ab b)) X b M 12 [(0, .ref (b + a1)), (1, .int a2), (2, .int x1), (4, .int x34), (7, .int x31), (8, .int x32), (9, .int x35), (10, .int x36)] 379 []) (fun rec37 ih38 x34 x35 x36 h => ?_) _ _ _ _ h _ _ _ hA hS (lv_sub hl [1, 2, 3, 4, 5, 6, 7, 0] rfl)
            intro H locs ls hA hS hl
            unfold f_L_isOne_L379 at h
            refine lv_iload hx hb dL_isOne_379 (lv_at hl 7 rfl) ?_
            refine lv_aload_n hx hb dL_isOne_381 rfl (lv_at hl 0 rfl) ?_
            refine lv_iload_n hx hb dL_isOne_382 rfl (lv_at hl 1 rfl) ?_
            refine lv_bipush (v := 6) hx hb dL_isOne_383 (by decide) ?_
            obtain ⟨x129, g130, h⟩ := ce_b1_e h
            refine ce_callWi (As := [.ref (b + a1), .int a2, .int 6]) (rest := [.int x36]) hx hb hml hown hB (c0_L_one l hfl X G b ha1 g130) ce_s_L_one ce_w619 ⟨Nat.le_of_ble_eq_true rfl, Nat.le_of_ble_eq_true rfl⟩ hF hA hS hl rfl rfl (Nat.le_of_ble_eq_true rfl) dL_isOne_385 ⟨Nat.le_of_ble_eq_true rfl, Nat.le_of_ble_eq_true rfl⟩ (fun H locs hA hS => ?_)
            refine lv_icmp_ge (tgt := 468) hx hb dL_isOne_388 (by decide) (fun c131 => ?_) (fun c131 => ?_)
            · have h := ce_it c131 h
              exact Ju40 x34 h  _ _ _ hA hS (lv_sub hl [0, 1, 2, 3, 4, 5] rfl)
            · have h := ce_ie c131 h
              refine lv_iload hx hb dL_isOne_391 (lv_at hl 3 rfl) ?_
              refine lv_if_eq (tgt := 468) hx hb dL_isOne_393 (by decide) (fun c132 => ?_) (fun c132 => ?_)
              · have h := ce_it c132 h
                exact Ju40 x34 h  _ _ _ hA hS (lv_sub hl [0, 1, 2, 3, 4, 5] rfl)
              · have h := ce_ie c132 h
                refine lv_aload_n hx hb dL_isOne_396 rfl (lv_at hl 0 rfl) ?_
                refine lv_iload_n hx hb dL_isOne_397 rfl (lv_at hl 1 rfl) ?_
                refine lv_iload hx hb dL_isOne_398 (lv_at hl 7 rfl) ?_
                obtain ⟨x133, g134, h⟩ := ce_b1_e h
                refine ce_callWi (As := [.ref (b + a1), .int a2, .int x36]) (rest := []) hx hb hml hown hB (c0_L_box l hfl X G b ha1 g134) ce_s_L_box ce_w639 ⟨Nat.le_of_ble_eq_true rfl, Nat.le_of_ble_eq_true rfl⟩ hF hA hS hl rfl rfl (Nat.le_of_ble_eq_true rfl) dL_isOne_400 ⟨Nat.le_of_ble_eq_true rfl, Nat.le_of_ble_eq_true rfl⟩ (fun H locs hA hS => ?_)
                refine lv_istore (lv' := [(11, .int x133), (0, .ref (b + a1)), (1, .int a2), (2, .int x1), (4, .int x34), (7, .int x31), (8, .int x32), (9, .int x35), (10, .int x36)]) hx hb dL_isOne_403 hl (by decide) rfl (fun ls hl => ?_)
                refine lv_iload hx hb dL_isOne_405 (lv_at hl 0 rfl) ?_
                refine lv_iload hx hb dL_isOne_407 (lv_at hl 7 rfl) ?_
                refine lv_icmp_le (tgt := 455) hx hb dL_isOne_409 (by decide) (fun c135 => ?_) (fun c135 => ?_)
                · have h := ce_it c135 h
                  refine lv_iconst (v := 0) hx hb dL_isOne_455 (by decide) ?_
                  refine lv_istore (lv' := [(4, .int 0), (11, .int x133), (0, .ref (b + a1)), (1, .int a2), (2, .int x1), (7, .int x31), (8, .int x32), (9, .int x35), (10, .int x36)]) hx hb dL_isOne_456 hl (by decide) rfl (fun ls hl => ?_)
                  refine lv_iload hx hb dL_isOne_458 (lv_at hl 1 rfl) ?_
                  refine lv_istore (lv' := [(9, .int x133), (4, .int 0), (11, .int x133), (0, .ref (b + a1)), (1, .int a2), (2, .int x1), (7, .int x31), (8, .int x32), (10, .int x36)]) hx hb dL_isOne_460 hl (by decide) rfl (fun ls hl => ?_)
                  obtain ⟨x136, e137, h⟩ := ce_nm_e h
                  refine lv_iinc (v := x136) (lv' := [(10, .int x136), (9, .int x133), (4, .int 0), (11, .int x133), (0, .ref (b + a1)), (1, .int a2), (2, .int x1), (7, .int x31), (8, .int x32)]) hx hb dL_isOne_462 hl (k := 8) rfl (by rw [← e137]; rfl) (by decide) rfl (fun ls hl => ?_)
                  refine lv_goto (tgt := 379) hx hb dL_isOne_465 (by decide) ?_
                  exact ih38 0 x133 x136 h  _ _ _ hA hS (lv_sub hl [4, 5, 6, 2, 7, 8, 1, 0] rfl)
                · have h := ce_ie c135 h
                  refine lv_iload hx hb dL_isOne_412 (lv_at hl 0 rfl) ?_
                  refine lv_aload_n hx hb dL_isOne_414 rfl (lv_at hl 1 rfl) ?_
                  refine lv_iconst (v := 2) hx hb dL_isOne_415 (by decide) ?_
                  obtain ⟨x138, g139, h⟩ := ce_b1_e h
                  refine ce_callWi (As := [.ref (b + a1), .int 2]) (rest := [.int x133]) hx hb hml hown hB (c0_L_whole l hfl X G b ha1 g139) ce_s_L_whole ce_w579 ⟨Nat.le_of_ble_eq_true rfl, Nat.le_of_ble_eq_true rfl⟩ hF hA hS hl rfl rfl (Nat.le_of_ble_eq_true rfl) dL_isOne_416 ⟨Nat.le_of_ble_eq_true rfl, Nat.le_of_ble_eq_true rfl⟩ (fun H locs hA hS => ?_)
                  refine lv_icmp_ge (tgt := 455) hx hb dL_isOne_419 (by decide) (fun c140 => ?_) (fun c140 => ?_)
                  · have h := ce_it c140 h
                    refine lv_iconst (v := 0) hx hb dL_isOne_455 (by decide) ?_
                    refine lv_istore (lv' := [(4, .int 0), (11, .int x133), (0, .ref (b + a1)), (1, .int a2), (2, .int x1), (7, .int x31), (8, .int x32), (9, .int x35), (10, .int x36)]) hx hb dL_isOne_456 hl (by decide) rfl (fun ls hl => ?_)
                    refine lv_iload hx hb dL_isOne_458 (lv_at hl 1 rfl) ?_
                    refine lv_istore (lv' := [(9, .int x133), (4, .int 0), (11, .int x133), (0, .ref (b + a1)), (1, .int a2), (2, .int x1), (7, .int x31), (8, .int x32), (10, .int x36)]) hx hb dL_isOne_460 hl (by decide) rfl (fun ls hl => ?_)
                    obtain ⟨x141, e142, h⟩ := ce_nm_e h
                    refine lv_iinc (v := x141) (lv' := [(10, .int x141), (9, .int x133), (4, .int 0), (11, .int x133), (0, .ref (b + a1)), (1, .int a2), (2, .int x1), (7, .int x31), (8, .int x32)]) hx hb dL_isOne_462 hl (k := 8) rfl (by rw [← e142]; rfl) (by decide) rfl (fun ls hl => ?_)
                    refine lv_goto (tgt := 379) hx hb dL_isOne_465 (by decide) ?_
                    exact ih38 0 x133 x141 h  _ _ _ hA hS (lv_sub hl [4, 5, 6, 2, 7, 8, 1, 0] rfl)
                  · have h := ce_ie c140 h
                    refine lv_aload_n hx hb dL_isOne_422 rfl (lv_at hl 1 rfl) ?_
                    refine lv_iload hx hb dL_isOne_423 (lv_at hl 0 rfl) ?_
                    refine lv_iconst (v := 4) hx hb dL_isOne_425 (by decide) ?_
                    obtain ⟨x143, g144, h⟩ := ce_b1_e h
                    refine ce_callWi (As := [.ref (b + a1), .int x133, .int 4]) (rest := []) hx hb hml hown hB (c0_L_event l hfl X G b ha1 g144) ce_s_L_event ce_w647 ⟨Nat.le_of_ble_eq_true rfl, Nat.le_of_ble_eq_true rfl⟩ hF hA hS hl rfl rfl (Nat.le_of_ble_eq_true rfl) dL_isOne_426 ⟨Nat.le_of_ble_eq_true rfl, Nat.le_of_ble_eq_true rfl⟩ (fun H locs hA hS => ?_)
                    refine lv_iload_n hx hb dL_isOne_429 rfl (lv_at hl 2 rfl) ?_
                    refine lv_ishr hx hb dL_isOne_430 ?_
                    refine lv_iconst (v := 1) hx hb dL_isOne_431 (by decide) ?_
                    refine lv_iand hx hb dL_isOne_432 ?_
                    refine lv_iconst (v := 1) hx hb dL_isOne_433 (by decide) ?_
                    refine lv_icmp_ne (tgt := 455) hx hb dL_isOne_434 (by decide) (fun c145 => ?_) (fun c145 => ?_)
                    · have h := ce_ie c145 h
                      refine lv_iconst (v := 0) hx hb dL_isOne_455 (by decide) ?_
                      refine lv_istore (lv' := [(4, .int 0), (11, .int x133), (0, .ref (b + a1)), (1, .int a2), (2, .int x1), (7, .int x31), (8, .int x32), (9, .int x35), (10, .int x36)]) hx hb dL_isOne_456 hl (by decide) rfl (fun ls hl => ?_)
                      refine lv_iload hx hb dL_isOne_458 (lv_at hl 1 rfl) ?_
                      refine lv_istore (lv' := [(9, .int x133), (4, .int 0), (11, .int x133), (0, .ref (b + a1)), (1, .int a2), (2, .int x1), (7, .int x31), (8, .int x32), (10, .int x36)]) hx hb dL_isOne_460 hl (by decide) rfl (fun ls hl => ?_)
                      obtain ⟨x146, e147, h⟩ := ce_nm_e h
                      refine lv_iinc (v := x146) (lv' := [(10, .int x146), (9, .int x133), (4, .int 0), (11, .int x133), (0, .ref (b + a1)), (1, .int a2), (2, .int x1), (7, .int x31), (8, .int x32)]) hx hb dL_isOne_462 hl (k := 8) rfl (by rw [← e147]; rfl) (by decide) rfl (fun ls hl => ?_)
                      refine lv_goto (tgt := 379) hx hb dL_isOne_465 (by decide) ?_
                      exact ih38 0 x133 x146 h  _ _ _ hA hS (lv_sub hl [4, 5, 6, 2, 7, 8, 1, 0] rfl)
                    · have h := ce_it c145 h
                      refine lv_aload_n hx hb dL_isOne_437 rfl (lv_at hl 1 rfl) ?_
                      refine lv_iload hx hb dL_isOne_438 (lv_at hl 0 rfl) ?_
                      refine lv_iconst (v := 5) hx hb dL_isOne_440 (by decide) ?_
                      obtain ⟨x148, g149, h⟩ := ce_b1_e h
                      refine ce_callWi (As := [.ref (b + a1), .int x133, .int 5]) (rest := []) hx hb hml hown hB (c0_L_event l hfl X G b ha1 g149) ce_s_L_event ce_w647 ⟨Nat.le_of_ble_eq_true rfl, Nat.le_of_ble_eq_true rfl⟩ hF hA hS hl rfl rfl (Nat.le_of_ble_eq_true rfl) dL_isOne_441 ⟨Nat.le_of_ble_eq_true rfl, Nat.le_of_ble_eq_true rfl⟩ (fun H locs hA hS => ?_)
                      refine lv_iload_n hx hb dL_isOne_444 rfl (lv_at hl 2 rfl) ?_
                      refine lv_ishr hx hb dL_isOne_445 ?_
                      refine lv_iconst (v := 1) hx hb dL_isOne_446 (by decide) ?_
                      refine lv_iand hx hb dL_isOne_447 ?_
                      refine lv_if_ne (tgt := 455) hx hb dL_isOne_448 (by decide) (fun c150 => ?_) (fun c150 => ?_)
                      · have h := ce_ie c150 h
                        refine lv_iconst (v := 0) hx hb dL_isOne_455 (by decide) ?_
                        refine lv_istore (lv' := [(4, .int 0), (11, .int x133), (0, .ref (b + a1)), (1, .int a2), (2, .int x1), (7, .int x31), (8, .int x32), (9, .int x35), (10, .int x36)]) hx hb dL_isOne_456 hl (by decide) rfl (fun ls hl => ?_)
                        refine lv_iload hx hb dL_isOne_458 (lv_at hl 1 rfl) ?_
                        refine lv_istore (lv' := [(9, .int x133), (4, .int 0), (11, .int x133), (0, .ref (b + a1)), (1, .int a2), (2, .int x1), (7, .int x31), (8, .int x32), (10, .int x36)]) hx hb dL_isOne_460 hl (by decide) rfl (fun ls hl => ?_)
                        obtain ⟨x151, e152, h⟩ := ce_nm_e h
                        refine lv_iinc (v := x151) (lv' := [(10, .int x151), (9, .int x133), (4, .int 0), (11, .int x133), (0, .ref (b + a1)), (1, .int a2), (2, .int x1), (7, .int x31), (8, .int x32)]) hx hb dL_isOne_462 hl (k := 8) rfl (by rw [← e152]; rfl) (by decide) rfl (fun ls hl => ?_)
                        refine lv_goto (tgt := 379) hx hb dL_isOne_465 (by decide) ?_
                        exact ih38 0 x133 x151 h  _ _ _ hA hS (lv_sub hl [4, 5, 6, 2, 7, 8, 1, 0] rfl)
                      · have h := ce_it c150 h
                        refine lv_iconst (v := 1) hx hb dL_isOne_451 (by decide) ?_
                        refine lv_goto (tgt := 456) hx hb dL_isOne_452 (by decide) ?_
                        refine lv_istore (lv' := [(4, .int 1), (11, .int x133), (0, .ref (b + a1)), (1, .int a2), (2, .int x1), (7, .int x31), (8, .int x32), (9, .int x35), (10, .int x36)]) hx hb dL_isOne_456 hl (by decide) rfl (fun ls hl => ?_)
                        refine lv_iload hx hb dL_isOne_458 (lv_at hl 1 rfl) ?_
                        refine lv_istore (lv' := [(9, .int x133), (4, .int 1), (11, .int x133), (0, .ref (b + a1)), (1, .int a2), (2, .int x1), (7, .int x31), (8, .int x32), (10, .int x36)]) hx hb dL_isOne_460 hl (by decide) rfl (fun ls hl => ?_)
                        obtain ⟨x153, e154, h⟩ := ce_nm_e h
                        refine lv_iinc (v := x153) (lv' := [(10, .int x153), (9, .int x133), (4, .int 1), (11, .int x133), (0, .ref (b + a1)), (1, .int a2), (2, .int x1), (7, .int x31), (8, .int x32)]) hx hb dL_isOne_462 hl (k := 8) rfl (by rw [← e154]; rfl) (by decide) rfl (fun ls hl => ?_)
                        refine lv_goto (tgt := 379) hx hb dL_isOne_465 (by decide) ?_
                        exact ih38 1 x133 x153 h  _ _ _ hA hS (lv_sub hl [4, 5, 6, 2, 7, 8, 1, 0] rfl)
          refine ce_lp3_i (y := r) (P := fun (x26 : Int32) (x27 : Int32) (x28 : Int32) => ce_Wg p l e (ce_R 9 148 0 0) s m (([.ref (b + a1), .int a2] : List Value).toArray) below meth c 0 0 (MQ below (ce_Q X b M (some (.int r))) ([.ref (b + a1), .int a2] : List Value).toArray s 0 0 (ce_Ab b)) X b M 12 [(0, .ref (b + a1)), (1, .int a2), (2, .int x1), (4, .int x24), (7, .int x26), (8, .int x27), (9, .int (-1)), (10, .int x28)] 328 []) (fun rec29 ih30 x26 x27 x28 h => ?_) _ _ _ _ h _ _ _ hA hS (lv_sub hl [5, 6, 7, 4, 3, 2, 1, 0] rfl)
          intro H locs ls hA hS hl
          unfold f_L_isOne_L328 at h
          refine lv_iload hx hb dL_isOne_328 (lv_at hl 7 rfl) ?_
          refine lv_aload_n hx hb dL_isOne_330 rfl (lv_at hl 0 rfl) ?_
          refine lv_iconst (v := 2) hx hb dL_isOne_331 (by decide) ?_
          obtain ⟨x156, g157, h⟩ := ce_b1_e h
          refine ce_callWi (As := [.ref (b + a1), .int 2]) (rest := [.int x28]) hx hb hml hown hB (c0_L_whole l hfl X G b ha1 g157) ce_s_L_whole ce_w579 ⟨Nat.le_of_ble_eq_true rfl, Nat.le_of_ble_eq_true rfl⟩ hF hA hS hl rfl rfl (Nat.le_of_ble_eq_true rfl) dL_isOne_332 ⟨Nat.le_of_ble_eq_true rfl, Nat.le_of_ble_eq_true rfl⟩ (fun H locs hA hS => ?_)
          refine lv_icmp_ge (tgt := 376) hx hb dL_isOne_335 (by decide) (fun c158 => ?_) (fun c158 => ?_)
          · have h := ce_it c158 h
            exact Ju33 x26 x27 h  _ _ _ hA hS (lv_sub hl [0, 1, 2, 3, 4, 5, 6] rfl)
          · have h := ce_ie c158 h
            refine lv_iload hx hb dL_isOne_338 (lv_at hl 4 rfl) ?_
            refine lv_aload_n hx hb dL_isOne_340 rfl (lv_at hl 0 rfl) ?_
            refine lv_iload hx hb dL_isOne_341 (lv_at hl 7 rfl) ?_
            refine lv_iconst (v := 4) hx hb dL_isOne_343 (by decide) ?_
            obtain ⟨x159, g160, h⟩ := ce_b1_e h
            refine ce_callWi (As := [.ref (b + a1), .int x28, .int 4]) (rest := [.int x26]) hx hb hml hown hB (c0_L_event l hfl X G b ha1 g160) ce_s_L_event ce_w647 ⟨Nat.le_of_ble_eq_true rfl, Nat.le_of_ble_eq_true rfl⟩ hF hA hS hl rfl rfl (Nat.le_of_ble_eq_true rfl) dL_isOne_344 ⟨Nat.le_of_ble_eq_true rfl, Nat.le_of_ble_eq_true rfl⟩ (fun H locs hA hS => ?_)
            refine lv_iload_n hx hb dL_isOne_347 rfl (lv_at hl 1 rfl) ?_
            refine lv_ishr hx hb dL_isOne_348 ?_
            refine lv_iconst (v := 1) hx hb dL_isOne_349 (by decide) ?_
            refine lv_iand hx hb dL_isOne_350 ?_
            refine lv_iadd hx hb dL_isOne_351 ?_
            obtain ⟨x161, e162, h⟩ := ce_nm_e h
            refine ce_top e162 ?_
            refine lv_istore (lv' := [(7, .int x161), (0, .ref (b + a1)), (1, .int a2), (2, .int x1), (4, .int x24), (8, .int x27), (9, .int (-1)), (10, .int x28)]) hx hb dL_isOne_352 hl (by decide) rfl (fun ls hl => ?_)
            refine lv_iload hx hb dL_isOne_354 (lv_at hl 5 rfl) ?_
            refine lv_aload_n hx hb dL_isOne_356 rfl (lv_at hl 1 rfl) ?_
            refine lv_iload hx hb dL_isOne_357 (lv_at hl 7 rfl) ?_
            refine lv_iconst (v := 5) hx hb dL_isOne_359 (by decide) ?_
            obtain ⟨x163, g164, h⟩ := ce_b1_e h
            refine ce_callWi (As := [.ref (b + a1), .int x28, .int 5]) (rest := [.int x27]) hx hb hml hown hB (c0_L_event l hfl X G b ha1 g164) ce_s_L_event ce_w647 ⟨Nat.le_of_ble_eq_true rfl, Nat.le_of_ble_eq_true rfl⟩ hF hA hS hl rfl rfl (Nat.le_of_ble_eq_true rfl) dL_isOne_360 ⟨Nat.le_of_ble_eq_true rfl, Nat.le_of_ble_eq_true rfl⟩ (fun H locs hA hS => ?_)
            refine lv_iload_n hx hb dL_isOne_363 rfl (lv_at hl 2 rfl) ?_
            refine lv_ishr hx hb dL_isOne_364 ?_
            refine lv_iconst (v := 1) hx hb dL_isOne_365 (by decide) ?_
            refine lv_iand hx hb dL_isOne_366 ?_
            refine lv_iadd hx hb dL_isOne_367 ?_
            obtain ⟨x165, e166, h⟩ := ce_nm_e h
            refine ce_top e166 ?_
            refine lv_istore (lv' := [(8, .int x165), (7, .int x161), (0, .ref (b + a1)), (1, .int a2), (2, .int x1), (4, .int x24), (9, .int (-1)), (10, .int x28)]) hx hb dL_isOne_368 hl (by decide) rfl (fun ls hl => ?_)
            obtain ⟨x167, e168, h⟩ := ce_nm_e h
            refine lv_iinc (v := x167) (lv' := [(10, .int x167), (8, .int x165), (7, .int x161), (0, .ref (b + a1)), (1, .int a2), (2, .int x1), (4, .int x24), (9, .int (-1))]) hx hb dL_isOne_370 hl (k := 7) rfl (by rw [← e168]; rfl) (by decide) rfl (fun ls hl => ?_)
            refine lv_goto (tgt := 328) hx hb dL_isOne_373 (by decide) ?_
            exact ih30 x161 x165 x167 h  _ _ _ hA hS (lv_sub hl [3, 4, 5, 6, 2, 1, 7, 0] rfl)
        obtain ⟨u22, e170, h⟩ := ce_nm_e h
        have Ju22 : ∀ (z23 : Unit), u22 z23 = some r → ce_Wg p l e (ce_R 9 148 0 0) s m (([.ref (b + a1), .int a2] : List Value).toArray) below meth c 0 0 (MQ below (ce_Q X b M (some (.int r))) ([.ref (b + a1), .int a2] : List Value).toArray s 0 0 (ce_Ab b)) X b M 12 [(0, .ref (b + a1)), (1, .int a2), (2, .int x1)] 313 [] := by
          intro z23 h  H locs ls hA hS hl
          subst e170
          refine lv_iconst (v := 0) hx hb dL_isOne_313 (by decide) ?_
          exact Ju25 0 h  _ _ _ hA hS (lv_sub hl [0, 1, 2] rfl)
        refine lv_if_eq (tgt := 313) hx hb dL_isOne_258 (by decide) (fun c171 => ?_) (fun c171 => ?_)
        · have h := ce_it c171 h
          exact Ju22 () h  _ _ _ hA hS (lv_sub hl [0, 1, 2] rfl)
        · have h := ce_ie c171 h
          refine lv_iload hx hb dL_isOne_261 (lv_at hl 4 rfl) ?_
          refine lv_if_le (tgt := 313) hx hb dL_isOne_263 (by decide) (fun c172 => ?_) (fun c172 => ?_)
          · have h := ce_it c172 h
            exact Ju22 () h  _ _ _ hA hS (lv_sub hl [0, 1, 2] rfl)
          · have h := ce_ie c172 h
            refine lv_aload_n hx hb dL_isOne_266 rfl (lv_at hl 0 rfl) ?_
            refine lv_iload_n hx hb dL_isOne_267 rfl (lv_at hl 1 rfl) ?_
            refine lv_bipush (v := 10) hx hb dL_isOne_268 (by decide) ?_
            refine lv_iconst (v := 0) hx hb dL_isOne_270 (by decide) ?_
            obtain ⟨x173, g174, h⟩ := ce_b1_e h
            refine ce_callWi (As := [.ref (b + a1), .int a2, .int 10, .int 0]) (rest := []) hx hb hml hown hB (c0_L_stay l hfl X G b ha1 g174) ce_s_L_stay ce_w628 ⟨Nat.le_of_ble_eq_true rfl, Nat.le_of_ble_eq_true rfl⟩ hF hA hS hl rfl rfl (Nat.le_of_ble_eq_true rfl) dL_isOne_271 ⟨Nat.le_of_ble_eq_true rfl, Nat.le_of_ble_eq_true rfl⟩ (fun H locs hA hS => ?_)
            refine lv_iconst (v := (-1)) hx hb dL_isOne_274 (by decide) ?_
            refine lv_icmp_ne (tgt := 313) hx hb dL_isOne_275 (by decide) (fun c175 => ?_) (fun c175 => ?_)
            · have h := ce_ie c175 h
              exact Ju22 () h  _ _ _ hA hS (lv_sub hl [0, 1, 2] rfl)
            · have h := ce_it c175 h
              refine lv_iload hx hb dL_isOne_278 (lv_at hl 4 rfl) ?_
              refine lv_aload_n hx hb dL_isOne_280 rfl (lv_at hl 0 rfl) ?_
              refine lv_iload_n hx hb dL_isOne_281 rfl (lv_at hl 1 rfl) ?_
              refine lv_bipush (v := 10) hx hb dL_isOne_282 (by decide) ?_
              obtain ⟨x176, g177, h⟩ := ce_b1_e h
              refine ce_callWi (As := [.ref (b + a1), .int a2, .int 10]) (rest := [.int x20]) hx hb hml hown hB (c0_L_one l hfl X G b ha1 g177) ce_s_L_one ce_w619 ⟨Nat.le_of_ble_eq_true rfl, Nat.le_of_ble_eq_true rfl⟩ hF hA hS hl rfl rfl (Nat.le_of_ble_eq_true rfl) dL_isOne_284 ⟨Nat.le_of_ble_eq_true rfl, Nat.le_of_ble_eq_true rfl⟩ (fun H locs hA hS => ?_)
              refine lv_bipush (v := 9) hx hb dL_isOne_287 (by decide) ?_
              refine lv_icmp_ge (tgt := 304) hx hb dL_isOne_289 (by decide) (fun c178 => ?_) (fun c178 => ?_)
              · have h := ce_it c178 h
                refine lv_bipush (v := 10) hx hb dL_isOne_304 (by decide) ?_
                refine lv_icmp_ne (tgt := 313) hx hb dL_isOne_306 (by decide) (fun c179 => ?_) (fun c179 => ?_)
                · have h := ce_ie c179 h
                  exact Ju22 () h  _ _ _ hA hS (lv_sub hl [0, 1, 2] rfl)
                · have h := ce_it c179 h
                  refine lv_iconst (v := 1) hx hb dL_isOne_309 (by decide) ?_
                  refine lv_goto (tgt := 314) hx hb dL_isOne_310 (by decide) ?_
                  exact Ju25 1 h  _ _ _ hA hS (lv_sub hl [0, 1, 2] rfl)
              · have h := ce_ie c178 h
                refine lv_aload_n hx hb dL_isOne_292 rfl (lv_at hl 0 rfl) ?_
                refine lv_iload_n hx hb dL_isOne_293 rfl (lv_at hl 1 rfl) ?_
                refine lv_bipush (v := 10) hx hb dL_isOne_294 (by decide) ?_
                obtain ⟨x180, g181, h⟩ := ce_b1_e h
                refine ce_callWi (As := [.ref (b + a1), .int a2, .int 10]) (rest := [.int x20]) hx hb hml hown hB (c0_L_one l hfl X G b ha1 g181) ce_s_L_one ce_w619 ⟨Nat.le_of_ble_eq_true rfl, Nat.le_of_ble_eq_true rfl⟩ hF hA hS hl rfl rfl (Nat.le_of_ble_eq_true rfl) dL_isOne_296 ⟨Nat.le_of_ble_eq_true rfl, Nat.le_of_ble_eq_true rfl⟩ (fun H locs hA hS => ?_)
                refine lv_iconst (v := 1) hx hb dL_isOne_299 (by decide) ?_
                refine lv_iadd hx hb dL_isOne_300 ?_
                refine lv_goto (tgt := 306) hx hb dL_isOne_301 (by decide) ?_
                refine lv_icmp_ne (tgt := 313) hx hb dL_isOne_306 (by decide) (fun c182 => ?_) (fun c182 => ?_)
                · have h := ce_ie c182 h
                  exact Ju22 () h  _ _ _ hA hS (lv_sub hl [0, 1, 2] rfl)
                · have h := ce_it c182 h
                  refine lv_iconst (v := 1) hx hb dL_isOne_309 (by decide) ?_
                  refine lv_goto (tgt := 314) hx hb dL_isOne_310 (by decide) ?_
                  exact Ju25 1 h  _ _ _ hA hS (lv_sub hl [0, 1, 2] rfl)
      refine ce_lp4_i (y := r) (P := fun (x13 : Int32) (x14 : Int32) (x15 : Int32) (x16 : Int32) => ce_Wg p l e (ce_R 9 148 0 0) s m (([.ref (b + a1), .int a2] : List Value).toArray) below meth c 0 0 (MQ below (ce_Q X b M (some (.int r))) ([.ref (b + a1), .int a2] : List Value).toArray s 0 0 (ce_Ab b)) X b M 12 [(0, .ref (b + a1)), (1, .int a2), (2, .int x1), (4, .int x13), (5, .int x14), (6, .int x15), (7, .int x16)] 175 []) (fun rec17 ih18 x13 x14 x15 x16 h => ?_) _ _ _ _ _ h _ _ _ hA hS (lv_sub hl [3, 4, 5, 6, 2, 1, 0] rfl)
      intro H locs ls hA hS hl
      unfold f_L_isOne_L175 at h
      refine lv_iload hx hb dL_isOne_175 (lv_at hl 6 rfl) ?_
      refine lv_bipush (v := 10) hx hb dL_isOne_177 (by decide) ?_
      refine lv_icmp_ge (tgt := 256) hx hb dL_isOne_179 (by decide) (fun c184 => ?_) (fun c184 => ?_)
      · have h := ce_it c184 h
        exact Ju21 x13 x15 h  _ _ _ hA hS (lv_sub hl [0, 1, 2, 3, 5] rfl)
      · have h := ce_ie c184 h
        refine lv_aload_n hx hb dL_isOne_182 rfl (lv_at hl 0 rfl) ?_
        refine lv_iload_n hx hb dL_isOne_183 rfl (lv_at hl 1 rfl) ?_
        refine lv_iload hx hb dL_isOne_184 (lv_at hl 6 rfl) ?_
        refine lv_iconst (v := 0) hx hb dL_isOne_186 (by decide) ?_
        obtain ⟨x185, g186, h⟩ := ce_b1_e h
        refine ce_callWi (As := [.ref (b + a1), .int a2, .int x16, .int 0]) (rest := []) hx hb hml hown hB (c0_L_stay l hfl X G b ha1 g186) ce_s_L_stay ce_w628 ⟨Nat.le_of_ble_eq_true rfl, Nat.le_of_ble_eq_true rfl⟩ hF hA hS hl rfl rfl (Nat.le_of_ble_eq_true rfl) dL_isOne_187 ⟨Nat.le_of_ble_eq_true rfl, Nat.le_of_ble_eq_true rfl⟩ (fun H locs hA hS => ?_)
        refine lv_iconst (v := (-1)) hx hb dL_isOne_190 (by decide) ?_
        refine lv_icmp_eq (tgt := 256) hx hb dL_isOne_191 (by decide) (fun c187 => ?_) (fun c187 => ?_)
        · have h := ce_it c187 h
          exact Ju21 x13 x15 h  _ _ _ hA hS (lv_sub hl [0, 1, 2, 3, 5] rfl)
        · have h := ce_ie c187 h
          refine lv_iload hx hb dL_isOne_194 (lv_at hl 3 rfl) ?_
          obtain ⟨u191, e198, h⟩ := ce_nm_e h
          have Ju191 : ∀ (x190 : Int32), u191 x190 = some r → ce_Wg p l e (ce_R 9 148 0 0) s m (([.ref (b + a1), .int a2] : List Value).toArray) below meth c 0 0 (MQ below (ce_Q X b M (some (.int r))) ([.ref (b + a1), .int a2] : List Value).toArray s 0 0 (ce_Ab b)) X b M 12 [(0, .ref (b + a1)), (1, .int a2), (2, .int x1), (6, .int x15), (7, .int x16)] 235 [.int x190] := by
            intro x190 h  H locs ls hA hS hl
            subst e198
            refine lv_istore (lv' := [(4, .int x190), (0, .ref (b + a1)), (1, .int a2), (2, .int x1), (6, .int x15), (7, .int x16)]) hx hb dL_isOne_235 hl (by decide) rfl (fun ls hl => ?_)
            refine lv_aload_n hx hb dL_isOne_237 rfl (lv_at hl 1 rfl) ?_
            refine lv_iload_n hx hb dL_isOne_238 rfl (lv_at hl 2 rfl) ?_
            refine lv_iload hx hb dL_isOne_239 (lv_at hl 5 rfl) ?_
            refine lv_iconst (v := 1) hx hb dL_isOne_241 (by decide) ?_
            obtain ⟨x192, g193, h⟩ := ce_b1_e h
            refine ce_callWi (As := [.ref (b + a1), .int a2, .int x16, .int 1]) (rest := []) hx hb hml hown hB (c0_L_stay l hfl X G b ha1 g193) ce_s_L_stay ce_w628 ⟨Nat.le_of_ble_eq_true rfl, Nat.le_of_ble_eq_true rfl⟩ hF hA hS hl rfl rfl (Nat.le_of_ble_eq_true rfl) dL_isOne_242 ⟨Nat.le_of_ble_eq_true rfl, Nat.le_of_ble_eq_true rfl⟩ (fun H locs hA hS => ?_)
            refine lv_istore (lv' := [(5, .int x192), (4, .int x190), (0, .ref (b + a1)), (1, .int a2), (2, .int x1), (6, .int x15), (7, .int x16)]) hx hb dL_isOne_245 hl (by decide) rfl (fun ls hl => ?_)
            obtain ⟨x194, e195, h⟩ := ce_nm_e h
            refine lv_iinc (v := x194) (lv' := [(6, .int x194), (5, .int x192), (4, .int x190), (0, .ref (b + a1)), (1, .int a2), (2, .int x1), (7, .int x16)]) hx hb dL_isOne_247 hl (k := 5) rfl (by rw [← e195]; rfl) (by decide) rfl (fun ls hl => ?_)
            obtain ⟨x196, e197, h⟩ := ce_nm_e h
            refine lv_iinc (v := x196) (lv' := [(7, .int x196), (6, .int x194), (5, .int x192), (4, .int x190), (0, .ref (b + a1)), (1, .int a2), (2, .int x1)]) hx hb dL_isOne_250 hl (k := 6) rfl (by rw [← e197]; rfl) (by decide) rfl (fun ls hl => ?_)
            refine lv_goto (tgt := 175) hx hb dL_isOne_253 (by decide) ?_
            exact ih18 x190 x192 x194 x196 h  _ _ _ hA hS (lv_sub hl [4, 5, 6, 3, 2, 1, 0] rfl)
          obtain ⟨u188, e199, h⟩ := ce_nm_e h
          have Ju188 : ∀ (z189 : Unit), u188 z189 = some r → ce_Wg p l e (ce_R 9 148 0 0) s m (([.ref (b + a1), .int a2] : List Value).toArray) below meth c 0 0 (MQ below (ce_Q X b M (some (.int r))) ([.ref (b + a1), .int a2] : List Value).toArray s 0 0 (ce_Ab b)) X b M 12 [(0, .ref (b + a1)), (1, .int a2), (2, .int x1), (6, .int x15), (7, .int x16)] 234 [] := by
            intro z189 h  H locs ls hA hS hl
            subst e199
            refine lv_iconst (v := 0) hx hb dL_isOne_234 (by decide) ?_
            exact Ju191 0 h  _ _ _ hA hS (lv_sub hl [0, 1, 2, 3, 4] rfl)
          refine lv_if_eq (tgt := 234) hx hb dL_isOne_196 (by decide) (fun c200 => ?_) (fun c200 => ?_)
          · have h := ce_it c200 h
            exact Ju188 () h  _ _ _ hA hS (lv_sub hl [0, 1, 2, 5, 6] rfl)
          · have h := ce_ie c200 h
            refine lv_aload_n hx hb dL_isOne_199 rfl (lv_at hl 0 rfl) ?_
            refine lv_iload_n hx hb dL_isOne_200 rfl (lv_at hl 1 rfl) ?_
            refine lv_iload hx hb dL_isOne_201 (lv_at hl 6 rfl) ?_
            refine lv_iconst (v := 1) hx hb dL_isOne_203 (by decide) ?_
            obtain ⟨x201, g202, h⟩ := ce_b1_e h
            refine ce_callWi (As := [.ref (b + a1), .int a2, .int x16, .int 1]) (rest := []) hx hb hml hown hB (c0_L_stay l hfl X G b ha1 g202) ce_s_L_stay ce_w628 ⟨Nat.le_of_ble_eq_true rfl, Nat.le_of_ble_eq_true rfl⟩ hF hA hS hl rfl rfl (Nat.le_of_ble_eq_true rfl) dL_isOne_204 ⟨Nat.le_of_ble_eq_true rfl, Nat.le_of_ble_eq_true rfl⟩ (fun H locs hA hS => ?_)
            refine lv_iload hx hb dL_isOne_207 (lv_at hl 4 rfl) ?_
            refine lv_icmp_gt (tgt := 234) hx hb dL_isOne_209 (by decide) (fun c203 => ?_) (fun c203 => ?_)
            · have h := ce_it c203 h
              exact Ju188 () h  _ _ _ hA hS (lv_sub hl [0, 1, 2, 5, 6] rfl)
            · have h := ce_ie c203 h
              refine lv_iload hx hb dL_isOne_212 (lv_at hl 6 rfl) ?_
              refine lv_if_eq (tgt := 230) hx hb dL_isOne_214 (by decide) (fun c204 => ?_) (fun c204 => ?_)
              · have h := ce_it c204 h
                refine lv_iconst (v := 1) hx hb dL_isOne_230 (by decide) ?_
                refine lv_goto (tgt := 235) hx hb dL_isOne_231 (by decide) ?_
                exact Ju191 1 h  _ _ _ hA hS (lv_sub hl [0, 1, 2, 5, 6] rfl)
              · have h := ce_ie c204 h
                refine lv_aload_n hx hb dL_isOne_217 rfl (lv_at hl 0 rfl) ?_
                refine lv_iload_n hx hb dL_isOne_218 rfl (lv_at hl 1 rfl) ?_
                refine lv_iload hx hb dL_isOne_219 (lv_at hl 6 rfl) ?_
                refine lv_iconst (v := 2) hx hb dL_isOne_221 (by decide) ?_
                obtain ⟨x205, g206, h⟩ := ce_b1_e h
                refine ce_callWi (As := [.ref (b + a1), .int a2, .int x16, .int 2]) (rest := []) hx hb hml hown hB (c0_L_stay l hfl X G b ha1 g206) ce_s_L_stay ce_w628 ⟨Nat.le_of_ble_eq_true rfl, Nat.le_of_ble_eq_true rfl⟩ hF hA hS hl rfl rfl (Nat.le_of_ble_eq_true rfl) dL_isOne_222 ⟨Nat.le_of_ble_eq_true rfl, Nat.le_of_ble_eq_true rfl⟩ (fun H locs hA hS => ?_)
                refine lv_iload hx hb dL_isOne_225 (lv_at hl 4 rfl) ?_
                refine lv_icmp_ne (tgt := 234) hx hb dL_isOne_227 (by decide) (fun c207 => ?_) (fun c207 => ?_)
                · have h := ce_ie c207 h
                  exact Ju188 () h  _ _ _ hA hS (lv_sub hl [0, 1, 2, 5, 6] rfl)
                · have h := ce_it c207 h
                  refine lv_iconst (v := 1) hx hb dL_isOne_230 (by decide) ?_
                  refine lv_goto (tgt := 235) hx hb dL_isOne_231 (by decide) ?_
                  exact Ju191 1 h  _ _ _ hA hS (lv_sub hl [0, 1, 2, 5, 6] rfl)
    refine lv_icmp_ne (tgt := 160) hx hb dL_isOne_153 (by decide) (fun c209 => ?_) (fun c209 => ?_)
    · have h := ce_ie c209 h
      refine lv_aload_n hx hb dL_isOne_160 rfl (lv_at hl 1 rfl) ?_
      refine lv_iload_n hx hb dL_isOne_161 rfl (lv_at hl 2 rfl) ?_
      refine lv_iconst (v := 0) hx hb dL_isOne_162 (by decide) ?_
      refine lv_iconst (v := 2) hx hb dL_isOne_163 (by decide) ?_
      obtain ⟨x210, g211, h⟩ := ce_b1_e h
      refine ce_callWi (As := [.ref (b + a1), .int a2, .int 0, .int 2]) (rest := []) hx hb hml hown hB (c0_L_stay l hfl X G b ha1 g211) ce_s_L_stay ce_w628 ⟨Nat.le_of_ble_eq_true rfl, Nat.le_of_ble_eq_true rfl⟩ hF hA hS hl rfl rfl (Nat.le_of_ble_eq_true rfl) dL_isOne_164 ⟨Nat.le_of_ble_eq_true rfl, Nat.le_of_ble_eq_true rfl⟩ (fun H locs hA hS => ?_)
      exact Ju12 x210 h  _ _ _ hA hS (lv_sub hl [1, 2, 3, 0] rfl)
    · have h := ce_it c209 h
      refine lv_iload_n hx hb dL_isOne_156 rfl (lv_at hl 4 rfl) ?_
      refine lv_goto (tgt := 167) hx hb dL_isOne_157 (by decide) ?_
      exact Ju12 x3 h  _ _ _ hA hS (lv_sub hl [1, 2, 3, 0] rfl)
  obtain ⟨u7, e213, h⟩ := ce_nm_e h
  have Ju7 : ∀ (z8 : Unit), u7 z8 = some r → ce_Wg p l e (ce_R 9 148 0 0) s m (([.ref (b + a1), .int a2] : List Value).toArray) below meth c 0 0 (MQ below (ce_Q X b M (some (.int r))) ([.ref (b + a1), .int a2] : List Value).toArray s 0 0 (ce_Ab b)) X b M 12 [(0, .ref (b + a1)), (1, .int a2), (2, .int x1), (3, .int x3)] 148 [] := by
    intro z8 h  H locs ls hA hS hl
    subst e213
    refine lv_iconst (v := 0) hx hb dL_isOne_148 (by decide) ?_
    exact Ju10 0 h  _ _ _ hA hS (lv_sub hl [0, 1, 2, 3] rfl)
  refine lv_if_lt (tgt := 148) hx hb dL_isOne_20 (by decide) (fun c214 => ?_) (fun c214 => ?_)
  · have h := ce_it c214 h
    exact Ju7 () h  _ _ _ hA hS (lv_sub hl [2, 3, 1, 0] rfl)
  · have h := ce_ie c214 h
    refine lv_aload_n hx hb dL_isOne_23 rfl (lv_at hl 2 rfl) ?_
    refine lv_iload_n hx hb dL_isOne_24 rfl (lv_at hl 3 rfl) ?_
    refine lv_bipush (v := 6) hx hb dL_isOne_25 (by decide) ?_
    obtain ⟨x215, g216, h⟩ := ce_b1_e h
    refine ce_callWi (As := [.ref (b + a1), .int a2, .int 6]) (rest := []) hx hb hml hown hB (c0_L_one l hfl X G b ha1 g216) ce_s_L_one ce_w619 ⟨Nat.le_of_ble_eq_true rfl, Nat.le_of_ble_eq_true rfl⟩ hF hA hS hl rfl rfl (Nat.le_of_ble_eq_true rfl) dL_isOne_27 ⟨Nat.le_of_ble_eq_true rfl, Nat.le_of_ble_eq_true rfl⟩ (fun H locs hA hS => ?_)
    refine lv_bipush (v := 12) hx hb dL_isOne_30 (by decide) ?_
    refine lv_icmp_gt (tgt := 148) hx hb dL_isOne_32 (by decide) (fun c217 => ?_) (fun c217 => ?_)
    · have h := ce_it c217 h
      exact Ju7 () h  _ _ _ hA hS (lv_sub hl [2, 3, 1, 0] rfl)
    · have h := ce_ie c217 h
      refine lv_aload_n hx hb dL_isOne_35 rfl (lv_at hl 2 rfl) ?_
      refine lv_iload_n hx hb dL_isOne_36 rfl (lv_at hl 3 rfl) ?_
      refine lv_iconst (v := 3) hx hb dL_isOne_37 (by decide) ?_
      obtain ⟨x218, g219, h⟩ := ce_b1_e h
      refine ce_callWi (As := [.ref (b + a1), .int a2, .int 3]) (rest := []) hx hb hml hown hB (c0_L_one l hfl X G b ha1 g219) ce_s_L_one ce_w619 ⟨Nat.le_of_ble_eq_true rfl, Nat.le_of_ble_eq_true rfl⟩ hF hA hS hl rfl rfl (Nat.le_of_ble_eq_true rfl) dL_isOne_38 ⟨Nat.le_of_ble_eq_true rfl, Nat.le_of_ble_eq_true rfl⟩ (fun H locs hA hS => ?_)
      refine lv_iload_n hx hb dL_isOne_41 rfl (lv_at hl 0 rfl) ?_
      refine lv_icmp_gt (tgt := 148) hx hb dL_isOne_42 (by decide) (fun c220 => ?_) (fun c220 => ?_)
      · have h := ce_it c220 h
        exact Ju7 () h  _ _ _ hA hS (lv_sub hl [2, 3, 1, 0] rfl)
      · have h := ce_ie c220 h
        refine lv_aload_n hx hb dL_isOne_45 rfl (lv_at hl 2 rfl) ?_
        refine lv_iload_n hx hb dL_isOne_46 rfl (lv_at hl 3 rfl) ?_
        refine lv_bipush (v := 11) hx hb dL_isOne_47 (by decide) ?_
        obtain ⟨x221, g222, h⟩ := ce_b1_e h
        refine ce_callWi (As := [.ref (b + a1), .int a2, .int 11]) (rest := []) hx hb hml hown hB (c0_L_one l hfl X G b ha1 g222) ce_s_L_one ce_w619 ⟨Nat.le_of_ble_eq_true rfl, Nat.le_of_ble_eq_true rfl⟩ hF hA hS hl rfl rfl (Nat.le_of_ble_eq_true rfl) dL_isOne_49 ⟨Nat.le_of_ble_eq_true rfl, Nat.le_of_ble_eq_true rfl⟩ (fun H locs hA hS => ?_)
        refine lv_iload_n hx hb dL_isOne_52 rfl (lv_at hl 0 rfl) ?_
        refine lv_bipush (v := 9) hx hb dL_isOne_53 (by decide) ?_
        refine lv_iadd hx hb dL_isOne_55 ?_
        refine lv_icmp_gt (tgt := 148) hx hb dL_isOne_56 (by decide) (fun c223 => ?_) (fun c223 => ?_)
        · have h := ce_it c223 h
          exact Ju7 () h  _ _ _ hA hS (lv_sub hl [2, 3, 1, 0] rfl)
        · have h := ce_ie c223 h
          refine lv_aload_n hx hb dL_isOne_59 rfl (lv_at hl 2 rfl) ?_
          refine lv_iload_n hx hb dL_isOne_60 rfl (lv_at hl 3 rfl) ?_
          refine lv_iconst (v := 0) hx hb dL_isOne_61 (by decide) ?_
          refine lv_iconst (v := 0) hx hb dL_isOne_62 (by decide) ?_
          obtain ⟨x224, g225, h⟩ := ce_b1_e h
          refine ce_callWi (As := [.ref (b + a1), .int a2, .int 0, .int 0]) (rest := []) hx hb hml hown hB (c0_L_stay l hfl X G b ha1 g225) ce_s_L_stay ce_w628 ⟨Nat.le_of_ble_eq_true rfl, Nat.le_of_ble_eq_true rfl⟩ hF hA hS hl rfl rfl (Nat.le_of_ble_eq_true rfl) dL_isOne_63 ⟨Nat.le_of_ble_eq_true rfl, Nat.le_of_ble_eq_true rfl⟩ (fun H locs hA hS => ?_)
          refine lv_aload_n hx hb dL_isOne_66 rfl (lv_at hl 2 rfl) ?_
          refine lv_iload_n hx hb dL_isOne_67 rfl (lv_at hl 3 rfl) ?_
          refine lv_iconst (v := 4) hx hb dL_isOne_68 (by decide) ?_
          obtain ⟨x226, g227, h⟩ := ce_b1_e h
          refine ce_callWi (As := [.ref (b + a1), .int a2, .int 4]) (rest := [.int x224]) hx hb hml hown hB (c0_L_one l hfl X G b ha1 g227) ce_s_L_one ce_w619 ⟨Nat.le_of_ble_eq_true rfl, Nat.le_of_ble_eq_true rfl⟩ hF hA hS hl rfl rfl (Nat.le_of_ble_eq_true rfl) dL_isOne_69 ⟨Nat.le_of_ble_eq_true rfl, Nat.le_of_ble_eq_true rfl⟩ (fun H locs hA hS => ?_)
          refine lv_icmp_ne (tgt := 148) hx hb dL_isOne_72 (by decide) (fun c228 => ?_) (fun c228 => ?_)
          · have h := ce_ie c228 h
            exact Ju7 () h  _ _ _ hA hS (lv_sub hl [2, 3, 1, 0] rfl)
          · have h := ce_it c228 h
            refine lv_aload_n hx hb dL_isOne_75 rfl (lv_at hl 2 rfl) ?_
            refine lv_iload_n hx hb dL_isOne_76 rfl (lv_at hl 3 rfl) ?_
            refine lv_iconst (v := 0) hx hb dL_isOne_77 (by decide) ?_
            refine lv_iconst (v := 2) hx hb dL_isOne_78 (by decide) ?_
            obtain ⟨x229, g230, h⟩ := ce_b1_e h
            refine ce_callWi (As := [.ref (b + a1), .int a2, .int 0, .int 2]) (rest := []) hx hb hml hown hB (c0_L_stay l hfl X G b ha1 g230) ce_s_L_stay ce_w628 ⟨Nat.le_of_ble_eq_true rfl, Nat.le_of_ble_eq_true rfl⟩ hF hA hS hl rfl rfl (Nat.le_of_ble_eq_true rfl) dL_isOne_79 ⟨Nat.le_of_ble_eq_true rfl, Nat.le_of_ble_eq_true rfl⟩ (fun H locs hA hS => ?_)
            refine lv_iconst (v := (-1)) hx hb dL_isOne_82 (by decide) ?_
            obtain ⟨u232, e253, h⟩ := ce_nm_e h
            have Ju232 : ∀ (x231 : Int32), u232 x231 = some r → ce_Wg p l e (ce_R 9 148 0 0) s m (([.ref (b + a1), .int a2] : List Value).toArray) below meth c 0 0 (MQ below (ce_Q X b M (some (.int r))) ([.ref (b + a1), .int a2] : List Value).toArray s 0 0 (ce_Ab b)) X b M 12 [(0, .ref (b + a1)), (1, .int a2), (2, .int x1), (3, .int x3)] 91 [.int x231] := by
              intro x231 h  H locs ls hA hS hl
              subst e253
              refine lv_iload_n hx hb dL_isOne_91 rfl (lv_at hl 2 rfl) ?_
              refine lv_iconst (v := 1) hx hb dL_isOne_92 (by decide) ?_
              obtain ⟨u234, e251, h⟩ := ce_nm_e h
              have Ju234 : ∀ (x233 : Int32), u234 x233 = some r → ce_Wg p l e (ce_R 9 148 0 0) s m (([.ref (b + a1), .int a2] : List Value).toArray) below meth c 0 0 (MQ below (ce_Q X b M (some (.int r))) ([.ref (b + a1), .int a2] : List Value).toArray s 0 0 (ce_Ab b)) X b M 12 [(0, .ref (b + a1)), (1, .int a2), (2, .int x1), (3, .int x3)] 101 [.int x233, .int x231] := by
                intro x233 h  H locs ls hA hS hl
                subst e251
                refine lv_icmp_ne (tgt := 148) hx hb dL_isOne_101 (by decide) (fun c235 => ?_) (fun c235 => ?_)
                · have h := ce_ie c235 h
                  exact Ju7 () h  _ _ _ hA hS (lv_sub hl [0, 1, 2, 3] rfl)
                · have h := ce_it c235 h
                  refine lv_iload_n hx hb dL_isOne_104 rfl (lv_at hl 2 rfl) ?_
                  refine lv_iconst (v := 1) hx hb dL_isOne_105 (by decide) ?_
                  obtain ⟨u236, e246, h⟩ := ce_nm_e h
                  have Ju236 : ∀ (z237 : Unit), u236 z237 = some r → ce_Wg p l e (ce_R 9 148 0 0) s m (([.ref (b + a1), .int a2] : List Value).toArray) below meth c 0 0 (MQ below (ce_Q X b M (some (.int r))) ([.ref (b + a1), .int a2] : List Value).toArray s 0 0 (ce_Ab b)) X b M 12 [(0, .ref (b + a1)), (1, .int a2), (2, .int x1), (3, .int x3)] 119 [] := by
                    intro z237 h  H locs ls hA hS hl
                    subst e246
                    refine lv_aload_n hx hb dL_isOne_119 rfl (lv_at hl 0 rfl) ?_
                    refine lv_iload_n hx hb dL_isOne_120 rfl (lv_at hl 1 rfl) ?_
                    refine lv_iconst (v := 0) hx hb dL_isOne_121 (by decide) ?_
                    obtain ⟨x238, g239, h⟩ := ce_b1_e h
                    refine ce_callWi (As := [.ref (b + a1), .int a2, .int 0]) (rest := []) hx hb hml hown hB (c0_L_one l hfl X G b ha1 g239) ce_s_L_one ce_w619 ⟨Nat.le_of_ble_eq_true rfl, Nat.le_of_ble_eq_true rfl⟩ hF hA hS hl rfl rfl (Nat.le_of_ble_eq_true rfl) dL_isOne_122 ⟨Nat.le_of_ble_eq_true rfl, Nat.le_of_ble_eq_true rfl⟩ (fun H locs hA hS => ?_)
                    refine lv_iconst (v := 2) hx hb dL_isOne_125 (by decide) ?_
                    refine lv_icmp_ne (tgt := 144) hx hb dL_isOne_126 (by decide) (fun c240 => ?_) (fun c240 => ?_)
                    · have h := ce_ie c240 h
                      refine lv_iconst (v := 1) hx hb dL_isOne_144 (by decide) ?_
                      refine lv_goto (tgt := 149) hx hb dL_isOne_145 (by decide) ?_
                      exact Ju10 1 h  _ _ _ hA hS (lv_sub hl [0, 1, 2, 3] rfl)
                    · have h := ce_it c240 h
                      refine lv_aload_n hx hb dL_isOne_129 rfl (lv_at hl 0 rfl) ?_
                      refine lv_iload_n hx hb dL_isOne_130 rfl (lv_at hl 1 rfl) ?_
                      refine lv_iconst (v := 2) hx hb dL_isOne_131 (by decide) ?_
                      obtain ⟨x241, g242, h⟩ := ce_b1_e h
                      refine ce_callWi (As := [.ref (b + a1), .int a2, .int 2]) (rest := []) hx hb hml hown hB (c0_L_one l hfl X G b ha1 g242) ce_s_L_one ce_w619 ⟨Nat.le_of_ble_eq_true rfl, Nat.le_of_ble_eq_true rfl⟩ hF hA hS hl rfl rfl (Nat.le_of_ble_eq_true rfl) dL_isOne_132 ⟨Nat.le_of_ble_eq_true rfl, Nat.le_of_ble_eq_true rfl⟩ (fun H locs hA hS => ?_)
                      refine lv_aload_n hx hb dL_isOne_135 rfl (lv_at hl 0 rfl) ?_
                      refine lv_iload_n hx hb dL_isOne_136 rfl (lv_at hl 1 rfl) ?_
                      refine lv_iconst (v := 4) hx hb dL_isOne_137 (by decide) ?_
                      obtain ⟨x243, g244, h⟩ := ce_b1_e h
                      refine ce_callWi (As := [.ref (b + a1), .int a2, .int 4]) (rest := [.int x241]) hx hb hml hown hB (c0_L_one l hfl X G b ha1 g244) ce_s_L_one ce_w619 ⟨Nat.le_of_ble_eq_true rfl, Nat.le_of_ble_eq_true rfl⟩ hF hA hS hl rfl rfl (Nat.le_of_ble_eq_true rfl) dL_isOne_138 ⟨Nat.le_of_ble_eq_true rfl, Nat.le_of_ble_eq_true rfl⟩ (fun H locs hA hS => ?_)
                      refine lv_icmp_ne (tgt := 148) hx hb dL_isOne_141 (by decide) (fun c245 => ?_) (fun c245 => ?_)
                      · have h := ce_ie c245 h
                        exact Ju7 () h  _ _ _ hA hS (lv_sub hl [0, 1, 2, 3] rfl)
                      · have h := ce_it c245 h
                        refine lv_iconst (v := 1) hx hb dL_isOne_144 (by decide) ?_
                        refine lv_goto (tgt := 149) hx hb dL_isOne_145 (by decide) ?_
                        exact Ju10 1 h  _ _ _ hA hS (lv_sub hl [0, 1, 2, 3] rfl)
                  refine lv_icmp_eq (tgt := 119) hx hb dL_isOne_106 (by decide) (fun c247 => ?_) (fun c247 => ?_)
                  · have h := ce_it c247 h
                    exact Ju236 () h  _ _ _ hA hS (lv_sub hl [0, 1, 2, 3] rfl)
                  · have h := ce_ie c247 h
                    refine lv_aload_n hx hb dL_isOne_109 rfl (lv_at hl 0 rfl) ?_
                    refine lv_iload_n hx hb dL_isOne_110 rfl (lv_at hl 1 rfl) ?_
                    refine lv_bipush (v := 6) hx hb dL_isOne_111 (by decide) ?_
                    obtain ⟨x248, g249, h⟩ := ce_b1_e h
                    refine ce_callWi (As := [.ref (b + a1), .int a2, .int 6]) (rest := []) hx hb hml hown hB (c0_L_one l hfl X G b ha1 g249) ce_s_L_one ce_w619 ⟨Nat.le_of_ble_eq_true rfl, Nat.le_of_ble_eq_true rfl⟩ hF hA hS hl rfl rfl (Nat.le_of_ble_eq_true rfl) dL_isOne_113 ⟨Nat.le_of_ble_eq_true rfl, Nat.le_of_ble_eq_true rfl⟩ (fun H locs hA hS => ?_)
                    refine lv_if_ne (tgt := 148) hx hb dL_isOne_116 (by decide) (fun c250 => ?_) (fun c250 => ?_)
                    · have h := ce_ie c250 h
                      exact Ju7 () h  _ _ _ hA hS (lv_sub hl [0, 1, 2, 3] rfl)
                    · have h := ce_it c250 h
                      exact Ju236 () h  _ _ _ hA hS (lv_sub hl [0, 1, 2, 3] rfl)
              refine lv_icmp_ne (tgt := 100) hx hb dL_isOne_93 (by decide) (fun c252 => ?_) (fun c252 => ?_)
              · have h := ce_ie c252 h
                refine lv_iconst (v := 0) hx hb dL_isOne_100 (by decide) ?_
                exact Ju234 0 h  _ _ _ hA hS (lv_sub hl [0, 1, 2, 3] rfl)
              · have h := ce_it c252 h
                refine lv_iconst (v := 1) hx hb dL_isOne_96 (by decide) ?_
                refine lv_goto (tgt := 101) hx hb dL_isOne_97 (by decide) ?_
                exact Ju234 1 h  _ _ _ hA hS (lv_sub hl [0, 1, 2, 3] rfl)
            refine lv_icmp_ne (tgt := 90) hx hb dL_isOne_83 (by decide) (fun c254 => ?_) (fun c254 => ?_)
            · have h := ce_ie c254 h
              refine lv_iconst (v := 0) hx hb dL_isOne_90 (by decide) ?_
              exact Ju232 0 h  _ _ _ hA hS (lv_sub hl [2, 3, 1, 0] rfl)
            · have h := ce_it c254 h
              refine lv_iconst (v := 1) hx hb dL_isOne_86 (by decide) ?_
              refine lv_goto (tgt := 91) hx hb dL_isOne_87 (by decide) ?_
              exact Ju232 1 h  _ _ _ hA hS (lv_sub hl [2, 3, 1, 0] rfl)
