def f_L_fits_L476 (M : ce_M) (a1 : Nat) (x47 : Int32) (u56 : Int32 → Int32 → Option Int32) (rec52 : Int32 → Int32 → Int32 → Option Int32) (x49 : Int32) (x50 : Int32) (x51 : Int32) : Option Int32 :=
  ce_b1 (f0_L_whole M a1 0) (fun (x72 : Int32) =>
  if x72 ≤ x51 then
    u56 x49 x50
  else
    if x49 = 0 then
      u56 x49 x50
    else
      ce_b1 (f0_L_why M a1 x51 x47 2) (fun (x76 : Int32) =>
      ce_b1 (f0_L_covers M a1 x51) (fun (x78 : Int32) =>
      ce_nm (fun (x80 : Int32) =>
      ce_nm (fun (x84 : Int32) =>
          ce_nm (fun (x88 : Int32) =>
              if x80 = 0 then
                ce_nm (x50 ||| 0) (fun (x91 : Int32) =>
                ce_nm (x51 + 1) (fun (x93 : Int32) =>
                rec52 x88 x91 x93))
              else
                ce_nm (x50 ||| (1 <<< (x51 &&& 31))) (fun (x95 : Int32) =>
                ce_nm (x51 + 1) (fun (x97 : Int32) =>
                rec52 x88 x95 x97))) (fun (u89 : Int32 → Option Int32) =>
          ce_nm (fun (z87 : Unit) =>
              u89 0) (fun (u86 : Unit → Option Int32) =>
          if x80 = x84 then
            ce_nm (fun (x102 : Int32) =>
              ce_b1 (f0_L_one M a1 x51 5) (fun (x104 : Int32) =>
              ce_nm (fun (x106 : Int32) =>
                  if x102 = x106 then
                    if x76 = 4 then
                      ce_b1 (f0_L_one M a1 x51 6) (fun (x110 : Int32) =>
                      if x110 = 12 then
                        u89 1
                      else
                        u86 ())
                    else
                      u89 1
                  else
                    u86 ()) (fun (u107 : Int32 → Option Int32) =>
              if x104 = 0 then
                u107 1
              else
                u107 0))) (fun (u103 : Int32 → Option Int32) =>
            if x76 = 1 then
              u103 1
            else
              u103 0)
          else
            u86 ()))) (fun (u85 : Int32 → Option Int32) =>
      ce_nm (fun (z83 : Unit) =>
          u85 1) (fun (u82 : Unit → Option Int32) =>
      if x76 = 0 then
        u82 ()
      else
        if x76 = 4 then
          u82 ()
        else
          u85 0))) (fun (u81 : Int32 → Option Int32) =>
      if ((x78 >>> (x47 &&& 31)) &&& 1) = 1 then
        u81 1
      else
        u81 0))))
def f_L_fits_L232 (M : ce_M) (a1 : Nat) (u38 : Int32 → Option Int32) (rec35 : Int32 → Int32 → Option Int32) (x33 : Int32) (x34 : Int32) : Option Int32 :=
  ce_b1 (f0_L_whole M a1 2) (fun (x161 : Int32) =>
  if x161 ≤ x34 then
    u38 x33
  else
    if x33 = 0 then
      u38 x33
    else
      ce_b1 (f0_L_event M a1 x34 5) (fun (x165 : Int32) =>
      ce_b1 (f0_L_event M a1 x34 4) (fun (x167 : Int32) =>
      if (x165 &&& (x167 ^^^ (-1))) = 0 then
        ce_b1 (f0_L_event M a1 x34 2) (fun (x172 : Int32) =>
        ce_b1 (f0_L_event M a1 x34 3) (fun (x174 : Int32) =>
        if x174 < x172 then
          ce_nm (x34 + 1) (fun (x177 : Int32) =>
          rec35 0 x177)
        else
          ce_b1 (f0_L_event M a1 x34 3) (fun (x179 : Int32) =>
          ce_b1 (f0_L_whole M a1 3) (fun (x181 : Int32) =>
          if x181 < x179 then
            ce_nm (x34 + 1) (fun (x184 : Int32) =>
            rec35 0 x184)
          else
            ce_nm (x34 + 1) (fun (x186 : Int32) =>
            rec35 1 x186)))))
      else
        ce_nm (x34 + 1) (fun (x170 : Int32) =>
        rec35 0 x170))))
def f_L_fits_L142 (M : ce_M) (a1 : Nat) (u32 : Int32 → Int32 → Int32 → Int32 → Int32 → Option Int32) (rec25 : Int32 → Int32 → Int32 → Int32 → Int32 → Int32 → Option Int32) (x19 : Int32) (x20 : Int32) (x21 : Int32) (x22 : Int32) (x23 : Int32) (x24 : Int32) : Option Int32 :=
  if 16 ≤ x24 then
    u32 x19 x20 x21 x22 x23
  else
    ce_b1 (f0_L_leaf M a1 x24 0) (fun (x190 : Int32) =>
    ce_nm (x19 + x190) (fun (x192 : Int32) =>
    ce_b1 (f0_L_leaf M a1 x24 1) (fun (x194 : Int32) =>
    ce_nm (x20 + x194) (fun (x196 : Int32) =>
    ce_b1 (f0_L_leaf M a1 x24 2) (fun (x198 : Int32) =>
    ce_nm (x21 + x198) (fun (x200 : Int32) =>
    ce_b1 (f0_L_leaf M a1 x24 3) (fun (x202 : Int32) =>
    ce_nm (x22 + x202) (fun (x204 : Int32) =>
    ce_b1 (f0_L_leaf M a1 x24 2) (fun (x206 : Int32) =>
    if x206 ≤ x23 then
      ce_nm (x24 + 1) (fun (x209 : Int32) =>
      rec25 x192 x196 x200 x204 x23 x209)
    else
      ce_b1 (f0_L_leaf M a1 x24 2) (fun (x211 : Int32) =>
      ce_nm (x24 + 1) (fun (x213 : Int32) =>
      rec25 x192 x196 x200 x204 x211 x213)))))))))))
def f_L_fits_L22 (M : ce_M) (a1 : Nat) (u18 : Int32 → Int32 → Int32 → Int32 → Int32 → Int32 → Int32 → Option Int32) (rec9 : Int32 → Int32 → Int32 → Int32 → Int32 → Int32 → Int32 → Int32 → Option Int32) (x1 : Int32) (x2 : Int32) (x3 : Int32) (x4 : Int32) (x5 : Int32) (x6 : Int32) (x7 : Int32) (x8 : Int32) : Option Int32 :=
  ce_b1 (f0_L_whole M a1 0) (fun (x216 : Int32) =>
  if x216 ≤ x8 then
    u18 x1 x2 x3 x4 x5 x6 x7
  else
    if x7 = 0 then
      u18 x1 x2 x3 x4 x5 x6 x7
    else
      ce_b1 (f_L_isOne M a1 x8) (fun (x220 : Int32) =>
      ce_b1 (f0_L_one M a1 x8 5) (fun (x222 : Int32) =>
      ce_nm (x1 + x222) (fun (x224 : Int32) =>
      ce_b1 (f0_L_one M a1 x8 6) (fun (x226 : Int32) =>
      ce_nm (x2 + x226) (fun (x228 : Int32) =>
      ce_b1 (f0_L_one M a1 x8 7) (fun (x230 : Int32) =>
      ce_nm (x6 + x230) (fun (x232 : Int32) =>
      ce_b1 (f0_L_one M a1 x8 8) (fun (x234 : Int32) =>
      ce_nm (x3 + x234) (fun (x236 : Int32) =>
      ce_b1 (f0_L_one M a1 x8 9) (fun (x238 : Int32) =>
      ce_nm (x4 + x238) (fun (x240 : Int32) =>
      ce_b1 (f0_L_one M a1 x8 10) (fun (x242 : Int32) =>
      ce_nm (x5 + x242) (fun (x244 : Int32) =>
      ce_nm (x8 + 1) (fun (x246 : Int32) =>
      rec9 x224 x228 x236 x240 x244 x232 x220 x246)))))))))))))))
def f_L_fits (M : ce_M) (a1 : Nat) (a2 : Int32) : Option Int32 :=
  ce_nm (fun (x11 : Int32) (x12 : Int32) (x13 : Int32) (x14 : Int32) (x15 : Int32) (x16 : Int32) (x17 : Int32) =>
      ce_nm (fun (x27 : Int32) (x28 : Int32) (x29 : Int32) (x30 : Int32) (x31 : Int32) =>
          ce_nm (fun (x37 : Int32) =>
              ce_nm (fun (x41 : Int32) =>
                  ce_nm (fun (x45 : Int32) =>
                      ce_b1 (f_L_low M a2 16) (fun (x47 : Int32) =>
                      ce_nm (fun (x54 : Int32) (x55 : Int32) =>
                          if x54 = 0 then
                            some 0
                          else
                            ce_b1 (f0_L_would M a1 x47 2 0) (fun (x58 : Int32) =>
                            if x58 = x55 then
                              ce_b1 (f0_L_would M a1 x47 1 0) (fun (x61 : Int32) =>
                              if (x61 &&& x55) = x55 then
                                ce_b1 (f0_L_would M a1 x47 0 0) (fun (x64 : Int32) =>
                                ce_b1 (f0_L_would M a1 x47 1 0) (fun (x66 : Int32) =>
                                ce_b1 (f0_L_would M a1 x47 0 0) (fun (x68 : Int32) =>
                                if x64 = (x66 ||| x68) then
                                  some 1
                                else
                                  some 0)))
                              else
                                some 0)
                            else
                              some 0)) (fun (u56 : Int32 → Int32 → Option Int32) =>
                      ce_lp3 (f_L_fits_L476 M a1 x47 u56) ce_FU x45 0 0))) (fun (u46 : Int32 → Option Int32) =>
                  ce_nm (fun (z44 : Unit) =>
                      u46 0) (fun (u43 : Unit → Option Int32) =>
                  if x41 = 0 then
                    u43 ()
                  else
                    ce_b1 (f0_L_whole M a1 1) (fun (x126 : Int32) =>
                    if x126 = x11 then
                      ce_b1 (f0_L_whole M a1 8) (fun (x129 : Int32) =>
                      if x129 = x12 then
                        ce_b1 (f0_L_whole M a1 9) (fun (x132 : Int32) =>
                        if x132 = x13 then
                          ce_b1 (f0_L_whole M a1 10) (fun (x135 : Int32) =>
                          if x135 = x14 then
                            ce_b1 (f0_L_whole M a1 12) (fun (x138 : Int32) =>
                            if x138 = x15 then
                              if x27 = x11 then
                                if x30 = x11 then
                                  if x28 = x13 then
                                    if x29 = x12 then
                                      ce_b1 (f0_L_whole M a1 11) (fun (x145 : Int32) =>
                                      if x16 = (((x13 + x14) + x12) + x145) then
                                        u46 1
                                      else
                                        u43 ())
                                    else
                                      u43 ()
                                  else
                                    u43 ()
                                else
                                  u43 ()
                              else
                                u43 ()
                            else
                              u43 ())
                          else
                            u43 ())
                        else
                          u43 ())
                      else
                        u43 ())
                    else
                      u43 ())))) (fun (u42 : Int32 → Option Int32) =>
              ce_nm (fun (z40 : Unit) =>
                  u42 0) (fun (u39 : Unit → Option Int32) =>
              if x37 = 0 then
                u39 ()
              else
                if x31 = 0 then
                  ce_b1 (f_X7_busiest a1 M) (fun (x157 : Int32) =>
                  if x157 = (-1) then
                    u42 1
                  else
                    u39 ())
                else
                  ce_b1 (f_X7_busiest a1 M) (fun (x152 : Int32) =>
                  ce_b1 (f0_L_leaf M a1 x152 2) (fun (x154 : Int32) =>
                  if x154 = x31 then
                    u42 1
                  else
                    u39 ()))))) (fun (u38 : Int32 → Option Int32) =>
          ce_lp2 (f_L_fits_L232 M a1 u38) ce_FU x17 0)) (fun (u32 : Int32 → Int32 → Int32 → Int32 → Int32 → Option Int32) =>
      ce_lp6 (f_L_fits_L142 M a1 u32) ce_FU 0 0 0 0 0 0)) (fun (u18 : Int32 → Int32 → Int32 → Int32 → Int32 → Int32 → Int32 → Option Int32) =>
  ce_lp8 (f_L_fits_L22 M a1 u18) ce_FU 0 0 0 0 0 0 1 0)
set_option maxRecDepth 100000 in
set_option maxHeartbeats 4000000 in
theorem c_L_fits (l : Launch) (hfl : l.stackTraces = false) (X : ce_X) (G : ce_G) (b : Nat) {a1 : Nat} {a2 : Int32} {M : ce_M} (ha1 : ce_kd a1 = 7) {r : Int32} (h : f_L_fits M a1 a2 = some r) : ce_Ct l yL_fits cL_fits 19 (some .boolean) 10 179 X G b [.ref (b + a1), .int a2] M (some (.int r)) M := by
  refine ce_ofW (own := RL) (by decide) rfl (Nat.le_of_ble_eq_true rfl) (fun p e s m below meth c ls hx hb hr hlocks hml hown hB hF hA hl hS => ?_)
  have hK := hF.1
  have hl : lv_has ls 19 [(0, .ref (b + a1)), (1, .int a2)] := hl
  unfold f_L_fits at h
  refine lv_iconst (v := 0) hx hb dL_fits_0 (by decide) ?_
  refine lv_istore_n (lv' := [(2, .int 0), (0, .ref (b + a1)), (1, .int a2)]) hx hb dL_fits_1 rfl hl (by decide) rfl (fun ls hl => ?_)
  refine lv_iconst (v := 0) hx hb dL_fits_2 (by decide) ?_
  refine lv_istore_n (lv' := [(3, .int 0), (2, .int 0), (0, .ref (b + a1)), (1, .int a2)]) hx hb dL_fits_3 rfl hl (by decide) rfl (fun ls hl => ?_)
  refine lv_iconst (v := 0) hx hb dL_fits_4 (by decide) ?_
  refine lv_istore (lv' := [(4, .int 0), (3, .int 0), (2, .int 0), (0, .ref (b + a1)), (1, .int a2)]) hx hb dL_fits_5 hl (by decide) rfl (fun ls hl => ?_)
  refine lv_iconst (v := 0) hx hb dL_fits_7 (by decide) ?_
  refine lv_istore (lv' := [(5, .int 0), (4, .int 0), (3, .int 0), (2, .int 0), (0, .ref (b + a1)), (1, .int a2)]) hx hb dL_fits_8 hl (by decide) rfl (fun ls hl => ?_)
  refine lv_iconst (v := 0) hx hb dL_fits_10 (by decide) ?_
  refine lv_istore (lv' := [(6, .int 0), (5, .int 0), (4, .int 0), (3, .int 0), (2, .int 0), (0, .ref (b + a1)), (1, .int a2)]) hx hb dL_fits_11 hl (by decide) rfl (fun ls hl => ?_)
  refine lv_iconst (v := 0) hx hb dL_fits_13 (by decide) ?_
  refine lv_istore (lv' := [(7, .int 0), (6, .int 0), (5, .int 0), (4, .int 0), (3, .int 0), (2, .int 0), (0, .ref (b + a1)), (1, .int a2)]) hx hb dL_fits_14 hl (by decide) rfl (fun ls hl => ?_)
  refine lv_iconst (v := 1) hx hb dL_fits_16 (by decide) ?_
  refine lv_istore (lv' := [(8, .int 1), (7, .int 0), (6, .int 0), (5, .int 0), (4, .int 0), (3, .int 0), (2, .int 0), (0, .ref (b + a1)), (1, .int a2)]) hx hb dL_fits_17 hl (by decide) rfl (fun ls hl => ?_)
  refine lv_iconst (v := 0) hx hb dL_fits_19 (by decide) ?_
  refine lv_istore (lv' := [(9, .int 0), (8, .int 1), (7, .int 0), (6, .int 0), (5, .int 0), (4, .int 0), (3, .int 0), (2, .int 0), (0, .ref (b + a1)), (1, .int a2)]) hx hb dL_fits_20 hl (by decide) rfl (fun ls hl => ?_)
  obtain ⟨u18, e215, h⟩ := ce_nm_e h
  have Ju18 : ∀ (x11 : Int32) (x12 : Int32) (x13 : Int32) (x14 : Int32) (x15 : Int32) (x16 : Int32) (x17 : Int32), u18 x11 x12 x13 x14 x15 x16 x17 = some r → ce_Wg p l e (ce_R 10 179 0 0) s m (([.ref (b + a1), .int a2] : List Value).toArray) below meth c 0 0 (MQ below (ce_Q X b M (some (.int r))) ([.ref (b + a1), .int a2] : List Value).toArray s 0 0 (ce_Ab b)) X b M 19 [(0, .ref (b + a1)), (1, .int a2), (2, .int x11), (3, .int x12), (4, .int x13), (5, .int x14), (6, .int x15), (7, .int x16), (8, .int x17)] 124 [] := by
    intro x11 x12 x13 x14 x15 x16 x17 h  H locs ls hA hS hl
    subst e215
    refine lv_iconst (v := 0) hx hb dL_fits_124 (by decide) ?_
    refine lv_istore (lv' := [(9, .int 0), (0, .ref (b + a1)), (1, .int a2), (2, .int x11), (3, .int x12), (4, .int x13), (5, .int x14), (6, .int x15), (7, .int x16), (8, .int x17)]) hx hb dL_fits_125 hl (by decide) rfl (fun ls hl => ?_)
    refine lv_iconst (v := 0) hx hb dL_fits_127 (by decide) ?_
    refine lv_istore (lv' := [(10, .int 0), (9, .int 0), (0, .ref (b + a1)), (1, .int a2), (2, .int x11), (3, .int x12), (4, .int x13), (5, .int x14), (6, .int x15), (7, .int x16), (8, .int x17)]) hx hb dL_fits_128 hl (by decide) rfl (fun ls hl => ?_)
    refine lv_iconst (v := 0) hx hb dL_fits_130 (by decide) ?_
    refine lv_istore (lv' := [(11, .int 0), (10, .int 0), (9, .int 0), (0, .ref (b + a1)), (1, .int a2), (2, .int x11), (3, .int x12), (4, .int x13), (5, .int x14), (6, .int x15), (7, .int x16), (8, .int x17)]) hx hb dL_fits_131 hl (by decide) rfl (fun ls hl => ?_)
    refine lv_iconst (v := 0) hx hb dL_fits_133 (by decide) ?_
    refine lv_istore (lv' := [(12, .int 0), (11, .int 0), (10, .int 0), (9, .int 0), (0, .ref (b + a1)), (1, .int a2), (2, .int x11), (3, .int x12), (4, .int x13), (5, .int x14), (6, .int x15), (7, .int x16), (8, .int x17)]) hx hb dL_fits_134 hl (by decide) rfl (fun ls hl => ?_)
    refine lv_iconst (v := 0) hx hb dL_fits_136 (by decide) ?_
    refine lv_istore (lv' := [(13, .int 0), (12, .int 0), (11, .int 0), (10, .int 0), (9, .int 0), (0, .ref (b + a1)), (1, .int a2), (2, .int x11), (3, .int x12), (4, .int x13), (5, .int x14), (6, .int x15), (7, .int x16), (8, .int x17)]) hx hb dL_fits_137 hl (by decide) rfl (fun ls hl => ?_)
    refine lv_iconst (v := 0) hx hb dL_fits_139 (by decide) ?_
    refine lv_istore (lv' := [(14, .int 0), (13, .int 0), (12, .int 0), (11, .int 0), (10, .int 0), (9, .int 0), (0, .ref (b + a1)), (1, .int a2), (2, .int x11), (3, .int x12), (4, .int x13), (5, .int x14), (6, .int x15), (7, .int x16), (8, .int x17)]) hx hb dL_fits_140 hl (by decide) rfl (fun ls hl => ?_)
    obtain ⟨u32, e188, h⟩ := ce_nm_e h
    have Ju32 : ∀ (x27 : Int32) (x28 : Int32) (x29 : Int32) (x30 : Int32) (x31 : Int32), u32 x27 x28 x29 x30 x31 = some r → ce_Wg p l e (ce_R 10 179 0 0) s m (([.ref (b + a1), .int a2] : List Value).toArray) below meth c 0 0 (MQ below (ce_Q X b M (some (.int r))) ([.ref (b + a1), .int a2] : List Value).toArray s 0 0 (ce_Ab b)) X b M 19 [(0, .ref (b + a1)), (1, .int a2), (2, .int x11), (3, .int x12), (4, .int x13), (5, .int x14), (6, .int x15), (7, .int x16), (8, .int x17), (9, .int x27), (10, .int x28), (11, .int x29), (12, .int x30), (13, .int x31)] 229 [] := by
      intro x27 x28 x29 x30 x31 h  H locs ls hA hS hl
      subst e188
      refine lv_iconst (v := 0) hx hb dL_fits_229 (by decide) ?_
      refine lv_istore (lv' := [(14, .int 0), (0, .ref (b + a1)), (1, .int a2), (2, .int x11), (3, .int x12), (4, .int x13), (5, .int x14), (6, .int x15), (7, .int x16), (8, .int x17), (9, .int x27), (10, .int x28), (11, .int x29), (12, .int x30), (13, .int x31)]) hx hb dL_fits_230 hl (by decide) rfl (fun ls hl => ?_)
      obtain ⟨u38, e160, h⟩ := ce_nm_e h
      have Ju38 : ∀ (x37 : Int32), u38 x37 = some r → ce_Wg p l e (ce_R 10 179 0 0) s m (([.ref (b + a1), .int a2] : List Value).toArray) below meth c 0 0 (MQ below (ce_Q X b M (some (.int r))) ([.ref (b + a1), .int a2] : List Value).toArray s 0 0 (ce_Ab b)) X b M 19 [(0, .ref (b + a1)), (1, .int a2), (2, .int x11), (3, .int x12), (4, .int x13), (5, .int x14), (6, .int x15), (7, .int x16), (8, .int x37), (9, .int x27), (10, .int x28), (11, .int x29), (12, .int x30), (13, .int x31)] 312 [] := by
        intro x37 h  H locs ls hA hS hl
        subst e160
        refine lv_iload hx hb dL_fits_312 (lv_at hl 8 rfl) ?_
        obtain ⟨u42, e148, h⟩ := ce_nm_e h
        have Ju42 : ∀ (x41 : Int32), u42 x41 = some r → ce_Wg p l e (ce_R 10 179 0 0) s m (([.ref (b + a1), .int a2] : List Value).toArray) below meth c 0 0 (MQ below (ce_Q X b M (some (.int r))) ([.ref (b + a1), .int a2] : List Value).toArray s 0 0 (ce_Ab b)) X b M 19 [(0, .ref (b + a1)), (1, .int a2), (2, .int x11), (3, .int x12), (4, .int x13), (5, .int x14), (6, .int x15), (7, .int x16), (9, .int x27), (10, .int x28), (11, .int x29), (12, .int x30)] 352 [.int x41] := by
          intro x41 h  H locs ls hA hS hl
          subst e148
          refine lv_istore (lv' := [(8, .int x41), (0, .ref (b + a1)), (1, .int a2), (2, .int x11), (3, .int x12), (4, .int x13), (5, .int x14), (6, .int x15), (7, .int x16), (9, .int x27), (10, .int x28), (11, .int x29), (12, .int x30)]) hx hb dL_fits_352 hl (by decide) rfl (fun ls hl => ?_)
          refine lv_iload hx hb dL_fits_354 (lv_at hl 0 rfl) ?_
          obtain ⟨u46, e123, h⟩ := ce_nm_e h
          have Ju46 : ∀ (x45 : Int32), u46 x45 = some r → ce_Wg p l e (ce_R 10 179 0 0) s m (([.ref (b + a1), .int a2] : List Value).toArray) below meth c 0 0 (MQ below (ce_Q X b M (some (.int r))) ([.ref (b + a1), .int a2] : List Value).toArray s 0 0 (ce_Ab b)) X b M 19 [(0, .ref (b + a1)), (1, .int a2)] 460 [.int x45] := by
            intro x45 h  H locs ls hA hS hl
            subst e123
            refine lv_istore (lv' := [(8, .int x45), (0, .ref (b + a1)), (1, .int a2)]) hx hb dL_fits_460 hl (by decide) rfl (fun ls hl => ?_)
            refine lv_iload_n hx hb dL_fits_462 rfl (lv_at hl 2 rfl) ?_
            refine lv_bipush (v := 16) hx hb dL_fits_463 (by decide) ?_
            obtain ⟨x47, g48, h⟩ := ce_b1_e h
            refine ce_callSi (As := [.int a2, .int 16]) (rest := []) hx hb hml hown hB (c_L_low l X G b  g48) ce_s_L_low ce_w240 ⟨Nat.le_of_ble_eq_true rfl, Nat.le_of_ble_eq_true rfl⟩ hF hA hS hl rfl rfl (Nat.le_of_ble_eq_true rfl) dL_fits_465 ⟨Nat.le_of_ble_eq_true rfl, Nat.le_of_ble_eq_true rfl⟩ (fun H locs hA hS => ?_)
            refine lv_istore (lv' := [(14, .int x47), (8, .int x45), (0, .ref (b + a1)), (1, .int a2)]) hx hb dL_fits_468 hl (by decide) rfl (fun ls hl => ?_)
            refine lv_iconst (v := 0) hx hb dL_fits_470 (by decide) ?_
            refine lv_istore (lv' := [(15, .int 0), (14, .int x47), (8, .int x45), (0, .ref (b + a1)), (1, .int a2)]) hx hb dL_fits_471 hl (by decide) rfl (fun ls hl => ?_)
            refine lv_iconst (v := 0) hx hb dL_fits_473 (by decide) ?_
            refine lv_istore (lv' := [(16, .int 0), (15, .int 0), (14, .int x47), (8, .int x45), (0, .ref (b + a1)), (1, .int a2)]) hx hb dL_fits_474 hl (by decide) rfl (fun ls hl => ?_)
            obtain ⟨u56, e71, h⟩ := ce_nm_e h
            have Ju56 : ∀ (x54 : Int32) (x55 : Int32), u56 x54 x55 = some r → ce_Wg p l e (ce_R 10 179 0 0) s m (([.ref (b + a1), .int a2] : List Value).toArray) below meth c 0 0 (MQ below (ce_Q X b M (some (.int r))) ([.ref (b + a1), .int a2] : List Value).toArray s 0 0 (ce_Ab b)) X b M 19 [(0, .ref (b + a1)), (8, .int x54), (14, .int x47), (15, .int x55)] 624 [] := by
              intro x54 x55 h  H locs ls hA hS hl
              subst e71
              refine lv_iload hx hb dL_fits_624 (lv_at hl 1 rfl) ?_
              refine lv_if_eq (tgt := 690) hx hb dL_fits_626 (by decide) (fun c57 => ?_) (fun c57 => ?_)
              · have h := ce_it c57 h
                refine lv_iconst (v := 0) hx hb dL_fits_690 (by decide) ?_
                cases h
                exact ce_zret hx hb hr hlocks (Or.inl rfl) hA hS dL_fits_691
              · have h := ce_ie c57 h
                refine lv_aload_n hx hb dL_fits_629 rfl (lv_at hl 0 rfl) ?_
                refine lv_iload hx hb dL_fits_630 (lv_at hl 2 rfl) ?_
                refine lv_iconst (v := 2) hx hb dL_fits_632 (by decide) ?_
                refine lv_iconst (v := 0) hx hb dL_fits_633 (by decide) ?_
                obtain ⟨x58, g59, h⟩ := ce_b1_e h
                refine ce_callWi (As := [.ref (b + a1), .int x47, .int 2, .int 0]) (rest := []) hx hb hml hown hB (c0_L_would l hfl X G b ha1 g59) ce_s_L_would ce_w717 ⟨Nat.le_of_ble_eq_true rfl, Nat.le_of_ble_eq_true rfl⟩ hF hA hS hl rfl rfl (Nat.le_of_ble_eq_true rfl) dL_fits_634 ⟨Nat.le_of_ble_eq_true rfl, Nat.le_of_ble_eq_true rfl⟩ (fun H locs hA hS => ?_)
                refine lv_iload hx hb dL_fits_637 (lv_at hl 3 rfl) ?_
                refine lv_icmp_ne (tgt := 690) hx hb dL_fits_639 (by decide) (fun c60 => ?_) (fun c60 => ?_)
                · have h := ce_ie c60 h
                  refine lv_iconst (v := 0) hx hb dL_fits_690 (by decide) ?_
                  cases h
                  exact ce_zret hx hb hr hlocks (Or.inl rfl) hA hS dL_fits_691
                · have h := ce_it c60 h
                  refine lv_aload_n hx hb dL_fits_642 rfl (lv_at hl 0 rfl) ?_
                  refine lv_iload hx hb dL_fits_643 (lv_at hl 2 rfl) ?_
                  refine lv_iconst (v := 1) hx hb dL_fits_645 (by decide) ?_
                  refine lv_iconst (v := 0) hx hb dL_fits_646 (by decide) ?_
                  obtain ⟨x61, g62, h⟩ := ce_b1_e h
                  refine ce_callWi (As := [.ref (b + a1), .int x47, .int 1, .int 0]) (rest := []) hx hb hml hown hB (c0_L_would l hfl X G b ha1 g62) ce_s_L_would ce_w717 ⟨Nat.le_of_ble_eq_true rfl, Nat.le_of_ble_eq_true rfl⟩ hF hA hS hl rfl rfl (Nat.le_of_ble_eq_true rfl) dL_fits_647 ⟨Nat.le_of_ble_eq_true rfl, Nat.le_of_ble_eq_true rfl⟩ (fun H locs hA hS => ?_)
                  refine lv_iload hx hb dL_fits_650 (lv_at hl 3 rfl) ?_
                  refine lv_iand hx hb dL_fits_652 ?_
                  refine lv_iload hx hb dL_fits_653 (lv_at hl 3 rfl) ?_
                  refine lv_icmp_ne (tgt := 690) hx hb dL_fits_655 (by decide) (fun c63 => ?_) (fun c63 => ?_)
                  · have h := ce_ie c63 h
                    refine lv_iconst (v := 0) hx hb dL_fits_690 (by decide) ?_
                    cases h
                    exact ce_zret hx hb hr hlocks (Or.inl rfl) hA hS dL_fits_691
                  · have h := ce_it c63 h
                    refine lv_aload_n hx hb dL_fits_658 rfl (lv_at hl 0 rfl) ?_
                    refine lv_iload hx hb dL_fits_659 (lv_at hl 2 rfl) ?_
                    refine lv_iconst (v := 0) hx hb dL_fits_661 (by decide) ?_
                    refine lv_iconst (v := 0) hx hb dL_fits_662 (by decide) ?_
                    obtain ⟨x64, g65, h⟩ := ce_b1_e h
                    refine ce_callWi (As := [.ref (b + a1), .int x47, .int 0, .int 0]) (rest := []) hx hb hml hown hB (c0_L_would l hfl X G b ha1 g65) ce_s_L_would ce_w717 ⟨Nat.le_of_ble_eq_true rfl, Nat.le_of_ble_eq_true rfl⟩ hF hA hS hl rfl rfl (Nat.le_of_ble_eq_true rfl) dL_fits_663 ⟨Nat.le_of_ble_eq_true rfl, Nat.le_of_ble_eq_true rfl⟩ (fun H locs hA hS => ?_)
                    refine lv_aload_n hx hb dL_fits_666 rfl (lv_at hl 0 rfl) ?_
                    refine lv_iload hx hb dL_fits_667 (lv_at hl 2 rfl) ?_
                    refine lv_iconst (v := 1) hx hb dL_fits_669 (by decide) ?_
                    refine lv_iconst (v := 0) hx hb dL_fits_670 (by decide) ?_
                    obtain ⟨x66, g67, h⟩ := ce_b1_e h
                    refine ce_callWi (As := [.ref (b + a1), .int x47, .int 1, .int 0]) (rest := [.int x64]) hx hb hml hown hB (c0_L_would l hfl X G b ha1 g67) ce_s_L_would ce_w717 ⟨Nat.le_of_ble_eq_true rfl, Nat.le_of_ble_eq_true rfl⟩ hF hA hS hl rfl rfl (Nat.le_of_ble_eq_true rfl) dL_fits_671 ⟨Nat.le_of_ble_eq_true rfl, Nat.le_of_ble_eq_true rfl⟩ (fun H locs hA hS => ?_)
                    refine lv_aload_n hx hb dL_fits_674 rfl (lv_at hl 0 rfl) ?_
                    refine lv_iload hx hb dL_fits_675 (lv_at hl 2 rfl) ?_
                    refine lv_iconst (v := 0) hx hb dL_fits_677 (by decide) ?_
                    refine lv_iconst (v := 0) hx hb dL_fits_678 (by decide) ?_
                    obtain ⟨x68, g69, h⟩ := ce_b1_e h
                    refine ce_callWi (As := [.ref (b + a1), .int x47, .int 0, .int 0]) (rest := [.int x66, .int x64]) hx hb hml hown hB (c0_L_would l hfl X G b ha1 g69) ce_s_L_would ce_w717 ⟨Nat.le_of_ble_eq_true rfl, Nat.le_of_ble_eq_true rfl⟩ hF hA hS hl rfl rfl (Nat.le_of_ble_eq_true rfl) dL_fits_679 ⟨Nat.le_of_ble_eq_true rfl, Nat.le_of_ble_eq_true rfl⟩ (fun H locs hA hS => ?_)
                    refine lv_ior hx hb dL_fits_682 ?_
                    refine lv_icmp_ne (tgt := 690) hx hb dL_fits_683 (by decide) (fun c70 => ?_) (fun c70 => ?_)
                    · have h := ce_ie c70 h
                      refine lv_iconst (v := 0) hx hb dL_fits_690 (by decide) ?_
                      cases h
                      exact ce_zret hx hb hr hlocks (Or.inl rfl) hA hS dL_fits_691
                    · have h := ce_it c70 h
                      refine lv_iconst (v := 1) hx hb dL_fits_686 (by decide) ?_
                      refine lv_goto (tgt := 691) hx hb dL_fits_687 (by decide) ?_
                      cases h
                      exact ce_zret hx hb hr hlocks (Or.inr rfl) hA hS dL_fits_691
            refine ce_lp3_i (y := r) (P := fun (x49 : Int32) (x50 : Int32) (x51 : Int32) => ce_Wg p l e (ce_R 10 179 0 0) s m (([.ref (b + a1), .int a2] : List Value).toArray) below meth c 0 0 (MQ below (ce_Q X b M (some (.int r))) ([.ref (b + a1), .int a2] : List Value).toArray s 0 0 (ce_Ab b)) X b M 19 [(0, .ref (b + a1)), (8, .int x49), (14, .int x47), (15, .int x50), (16, .int x51)] 476 []) (fun rec52 ih53 x49 x50 x51 h => ?_) _ _ _ _ h _ _ _ hA hS (lv_sub hl [4, 3, 2, 1, 0] rfl)
            intro H locs ls hA hS hl
            unfold f_L_fits_L476 at h
            refine lv_iload hx hb dL_fits_476 (lv_at hl 4 rfl) ?_
            refine lv_aload_n hx hb dL_fits_478 rfl (lv_at hl 0 rfl) ?_
            refine lv_iconst (v := 0) hx hb dL_fits_479 (by decide) ?_
            obtain ⟨x72, g73, h⟩ := ce_b1_e h
            refine ce_callWi (As := [.ref (b + a1), .int 0]) (rest := [.int x51]) hx hb hml hown hB (c0_L_whole l hfl X G b ha1 g73) ce_s_L_whole ce_w579 ⟨Nat.le_of_ble_eq_true rfl, Nat.le_of_ble_eq_true rfl⟩ hF hA hS hl rfl rfl (Nat.le_of_ble_eq_true rfl) dL_fits_480 ⟨Nat.le_of_ble_eq_true rfl, Nat.le_of_ble_eq_true rfl⟩ (fun H locs hA hS => ?_)
            refine lv_icmp_ge (tgt := 624) hx hb dL_fits_483 (by decide) (fun c74 => ?_) (fun c74 => ?_)
            · have h := ce_it c74 h
              exact Ju56 x49 x50 h  _ _ _ hA hS (lv_sub hl [0, 1, 2, 3] rfl)
            · have h := ce_ie c74 h
              refine lv_iload hx hb dL_fits_486 (lv_at hl 1 rfl) ?_
              refine lv_if_eq (tgt := 624) hx hb dL_fits_488 (by decide) (fun c75 => ?_) (fun c75 => ?_)
              · have h := ce_it c75 h
                exact Ju56 x49 x50 h  _ _ _ hA hS (lv_sub hl [0, 1, 2, 3] rfl)
              · have h := ce_ie c75 h
                refine lv_aload_n hx hb dL_fits_491 rfl (lv_at hl 0 rfl) ?_
                refine lv_iload hx hb dL_fits_492 (lv_at hl 4 rfl) ?_
                refine lv_iload hx hb dL_fits_494 (lv_at hl 2 rfl) ?_
                refine lv_iconst (v := 2) hx hb dL_fits_496 (by decide) ?_
                obtain ⟨x76, g77, h⟩ := ce_b1_e h
                refine ce_callWi (As := [.ref (b + a1), .int x51, .int x47, .int 2]) (rest := []) hx hb hml hown hB (c0_L_why l hfl X G b ha1 g77) ce_s_L_why ce_w726 ⟨Nat.le_of_ble_eq_true rfl, Nat.le_of_ble_eq_true rfl⟩ hF hA hS hl rfl rfl (Nat.le_of_ble_eq_true rfl) dL_fits_497 ⟨Nat.le_of_ble_eq_true rfl, Nat.le_of_ble_eq_true rfl⟩ (fun H locs hA hS => ?_)
                refine lv_istore (lv' := [(17, .int x76), (0, .ref (b + a1)), (8, .int x49), (14, .int x47), (15, .int x50), (16, .int x51)]) hx hb dL_fits_500 hl (by decide) rfl (fun ls hl => ?_)
                refine lv_aload_n hx hb dL_fits_502 rfl (lv_at hl 1 rfl) ?_
                refine lv_iload hx hb dL_fits_503 (lv_at hl 5 rfl) ?_
                obtain ⟨x78, g79, h⟩ := ce_b1_e h
                refine ce_callWi (As := [.ref (b + a1), .int x51]) (rest := []) hx hb hml hown hB (c0_L_covers l hfl X G b ha1 g79) ce_s_L_covers ce_w765 ⟨Nat.le_of_ble_eq_true rfl, Nat.le_of_ble_eq_true rfl⟩ hF hA hS hl rfl rfl (Nat.le_of_ble_eq_true rfl) dL_fits_505 ⟨Nat.le_of_ble_eq_true rfl, Nat.le_of_ble_eq_true rfl⟩ (fun H locs hA hS => ?_)
                refine lv_iload hx hb dL_fits_508 (lv_at hl 3 rfl) ?_
                refine lv_ishr hx hb dL_fits_510 ?_
                refine lv_iconst (v := 1) hx hb dL_fits_511 (by decide) ?_
                refine lv_iand hx hb dL_fits_512 ?_
                refine lv_iconst (v := 1) hx hb dL_fits_513 (by decide) ?_
                obtain ⟨u81, e121, h⟩ := ce_nm_e h
                have Ju81 : ∀ (x80 : Int32), u81 x80 = some r → ce_Wg p l e (ce_R 10 179 0 0) s m (([.ref (b + a1), .int a2] : List Value).toArray) below meth c 0 0 (MQ below (ce_Q X b M (some (.int r))) ([.ref (b + a1), .int a2] : List Value).toArray s 0 0 (ce_Ab b)) X b M 19 [(0, .ref (b + a1)), (14, .int x47), (15, .int x50), (16, .int x51), (17, .int x76)] 522 [.int x80] := by
                  intro x80 h  H locs ls hA hS hl
                  subst e121
                  refine lv_istore (lv' := [(18, .int x80), (0, .ref (b + a1)), (14, .int x47), (15, .int x50), (16, .int x51), (17, .int x76)]) hx hb dL_fits_522 hl (by decide) rfl (fun ls hl => ?_)
                  refine lv_iload hx hb dL_fits_524 (lv_at hl 0 rfl) ?_
                  refine lv_iload hx hb dL_fits_526 (lv_at hl 5 rfl) ?_
                  obtain ⟨u85, e117, h⟩ := ce_nm_e h
                  have Ju85 : ∀ (x84 : Int32), u85 x84 = some r → ce_Wg p l e (ce_R 10 179 0 0) s m (([.ref (b + a1), .int a2] : List Value).toArray) below meth c 0 0 (MQ below (ce_Q X b M (some (.int r))) ([.ref (b + a1), .int a2] : List Value).toArray s 0 0 (ce_Ab b)) X b M 19 [(0, .ref (b + a1)), (14, .int x47), (15, .int x50), (16, .int x51), (17, .int x76), (18, .int x80)] 542 [.int x84, .int x80] := by
                    intro x84 h  H locs ls hA hS hl
                    subst e117
                    obtain ⟨u89, e99, h⟩ := ce_nm_e h
                    have Ju89 : ∀ (x88 : Int32), u89 x88 = some r → ce_Wg p l e (ce_R 10 179 0 0) s m (([.ref (b + a1), .int a2] : List Value).toArray) below meth c 0 0 (MQ below (ce_Q X b M (some (.int r))) ([.ref (b + a1), .int a2] : List Value).toArray s 0 0 (ce_Ab b)) X b M 19 [(0, .ref (b + a1)), (14, .int x47), (15, .int x50), (16, .int x51), (18, .int x80)] 598 [.int x88] := by
                      intro x88 h  H locs ls hA hS hl
                      subst e99
                      refine lv_istore (lv' := [(8, .int x88), (0, .ref (b + a1)), (14, .int x47), (15, .int x50), (16, .int x51), (18, .int x80)]) hx hb dL_fits_598 hl (by decide) rfl (fun ls hl => ?_)
                      refine lv_iload hx hb dL_fits_600 (lv_at hl 3 rfl) ?_
                      refine lv_iload hx hb dL_fits_602 (lv_at hl 5 rfl) ?_
                      refine lv_if_eq (tgt := 614) hx hb dL_fits_604 (by decide) (fun c90 => ?_) (fun c90 => ?_)
                      · have h := ce_it c90 h
                        refine lv_iconst (v := 0) hx hb dL_fits_614 (by decide) ?_
                        refine lv_ior hx hb dL_fits_615 ?_
                        obtain ⟨x91, e92, h⟩ := ce_nm_e h
                        refine ce_top e92 ?_
                        refine lv_istore (lv' := [(15, .int x91), (8, .int x88), (0, .ref (b + a1)), (14, .int x47), (16, .int x51), (18, .int x80)]) hx hb dL_fits_616 hl (by decide) rfl (fun ls hl => ?_)
                        obtain ⟨x93, e94, h⟩ := ce_nm_e h
                        refine lv_iinc (v := x93) (lv' := [(16, .int x93), (15, .int x91), (8, .int x88), (0, .ref (b + a1)), (14, .int x47), (18, .int x80)]) hx hb dL_fits_618 hl (k := 4) rfl (by rw [← e94]; rfl) (by decide) rfl (fun ls hl => ?_)
                        refine lv_goto (tgt := 476) hx hb dL_fits_621 (by decide) ?_
                        exact ih53 x88 x91 x93 h  _ _ _ hA hS (lv_sub hl [3, 2, 4, 1, 0] rfl)
                      · have h := ce_ie c90 h
                        refine lv_iconst (v := 1) hx hb dL_fits_607 (by decide) ?_
                        refine lv_iload hx hb dL_fits_608 (lv_at hl 4 rfl) ?_
                        refine lv_ishl hx hb dL_fits_610 ?_
                        refine lv_goto (tgt := 615) hx hb dL_fits_611 (by decide) ?_
                        refine lv_ior hx hb dL_fits_615 ?_
                        obtain ⟨x95, e96, h⟩ := ce_nm_e h
                        refine ce_top e96 ?_
                        refine lv_istore (lv' := [(15, .int x95), (8, .int x88), (0, .ref (b + a1)), (14, .int x47), (16, .int x51), (18, .int x80)]) hx hb dL_fits_616 hl (by decide) rfl (fun ls hl => ?_)
                        obtain ⟨x97, e98, h⟩ := ce_nm_e h
                        refine lv_iinc (v := x97) (lv' := [(16, .int x97), (15, .int x95), (8, .int x88), (0, .ref (b + a1)), (14, .int x47), (18, .int x80)]) hx hb dL_fits_618 hl (k := 4) rfl (by rw [← e98]; rfl) (by decide) rfl (fun ls hl => ?_)
                        refine lv_goto (tgt := 476) hx hb dL_fits_621 (by decide) ?_
                        exact ih53 x88 x95 x97 h  _ _ _ hA hS (lv_sub hl [3, 2, 4, 1, 0] rfl)
                    obtain ⟨u86, e100, h⟩ := ce_nm_e h
                    have Ju86 : ∀ (z87 : Unit), u86 z87 = some r → ce_Wg p l e (ce_R 10 179 0 0) s m (([.ref (b + a1), .int a2] : List Value).toArray) below meth c 0 0 (MQ below (ce_Q X b M (some (.int r))) ([.ref (b + a1), .int a2] : List Value).toArray s 0 0 (ce_Ab b)) X b M 19 [(0, .ref (b + a1)), (14, .int x47), (15, .int x50), (16, .int x51), (18, .int x80)] 597 [] := by
                      intro z87 h  H locs ls hA hS hl
                      subst e100
                      refine lv_iconst (v := 0) hx hb dL_fits_597 (by decide) ?_
                      exact Ju89 0 h  _ _ _ hA hS (lv_sub hl [0, 1, 2, 3, 4] rfl)
                    refine lv_icmp_ne (tgt := 597) hx hb dL_fits_542 (by decide) (fun c101 => ?_) (fun c101 => ?_)
                    · have h := ce_ie c101 h
                      exact Ju86 () h  _ _ _ hA hS (lv_sub hl [0, 1, 2, 3, 5] rfl)
                    · have h := ce_it c101 h
                      refine lv_iload hx hb dL_fits_545 (lv_at hl 4 rfl) ?_
                      refine lv_iconst (v := 1) hx hb dL_fits_547 (by decide) ?_
                      obtain ⟨u103, e115, h⟩ := ce_nm_e h
                      have Ju103 : ∀ (x102 : Int32), u103 x102 = some r → ce_Wg p l e (ce_R 10 179 0 0) s m (([.ref (b + a1), .int a2] : List Value).toArray) below meth c 0 0 (MQ below (ce_Q X b M (some (.int r))) ([.ref (b + a1), .int a2] : List Value).toArray s 0 0 (ce_Ab b)) X b M 19 [(0, .ref (b + a1)), (14, .int x47), (15, .int x50), (16, .int x51), (17, .int x76), (18, .int x80)] 556 [.int x102] := by
                        intro x102 h  H locs ls hA hS hl
                        subst e115
                        refine lv_aload_n hx hb dL_fits_556 rfl (lv_at hl 0 rfl) ?_
                        refine lv_iload hx hb dL_fits_557 (lv_at hl 3 rfl) ?_
                        refine lv_iconst (v := 5) hx hb dL_fits_559 (by decide) ?_
                        obtain ⟨x104, g105, h⟩ := ce_b1_e h
                        refine ce_callWi (As := [.ref (b + a1), .int x51, .int 5]) (rest := [.int x102]) hx hb hml hown hB (c0_L_one l hfl X G b ha1 g105) ce_s_L_one ce_w619 ⟨Nat.le_of_ble_eq_true rfl, Nat.le_of_ble_eq_true rfl⟩ hF hA hS hl rfl rfl (Nat.le_of_ble_eq_true rfl) dL_fits_560 ⟨Nat.le_of_ble_eq_true rfl, Nat.le_of_ble_eq_true rfl⟩ (fun H locs hA hS => ?_)
                        obtain ⟨u107, e113, h⟩ := ce_nm_e h
                        have Ju107 : ∀ (x106 : Int32), u107 x106 = some r → ce_Wg p l e (ce_R 10 179 0 0) s m (([.ref (b + a1), .int a2] : List Value).toArray) below meth c 0 0 (MQ below (ce_Q X b M (some (.int r))) ([.ref (b + a1), .int a2] : List Value).toArray s 0 0 (ce_Ab b)) X b M 19 [(0, .ref (b + a1)), (14, .int x47), (15, .int x50), (16, .int x51), (17, .int x76), (18, .int x80)] 571 [.int x106, .int x102] := by
                          intro x106 h  H locs ls hA hS hl
                          subst e113
                          refine lv_icmp_ne (tgt := 597) hx hb dL_fits_571 (by decide) (fun c108 => ?_) (fun c108 => ?_)
                          · have h := ce_ie c108 h
                            exact Ju86 () h  _ _ _ hA hS (lv_sub hl [0, 1, 2, 3, 5] rfl)
                          · have h := ce_it c108 h
                            refine lv_iload hx hb dL_fits_574 (lv_at hl 4 rfl) ?_
                            refine lv_iconst (v := 4) hx hb dL_fits_576 (by decide) ?_
                            refine lv_icmp_ne (tgt := 593) hx hb dL_fits_577 (by decide) (fun c109 => ?_) (fun c109 => ?_)
                            · have h := ce_ie c109 h
                              refine lv_iconst (v := 1) hx hb dL_fits_593 (by decide) ?_
                              refine lv_goto (tgt := 598) hx hb dL_fits_594 (by decide) ?_
                              exact Ju89 1 h  _ _ _ hA hS (lv_sub hl [0, 1, 2, 3, 5] rfl)
                            · have h := ce_it c109 h
                              refine lv_aload_n hx hb dL_fits_580 rfl (lv_at hl 0 rfl) ?_
                              refine lv_iload hx hb dL_fits_581 (lv_at hl 3 rfl) ?_
                              refine lv_bipush (v := 6) hx hb dL_fits_583 (by decide) ?_
                              obtain ⟨x110, g111, h⟩ := ce_b1_e h
                              refine ce_callWi (As := [.ref (b + a1), .int x51, .int 6]) (rest := []) hx hb hml hown hB (c0_L_one l hfl X G b ha1 g111) ce_s_L_one ce_w619 ⟨Nat.le_of_ble_eq_true rfl, Nat.le_of_ble_eq_true rfl⟩ hF hA hS hl rfl rfl (Nat.le_of_ble_eq_true rfl) dL_fits_585 ⟨Nat.le_of_ble_eq_true rfl, Nat.le_of_ble_eq_true rfl⟩ (fun H locs hA hS => ?_)
                              refine lv_bipush (v := 12) hx hb dL_fits_588 (by decide) ?_
                              refine lv_icmp_ne (tgt := 597) hx hb dL_fits_590 (by decide) (fun c112 => ?_) (fun c112 => ?_)
                              · have h := ce_ie c112 h
                                exact Ju86 () h  _ _ _ hA hS (lv_sub hl [0, 1, 2, 3, 5] rfl)
                              · have h := ce_it c112 h
                                refine lv_iconst (v := 1) hx hb dL_fits_593 (by decide) ?_
                                refine lv_goto (tgt := 598) hx hb dL_fits_594 (by decide) ?_
                                exact Ju89 1 h  _ _ _ hA hS (lv_sub hl [0, 1, 2, 3, 5] rfl)
                        refine lv_if_ne (tgt := 570) hx hb dL_fits_563 (by decide) (fun c114 => ?_) (fun c114 => ?_)
                        · have h := ce_ie c114 h
                          refine lv_iconst (v := 0) hx hb dL_fits_570 (by decide) ?_
                          exact Ju107 0 h  _ _ _ hA hS (lv_sub hl [0, 1, 2, 3, 4, 5] rfl)
                        · have h := ce_it c114 h
                          refine lv_iconst (v := 1) hx hb dL_fits_566 (by decide) ?_
                          refine lv_goto (tgt := 571) hx hb dL_fits_567 (by decide) ?_
                          exact Ju107 1 h  _ _ _ hA hS (lv_sub hl [0, 1, 2, 3, 4, 5] rfl)
                      refine lv_icmp_ne (tgt := 555) hx hb dL_fits_548 (by decide) (fun c116 => ?_) (fun c116 => ?_)
                      · have h := ce_ie c116 h
                        refine lv_iconst (v := 0) hx hb dL_fits_555 (by decide) ?_
                        exact Ju103 0 h  _ _ _ hA hS (lv_sub hl [0, 1, 2, 3, 4, 5] rfl)
                      · have h := ce_it c116 h
                        refine lv_iconst (v := 1) hx hb dL_fits_551 (by decide) ?_
                        refine lv_goto (tgt := 556) hx hb dL_fits_552 (by decide) ?_
                        exact Ju103 1 h  _ _ _ hA hS (lv_sub hl [0, 1, 2, 3, 4, 5] rfl)
                  obtain ⟨u82, e118, h⟩ := ce_nm_e h
                  have Ju82 : ∀ (z83 : Unit), u82 z83 = some r → ce_Wg p l e (ce_R 10 179 0 0) s m (([.ref (b + a1), .int a2] : List Value).toArray) below meth c 0 0 (MQ below (ce_Q X b M (some (.int r))) ([.ref (b + a1), .int a2] : List Value).toArray s 0 0 (ce_Ab b)) X b M 19 [(0, .ref (b + a1)), (14, .int x47), (15, .int x50), (16, .int x51), (17, .int x76), (18, .int x80)] 537 [.int x80] := by
                    intro z83 h  H locs ls hA hS hl
                    subst e118
                    refine lv_iconst (v := 1) hx hb dL_fits_537 (by decide) ?_
                    refine lv_goto (tgt := 542) hx hb dL_fits_538 (by decide) ?_
                    exact Ju85 1 h  _ _ _ hA hS (lv_sub hl [0, 1, 2, 3, 4, 5] rfl)
                  refine lv_if_eq (tgt := 537) hx hb dL_fits_528 (by decide) (fun c119 => ?_) (fun c119 => ?_)
                  · have h := ce_it c119 h
                    exact Ju82 () h  _ _ _ hA hS (lv_sub hl [1, 2, 3, 4, 5, 0] rfl)
                  · have h := ce_ie c119 h
                    refine lv_iload hx hb dL_fits_531 (lv_at hl 5 rfl) ?_
                    refine lv_iconst (v := 4) hx hb dL_fits_533 (by decide) ?_
                    refine lv_icmp_ne (tgt := 541) hx hb dL_fits_534 (by decide) (fun c120 => ?_) (fun c120 => ?_)
                    · have h := ce_ie c120 h
                      refine lv_iconst (v := 0) hx hb dL_fits_541 (by decide) ?_
                      exact Ju85 0 h  _ _ _ hA hS (lv_sub hl [1, 2, 3, 4, 5, 0] rfl)
                    · have h := ce_it c120 h
                      exact Ju82 () h  _ _ _ hA hS (lv_sub hl [1, 2, 3, 4, 5, 0] rfl)
                refine lv_icmp_ne (tgt := 521) hx hb dL_fits_514 (by decide) (fun c122 => ?_) (fun c122 => ?_)
                · have h := ce_ie c122 h
                  refine lv_iconst (v := 0) hx hb dL_fits_521 (by decide) ?_
                  exact Ju81 0 h  _ _ _ hA hS (lv_sub hl [1, 3, 4, 5, 0] rfl)
                · have h := ce_it c122 h
                  refine lv_iconst (v := 1) hx hb dL_fits_517 (by decide) ?_
                  refine lv_goto (tgt := 522) hx hb dL_fits_518 (by decide) ?_
                  exact Ju81 1 h  _ _ _ hA hS (lv_sub hl [1, 3, 4, 5, 0] rfl)
          obtain ⟨u43, e124, h⟩ := ce_nm_e h
          have Ju43 : ∀ (z44 : Unit), u43 z44 = some r → ce_Wg p l e (ce_R 10 179 0 0) s m (([.ref (b + a1), .int a2] : List Value).toArray) below meth c 0 0 (MQ below (ce_Q X b M (some (.int r))) ([.ref (b + a1), .int a2] : List Value).toArray s 0 0 (ce_Ab b)) X b M 19 [(0, .ref (b + a1)), (1, .int a2)] 459 [] := by
            intro z44 h  H locs ls hA hS hl
            subst e124
            refine lv_iconst (v := 0) hx hb dL_fits_459 (by decide) ?_
            exact Ju46 0 h  _ _ _ hA hS (lv_sub hl [0, 1] rfl)
          refine lv_if_eq (tgt := 459) hx hb dL_fits_356 (by decide) (fun c125 => ?_) (fun c125 => ?_)
          · have h := ce_it c125 h
            exact Ju43 () h  _ _ _ hA hS (lv_sub hl [1, 2] rfl)
          · have h := ce_ie c125 h
            refine lv_aload_n hx hb dL_fits_359 rfl (lv_at hl 1 rfl) ?_
            refine lv_iconst (v := 1) hx hb dL_fits_360 (by decide) ?_
            obtain ⟨x126, g127, h⟩ := ce_b1_e h
            refine ce_callWi (As := [.ref (b + a1), .int 1]) (rest := []) hx hb hml hown hB (c0_L_whole l hfl X G b ha1 g127) ce_s_L_whole ce_w579 ⟨Nat.le_of_ble_eq_true rfl, Nat.le_of_ble_eq_true rfl⟩ hF hA hS hl rfl rfl (Nat.le_of_ble_eq_true rfl) dL_fits_361 ⟨Nat.le_of_ble_eq_true rfl, Nat.le_of_ble_eq_true rfl⟩ (fun H locs hA hS => ?_)
            refine lv_iload_n hx hb dL_fits_364 rfl (lv_at hl 3 rfl) ?_
            refine lv_icmp_ne (tgt := 459) hx hb dL_fits_365 (by decide) (fun c128 => ?_) (fun c128 => ?_)
            · have h := ce_ie c128 h
              exact Ju43 () h  _ _ _ hA hS (lv_sub hl [1, 2] rfl)
            · have h := ce_it c128 h
              refine lv_aload_n hx hb dL_fits_368 rfl (lv_at hl 1 rfl) ?_
              refine lv_bipush (v := 8) hx hb dL_fits_369 (by decide) ?_
              obtain ⟨x129, g130, h⟩ := ce_b1_e h
              refine ce_callWi (As := [.ref (b + a1), .int 8]) (rest := []) hx hb hml hown hB (c0_L_whole l hfl X G b ha1 g130) ce_s_L_whole ce_w579 ⟨Nat.le_of_ble_eq_true rfl, Nat.le_of_ble_eq_true rfl⟩ hF hA hS hl rfl rfl (Nat.le_of_ble_eq_true rfl) dL_fits_371 ⟨Nat.le_of_ble_eq_true rfl, Nat.le_of_ble_eq_true rfl⟩ (fun H locs hA hS => ?_)
              refine lv_iload_n hx hb dL_fits_374 rfl (lv_at hl 4 rfl) ?_
              refine lv_icmp_ne (tgt := 459) hx hb dL_fits_375 (by decide) (fun c131 => ?_) (fun c131 => ?_)
              · have h := ce_ie c131 h
                exact Ju43 () h  _ _ _ hA hS (lv_sub hl [1, 2] rfl)
              · have h := ce_it c131 h
                refine lv_aload_n hx hb dL_fits_378 rfl (lv_at hl 1 rfl) ?_
                refine lv_bipush (v := 9) hx hb dL_fits_379 (by decide) ?_
                obtain ⟨x132, g133, h⟩ := ce_b1_e h
                refine ce_callWi (As := [.ref (b + a1), .int 9]) (rest := []) hx hb hml hown hB (c0_L_whole l hfl X G b ha1 g133) ce_s_L_whole ce_w579 ⟨Nat.le_of_ble_eq_true rfl, Nat.le_of_ble_eq_true rfl⟩ hF hA hS hl rfl rfl (Nat.le_of_ble_eq_true rfl) dL_fits_381 ⟨Nat.le_of_ble_eq_true rfl, Nat.le_of_ble_eq_true rfl⟩ (fun H locs hA hS => ?_)
                refine lv_iload hx hb dL_fits_384 (lv_at hl 5 rfl) ?_
                refine lv_icmp_ne (tgt := 459) hx hb dL_fits_386 (by decide) (fun c134 => ?_) (fun c134 => ?_)
                · have h := ce_ie c134 h
                  exact Ju43 () h  _ _ _ hA hS (lv_sub hl [1, 2] rfl)
                · have h := ce_it c134 h
                  refine lv_aload_n hx hb dL_fits_389 rfl (lv_at hl 1 rfl) ?_
                  refine lv_bipush (v := 10) hx hb dL_fits_390 (by decide) ?_
                  obtain ⟨x135, g136, h⟩ := ce_b1_e h
                  refine ce_callWi (As := [.ref (b + a1), .int 10]) (rest := []) hx hb hml hown hB (c0_L_whole l hfl X G b ha1 g136) ce_s_L_whole ce_w579 ⟨Nat.le_of_ble_eq_true rfl, Nat.le_of_ble_eq_true rfl⟩ hF hA hS hl rfl rfl (Nat.le_of_ble_eq_true rfl) dL_fits_392 ⟨Nat.le_of_ble_eq_true rfl, Nat.le_of_ble_eq_true rfl⟩ (fun H locs hA hS => ?_)
                  refine lv_iload hx hb dL_fits_395 (lv_at hl 6 rfl) ?_
                  refine lv_icmp_ne (tgt := 459) hx hb dL_fits_397 (by decide) (fun c137 => ?_) (fun c137 => ?_)
                  · have h := ce_ie c137 h
                    exact Ju43 () h  _ _ _ hA hS (lv_sub hl [1, 2] rfl)
                  · have h := ce_it c137 h
                    refine lv_aload_n hx hb dL_fits_400 rfl (lv_at hl 1 rfl) ?_
                    refine lv_bipush (v := 12) hx hb dL_fits_401 (by decide) ?_
                    obtain ⟨x138, g139, h⟩ := ce_b1_e h
                    refine ce_callWi (As := [.ref (b + a1), .int 12]) (rest := []) hx hb hml hown hB (c0_L_whole l hfl X G b ha1 g139) ce_s_L_whole ce_w579 ⟨Nat.le_of_ble_eq_true rfl, Nat.le_of_ble_eq_true rfl⟩ hF hA hS hl rfl rfl (Nat.le_of_ble_eq_true rfl) dL_fits_403 ⟨Nat.le_of_ble_eq_true rfl, Nat.le_of_ble_eq_true rfl⟩ (fun H locs hA hS => ?_)
                    refine lv_iload hx hb dL_fits_406 (lv_at hl 7 rfl) ?_
                    refine lv_icmp_ne (tgt := 459) hx hb dL_fits_408 (by decide) (fun c140 => ?_) (fun c140 => ?_)
                    · have h := ce_ie c140 h
                      exact Ju43 () h  _ _ _ hA hS (lv_sub hl [1, 2] rfl)
                    · have h := ce_it c140 h
                      refine lv_iload hx hb dL_fits_411 (lv_at hl 9 rfl) ?_
                      refine lv_iload_n hx hb dL_fits_413 rfl (lv_at hl 3 rfl) ?_
                      refine lv_icmp_ne (tgt := 459) hx hb dL_fits_414 (by decide) (fun c141 => ?_) (fun c141 => ?_)
                      · have h := ce_ie c141 h
                        exact Ju43 () h  _ _ _ hA hS (lv_sub hl [1, 2] rfl)
                      · have h := ce_it c141 h
                        refine lv_iload hx hb dL_fits_417 (lv_at hl 12 rfl) ?_
                        refine lv_iload_n hx hb dL_fits_419 rfl (lv_at hl 3 rfl) ?_
                        refine lv_icmp_ne (tgt := 459) hx hb dL_fits_420 (by decide) (fun c142 => ?_) (fun c142 => ?_)
                        · have h := ce_ie c142 h
                          exact Ju43 () h  _ _ _ hA hS (lv_sub hl [1, 2] rfl)
                        · have h := ce_it c142 h
                          refine lv_iload hx hb dL_fits_423 (lv_at hl 10 rfl) ?_
                          refine lv_iload hx hb dL_fits_425 (lv_at hl 5 rfl) ?_
                          refine lv_icmp_ne (tgt := 459) hx hb dL_fits_427 (by decide) (fun c143 => ?_) (fun c143 => ?_)
                          · have h := ce_ie c143 h
                            exact Ju43 () h  _ _ _ hA hS (lv_sub hl [1, 2] rfl)
                          · have h := ce_it c143 h
                            refine lv_iload hx hb dL_fits_430 (lv_at hl 11 rfl) ?_
                            refine lv_iload_n hx hb dL_fits_432 rfl (lv_at hl 4 rfl) ?_
                            refine lv_icmp_ne (tgt := 459) hx hb dL_fits_433 (by decide) (fun c144 => ?_) (fun c144 => ?_)
                            · have h := ce_ie c144 h
                              exact Ju43 () h  _ _ _ hA hS (lv_sub hl [1, 2] rfl)
                            · have h := ce_it c144 h
                              refine lv_iload hx hb dL_fits_436 (lv_at hl 8 rfl) ?_
                              refine lv_iload hx hb dL_fits_438 (lv_at hl 5 rfl) ?_
                              refine lv_iload hx hb dL_fits_440 (lv_at hl 6 rfl) ?_
                              refine lv_iadd hx hb dL_fits_442 ?_
                              refine lv_iload_n hx hb dL_fits_443 rfl (lv_at hl 4 rfl) ?_
                              refine lv_iadd hx hb dL_fits_444 ?_
                              refine lv_aload_n hx hb dL_fits_445 rfl (lv_at hl 1 rfl) ?_
                              refine lv_bipush (v := 11) hx hb dL_fits_446 (by decide) ?_
                              obtain ⟨x145, g146, h⟩ := ce_b1_e h
                              refine ce_callWi (As := [.ref (b + a1), .int 11]) (rest := [.int ((x13 + x14) + x12), .int x16]) hx hb hml hown hB (c0_L_whole l hfl X G b ha1 g146) ce_s_L_whole ce_w579 ⟨Nat.le_of_ble_eq_true rfl, Nat.le_of_ble_eq_true rfl⟩ hF hA hS hl rfl rfl (Nat.le_of_ble_eq_true rfl) dL_fits_448 ⟨Nat.le_of_ble_eq_true rfl, Nat.le_of_ble_eq_true rfl⟩ (fun H locs hA hS => ?_)
                              refine lv_iadd hx hb dL_fits_451 ?_
                              refine lv_icmp_ne (tgt := 459) hx hb dL_fits_452 (by decide) (fun c147 => ?_) (fun c147 => ?_)
                              · have h := ce_ie c147 h
                                exact Ju43 () h  _ _ _ hA hS (lv_sub hl [1, 2] rfl)
                              · have h := ce_it c147 h
                                refine lv_iconst (v := 1) hx hb dL_fits_455 (by decide) ?_
                                refine lv_goto (tgt := 460) hx hb dL_fits_456 (by decide) ?_
                                exact Ju46 1 h  _ _ _ hA hS (lv_sub hl [1, 2] rfl)
        obtain ⟨u39, e149, h⟩ := ce_nm_e h
        have Ju39 : ∀ (z40 : Unit), u39 z40 = some r → ce_Wg p l e (ce_R 10 179 0 0) s m (([.ref (b + a1), .int a2] : List Value).toArray) below meth c 0 0 (MQ below (ce_Q X b M (some (.int r))) ([.ref (b + a1), .int a2] : List Value).toArray s 0 0 (ce_Ab b)) X b M 19 [(0, .ref (b + a1)), (1, .int a2), (2, .int x11), (3, .int x12), (4, .int x13), (5, .int x14), (6, .int x15), (7, .int x16), (9, .int x27), (10, .int x28), (11, .int x29), (12, .int x30)] 351 [] := by
          intro z40 h  H locs ls hA hS hl
          subst e149
          refine lv_iconst (v := 0) hx hb dL_fits_351 (by decide) ?_
          exact Ju42 0 h  _ _ _ hA hS (lv_sub hl [0, 1, 2, 3, 4, 5, 6, 7, 8, 9, 10, 11] rfl)
        refine lv_if_eq (tgt := 351) hx hb dL_fits_314 (by decide) (fun c150 => ?_) (fun c150 => ?_)
        · have h := ce_it c150 h
          exact Ju39 () h  _ _ _ hA hS (lv_sub hl [0, 1, 2, 3, 4, 5, 6, 7, 9, 10, 11, 12] rfl)
        · have h := ce_ie c150 h
          refine lv_iload hx hb dL_fits_317 (lv_at hl 13 rfl) ?_
          refine lv_if_ne (tgt := 333) hx hb dL_fits_319 (by decide) (fun c151 => ?_) (fun c151 => ?_)
          · have h := ce_ie c151 h
            refine lv_aload_n hx hb dL_fits_333 rfl (lv_at hl 0 rfl) ?_
            refine lv_aload_n hx hb dL_fits_334 rfl (lv_at hl 0 rfl) ?_
            obtain ⟨x152, g153, h⟩ := ce_b1_e h
            refine ce_callVi (As := []) (rest := [.ref (b + a1)]) hx hb hml hown hB (c_X7_busiest l X G b ha1 g153) ce_v_X7_busiest ce_w798 ⟨Nat.le_of_ble_eq_true rfl, Nat.le_of_ble_eq_true rfl⟩ hF hA hS (ce_rc_7 hK hA ha1) hl rfl rfl (Nat.le_of_ble_eq_true rfl) dL_fits_335 ⟨Nat.le_of_ble_eq_true rfl, Nat.le_of_ble_eq_true rfl⟩ (fun H locs hA hS => ?_)
            refine lv_iconst (v := 2) hx hb dL_fits_338 (by decide) ?_
            obtain ⟨x154, g155, h⟩ := ce_b1_e h
            refine ce_callWi (As := [.ref (b + a1), .int x152, .int 2]) (rest := []) hx hb hml hown hB (c0_L_leaf l hfl X G b ha1 g155) ce_s_L_leaf ce_w670 ⟨Nat.le_of_ble_eq_true rfl, Nat.le_of_ble_eq_true rfl⟩ hF hA hS hl rfl rfl (Nat.le_of_ble_eq_true rfl) dL_fits_339 ⟨Nat.le_of_ble_eq_true rfl, Nat.le_of_ble_eq_true rfl⟩ (fun H locs hA hS => ?_)
            refine lv_iload hx hb dL_fits_342 (lv_at hl 13 rfl) ?_
            refine lv_icmp_ne (tgt := 351) hx hb dL_fits_344 (by decide) (fun c156 => ?_) (fun c156 => ?_)
            · have h := ce_ie c156 h
              exact Ju39 () h  _ _ _ hA hS (lv_sub hl [0, 1, 2, 3, 4, 5, 6, 7, 9, 10, 11, 12] rfl)
            · have h := ce_it c156 h
              refine lv_iconst (v := 1) hx hb dL_fits_347 (by decide) ?_
              refine lv_goto (tgt := 352) hx hb dL_fits_348 (by decide) ?_
              exact Ju42 1 h  _ _ _ hA hS (lv_sub hl [0, 1, 2, 3, 4, 5, 6, 7, 9, 10, 11, 12] rfl)
          · have h := ce_it c151 h
            refine lv_aload_n hx hb dL_fits_322 rfl (lv_at hl 0 rfl) ?_
            obtain ⟨x157, g158, h⟩ := ce_b1_e h
            refine ce_callVi (As := []) (rest := []) hx hb hml hown hB (c_X7_busiest l X G b ha1 g158) ce_v_X7_busiest ce_w798 ⟨Nat.le_of_ble_eq_true rfl, Nat.le_of_ble_eq_true rfl⟩ hF hA hS (ce_rc_7 hK hA ha1) hl rfl rfl (Nat.le_of_ble_eq_true rfl) dL_fits_323 ⟨Nat.le_of_ble_eq_true rfl, Nat.le_of_ble_eq_true rfl⟩ (fun H locs hA hS => ?_)
            refine lv_iconst (v := (-1)) hx hb dL_fits_326 (by decide) ?_
            refine lv_icmp_ne (tgt := 351) hx hb dL_fits_327 (by decide) (fun c159 => ?_) (fun c159 => ?_)
            · have h := ce_ie c159 h
              exact Ju39 () h  _ _ _ hA hS (lv_sub hl [0, 1, 2, 3, 4, 5, 6, 7, 9, 10, 11, 12] rfl)
            · have h := ce_it c159 h
              refine lv_goto (tgt := 347) hx hb dL_fits_330 (by decide) ?_
              refine lv_iconst (v := 1) hx hb dL_fits_347 (by decide) ?_
              refine lv_goto (tgt := 352) hx hb dL_fits_348 (by decide) ?_
              exact Ju42 1 h  _ _ _ hA hS (lv_sub hl [0, 1, 2, 3, 4, 5, 6, 7, 9, 10, 11, 12] rfl)
      refine ce_lp2_i (y := r) (P := fun (x33 : Int32) (x34 : Int32) => ce_Wg p l e (ce_R 10 179 0 0) s m (([.ref (b + a1), .int a2] : List Value).toArray) below meth c 0 0 (MQ below (ce_Q X b M (some (.int r))) ([.ref (b + a1), .int a2] : List Value).toArray s 0 0 (ce_Ab b)) X b M 19 [(0, .ref (b + a1)), (1, .int a2), (2, .int x11), (3, .int x12), (4, .int x13), (5, .int x14), (6, .int x15), (7, .int x16), (8, .int x33), (9, .int x27), (10, .int x28), (11, .int x29), (12, .int x30), (13, .int x31), (14, .int x34)] 232 []) (fun rec35 ih36 x33 x34 h => ?_) _ _ _ h _ _ _ hA hS (lv_sub hl [1, 2, 3, 4, 5, 6, 7, 8, 9, 10, 11, 12, 13, 14, 0] rfl)
      intro H locs ls hA hS hl
      unfold f_L_fits_L232 at h
      refine lv_iload hx hb dL_fits_232 (lv_at hl 14 rfl) ?_
      refine lv_aload_n hx hb dL_fits_234 rfl (lv_at hl 0 rfl) ?_
      refine lv_iconst (v := 2) hx hb dL_fits_235 (by decide) ?_
      obtain ⟨x161, g162, h⟩ := ce_b1_e h
      refine ce_callWi (As := [.ref (b + a1), .int 2]) (rest := [.int x34]) hx hb hml hown hB (c0_L_whole l hfl X G b ha1 g162) ce_s_L_whole ce_w579 ⟨Nat.le_of_ble_eq_true rfl, Nat.le_of_ble_eq_true rfl⟩ hF hA hS hl rfl rfl (Nat.le_of_ble_eq_true rfl) dL_fits_236 ⟨Nat.le_of_ble_eq_true rfl, Nat.le_of_ble_eq_true rfl⟩ (fun H locs hA hS => ?_)
      refine lv_icmp_ge (tgt := 312) hx hb dL_fits_239 (by decide) (fun c163 => ?_) (fun c163 => ?_)
      · have h := ce_it c163 h
        exact Ju38 x33 h  _ _ _ hA hS (lv_sub hl [0, 1, 2, 3, 4, 5, 6, 7, 8, 9, 10, 11, 12, 13] rfl)
      · have h := ce_ie c163 h
        refine lv_iload hx hb dL_fits_242 (lv_at hl 8 rfl) ?_
        refine lv_if_eq (tgt := 312) hx hb dL_fits_244 (by decide) (fun c164 => ?_) (fun c164 => ?_)
        · have h := ce_it c164 h
          exact Ju38 x33 h  _ _ _ hA hS (lv_sub hl [0, 1, 2, 3, 4, 5, 6, 7, 8, 9, 10, 11, 12, 13] rfl)
        · have h := ce_ie c164 h
          refine lv_aload_n hx hb dL_fits_247 rfl (lv_at hl 0 rfl) ?_
          refine lv_iload hx hb dL_fits_248 (lv_at hl 14 rfl) ?_
          refine lv_iconst (v := 5) hx hb dL_fits_250 (by decide) ?_
          obtain ⟨x165, g166, h⟩ := ce_b1_e h
          refine ce_callWi (As := [.ref (b + a1), .int x34, .int 5]) (rest := []) hx hb hml hown hB (c0_L_event l hfl X G b ha1 g166) ce_s_L_event ce_w647 ⟨Nat.le_of_ble_eq_true rfl, Nat.le_of_ble_eq_true rfl⟩ hF hA hS hl rfl rfl (Nat.le_of_ble_eq_true rfl) dL_fits_251 ⟨Nat.le_of_ble_eq_true rfl, Nat.le_of_ble_eq_true rfl⟩ (fun H locs hA hS => ?_)
          refine lv_aload_n hx hb dL_fits_254 rfl (lv_at hl 0 rfl) ?_
          refine lv_iload hx hb dL_fits_255 (lv_at hl 14 rfl) ?_
          refine lv_iconst (v := 4) hx hb dL_fits_257 (by decide) ?_
          obtain ⟨x167, g168, h⟩ := ce_b1_e h
          refine ce_callWi (As := [.ref (b + a1), .int x34, .int 4]) (rest := [.int x165]) hx hb hml hown hB (c0_L_event l hfl X G b ha1 g168) ce_s_L_event ce_w647 ⟨Nat.le_of_ble_eq_true rfl, Nat.le_of_ble_eq_true rfl⟩ hF hA hS hl rfl rfl (Nat.le_of_ble_eq_true rfl) dL_fits_258 ⟨Nat.le_of_ble_eq_true rfl, Nat.le_of_ble_eq_true rfl⟩ (fun H locs hA hS => ?_)
          refine lv_iconst (v := (-1)) hx hb dL_fits_261 (by decide) ?_
          refine lv_ixor hx hb dL_fits_262 ?_
          refine lv_iand hx hb dL_fits_263 ?_
          refine lv_if_ne (tgt := 303) hx hb dL_fits_264 (by decide) (fun c169 => ?_) (fun c169 => ?_)
          · have h := ce_ie c169 h
            refine lv_iconst (v := 0) hx hb dL_fits_303 (by decide) ?_
            refine lv_istore (lv' := [(8, .int 0), (0, .ref (b + a1)), (1, .int a2), (2, .int x11), (3, .int x12), (4, .int x13), (5, .int x14), (6, .int x15), (7, .int x16), (9, .int x27), (10, .int x28), (11, .int x29), (12, .int x30), (13, .int x31), (14, .int x34)]) hx hb dL_fits_304 hl (by decide) rfl (fun ls hl => ?_)
            obtain ⟨x170, e171, h⟩ := ce_nm_e h
            refine lv_iinc (v := x170) (lv' := [(14, .int x170), (8, .int 0), (0, .ref (b + a1)), (1, .int a2), (2, .int x11), (3, .int x12), (4, .int x13), (5, .int x14), (6, .int x15), (7, .int x16), (9, .int x27), (10, .int x28), (11, .int x29), (12, .int x30), (13, .int x31)]) hx hb dL_fits_306 hl (k := 14) rfl (by rw [← e171]; rfl) (by decide) rfl (fun ls hl => ?_)
            refine lv_goto (tgt := 232) hx hb dL_fits_309 (by decide) ?_
            exact ih36 0 x170 h  _ _ _ hA hS (lv_sub hl [2, 3, 4, 5, 6, 7, 8, 9, 1, 10, 11, 12, 13, 14, 0] rfl)
          · have h := ce_it c169 h
            refine lv_aload_n hx hb dL_fits_267 rfl (lv_at hl 0 rfl) ?_
            refine lv_iload hx hb dL_fits_268 (lv_at hl 14 rfl) ?_
            refine lv_iconst (v := 2) hx hb dL_fits_270 (by decide) ?_
            obtain ⟨x172, g173, h⟩ := ce_b1_e h
            refine ce_callWi (As := [.ref (b + a1), .int x34, .int 2]) (rest := []) hx hb hml hown hB (c0_L_event l hfl X G b ha1 g173) ce_s_L_event ce_w647 ⟨Nat.le_of_ble_eq_true rfl, Nat.le_of_ble_eq_true rfl⟩ hF hA hS hl rfl rfl (Nat.le_of_ble_eq_true rfl) dL_fits_271 ⟨Nat.le_of_ble_eq_true rfl, Nat.le_of_ble_eq_true rfl⟩ (fun H locs hA hS => ?_)
            refine lv_aload_n hx hb dL_fits_274 rfl (lv_at hl 0 rfl) ?_
            refine lv_iload hx hb dL_fits_275 (lv_at hl 14 rfl) ?_
            refine lv_iconst (v := 3) hx hb dL_fits_277 (by decide) ?_
            obtain ⟨x174, g175, h⟩ := ce_b1_e h
            refine ce_callWi (As := [.ref (b + a1), .int x34, .int 3]) (rest := [.int x172]) hx hb hml hown hB (c0_L_event l hfl X G b ha1 g175) ce_s_L_event ce_w647 ⟨Nat.le_of_ble_eq_true rfl, Nat.le_of_ble_eq_true rfl⟩ hF hA hS hl rfl rfl (Nat.le_of_ble_eq_true rfl) dL_fits_278 ⟨Nat.le_of_ble_eq_true rfl, Nat.le_of_ble_eq_true rfl⟩ (fun H locs hA hS => ?_)
            refine lv_icmp_gt (tgt := 303) hx hb dL_fits_281 (by decide) (fun c176 => ?_) (fun c176 => ?_)
            · have h := ce_it c176 h
              refine lv_iconst (v := 0) hx hb dL_fits_303 (by decide) ?_
              refine lv_istore (lv' := [(8, .int 0), (0, .ref (b + a1)), (1, .int a2), (2, .int x11), (3, .int x12), (4, .int x13), (5, .int x14), (6, .int x15), (7, .int x16), (9, .int x27), (10, .int x28), (11, .int x29), (12, .int x30), (13, .int x31), (14, .int x34)]) hx hb dL_fits_304 hl (by decide) rfl (fun ls hl => ?_)
              obtain ⟨x177, e178, h⟩ := ce_nm_e h
              refine lv_iinc (v := x177) (lv' := [(14, .int x177), (8, .int 0), (0, .ref (b + a1)), (1, .int a2), (2, .int x11), (3, .int x12), (4, .int x13), (5, .int x14), (6, .int x15), (7, .int x16), (9, .int x27), (10, .int x28), (11, .int x29), (12, .int x30), (13, .int x31)]) hx hb dL_fits_306 hl (k := 14) rfl (by rw [← e178]; rfl) (by decide) rfl (fun ls hl => ?_)
              refine lv_goto (tgt := 232) hx hb dL_fits_309 (by decide) ?_
              exact ih36 0 x177 h  _ _ _ hA hS (lv_sub hl [2, 3, 4, 5, 6, 7, 8, 9, 1, 10, 11, 12, 13, 14, 0] rfl)
            · have h := ce_ie c176 h
              refine lv_aload_n hx hb dL_fits_284 rfl (lv_at hl 0 rfl) ?_
              refine lv_iload hx hb dL_fits_285 (lv_at hl 14 rfl) ?_
              refine lv_iconst (v := 3) hx hb dL_fits_287 (by decide) ?_
              obtain ⟨x179, g180, h⟩ := ce_b1_e h
              refine ce_callWi (As := [.ref (b + a1), .int x34, .int 3]) (rest := []) hx hb hml hown hB (c0_L_event l hfl X G b ha1 g180) ce_s_L_event ce_w647 ⟨Nat.le_of_ble_eq_true rfl, Nat.le_of_ble_eq_true rfl⟩ hF hA hS hl rfl rfl (Nat.le_of_ble_eq_true rfl) dL_fits_288 ⟨Nat.le_of_ble_eq_true rfl, Nat.le_of_ble_eq_true rfl⟩ (fun H locs hA hS => ?_)
              refine lv_aload_n hx hb dL_fits_291 rfl (lv_at hl 0 rfl) ?_
              refine lv_iconst (v := 3) hx hb dL_fits_292 (by decide) ?_
              obtain ⟨x181, g182, h⟩ := ce_b1_e h
              refine ce_callWi (As := [.ref (b + a1), .int 3]) (rest := [.int x179]) hx hb hml hown hB (c0_L_whole l hfl X G b ha1 g182) ce_s_L_whole ce_w579 ⟨Nat.le_of_ble_eq_true rfl, Nat.le_of_ble_eq_true rfl⟩ hF hA hS hl rfl rfl (Nat.le_of_ble_eq_true rfl) dL_fits_293 ⟨Nat.le_of_ble_eq_true rfl, Nat.le_of_ble_eq_true rfl⟩ (fun H locs hA hS => ?_)
              refine lv_icmp_gt (tgt := 303) hx hb dL_fits_296 (by decide) (fun c183 => ?_) (fun c183 => ?_)
              · have h := ce_it c183 h
                refine lv_iconst (v := 0) hx hb dL_fits_303 (by decide) ?_
                refine lv_istore (lv' := [(8, .int 0), (0, .ref (b + a1)), (1, .int a2), (2, .int x11), (3, .int x12), (4, .int x13), (5, .int x14), (6, .int x15), (7, .int x16), (9, .int x27), (10, .int x28), (11, .int x29), (12, .int x30), (13, .int x31), (14, .int x34)]) hx hb dL_fits_304 hl (by decide) rfl (fun ls hl => ?_)
                obtain ⟨x184, e185, h⟩ := ce_nm_e h
                refine lv_iinc (v := x184) (lv' := [(14, .int x184), (8, .int 0), (0, .ref (b + a1)), (1, .int a2), (2, .int x11), (3, .int x12), (4, .int x13), (5, .int x14), (6, .int x15), (7, .int x16), (9, .int x27), (10, .int x28), (11, .int x29), (12, .int x30), (13, .int x31)]) hx hb dL_fits_306 hl (k := 14) rfl (by rw [← e185]; rfl) (by decide) rfl (fun ls hl => ?_)
                refine lv_goto (tgt := 232) hx hb dL_fits_309 (by decide) ?_
                exact ih36 0 x184 h  _ _ _ hA hS (lv_sub hl [2, 3, 4, 5, 6, 7, 8, 9, 1, 10, 11, 12, 13, 14, 0] rfl)
              · have h := ce_ie c183 h
                refine lv_iconst (v := 1) hx hb dL_fits_299 (by decide) ?_
                refine lv_goto (tgt := 304) hx hb dL_fits_300 (by decide) ?_
                refine lv_istore (lv' := [(8, .int 1), (0, .ref (b + a1)), (1, .int a2), (2, .int x11), (3, .int x12), (4, .int x13), (5, .int x14), (6, .int x15), (7, .int x16), (9, .int x27), (10, .int x28), (11, .int x29), (12, .int x30), (13, .int x31), (14, .int x34)]) hx hb dL_fits_304 hl (by decide) rfl (fun ls hl => ?_)
                obtain ⟨x186, e187, h⟩ := ce_nm_e h
                refine lv_iinc (v := x186) (lv' := [(14, .int x186), (8, .int 1), (0, .ref (b + a1)), (1, .int a2), (2, .int x11), (3, .int x12), (4, .int x13), (5, .int x14), (6, .int x15), (7, .int x16), (9, .int x27), (10, .int x28), (11, .int x29), (12, .int x30), (13, .int x31)]) hx hb dL_fits_306 hl (k := 14) rfl (by rw [← e187]; rfl) (by decide) rfl (fun ls hl => ?_)
                refine lv_goto (tgt := 232) hx hb dL_fits_309 (by decide) ?_
                exact ih36 1 x186 h  _ _ _ hA hS (lv_sub hl [2, 3, 4, 5, 6, 7, 8, 9, 1, 10, 11, 12, 13, 14, 0] rfl)
    refine ce_lp6_i (y := r) (P := fun (x19 : Int32) (x20 : Int32) (x21 : Int32) (x22 : Int32) (x23 : Int32) (x24 : Int32) => ce_Wg p l e (ce_R 10 179 0 0) s m (([.ref (b + a1), .int a2] : List Value).toArray) below meth c 0 0 (MQ below (ce_Q X b M (some (.int r))) ([.ref (b + a1), .int a2] : List Value).toArray s 0 0 (ce_Ab b)) X b M 19 [(0, .ref (b + a1)), (1, .int a2), (2, .int x11), (3, .int x12), (4, .int x13), (5, .int x14), (6, .int x15), (7, .int x16), (8, .int x17), (9, .int x19), (10, .int x20), (11, .int x21), (12, .int x22), (13, .int x23), (14, .int x24)] 142 []) (fun rec25 ih26 x19 x20 x21 x22 x23 x24 h => ?_) _ _ _ _ _ _ _ h _ _ _ hA hS (lv_sub hl [6, 7, 8, 9, 10, 11, 12, 13, 14, 5, 4, 3, 2, 1, 0] rfl)
    intro H locs ls hA hS hl
    unfold f_L_fits_L142 at h
    refine lv_iload hx hb dL_fits_142 (lv_at hl 14 rfl) ?_
    refine lv_bipush (v := 16) hx hb dL_fits_144 (by decide) ?_
    refine lv_icmp_ge (tgt := 229) hx hb dL_fits_146 (by decide) (fun c189 => ?_) (fun c189 => ?_)
    · have h := ce_it c189 h
      exact Ju32 x19 x20 x21 x22 x23 h  _ _ _ hA hS (lv_sub hl [0, 1, 2, 3, 4, 5, 6, 7, 8, 9, 10, 11, 12, 13] rfl)
    · have h := ce_ie c189 h
      refine lv_iload hx hb dL_fits_149 (lv_at hl 9 rfl) ?_
      refine lv_aload_n hx hb dL_fits_151 rfl (lv_at hl 0 rfl) ?_
      refine lv_iload hx hb dL_fits_152 (lv_at hl 14 rfl) ?_
      refine lv_iconst (v := 0) hx hb dL_fits_154 (by decide) ?_
      obtain ⟨x190, g191, h⟩ := ce_b1_e h
      refine ce_callWi (As := [.ref (b + a1), .int x24, .int 0]) (rest := [.int x19]) hx hb hml hown hB (c0_L_leaf l hfl X G b ha1 g191) ce_s_L_leaf ce_w670 ⟨Nat.le_of_ble_eq_true rfl, Nat.le_of_ble_eq_true rfl⟩ hF hA hS hl rfl rfl (Nat.le_of_ble_eq_true rfl) dL_fits_155 ⟨Nat.le_of_ble_eq_true rfl, Nat.le_of_ble_eq_true rfl⟩ (fun H locs hA hS => ?_)
      refine lv_iadd hx hb dL_fits_158 ?_
      obtain ⟨x192, e193, h⟩ := ce_nm_e h
      refine ce_top e193 ?_
      refine lv_istore (lv' := [(9, .int x192), (0, .ref (b + a1)), (1, .int a2), (2, .int x11), (3, .int x12), (4, .int x13), (5, .int x14), (6, .int x15), (7, .int x16), (8, .int x17), (10, .int x20), (11, .int x21), (12, .int x22), (13, .int x23), (14, .int x24)]) hx hb dL_fits_159 hl (by decide) rfl (fun ls hl => ?_)
      refine lv_iload hx hb dL_fits_161 (lv_at hl 10 rfl) ?_
      refine lv_aload_n hx hb dL_fits_163 rfl (lv_at hl 1 rfl) ?_
      refine lv_iload hx hb dL_fits_164 (lv_at hl 14 rfl) ?_
      refine lv_iconst (v := 1) hx hb dL_fits_166 (by decide) ?_
      obtain ⟨x194, g195, h⟩ := ce_b1_e h
      refine ce_callWi (As := [.ref (b + a1), .int x24, .int 1]) (rest := [.int x20]) hx hb hml hown hB (c0_L_leaf l hfl X G b ha1 g195) ce_s_L_leaf ce_w670 ⟨Nat.le_of_ble_eq_true rfl, Nat.le_of_ble_eq_true rfl⟩ hF hA hS hl rfl rfl (Nat.le_of_ble_eq_true rfl) dL_fits_167 ⟨Nat.le_of_ble_eq_true rfl, Nat.le_of_ble_eq_true rfl⟩ (fun H locs hA hS => ?_)
      refine lv_iadd hx hb dL_fits_170 ?_
      obtain ⟨x196, e197, h⟩ := ce_nm_e h
      refine ce_top e197 ?_
      refine lv_istore (lv' := [(10, .int x196), (9, .int x192), (0, .ref (b + a1)), (1, .int a2), (2, .int x11), (3, .int x12), (4, .int x13), (5, .int x14), (6, .int x15), (7, .int x16), (8, .int x17), (11, .int x21), (12, .int x22), (13, .int x23), (14, .int x24)]) hx hb dL_fits_171 hl (by decide) rfl (fun ls hl => ?_)
      refine lv_iload hx hb dL_fits_173 (lv_at hl 11 rfl) ?_
      refine lv_aload_n hx hb dL_fits_175 rfl (lv_at hl 2 rfl) ?_
      refine lv_iload hx hb dL_fits_176 (lv_at hl 14 rfl) ?_
      refine lv_iconst (v := 2) hx hb dL_fits_178 (by decide) ?_
      obtain ⟨x198, g199, h⟩ := ce_b1_e h
      refine ce_callWi (As := [.ref (b + a1), .int x24, .int 2]) (rest := [.int x21]) hx hb hml hown hB (c0_L_leaf l hfl X G b ha1 g199) ce_s_L_leaf ce_w670 ⟨Nat.le_of_ble_eq_true rfl, Nat.le_of_ble_eq_true rfl⟩ hF hA hS hl rfl rfl (Nat.le_of_ble_eq_true rfl) dL_fits_179 ⟨Nat.le_of_ble_eq_true rfl, Nat.le_of_ble_eq_true rfl⟩ (fun H locs hA hS => ?_)
      refine lv_iadd hx hb dL_fits_182 ?_
      obtain ⟨x200, e201, h⟩ := ce_nm_e h
      refine ce_top e201 ?_
      refine lv_istore (lv' := [(11, .int x200), (10, .int x196), (9, .int x192), (0, .ref (b + a1)), (1, .int a2), (2, .int x11), (3, .int x12), (4, .int x13), (5, .int x14), (6, .int x15), (7, .int x16), (8, .int x17), (12, .int x22), (13, .int x23), (14, .int x24)]) hx hb dL_fits_183 hl (by decide) rfl (fun ls hl => ?_)
      refine lv_iload hx hb dL_fits_185 (lv_at hl 12 rfl) ?_
      refine lv_aload_n hx hb dL_fits_187 rfl (lv_at hl 3 rfl) ?_
      refine lv_iload hx hb dL_fits_188 (lv_at hl 14 rfl) ?_
      refine lv_iconst (v := 3) hx hb dL_fits_190 (by decide) ?_
      obtain ⟨x202, g203, h⟩ := ce_b1_e h
      refine ce_callWi (As := [.ref (b + a1), .int x24, .int 3]) (rest := [.int x22]) hx hb hml hown hB (c0_L_leaf l hfl X G b ha1 g203) ce_s_L_leaf ce_w670 ⟨Nat.le_of_ble_eq_true rfl, Nat.le_of_ble_eq_true rfl⟩ hF hA hS hl rfl rfl (Nat.le_of_ble_eq_true rfl) dL_fits_191 ⟨Nat.le_of_ble_eq_true rfl, Nat.le_of_ble_eq_true rfl⟩ (fun H locs hA hS => ?_)
      refine lv_iadd hx hb dL_fits_194 ?_
      obtain ⟨x204, e205, h⟩ := ce_nm_e h
      refine ce_top e205 ?_
      refine lv_istore (lv' := [(12, .int x204), (11, .int x200), (10, .int x196), (9, .int x192), (0, .ref (b + a1)), (1, .int a2), (2, .int x11), (3, .int x12), (4, .int x13), (5, .int x14), (6, .int x15), (7, .int x16), (8, .int x17), (13, .int x23), (14, .int x24)]) hx hb dL_fits_195 hl (by decide) rfl (fun ls hl => ?_)
      refine lv_aload_n hx hb dL_fits_197 rfl (lv_at hl 4 rfl) ?_
      refine lv_iload hx hb dL_fits_198 (lv_at hl 14 rfl) ?_
      refine lv_iconst (v := 2) hx hb dL_fits_200 (by decide) ?_
      obtain ⟨x206, g207, h⟩ := ce_b1_e h
      refine ce_callWi (As := [.ref (b + a1), .int x24, .int 2]) (rest := []) hx hb hml hown hB (c0_L_leaf l hfl X G b ha1 g207) ce_s_L_leaf ce_w670 ⟨Nat.le_of_ble_eq_true rfl, Nat.le_of_ble_eq_true rfl⟩ hF hA hS hl rfl rfl (Nat.le_of_ble_eq_true rfl) dL_fits_201 ⟨Nat.le_of_ble_eq_true rfl, Nat.le_of_ble_eq_true rfl⟩ (fun H locs hA hS => ?_)
      refine lv_iload hx hb dL_fits_204 (lv_at hl 13 rfl) ?_
      refine lv_icmp_le (tgt := 219) hx hb dL_fits_206 (by decide) (fun c208 => ?_) (fun c208 => ?_)
      · have h := ce_it c208 h
        refine lv_iload hx hb dL_fits_219 (lv_at hl 13 rfl) ?_
        refine lv_istore (lv' := [(13, .int x23), (12, .int x204), (11, .int x200), (10, .int x196), (9, .int x192), (0, .ref (b + a1)), (1, .int a2), (2, .int x11), (3, .int x12), (4, .int x13), (5, .int x14), (6, .int x15), (7, .int x16), (8, .int x17), (14, .int x24)]) hx hb dL_fits_221 hl (by decide) rfl (fun ls hl => ?_)
        obtain ⟨x209, e210, h⟩ := ce_nm_e h
        refine lv_iinc (v := x209) (lv' := [(14, .int x209), (13, .int x23), (12, .int x204), (11, .int x200), (10, .int x196), (9, .int x192), (0, .ref (b + a1)), (1, .int a2), (2, .int x11), (3, .int x12), (4, .int x13), (5, .int x14), (6, .int x15), (7, .int x16), (8, .int x17)]) hx hb dL_fits_223 hl (k := 14) rfl (by rw [← e210]; rfl) (by decide) rfl (fun ls hl => ?_)
        refine lv_goto (tgt := 142) hx hb dL_fits_226 (by decide) ?_
        exact ih26 x192 x196 x200 x204 x23 x209 h  _ _ _ hA hS (lv_sub hl [6, 7, 8, 9, 10, 11, 12, 13, 14, 5, 4, 3, 2, 1, 0] rfl)
      · have h := ce_ie c208 h
        refine lv_aload_n hx hb dL_fits_209 rfl (lv_at hl 4 rfl) ?_
        refine lv_iload hx hb dL_fits_210 (lv_at hl 14 rfl) ?_
        refine lv_iconst (v := 2) hx hb dL_fits_212 (by decide) ?_
        obtain ⟨x211, g212, h⟩ := ce_b1_e h
        refine ce_callWi (As := [.ref (b + a1), .int x24, .int 2]) (rest := []) hx hb hml hown hB (c0_L_leaf l hfl X G b ha1 g212) ce_s_L_leaf ce_w670 ⟨Nat.le_of_ble_eq_true rfl, Nat.le_of_ble_eq_true rfl⟩ hF hA hS hl rfl rfl (Nat.le_of_ble_eq_true rfl) dL_fits_213 ⟨Nat.le_of_ble_eq_true rfl, Nat.le_of_ble_eq_true rfl⟩ (fun H locs hA hS => ?_)
        refine lv_goto (tgt := 221) hx hb dL_fits_216 (by decide) ?_
        refine lv_istore (lv' := [(13, .int x211), (12, .int x204), (11, .int x200), (10, .int x196), (9, .int x192), (0, .ref (b + a1)), (1, .int a2), (2, .int x11), (3, .int x12), (4, .int x13), (5, .int x14), (6, .int x15), (7, .int x16), (8, .int x17), (14, .int x24)]) hx hb dL_fits_221 hl (by decide) rfl (fun ls hl => ?_)
        obtain ⟨x213, e214, h⟩ := ce_nm_e h
        refine lv_iinc (v := x213) (lv' := [(14, .int x213), (13, .int x211), (12, .int x204), (11, .int x200), (10, .int x196), (9, .int x192), (0, .ref (b + a1)), (1, .int a2), (2, .int x11), (3, .int x12), (4, .int x13), (5, .int x14), (6, .int x15), (7, .int x16), (8, .int x17)]) hx hb dL_fits_223 hl (k := 14) rfl (by rw [← e214]; rfl) (by decide) rfl (fun ls hl => ?_)
        refine lv_goto (tgt := 142) hx hb dL_fits_226 (by decide) ?_
        exact ih26 x192 x196 x200 x204 x211 x213 h  _ _ _ hA hS (lv_sub hl [6, 7, 8, 9, 10, 11, 12, 13, 14, 5, 4, 3, 2, 1, 0] rfl)
  refine ce_lp8_i (y := r) (P := fun (x1 : Int32) (x2 : Int32) (x3 : Int32) (x4 : Int32) (x5 : Int32) (x6 : Int32) (x7 : Int32) (x8 : Int32) => ce_Wg p l e (ce_R 10 179 0 0) s m (([.ref (b + a1), .int a2] : List Value).toArray) below meth c 0 0 (MQ below (ce_Q X b M (some (.int r))) ([.ref (b + a1), .int a2] : List Value).toArray s 0 0 (ce_Ab b)) X b M 19 [(0, .ref (b + a1)), (1, .int a2), (2, .int x1), (3, .int x2), (4, .int x3), (5, .int x4), (6, .int x5), (7, .int x6), (8, .int x7), (9, .int x8)] 22 []) (fun rec9 ih10 x1 x2 x3 x4 x5 x6 x7 x8 h => ?_) _ _ _ _ _ _ _ _ _ h _ _ _ hA hS (lv_sub hl [8, 9, 7, 6, 5, 4, 3, 2, 1, 0] rfl)
  intro H locs ls hA hS hl
  unfold f_L_fits_L22 at h
  refine lv_iload hx hb dL_fits_22 (lv_at hl 9 rfl) ?_
  refine lv_aload_n hx hb dL_fits_24 rfl (lv_at hl 0 rfl) ?_
  refine lv_iconst (v := 0) hx hb dL_fits_25 (by decide) ?_
  obtain ⟨x216, g217, h⟩ := ce_b1_e h
  refine ce_callWi (As := [.ref (b + a1), .int 0]) (rest := [.int x8]) hx hb hml hown hB (c0_L_whole l hfl X G b ha1 g217) ce_s_L_whole ce_w579 ⟨Nat.le_of_ble_eq_true rfl, Nat.le_of_ble_eq_true rfl⟩ hF hA hS hl rfl rfl (Nat.le_of_ble_eq_true rfl) dL_fits_26 ⟨Nat.le_of_ble_eq_true rfl, Nat.le_of_ble_eq_true rfl⟩ (fun H locs hA hS => ?_)
  refine lv_icmp_ge (tgt := 124) hx hb dL_fits_29 (by decide) (fun c218 => ?_) (fun c218 => ?_)
  · have h := ce_it c218 h
    exact Ju18 x1 x2 x3 x4 x5 x6 x7 h  _ _ _ hA hS (lv_sub hl [0, 1, 2, 3, 4, 5, 6, 7, 8] rfl)
  · have h := ce_ie c218 h
    refine lv_iload hx hb dL_fits_32 (lv_at hl 8 rfl) ?_
    refine lv_if_eq (tgt := 124) hx hb dL_fits_34 (by decide) (fun c219 => ?_) (fun c219 => ?_)
    · have h := ce_it c219 h
      exact Ju18 x1 x2 x3 x4 x5 x6 x7 h  _ _ _ hA hS (lv_sub hl [0, 1, 2, 3, 4, 5, 6, 7, 8] rfl)
    · have h := ce_ie c219 h
      refine lv_aload_n hx hb dL_fits_37 rfl (lv_at hl 0 rfl) ?_
      refine lv_iload hx hb dL_fits_38 (lv_at hl 9 rfl) ?_
      obtain ⟨x220, g221, h⟩ := ce_b1_e h
      refine ce_callSi (As := [.ref (b + a1), .int x8]) (rest := []) hx hb hml hown hB (c_L_isOne l hfl X G b ha1 g221) ce_s_L_isOne ce_w794 ⟨Nat.le_of_ble_eq_true rfl, Nat.le_of_ble_eq_true rfl⟩ hF hA hS hl rfl rfl (Nat.le_of_ble_eq_true rfl) dL_fits_40 ⟨Nat.le_of_ble_eq_true rfl, Nat.le_of_ble_eq_true rfl⟩ (fun H locs hA hS => ?_)
      refine lv_istore (lv' := [(8, .int x220), (0, .ref (b + a1)), (1, .int a2), (2, .int x1), (3, .int x2), (4, .int x3), (5, .int x4), (6, .int x5), (7, .int x6), (9, .int x8)]) hx hb dL_fits_43 hl (by decide) rfl (fun ls hl => ?_)
      refine lv_iload_n hx hb dL_fits_45 rfl (lv_at hl 3 rfl) ?_
      refine lv_aload_n hx hb dL_fits_46 rfl (lv_at hl 1 rfl) ?_
      refine lv_iload hx hb dL_fits_47 (lv_at hl 9 rfl) ?_
      refine lv_iconst (v := 5) hx hb dL_fits_49 (by decide) ?_
      obtain ⟨x222, g223, h⟩ := ce_b1_e h
      refine ce_callWi (As := [.ref (b + a1), .int x8, .int 5]) (rest := [.int x1]) hx hb hml hown hB (c0_L_one l hfl X G b ha1 g223) ce_s_L_one ce_w619 ⟨Nat.le_of_ble_eq_true rfl, Nat.le_of_ble_eq_true rfl⟩ hF hA hS hl rfl rfl (Nat.le_of_ble_eq_true rfl) dL_fits_50 ⟨Nat.le_of_ble_eq_true rfl, Nat.le_of_ble_eq_true rfl⟩ (fun H locs hA hS => ?_)
      refine lv_iadd hx hb dL_fits_53 ?_
      obtain ⟨x224, e225, h⟩ := ce_nm_e h
      refine ce_top e225 ?_
      refine lv_istore_n (lv' := [(2, .int x224), (8, .int x220), (0, .ref (b + a1)), (1, .int a2), (3, .int x2), (4, .int x3), (5, .int x4), (6, .int x5), (7, .int x6), (9, .int x8)]) hx hb dL_fits_54 rfl hl (by decide) rfl (fun ls hl => ?_)
      refine lv_iload_n hx hb dL_fits_55 rfl (lv_at hl 4 rfl) ?_
      refine lv_aload_n hx hb dL_fits_56 rfl (lv_at hl 2 rfl) ?_
      refine lv_iload hx hb dL_fits_57 (lv_at hl 9 rfl) ?_
      refine lv_bipush (v := 6) hx hb dL_fits_59 (by decide) ?_
      obtain ⟨x226, g227, h⟩ := ce_b1_e h
      refine ce_callWi (As := [.ref (b + a1), .int x8, .int 6]) (rest := [.int x2]) hx hb hml hown hB (c0_L_one l hfl X G b ha1 g227) ce_s_L_one ce_w619 ⟨Nat.le_of_ble_eq_true rfl, Nat.le_of_ble_eq_true rfl⟩ hF hA hS hl rfl rfl (Nat.le_of_ble_eq_true rfl) dL_fits_61 ⟨Nat.le_of_ble_eq_true rfl, Nat.le_of_ble_eq_true rfl⟩ (fun H locs hA hS => ?_)
      refine lv_iadd hx hb dL_fits_64 ?_
      obtain ⟨x228, e229, h⟩ := ce_nm_e h
      refine ce_top e229 ?_
      refine lv_istore_n (lv' := [(3, .int x228), (2, .int x224), (8, .int x220), (0, .ref (b + a1)), (1, .int a2), (4, .int x3), (5, .int x4), (6, .int x5), (7, .int x6), (9, .int x8)]) hx hb dL_fits_65 rfl hl (by decide) rfl (fun ls hl => ?_)
      refine lv_iload hx hb dL_fits_66 (lv_at hl 8 rfl) ?_
      refine lv_aload_n hx hb dL_fits_68 rfl (lv_at hl 3 rfl) ?_
      refine lv_iload hx hb dL_fits_69 (lv_at hl 9 rfl) ?_
      refine lv_bipush (v := 7) hx hb dL_fits_71 (by decide) ?_
      obtain ⟨x230, g231, h⟩ := ce_b1_e h
      refine ce_callWi (As := [.ref (b + a1), .int x8, .int 7]) (rest := [.int x6]) hx hb hml hown hB (c0_L_one l hfl X G b ha1 g231) ce_s_L_one ce_w619 ⟨Nat.le_of_ble_eq_true rfl, Nat.le_of_ble_eq_true rfl⟩ hF hA hS hl rfl rfl (Nat.le_of_ble_eq_true rfl) dL_fits_73 ⟨Nat.le_of_ble_eq_true rfl, Nat.le_of_ble_eq_true rfl⟩ (fun H locs hA hS => ?_)
      refine lv_iadd hx hb dL_fits_76 ?_
      obtain ⟨x232, e233, h⟩ := ce_nm_e h
      refine ce_top e233 ?_
      refine lv_istore (lv' := [(7, .int x232), (3, .int x228), (2, .int x224), (8, .int x220), (0, .ref (b + a1)), (1, .int a2), (4, .int x3), (5, .int x4), (6, .int x5), (9, .int x8)]) hx hb dL_fits_77 hl (by decide) rfl (fun ls hl => ?_)
      refine lv_iload hx hb dL_fits_79 (lv_at hl 6 rfl) ?_
      refine lv_aload_n hx hb dL_fits_81 rfl (lv_at hl 4 rfl) ?_
      refine lv_iload hx hb dL_fits_82 (lv_at hl 9 rfl) ?_
      refine lv_bipush (v := 8) hx hb dL_fits_84 (by decide) ?_
      obtain ⟨x234, g235, h⟩ := ce_b1_e h
      refine ce_callWi (As := [.ref (b + a1), .int x8, .int 8]) (rest := [.int x3]) hx hb hml hown hB (c0_L_one l hfl X G b ha1 g235) ce_s_L_one ce_w619 ⟨Nat.le_of_ble_eq_true rfl, Nat.le_of_ble_eq_true rfl⟩ hF hA hS hl rfl rfl (Nat.le_of_ble_eq_true rfl) dL_fits_86 ⟨Nat.le_of_ble_eq_true rfl, Nat.le_of_ble_eq_true rfl⟩ (fun H locs hA hS => ?_)
      refine lv_iadd hx hb dL_fits_89 ?_
      obtain ⟨x236, e237, h⟩ := ce_nm_e h
      refine ce_top e237 ?_
      refine lv_istore (lv' := [(4, .int x236), (7, .int x232), (3, .int x228), (2, .int x224), (8, .int x220), (0, .ref (b + a1)), (1, .int a2), (5, .int x4), (6, .int x5), (9, .int x8)]) hx hb dL_fits_90 hl (by decide) rfl (fun ls hl => ?_)
      refine lv_iload hx hb dL_fits_92 (lv_at hl 7 rfl) ?_
      refine lv_aload_n hx hb dL_fits_94 rfl (lv_at hl 5 rfl) ?_
      refine lv_iload hx hb dL_fits_95 (lv_at hl 9 rfl) ?_
      refine lv_bipush (v := 9) hx hb dL_fits_97 (by decide) ?_
      obtain ⟨x238, g239, h⟩ := ce_b1_e h
      refine ce_callWi (As := [.ref (b + a1), .int x8, .int 9]) (rest := [.int x4]) hx hb hml hown hB (c0_L_one l hfl X G b ha1 g239) ce_s_L_one ce_w619 ⟨Nat.le_of_ble_eq_true rfl, Nat.le_of_ble_eq_true rfl⟩ hF hA hS hl rfl rfl (Nat.le_of_ble_eq_true rfl) dL_fits_99 ⟨Nat.le_of_ble_eq_true rfl, Nat.le_of_ble_eq_true rfl⟩ (fun H locs hA hS => ?_)
      refine lv_iadd hx hb dL_fits_102 ?_
      obtain ⟨x240, e241, h⟩ := ce_nm_e h
      refine ce_top e241 ?_
      refine lv_istore (lv' := [(5, .int x240), (4, .int x236), (7, .int x232), (3, .int x228), (2, .int x224), (8, .int x220), (0, .ref (b + a1)), (1, .int a2), (6, .int x5), (9, .int x8)]) hx hb dL_fits_103 hl (by decide) rfl (fun ls hl => ?_)
      refine lv_iload hx hb dL_fits_105 (lv_at hl 8 rfl) ?_
      refine lv_aload_n hx hb dL_fits_107 rfl (lv_at hl 6 rfl) ?_
      refine lv_iload hx hb dL_fits_108 (lv_at hl 9 rfl) ?_
      refine lv_bipush (v := 10) hx hb dL_fits_110 (by decide) ?_
      obtain ⟨x242, g243, h⟩ := ce_b1_e h
      refine ce_callWi (As := [.ref (b + a1), .int x8, .int 10]) (rest := [.int x5]) hx hb hml hown hB (c0_L_one l hfl X G b ha1 g243) ce_s_L_one ce_w619 ⟨Nat.le_of_ble_eq_true rfl, Nat.le_of_ble_eq_true rfl⟩ hF hA hS hl rfl rfl (Nat.le_of_ble_eq_true rfl) dL_fits_112 ⟨Nat.le_of_ble_eq_true rfl, Nat.le_of_ble_eq_true rfl⟩ (fun H locs hA hS => ?_)
      refine lv_iadd hx hb dL_fits_115 ?_
      obtain ⟨x244, e245, h⟩ := ce_nm_e h
      refine ce_top e245 ?_
      refine lv_istore (lv' := [(6, .int x244), (5, .int x240), (4, .int x236), (7, .int x232), (3, .int x228), (2, .int x224), (8, .int x220), (0, .ref (b + a1)), (1, .int a2), (9, .int x8)]) hx hb dL_fits_116 hl (by decide) rfl (fun ls hl => ?_)
      obtain ⟨x246, e247, h⟩ := ce_nm_e h
      refine lv_iinc (v := x246) (lv' := [(9, .int x246), (6, .int x244), (5, .int x240), (4, .int x236), (7, .int x232), (3, .int x228), (2, .int x224), (8, .int x220), (0, .ref (b + a1)), (1, .int a2)]) hx hb dL_fits_118 hl (k := 9) rfl (by rw [← e247]; rfl) (by decide) rfl (fun ls hl => ?_)
      refine lv_goto (tgt := 22) hx hb dL_fits_121 (by decide) ?_
      exact ih10 x224 x228 x236 x240 x244 x232 x220 x246 h  _ _ _ hA hS (lv_sub hl [8, 9, 6, 5, 3, 2, 1, 4, 7, 0] rfl)
