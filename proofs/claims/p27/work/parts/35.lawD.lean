def f_L_refused (M : ce_M) (a1 : Nat) : Option (ce_M × Int32) :=
  ce_b1 (f_L_sum M a1) (fun (q1 : Int64) =>
  ce_b2 (f_L_joins M a1 0 0 16) (fun (M3 : ce_M) (x4 : Int32) =>
  ce_nm (fun (M8 : ce_M) (x9 : Int32) =>
      ce_nm (fun (M13 : ce_M) (x14 : Int32) =>
          if x14 = 0 then
            some (M13, 0)
          else
            ce_b1 (f_L_sum M13 a1) (fun (q17 : Int64) =>
            if (lg_cmp q17 q1) = 0 then
              some (M13, 1)
            else
              some (M13, 0))) (fun (u15 : ce_M → Int32 → Option (ce_M × Int32)) =>
      ce_nm (fun (M11 : ce_M) =>
          u15 M11 0) (fun (u12 : ce_M → Option (ce_M × Int32)) =>
      if x9 = 0 then
        u12 M8
      else
        ce_b1 (f_L_whole M8 a1 0) (fun (x23 : Int32) =>
        ce_nm (fun (M25 : ce_M) =>
          ce_b1 (f_L_whole M25 a1 2) (fun (x27 : Int32) =>
          if x27 < 60 then
            u15 M25 1
          else
            ce_b2 (f_L_sends M25 a1 0 0 0) (fun (M30 : ce_M) (x31 : Int32) =>
            if x31 = (-900000002) then
              u15 M30 1
            else
              u12 M30))) (fun (u26 : ce_M → Option (ce_M × Int32)) =>
        if x23 < 8 then
          u26 M8
        else
          ce_b2 (f_L_joins M8 a1 0 0 0) (fun (M36 : ce_M) (x37 : Int32) =>
          if x37 = (-900000002) then
            u26 M36
          else
            u12 M36)))))) (fun (u10 : ce_M → Int32 → Option (ce_M × Int32)) =>
  ce_nm (fun (M6 : ce_M) =>
      u10 M6 0) (fun (u7 : ce_M → Option (ce_M × Int32)) =>
  if x4 = (-900000003) then
    ce_b2 (f_L_joins M3 a1 3 0 0) (fun (M43 : ce_M) (x44 : Int32) =>
    if x44 = (-900000001) then
      ce_b2 (f_L_goes M43 a1 8 0) (fun (M47 : ce_M) (x48 : Int32) =>
      if x48 = (-900000003) then
        ce_b2 (f_L_goes M47 a1 0 (-1)) (fun (M51 : ce_M) (x52 : Int32) =>
        if x52 = (-900000003) then
          ce_b2 (f_L_quits M51 a1 (-1)) (fun (M55 : ce_M) (x56 : Int32) =>
          if x56 = (-900000003) then
            ce_b2 (f_L_levels M55 a1 8 0) (fun (M59 : ce_M) (x60 : Int32) =>
            if x60 = (-900000003) then
              ce_b2 (f_L_sets M59 a1 1 0) (fun (M63 : ce_M) (x64 : Int32) =>
              if x64 = (-900000001) then
                ce_b2 (f_L_sends M63 a1 (-1) 0 0) (fun (M67 : ce_M) (x68 : Int32) =>
                if x68 = (-900000003) then
                  ce_b2 (f_L_sends M67 a1 0 0 (-5)) (fun (M71 : ce_M) (x72 : Int32) =>
                  if x72 = (-900000001) then
                    ce_b2 (f_L_sends M71 a1 0 0 21) (fun (M75 : ce_M) (x76 : Int32) =>
                    if x76 = (-900000002) then
                      ce_b2 (f_L_passes M75 a1 51) (fun (M79 : ce_M) (x80 : Int32) =>
                      if x80 = (-900000001) then
                        ce_b1 (f_L_one M79 a1 8 0) (fun (x83 : Int32) =>
                        if x83 = (-900000003) then
                          ce_b1 (f_L_stay M79 a1 8 0 0) (fun (x86 : Int32) =>
                          if x86 = (-900000003) then
                            ce_b1 (f_L_box M79 a1 8 0) (fun (x89 : Int32) =>
                            if x89 = (-900000003) then
                              ce_b1 (f_L_event M79 a1 60 0) (fun (x92 : Int32) =>
                              if x92 = (-900000003) then
                                ce_b1 (f_L_leaf M79 a1 0 (-1)) (fun (x95 : Int32) =>
                                if x95 = (-900000001) then
                                  ce_b1 (f_L_whole M79 a1 (-1)) (fun (x98 : Int32) =>
                                  if x98 = (-900000001) then
                                    ce_b1 (f_L_would M79 a1 0 3 0) (fun (x101 : Int32) =>
                                    if x101 = (-900000001) then
                                      ce_b1 (f_L_why M79 a1 8 0 0) (fun (x104 : Int32) =>
                                      if x104 = (-900000003) then
                                        ce_b1 (f_L_served M79 a1 8) (fun (x107 : Int32) =>
                                        if x107 = (-900000003) then
                                          ce_b2 (f_L_empty M79 a1 8) (fun (M110 : ce_M) (x111 : Int32) =>
                                          if x111 = (-900000003) then
                                            ce_b1 (f_L_covers M110 a1 (-1)) (fun (x114 : Int32) =>
                                            if x114 = (-900000003) then
                                              ce_b2 (f_L_types M110 a1 (-1)) (fun (M117 : ce_M) (x118 : Int32) =>
                                              if x118 = (-900000001) then
                                                u10 M117 1
                                              else
                                                u7 M117)
                                            else
                                              u7 M110)
                                          else
                                            u7 M110)
                                        else
                                          u7 M79)
                                      else
                                        u7 M79)
                                    else
                                      u7 M79)
                                  else
                                    u7 M79)
                                else
                                  u7 M79)
                              else
                                u7 M79)
                            else
                              u7 M79)
                          else
                            u7 M79)
                        else
                          u7 M79)
                      else
                        u7 M79)
                    else
                      u7 M75)
                  else
                    u7 M71)
                else
                  u7 M67)
              else
                u7 M63)
            else
              u7 M59)
          else
            u7 M55)
        else
          u7 M51)
      else
        u7 M47)
    else
      u7 M43)
  else
    u7 M3))))
set_option maxRecDepth 100000 in
set_option maxHeartbeats 4000000 in
theorem c_L_refused (l : Launch) (hfl : l.stackTraces = false) (X : ce_X) (G : ce_G) (b : Nat) {a1 : Nat} {M : ce_M} (ha1 : ce_kd a1 = 7) {M' : ce_M} {r : Int32} (h : f_L_refused M a1 = some (M', r)) : ce_CtC l yL_refused cL_refused 4 (some .boolean) 10 206 61 366 X G b [.ref (b + a1)] M (some (.int r)) M' := by
  refine ce_ofWC (own := RL) (by decide) rfl (Nat.le_of_ble_eq_true rfl) (fun p e s m below meth c ls hx hb hr hlocks hml hown hB hF hA hl hS => ?_)
  have hK := hF.1
  have hl : lv_has ls 4 [(0, .ref (b + a1))] := hl
  unfold f_L_refused at h
  refine lv_aload_n hx hb dL_refused_0 rfl (lv_at hl 0 rfl) ?_
  obtain ⟨q1, g2, h⟩ := ce_b1_e h
  refine ce_callSl (As := [.ref (b + a1)]) (rest := []) hx hb hml hown hB (c_L_sum l hfl X G b ha1 g2) ce_s_L_sum ce_w614 ⟨Nat.le_of_ble_eq_true rfl, Nat.le_of_ble_eq_true rfl⟩ hF hA hS hl rfl rfl (Nat.le_of_ble_eq_true rfl) dL_refused_1 ⟨Nat.le_of_ble_eq_true rfl, Nat.le_of_ble_eq_true rfl⟩ (fun H locs hA hS => ?_)
  refine lv_lstore_n (lv' := [(1, .long q1), (0, .ref (b + a1))]) hx hb dL_refused_4 rfl hl (by decide) rfl (fun ls hl => ?_)
  refine lv_aload_n hx hb dL_refused_5 rfl (lv_at hl 1 rfl) ?_
  refine lv_iconst (v := 0) hx hb dL_refused_6 (by decide) ?_
  refine lv_iconst (v := 0) hx hb dL_refused_7 (by decide) ?_
  refine lv_bipush (v := 16) hx hb dL_refused_8 (by decide) ?_
  obtain ⟨M3, x4, g5, h⟩ := ce_b2_e h
  refine ce_callWi (As := [.ref (b + a1), .int 0, .int 0, .int 16]) (rest := []) hx hb hml hown hB (c_L_joins l hfl X G b ha1 g5) ce_s_L_joins ce_w244 ⟨Nat.le_of_ble_eq_true rfl, Nat.le_of_ble_eq_true rfl⟩ hF hA hS hl rfl rfl (Nat.le_of_ble_eq_true rfl) dL_refused_10 ⟨Nat.le_of_ble_eq_true rfl, Nat.le_of_ble_eq_true rfl⟩ (fun H locs hA hS => ?_)
  refine lv_ldc (v := (-900000003)) hx hb hown (hB _ ce_w555) dL_refused_13 ?_
  obtain ⟨u10, e40, h⟩ := ce_nm_e h
  have Ju10 : ∀ (M8 : ce_M) (x9 : Int32), u10 M8 x9 = some (M', r) → ce_Wg p l e (ce_R 10 206 61 366) s m (([.ref (b + a1)] : List Value).toArray) below meth c 53 318 (MQ below (ce_Q X b M' (some (.int r))) ([.ref (b + a1)] : List Value).toArray s 61 366 (ce_Ab b)) X b M8 4 [(0, .ref (b + a1)), (1, .long q1)] 277 [.int x9] := by
    intro M8 x9 h  H locs ls hA hS hl
    subst e40
    refine lv_istore_n (lv' := [(3, .int x9), (0, .ref (b + a1)), (1, .long q1)]) hx hb dL_refused_277 rfl hl (by decide) rfl (fun ls hl => ?_)
    refine lv_iload_n hx hb dL_refused_278 rfl (lv_at hl 0 rfl) ?_
    obtain ⟨u15, e20, h⟩ := ce_nm_e h
    have Ju15 : ∀ (M13 : ce_M) (x14 : Int32), u15 M13 x14 = some (M', r) → ce_Wg p l e (ce_R 10 206 61 366) s m (([.ref (b + a1)] : List Value).toArray) below meth c 61 366 (MQ below (ce_Q X b M' (some (.int r))) ([.ref (b + a1)] : List Value).toArray s 61 366 (ce_Ab b)) X b M13 4 [(0, .ref (b + a1)), (1, .long q1)] 331 [.int x14] := by
      intro M13 x14 h  H locs ls hA hS hl
      subst e20
      refine lv_istore_n (lv' := [(3, .int x14), (0, .ref (b + a1)), (1, .long q1)]) hx hb dL_refused_331 rfl hl (by decide) rfl (fun ls hl => ?_)
      refine lv_iload_n hx hb dL_refused_332 rfl (lv_at hl 0 rfl) ?_
      refine lv_if_eq (tgt := 349) hx hb dL_refused_333 (by decide) (fun c16 => ?_) (fun c16 => ?_)
      · have h := ce_it c16 h
        refine lv_iconst (v := 0) hx hb dL_refused_349 (by decide) ?_
        cases h
        exact ce_zretC hx hb hr hlocks (Or.inl rfl) hA hS (Nat.le_of_ble_eq_true rfl) (Nat.le_of_ble_eq_true rfl) dL_refused_350
      · have h := ce_ie c16 h
        refine lv_aload_n hx hb dL_refused_336 rfl (lv_at hl 1 rfl) ?_
        obtain ⟨q17, g18, h⟩ := ce_b1_e h
        refine ce_callSl (As := [.ref (b + a1)]) (rest := []) hx hb hml hown hB (c_L_sum l hfl X G b ha1 g18) ce_s_L_sum ce_w614 ⟨Nat.le_of_ble_eq_true rfl, Nat.le_of_ble_eq_true rfl⟩ hF hA hS hl rfl rfl (Nat.le_of_ble_eq_true rfl) dL_refused_337 ⟨Nat.le_of_ble_eq_true rfl, Nat.le_of_ble_eq_true rfl⟩ (fun H locs hA hS => ?_)
        refine lv_lload_n hx hb dL_refused_340 rfl (lv_at hl 2 rfl) ?_
        refine W.lcmp hx hb dL_refused_341 ?_
        refine lv_if_ne (tgt := 349) hx hb dL_refused_342 (by decide) (fun c19 => ?_) (fun c19 => ?_)
        · have h := ce_ie c19 h
          refine lv_iconst (v := 0) hx hb dL_refused_349 (by decide) ?_
          cases h
          exact ce_zretC hx hb hr hlocks (Or.inl rfl) hA hS (Nat.le_of_ble_eq_true rfl) (Nat.le_of_ble_eq_true rfl) dL_refused_350
        · have h := ce_it c19 h
          refine lv_iconst (v := 1) hx hb dL_refused_345 (by decide) ?_
          refine lv_goto (tgt := 350) hx hb dL_refused_346 (by decide) ?_
          cases h
          exact ce_zretC hx hb hr hlocks (Or.inr rfl) hA hS (Nat.le_of_ble_eq_true rfl) (Nat.le_of_ble_eq_true rfl) dL_refused_350
    obtain ⟨u12, e21, h⟩ := ce_nm_e h
    have Ju12 : ∀ (M11 : ce_M), u12 M11 = some (M', r) → ce_Wg p l e (ce_R 10 206 61 366) s m (([.ref (b + a1)] : List Value).toArray) below meth c 61 366 (MQ below (ce_Q X b M' (some (.int r))) ([.ref (b + a1)] : List Value).toArray s 61 366 (ce_Ab b)) X b M11 4 [(0, .ref (b + a1)), (1, .long q1)] 330 [] := by
      intro M11 h  H locs ls hA hS hl
      subst e21
      refine lv_iconst (v := 0) hx hb dL_refused_330 (by decide) ?_
      exact Ju15 M11 0 h  _ _ _ hA hS (lv_sub hl [0, 1] rfl)
    refine lv_if_eq (tgt := 330) hx hb dL_refused_279 (by decide) (fun c22 => ?_) (fun c22 => ?_)
    · have h := ce_it c22 h
      exact W.widen (Nat.le_of_ble_eq_true rfl) (Nat.le_of_ble_eq_true rfl) (Ju12 M8 h  _ _ _ hA hS (lv_sub hl [1, 2] rfl))
    · have h := ce_ie c22 h
      refine lv_aload_n hx hb dL_refused_282 rfl (lv_at hl 1 rfl) ?_
      refine lv_iconst (v := 0) hx hb dL_refused_283 (by decide) ?_
      obtain ⟨x23, g24, h⟩ := ce_b1_e h
      refine ce_callWi (As := [.ref (b + a1), .int 0]) (rest := []) hx hb hml hown hB (c_L_whole l hfl X G b ha1 g24) ce_s_L_whole ce_w579 ⟨Nat.le_of_ble_eq_true rfl, Nat.le_of_ble_eq_true rfl⟩ hF hA hS hl rfl rfl (Nat.le_of_ble_eq_true rfl) dL_refused_284 ⟨Nat.le_of_ble_eq_true rfl, Nat.le_of_ble_eq_true rfl⟩ (fun H locs hA hS => ?_)
      refine lv_bipush (v := 8) hx hb dL_refused_287 (by decide) ?_
      obtain ⟨u26, e34, h⟩ := ce_nm_e h
      have Ju26 : ∀ (M25 : ce_M), u26 M25 = some (M', r) → ce_Wg p l e (ce_R 10 206 61 366) s m (([.ref (b + a1)] : List Value).toArray) below meth c 57 342 (MQ below (ce_Q X b M' (some (.int r))) ([.ref (b + a1)] : List Value).toArray s 61 366 (ce_Ab b)) X b M25 4 [(0, .ref (b + a1)), (1, .long q1)] 304 [] := by
        intro M25 h  H locs ls hA hS hl
        subst e34
        refine lv_aload_n hx hb dL_refused_304 rfl (lv_at hl 0 rfl) ?_
        refine lv_iconst (v := 2) hx hb dL_refused_305 (by decide) ?_
        obtain ⟨x27, g28, h⟩ := ce_b1_e h
        refine ce_callWi (As := [.ref (b + a1), .int 2]) (rest := []) hx hb hml hown hB (c_L_whole l hfl X G b ha1 g28) ce_s_L_whole ce_w579 ⟨Nat.le_of_ble_eq_true rfl, Nat.le_of_ble_eq_true rfl⟩ hF hA hS hl rfl rfl (Nat.le_of_ble_eq_true rfl) dL_refused_306 ⟨Nat.le_of_ble_eq_true rfl, Nat.le_of_ble_eq_true rfl⟩ (fun H locs hA hS => ?_)
        refine lv_bipush (v := 60) hx hb dL_refused_309 (by decide) ?_
        refine lv_icmp_lt (tgt := 326) hx hb dL_refused_311 (by decide) (fun c29 => ?_) (fun c29 => ?_)
        · have h := ce_it c29 h
          refine lv_iconst (v := 1) hx hb dL_refused_326 (by decide) ?_
          refine lv_goto (tgt := 331) hx hb dL_refused_327 (by decide) ?_
          exact W.widen (Nat.le_of_ble_eq_true rfl) (Nat.le_of_ble_eq_true rfl) (Ju15 M25 1 h  _ _ _ hA hS (lv_sub hl [0, 1] rfl))
        · have h := ce_ie c29 h
          refine lv_aload_n hx hb dL_refused_314 rfl (lv_at hl 0 rfl) ?_
          refine lv_iconst (v := 0) hx hb dL_refused_315 (by decide) ?_
          refine lv_iconst (v := 0) hx hb dL_refused_316 (by decide) ?_
          refine lv_iconst (v := 0) hx hb dL_refused_317 (by decide) ?_
          obtain ⟨M30, x31, g32, h⟩ := ce_b2_e h
          refine ce_callWi (As := [.ref (b + a1), .int 0, .int 0, .int 0]) (rest := []) hx hb hml hown hB (c_L_sends l hfl X G b ha1 g32) ce_s_L_sends ce_w565 ⟨Nat.le_of_ble_eq_true rfl, Nat.le_of_ble_eq_true rfl⟩ hF hA hS hl rfl rfl (Nat.le_of_ble_eq_true rfl) dL_refused_318 ⟨Nat.le_of_ble_eq_true rfl, Nat.le_of_ble_eq_true rfl⟩ (fun H locs hA hS => ?_)
          refine lv_ldc (v := (-900000002)) hx hb hown (hB _ ce_w557) dL_refused_321 ?_
          refine lv_icmp_ne (tgt := 330) hx hb dL_refused_323 (by decide) (fun c33 => ?_) (fun c33 => ?_)
          · have h := ce_ie c33 h
            exact Ju12 M30 h  _ _ _ hA hS (lv_sub hl [0, 1] rfl)
          · have h := ce_it c33 h
            refine lv_iconst (v := 1) hx hb dL_refused_326 (by decide) ?_
            refine lv_goto (tgt := 331) hx hb dL_refused_327 (by decide) ?_
            exact Ju15 M30 1 h  _ _ _ hA hS (lv_sub hl [0, 1] rfl)
      refine lv_icmp_lt (tgt := 304) hx hb dL_refused_289 (by decide) (fun c35 => ?_) (fun c35 => ?_)
      · have h := ce_it c35 h
        exact W.widen (Nat.le_of_ble_eq_true rfl) (Nat.le_of_ble_eq_true rfl) (Ju26 M8 h  _ _ _ hA hS (lv_sub hl [1, 2] rfl))
      · have h := ce_ie c35 h
        refine lv_aload_n hx hb dL_refused_292 rfl (lv_at hl 1 rfl) ?_
        refine lv_iconst (v := 0) hx hb dL_refused_293 (by decide) ?_
        refine lv_iconst (v := 0) hx hb dL_refused_294 (by decide) ?_
        refine lv_iconst (v := 0) hx hb dL_refused_295 (by decide) ?_
        obtain ⟨M36, x37, g38, h⟩ := ce_b2_e h
        refine ce_callWi (As := [.ref (b + a1), .int 0, .int 0, .int 0]) (rest := []) hx hb hml hown hB (c_L_joins l hfl X G b ha1 g38) ce_s_L_joins ce_w244 ⟨Nat.le_of_ble_eq_true rfl, Nat.le_of_ble_eq_true rfl⟩ hF hA hS hl rfl rfl (Nat.le_of_ble_eq_true rfl) dL_refused_296 ⟨Nat.le_of_ble_eq_true rfl, Nat.le_of_ble_eq_true rfl⟩ (fun H locs hA hS => ?_)
        refine lv_ldc (v := (-900000002)) hx hb hown (hB _ ce_w557) dL_refused_299 ?_
        refine lv_icmp_ne (tgt := 330) hx hb dL_refused_301 (by decide) (fun c39 => ?_) (fun c39 => ?_)
        · have h := ce_ie c39 h
          exact W.widen (Nat.le_of_ble_eq_true rfl) (Nat.le_of_ble_eq_true rfl) (Ju12 M36 h  _ _ _ hA hS (lv_sub hl [1, 2] rfl))
        · have h := ce_it c39 h
          exact Ju26 M36 h  _ _ _ hA hS (lv_sub hl [1, 2] rfl)
  obtain ⟨u7, e41, h⟩ := ce_nm_e h
  have Ju7 : ∀ (M6 : ce_M), u7 M6 = some (M', r) → ce_Wg p l e (ce_R 10 206 61 366) s m (([.ref (b + a1)] : List Value).toArray) below meth c 53 318 (MQ below (ce_Q X b M' (some (.int r))) ([.ref (b + a1)] : List Value).toArray s 61 366 (ce_Ab b)) X b M6 4 [(0, .ref (b + a1)), (1, .long q1)] 276 [] := by
    intro M6 h  H locs ls hA hS hl
    subst e41
    refine lv_iconst (v := 0) hx hb dL_refused_276 (by decide) ?_
    exact Ju10 M6 0 h  _ _ _ hA hS (lv_sub hl [0, 1] rfl)
  refine lv_icmp_ne (tgt := 276) hx hb dL_refused_15 (by decide) (fun c42 => ?_) (fun c42 => ?_)
  · have h := ce_ie c42 h
    exact W.widen (Nat.le_of_ble_eq_true rfl) (Nat.le_of_ble_eq_true rfl) (Ju7 M3 h  _ _ _ hA hS (lv_sub hl [1, 0] rfl))
  · have h := ce_it c42 h
    refine lv_aload_n hx hb dL_refused_18 rfl (lv_at hl 1 rfl) ?_
    refine lv_iconst (v := 3) hx hb dL_refused_19 (by decide) ?_
    refine lv_iconst (v := 0) hx hb dL_refused_20 (by decide) ?_
    refine lv_iconst (v := 0) hx hb dL_refused_21 (by decide) ?_
    obtain ⟨M43, x44, g45, h⟩ := ce_b2_e h
    refine ce_callWi (As := [.ref (b + a1), .int 3, .int 0, .int 0]) (rest := []) hx hb hml hown hB (c_L_joins l hfl X G b ha1 g45) ce_s_L_joins ce_w244 ⟨Nat.le_of_ble_eq_true rfl, Nat.le_of_ble_eq_true rfl⟩ hF hA hS hl rfl rfl (Nat.le_of_ble_eq_true rfl) dL_refused_22 ⟨Nat.le_of_ble_eq_true rfl, Nat.le_of_ble_eq_true rfl⟩ (fun H locs hA hS => ?_)
    refine lv_ldc (v := (-900000001)) hx hb hown (hB _ ce_w556) dL_refused_25 ?_
    refine lv_icmp_ne (tgt := 276) hx hb dL_refused_27 (by decide) (fun c46 => ?_) (fun c46 => ?_)
    · have h := ce_ie c46 h
      exact W.widen (Nat.le_of_ble_eq_true rfl) (Nat.le_of_ble_eq_true rfl) (Ju7 M43 h  _ _ _ hA hS (lv_sub hl [1, 0] rfl))
    · have h := ce_it c46 h
      refine lv_aload_n hx hb dL_refused_30 rfl (lv_at hl 1 rfl) ?_
      refine lv_bipush (v := 8) hx hb dL_refused_31 (by decide) ?_
      refine lv_iconst (v := 0) hx hb dL_refused_33 (by decide) ?_
      obtain ⟨M47, x48, g49, h⟩ := ce_b2_e h
      refine ce_callWi (As := [.ref (b + a1), .int 8, .int 0]) (rest := []) hx hb hml hown hB (c_L_goes l hfl X G b ha1 g49) ce_s_L_goes ce_w696 ⟨Nat.le_of_ble_eq_true rfl, Nat.le_of_ble_eq_true rfl⟩ hF hA hS hl rfl rfl (Nat.le_of_ble_eq_true rfl) dL_refused_34 ⟨Nat.le_of_ble_eq_true rfl, Nat.le_of_ble_eq_true rfl⟩ (fun H locs hA hS => ?_)
      refine lv_ldc (v := (-900000003)) hx hb hown (hB _ ce_w555) dL_refused_37 ?_
      refine lv_icmp_ne (tgt := 276) hx hb dL_refused_39 (by decide) (fun c50 => ?_) (fun c50 => ?_)
      · have h := ce_ie c50 h
        exact W.widen (Nat.le_of_ble_eq_true rfl) (Nat.le_of_ble_eq_true rfl) (Ju7 M47 h  _ _ _ hA hS (lv_sub hl [1, 0] rfl))
      · have h := ce_it c50 h
        refine lv_aload_n hx hb dL_refused_42 rfl (lv_at hl 1 rfl) ?_
        refine lv_iconst (v := 0) hx hb dL_refused_43 (by decide) ?_
        refine lv_iconst (v := (-1)) hx hb dL_refused_44 (by decide) ?_
        obtain ⟨M51, x52, g53, h⟩ := ce_b2_e h
        refine ce_callWi (As := [.ref (b + a1), .int 0, .int (-1)]) (rest := []) hx hb hml hown hB (c_L_goes l hfl X G b ha1 g53) ce_s_L_goes ce_w696 ⟨Nat.le_of_ble_eq_true rfl, Nat.le_of_ble_eq_true rfl⟩ hF hA hS hl rfl rfl (Nat.le_of_ble_eq_true rfl) dL_refused_45 ⟨Nat.le_of_ble_eq_true rfl, Nat.le_of_ble_eq_true rfl⟩ (fun H locs hA hS => ?_)
        refine lv_ldc (v := (-900000003)) hx hb hown (hB _ ce_w555) dL_refused_48 ?_
        refine lv_icmp_ne (tgt := 276) hx hb dL_refused_50 (by decide) (fun c54 => ?_) (fun c54 => ?_)
        · have h := ce_ie c54 h
          exact W.widen (Nat.le_of_ble_eq_true rfl) (Nat.le_of_ble_eq_true rfl) (Ju7 M51 h  _ _ _ hA hS (lv_sub hl [1, 0] rfl))
        · have h := ce_it c54 h
          refine lv_aload_n hx hb dL_refused_53 rfl (lv_at hl 1 rfl) ?_
          refine lv_iconst (v := (-1)) hx hb dL_refused_54 (by decide) ?_
          obtain ⟨M55, x56, g57, h⟩ := ce_b2_e h
          refine ce_callWi (As := [.ref (b + a1), .int (-1)]) (rest := []) hx hb hml hown hB (c_L_quits l hfl X G b ha1 g57) ce_s_L_quits ce_w703 ⟨Nat.le_of_ble_eq_true rfl, Nat.le_of_ble_eq_true rfl⟩ hF hA hS hl rfl rfl (Nat.le_of_ble_eq_true rfl) dL_refused_55 ⟨Nat.le_of_ble_eq_true rfl, Nat.le_of_ble_eq_true rfl⟩ (fun H locs hA hS => ?_)
          refine lv_ldc (v := (-900000003)) hx hb hown (hB _ ce_w555) dL_refused_58 ?_
          refine lv_icmp_ne (tgt := 276) hx hb dL_refused_60 (by decide) (fun c58 => ?_) (fun c58 => ?_)
          · have h := ce_ie c58 h
            exact W.widen (Nat.le_of_ble_eq_true rfl) (Nat.le_of_ble_eq_true rfl) (Ju7 M55 h  _ _ _ hA hS (lv_sub hl [1, 0] rfl))
          · have h := ce_it c58 h
            refine lv_aload_n hx hb dL_refused_63 rfl (lv_at hl 1 rfl) ?_
            refine lv_bipush (v := 8) hx hb dL_refused_64 (by decide) ?_
            refine lv_iconst (v := 0) hx hb dL_refused_66 (by decide) ?_
            obtain ⟨M59, x60, g61, h⟩ := ce_b2_e h
            refine ce_callWi (As := [.ref (b + a1), .int 8, .int 0]) (rest := []) hx hb hml hown hB (c_L_levels l hfl X G b ha1 g61) ce_s_L_levels ce_w710 ⟨Nat.le_of_ble_eq_true rfl, Nat.le_of_ble_eq_true rfl⟩ hF hA hS hl rfl rfl (Nat.le_of_ble_eq_true rfl) dL_refused_67 ⟨Nat.le_of_ble_eq_true rfl, Nat.le_of_ble_eq_true rfl⟩ (fun H locs hA hS => ?_)
            refine lv_ldc (v := (-900000003)) hx hb hown (hB _ ce_w555) dL_refused_70 ?_
            refine lv_icmp_ne (tgt := 276) hx hb dL_refused_72 (by decide) (fun c62 => ?_) (fun c62 => ?_)
            · have h := ce_ie c62 h
              exact W.widen (Nat.le_of_ble_eq_true rfl) (Nat.le_of_ble_eq_true rfl) (Ju7 M59 h  _ _ _ hA hS (lv_sub hl [1, 0] rfl))
            · have h := ce_it c62 h
              refine lv_aload_n hx hb dL_refused_75 rfl (lv_at hl 1 rfl) ?_
              refine lv_iconst (v := 1) hx hb dL_refused_76 (by decide) ?_
              refine lv_iconst (v := 0) hx hb dL_refused_77 (by decide) ?_
              obtain ⟨M63, x64, g65, h⟩ := ce_b2_e h
              refine ce_callWi (As := [.ref (b + a1), .int 1, .int 0]) (rest := []) hx hb hml hown hB (c_L_sets l hfl X G b ha1 g65) ce_s_L_sets ce_w558 ⟨Nat.le_of_ble_eq_true rfl, Nat.le_of_ble_eq_true rfl⟩ hF hA hS hl rfl rfl (Nat.le_of_ble_eq_true rfl) dL_refused_78 ⟨Nat.le_of_ble_eq_true rfl, Nat.le_of_ble_eq_true rfl⟩ (fun H locs hA hS => ?_)
              refine lv_ldc (v := (-900000001)) hx hb hown (hB _ ce_w556) dL_refused_81 ?_
              refine lv_icmp_ne (tgt := 276) hx hb dL_refused_83 (by decide) (fun c66 => ?_) (fun c66 => ?_)
              · have h := ce_ie c66 h
                exact W.widen (Nat.le_of_ble_eq_true rfl) (Nat.le_of_ble_eq_true rfl) (Ju7 M63 h  _ _ _ hA hS (lv_sub hl [1, 0] rfl))
              · have h := ce_it c66 h
                refine lv_aload_n hx hb dL_refused_86 rfl (lv_at hl 1 rfl) ?_
                refine lv_iconst (v := (-1)) hx hb dL_refused_87 (by decide) ?_
                refine lv_iconst (v := 0) hx hb dL_refused_88 (by decide) ?_
                refine lv_iconst (v := 0) hx hb dL_refused_89 (by decide) ?_
                obtain ⟨M67, x68, g69, h⟩ := ce_b2_e h
                refine ce_callWi (As := [.ref (b + a1), .int (-1), .int 0, .int 0]) (rest := []) hx hb hml hown hB (c_L_sends l hfl X G b ha1 g69) ce_s_L_sends ce_w565 ⟨Nat.le_of_ble_eq_true rfl, Nat.le_of_ble_eq_true rfl⟩ hF hA hS hl rfl rfl (Nat.le_of_ble_eq_true rfl) dL_refused_90 ⟨Nat.le_of_ble_eq_true rfl, Nat.le_of_ble_eq_true rfl⟩ (fun H locs hA hS => ?_)
                refine lv_ldc (v := (-900000003)) hx hb hown (hB _ ce_w555) dL_refused_93 ?_
                refine lv_icmp_ne (tgt := 276) hx hb dL_refused_95 (by decide) (fun c70 => ?_) (fun c70 => ?_)
                · have h := ce_ie c70 h
                  exact W.widen (Nat.le_of_ble_eq_true rfl) (Nat.le_of_ble_eq_true rfl) (Ju7 M67 h  _ _ _ hA hS (lv_sub hl [1, 0] rfl))
                · have h := ce_it c70 h
                  refine lv_aload_n hx hb dL_refused_98 rfl (lv_at hl 1 rfl) ?_
                  refine lv_iconst (v := 0) hx hb dL_refused_99 (by decide) ?_
                  refine lv_iconst (v := 0) hx hb dL_refused_100 (by decide) ?_
                  refine lv_bipush (v := (-5)) hx hb dL_refused_101 (by decide) ?_
                  obtain ⟨M71, x72, g73, h⟩ := ce_b2_e h
                  refine ce_callWi (As := [.ref (b + a1), .int 0, .int 0, .int (-5)]) (rest := []) hx hb hml hown hB (c_L_sends l hfl X G b ha1 g73) ce_s_L_sends ce_w565 ⟨Nat.le_of_ble_eq_true rfl, Nat.le_of_ble_eq_true rfl⟩ hF hA hS hl rfl rfl (Nat.le_of_ble_eq_true rfl) dL_refused_103 ⟨Nat.le_of_ble_eq_true rfl, Nat.le_of_ble_eq_true rfl⟩ (fun H locs hA hS => ?_)
                  refine lv_ldc (v := (-900000001)) hx hb hown (hB _ ce_w556) dL_refused_106 ?_
                  refine lv_icmp_ne (tgt := 276) hx hb dL_refused_108 (by decide) (fun c74 => ?_) (fun c74 => ?_)
                  · have h := ce_ie c74 h
                    exact W.widen (Nat.le_of_ble_eq_true rfl) (Nat.le_of_ble_eq_true rfl) (Ju7 M71 h  _ _ _ hA hS (lv_sub hl [1, 0] rfl))
                  · have h := ce_it c74 h
                    refine lv_aload_n hx hb dL_refused_111 rfl (lv_at hl 1 rfl) ?_
                    refine lv_iconst (v := 0) hx hb dL_refused_112 (by decide) ?_
                    refine lv_iconst (v := 0) hx hb dL_refused_113 (by decide) ?_
                    refine lv_bipush (v := 21) hx hb dL_refused_114 (by decide) ?_
                    obtain ⟨M75, x76, g77, h⟩ := ce_b2_e h
                    refine ce_callWi (As := [.ref (b + a1), .int 0, .int 0, .int 21]) (rest := []) hx hb hml hown hB (c_L_sends l hfl X G b ha1 g77) ce_s_L_sends ce_w565 ⟨Nat.le_of_ble_eq_true rfl, Nat.le_of_ble_eq_true rfl⟩ hF hA hS hl rfl rfl (Nat.le_of_ble_eq_true rfl) dL_refused_116 ⟨Nat.le_of_ble_eq_true rfl, Nat.le_of_ble_eq_true rfl⟩ (fun H locs hA hS => ?_)
                    refine lv_ldc (v := (-900000002)) hx hb hown (hB _ ce_w557) dL_refused_119 ?_
                    refine lv_icmp_ne (tgt := 276) hx hb dL_refused_121 (by decide) (fun c78 => ?_) (fun c78 => ?_)
                    · have h := ce_ie c78 h
                      exact W.widen (Nat.le_of_ble_eq_true rfl) (Nat.le_of_ble_eq_true rfl) (Ju7 M75 h  _ _ _ hA hS (lv_sub hl [1, 0] rfl))
                    · have h := ce_it c78 h
                      refine lv_aload_n hx hb dL_refused_124 rfl (lv_at hl 1 rfl) ?_
                      refine lv_bipush (v := 51) hx hb dL_refused_125 (by decide) ?_
                      obtain ⟨M79, x80, g81, h⟩ := ce_b2_e h
                      refine ce_callWi (As := [.ref (b + a1), .int 51]) (rest := []) hx hb hml hown hB (c_L_passes l hfl X G b ha1 g81) ce_s_L_passes ce_w572 ⟨Nat.le_of_ble_eq_true rfl, Nat.le_of_ble_eq_true rfl⟩ hF hA hS hl rfl rfl (Nat.le_of_ble_eq_true rfl) dL_refused_127 ⟨Nat.le_of_ble_eq_true rfl, Nat.le_of_ble_eq_true rfl⟩ (fun H locs hA hS => ?_)
                      refine lv_ldc (v := (-900000001)) hx hb hown (hB _ ce_w556) dL_refused_130 ?_
                      refine lv_icmp_ne (tgt := 276) hx hb dL_refused_132 (by decide) (fun c82 => ?_) (fun c82 => ?_)
                      · have h := ce_ie c82 h
                        exact W.widen (Nat.le_of_ble_eq_true rfl) (Nat.le_of_ble_eq_true rfl) (Ju7 M79 h  _ _ _ hA hS (lv_sub hl [1, 0] rfl))
                      · have h := ce_it c82 h
                        refine lv_aload_n hx hb dL_refused_135 rfl (lv_at hl 1 rfl) ?_
                        refine lv_bipush (v := 8) hx hb dL_refused_136 (by decide) ?_
                        refine lv_iconst (v := 0) hx hb dL_refused_138 (by decide) ?_
                        obtain ⟨x83, g84, h⟩ := ce_b1_e h
                        refine ce_callWi (As := [.ref (b + a1), .int 8, .int 0]) (rest := []) hx hb hml hown hB (c_L_one l hfl X G b ha1 g84) ce_s_L_one ce_w619 ⟨Nat.le_of_ble_eq_true rfl, Nat.le_of_ble_eq_true rfl⟩ hF hA hS hl rfl rfl (Nat.le_of_ble_eq_true rfl) dL_refused_139 ⟨Nat.le_of_ble_eq_true rfl, Nat.le_of_ble_eq_true rfl⟩ (fun H locs hA hS => ?_)
                        refine lv_ldc (v := (-900000003)) hx hb hown (hB _ ce_w555) dL_refused_142 ?_
                        refine lv_icmp_ne (tgt := 276) hx hb dL_refused_144 (by decide) (fun c85 => ?_) (fun c85 => ?_)
                        · have h := ce_ie c85 h
                          exact W.widen (Nat.le_of_ble_eq_true rfl) (Nat.le_of_ble_eq_true rfl) (Ju7 M79 h  _ _ _ hA hS (lv_sub hl [1, 0] rfl))
                        · have h := ce_it c85 h
                          refine lv_aload_n hx hb dL_refused_147 rfl (lv_at hl 1 rfl) ?_
                          refine lv_bipush (v := 8) hx hb dL_refused_148 (by decide) ?_
                          refine lv_iconst (v := 0) hx hb dL_refused_150 (by decide) ?_
                          refine lv_iconst (v := 0) hx hb dL_refused_151 (by decide) ?_
                          obtain ⟨x86, g87, h⟩ := ce_b1_e h
                          refine ce_callWi (As := [.ref (b + a1), .int 8, .int 0, .int 0]) (rest := []) hx hb hml hown hB (c_L_stay l hfl X G b ha1 g87) ce_s_L_stay ce_w628 ⟨Nat.le_of_ble_eq_true rfl, Nat.le_of_ble_eq_true rfl⟩ hF hA hS hl rfl rfl (Nat.le_of_ble_eq_true rfl) dL_refused_152 ⟨Nat.le_of_ble_eq_true rfl, Nat.le_of_ble_eq_true rfl⟩ (fun H locs hA hS => ?_)
                          refine lv_ldc (v := (-900000003)) hx hb hown (hB _ ce_w555) dL_refused_155 ?_
                          refine lv_icmp_ne (tgt := 276) hx hb dL_refused_157 (by decide) (fun c88 => ?_) (fun c88 => ?_)
                          · have h := ce_ie c88 h
                            exact W.widen (Nat.le_of_ble_eq_true rfl) (Nat.le_of_ble_eq_true rfl) (Ju7 M79 h  _ _ _ hA hS (lv_sub hl [1, 0] rfl))
                          · have h := ce_it c88 h
                            refine lv_aload_n hx hb dL_refused_160 rfl (lv_at hl 1 rfl) ?_
                            refine lv_bipush (v := 8) hx hb dL_refused_161 (by decide) ?_
                            refine lv_iconst (v := 0) hx hb dL_refused_163 (by decide) ?_
                            obtain ⟨x89, g90, h⟩ := ce_b1_e h
                            refine ce_callWi (As := [.ref (b + a1), .int 8, .int 0]) (rest := []) hx hb hml hown hB (c_L_box l hfl X G b ha1 g90) ce_s_L_box ce_w639 ⟨Nat.le_of_ble_eq_true rfl, Nat.le_of_ble_eq_true rfl⟩ hF hA hS hl rfl rfl (Nat.le_of_ble_eq_true rfl) dL_refused_164 ⟨Nat.le_of_ble_eq_true rfl, Nat.le_of_ble_eq_true rfl⟩ (fun H locs hA hS => ?_)
                            refine lv_ldc (v := (-900000003)) hx hb hown (hB _ ce_w555) dL_refused_167 ?_
                            refine lv_icmp_ne (tgt := 276) hx hb dL_refused_169 (by decide) (fun c91 => ?_) (fun c91 => ?_)
                            · have h := ce_ie c91 h
                              exact W.widen (Nat.le_of_ble_eq_true rfl) (Nat.le_of_ble_eq_true rfl) (Ju7 M79 h  _ _ _ hA hS (lv_sub hl [1, 0] rfl))
                            · have h := ce_it c91 h
                              refine lv_aload_n hx hb dL_refused_172 rfl (lv_at hl 1 rfl) ?_
                              refine lv_bipush (v := 60) hx hb dL_refused_173 (by decide) ?_
                              refine lv_iconst (v := 0) hx hb dL_refused_175 (by decide) ?_
                              obtain ⟨x92, g93, h⟩ := ce_b1_e h
                              refine ce_callWi (As := [.ref (b + a1), .int 60, .int 0]) (rest := []) hx hb hml hown hB (c_L_event l hfl X G b ha1 g93) ce_s_L_event ce_w647 ⟨Nat.le_of_ble_eq_true rfl, Nat.le_of_ble_eq_true rfl⟩ hF hA hS hl rfl rfl (Nat.le_of_ble_eq_true rfl) dL_refused_176 ⟨Nat.le_of_ble_eq_true rfl, Nat.le_of_ble_eq_true rfl⟩ (fun H locs hA hS => ?_)
                              refine lv_ldc (v := (-900000003)) hx hb hown (hB _ ce_w555) dL_refused_179 ?_
                              refine lv_icmp_ne (tgt := 276) hx hb dL_refused_181 (by decide) (fun c94 => ?_) (fun c94 => ?_)
                              · have h := ce_ie c94 h
                                exact W.widen (Nat.le_of_ble_eq_true rfl) (Nat.le_of_ble_eq_true rfl) (Ju7 M79 h  _ _ _ hA hS (lv_sub hl [1, 0] rfl))
                              · have h := ce_it c94 h
                                refine lv_aload_n hx hb dL_refused_184 rfl (lv_at hl 1 rfl) ?_
                                refine lv_iconst (v := 0) hx hb dL_refused_185 (by decide) ?_
                                refine lv_iconst (v := (-1)) hx hb dL_refused_186 (by decide) ?_
                                obtain ⟨x95, g96, h⟩ := ce_b1_e h
                                refine ce_callWi (As := [.ref (b + a1), .int 0, .int (-1)]) (rest := []) hx hb hml hown hB (c_L_leaf l hfl X G b ha1 g96) ce_s_L_leaf ce_w670 ⟨Nat.le_of_ble_eq_true rfl, Nat.le_of_ble_eq_true rfl⟩ hF hA hS hl rfl rfl (Nat.le_of_ble_eq_true rfl) dL_refused_187 ⟨Nat.le_of_ble_eq_true rfl, Nat.le_of_ble_eq_true rfl⟩ (fun H locs hA hS => ?_)
                                refine lv_ldc (v := (-900000001)) hx hb hown (hB _ ce_w556) dL_refused_190 ?_
                                refine lv_icmp_ne (tgt := 276) hx hb dL_refused_192 (by decide) (fun c97 => ?_) (fun c97 => ?_)
                                · have h := ce_ie c97 h
                                  exact W.widen (Nat.le_of_ble_eq_true rfl) (Nat.le_of_ble_eq_true rfl) (Ju7 M79 h  _ _ _ hA hS (lv_sub hl [1, 0] rfl))
                                · have h := ce_it c97 h
                                  refine lv_aload_n hx hb dL_refused_195 rfl (lv_at hl 1 rfl) ?_
                                  refine lv_iconst (v := (-1)) hx hb dL_refused_196 (by decide) ?_
                                  obtain ⟨x98, g99, h⟩ := ce_b1_e h
                                  refine ce_callWi (As := [.ref (b + a1), .int (-1)]) (rest := []) hx hb hml hown hB (c_L_whole l hfl X G b ha1 g99) ce_s_L_whole ce_w579 ⟨Nat.le_of_ble_eq_true rfl, Nat.le_of_ble_eq_true rfl⟩ hF hA hS hl rfl rfl (Nat.le_of_ble_eq_true rfl) dL_refused_197 ⟨Nat.le_of_ble_eq_true rfl, Nat.le_of_ble_eq_true rfl⟩ (fun H locs hA hS => ?_)
                                  refine lv_ldc (v := (-900000001)) hx hb hown (hB _ ce_w556) dL_refused_200 ?_
                                  refine lv_icmp_ne (tgt := 276) hx hb dL_refused_202 (by decide) (fun c100 => ?_) (fun c100 => ?_)
                                  · have h := ce_ie c100 h
                                    exact W.widen (Nat.le_of_ble_eq_true rfl) (Nat.le_of_ble_eq_true rfl) (Ju7 M79 h  _ _ _ hA hS (lv_sub hl [1, 0] rfl))
                                  · have h := ce_it c100 h
                                    refine lv_aload_n hx hb dL_refused_205 rfl (lv_at hl 1 rfl) ?_
                                    refine lv_iconst (v := 0) hx hb dL_refused_206 (by decide) ?_
                                    refine lv_iconst (v := 3) hx hb dL_refused_207 (by decide) ?_
                                    refine lv_iconst (v := 0) hx hb dL_refused_208 (by decide) ?_
                                    obtain ⟨x101, g102, h⟩ := ce_b1_e h
                                    refine ce_callWi (As := [.ref (b + a1), .int 0, .int 3, .int 0]) (rest := []) hx hb hml hown hB (c_L_would l hfl X G b ha1 g102) ce_s_L_would ce_w717 ⟨Nat.le_of_ble_eq_true rfl, Nat.le_of_ble_eq_true rfl⟩ hF hA hS hl rfl rfl (Nat.le_of_ble_eq_true rfl) dL_refused_209 ⟨Nat.le_of_ble_eq_true rfl, Nat.le_of_ble_eq_true rfl⟩ (fun H locs hA hS => ?_)
                                    refine lv_ldc (v := (-900000001)) hx hb hown (hB _ ce_w556) dL_refused_212 ?_
                                    refine lv_icmp_ne (tgt := 276) hx hb dL_refused_214 (by decide) (fun c103 => ?_) (fun c103 => ?_)
                                    · have h := ce_ie c103 h
                                      exact W.widen (Nat.le_of_ble_eq_true rfl) (Nat.le_of_ble_eq_true rfl) (Ju7 M79 h  _ _ _ hA hS (lv_sub hl [1, 0] rfl))
                                    · have h := ce_it c103 h
                                      refine lv_aload_n hx hb dL_refused_217 rfl (lv_at hl 1 rfl) ?_
                                      refine lv_bipush (v := 8) hx hb dL_refused_218 (by decide) ?_
                                      refine lv_iconst (v := 0) hx hb dL_refused_220 (by decide) ?_
                                      refine lv_iconst (v := 0) hx hb dL_refused_221 (by decide) ?_
                                      obtain ⟨x104, g105, h⟩ := ce_b1_e h
                                      refine ce_callWi (As := [.ref (b + a1), .int 8, .int 0, .int 0]) (rest := []) hx hb hml hown hB (c_L_why l hfl X G b ha1 g105) ce_s_L_why ce_w726 ⟨Nat.le_of_ble_eq_true rfl, Nat.le_of_ble_eq_true rfl⟩ hF hA hS hl rfl rfl (Nat.le_of_ble_eq_true rfl) dL_refused_222 ⟨Nat.le_of_ble_eq_true rfl, Nat.le_of_ble_eq_true rfl⟩ (fun H locs hA hS => ?_)
                                      refine lv_ldc (v := (-900000003)) hx hb hown (hB _ ce_w555) dL_refused_225 ?_
                                      refine lv_icmp_ne (tgt := 276) hx hb dL_refused_227 (by decide) (fun c106 => ?_) (fun c106 => ?_)
                                      · have h := ce_ie c106 h
                                        exact W.widen (Nat.le_of_ble_eq_true rfl) (Nat.le_of_ble_eq_true rfl) (Ju7 M79 h  _ _ _ hA hS (lv_sub hl [1, 0] rfl))
                                      · have h := ce_it c106 h
                                        refine lv_aload_n hx hb dL_refused_230 rfl (lv_at hl 1 rfl) ?_
                                        refine lv_bipush (v := 8) hx hb dL_refused_231 (by decide) ?_
                                        obtain ⟨x107, g108, h⟩ := ce_b1_e h
                                        refine ce_callWi (As := [.ref (b + a1), .int 8]) (rest := []) hx hb hml hown hB (c_L_served l hfl X G b ha1 g108) ce_s_L_served ce_w738 ⟨Nat.le_of_ble_eq_true rfl, Nat.le_of_ble_eq_true rfl⟩ hF hA hS hl rfl rfl (Nat.le_of_ble_eq_true rfl) dL_refused_233 ⟨Nat.le_of_ble_eq_true rfl, Nat.le_of_ble_eq_true rfl⟩ (fun H locs hA hS => ?_)
                                        refine lv_ldc (v := (-900000003)) hx hb hown (hB _ ce_w555) dL_refused_236 ?_
                                        refine lv_icmp_ne (tgt := 276) hx hb dL_refused_238 (by decide) (fun c109 => ?_) (fun c109 => ?_)
                                        · have h := ce_ie c109 h
                                          exact W.widen (Nat.le_of_ble_eq_true rfl) (Nat.le_of_ble_eq_true rfl) (Ju7 M79 h  _ _ _ hA hS (lv_sub hl [1, 0] rfl))
                                        · have h := ce_it c109 h
                                          refine lv_aload_n hx hb dL_refused_241 rfl (lv_at hl 1 rfl) ?_
                                          refine lv_bipush (v := 8) hx hb dL_refused_242 (by decide) ?_
                                          obtain ⟨M110, x111, g112, h⟩ := ce_b2_e h
                                          refine ce_callWi (As := [.ref (b + a1), .int 8]) (rest := []) hx hb hml hown hB (c_L_empty l hfl X G b ha1 g112) ce_s_L_empty ce_w753 ⟨Nat.le_of_ble_eq_true rfl, Nat.le_of_ble_eq_true rfl⟩ hF hA hS hl rfl rfl (Nat.le_of_ble_eq_true rfl) dL_refused_244 ⟨Nat.le_of_ble_eq_true rfl, Nat.le_of_ble_eq_true rfl⟩ (fun H locs hA hS => ?_)
                                          refine lv_ldc (v := (-900000003)) hx hb hown (hB _ ce_w555) dL_refused_247 ?_
                                          refine lv_icmp_ne (tgt := 276) hx hb dL_refused_249 (by decide) (fun c113 => ?_) (fun c113 => ?_)
                                          · have h := ce_ie c113 h
                                            exact W.widen (Nat.le_of_ble_eq_true rfl) (Nat.le_of_ble_eq_true rfl) (Ju7 M110 h  _ _ _ hA hS (lv_sub hl [1, 0] rfl))
                                          · have h := ce_it c113 h
                                            refine lv_aload_n hx hb dL_refused_252 rfl (lv_at hl 1 rfl) ?_
                                            refine lv_iconst (v := (-1)) hx hb dL_refused_253 (by decide) ?_
                                            obtain ⟨x114, g115, h⟩ := ce_b1_e h
                                            refine ce_callWi (As := [.ref (b + a1), .int (-1)]) (rest := []) hx hb hml hown hB (c_L_covers l hfl X G b ha1 g115) ce_s_L_covers ce_w765 ⟨Nat.le_of_ble_eq_true rfl, Nat.le_of_ble_eq_true rfl⟩ hF hA hS hl rfl rfl (Nat.le_of_ble_eq_true rfl) dL_refused_254 ⟨Nat.le_of_ble_eq_true rfl, Nat.le_of_ble_eq_true rfl⟩ (fun H locs hA hS => ?_)
                                            refine lv_ldc (v := (-900000003)) hx hb hown (hB _ ce_w555) dL_refused_257 ?_
                                            refine lv_icmp_ne (tgt := 276) hx hb dL_refused_259 (by decide) (fun c116 => ?_) (fun c116 => ?_)
                                            · have h := ce_ie c116 h
                                              exact W.widen (Nat.le_of_ble_eq_true rfl) (Nat.le_of_ble_eq_true rfl) (Ju7 M110 h  _ _ _ hA hS (lv_sub hl [1, 0] rfl))
                                            · have h := ce_it c116 h
                                              refine lv_aload_n hx hb dL_refused_262 rfl (lv_at hl 1 rfl) ?_
                                              refine lv_iconst (v := (-1)) hx hb dL_refused_263 (by decide) ?_
                                              obtain ⟨M117, x118, g119, h⟩ := ce_b2_e h
                                              refine ce_callWi (As := [.ref (b + a1), .int (-1)]) (rest := []) hx hb hml hown hB (c_L_types l hfl X G b ha1 g119) ce_s_L_types ce_w776 ⟨Nat.le_of_ble_eq_true rfl, Nat.le_of_ble_eq_true rfl⟩ hF hA hS hl rfl rfl (Nat.le_of_ble_eq_true rfl) dL_refused_264 ⟨Nat.le_of_ble_eq_true rfl, Nat.le_of_ble_eq_true rfl⟩ (fun H locs hA hS => ?_)
                                              refine lv_ldc (v := (-900000001)) hx hb hown (hB _ ce_w556) dL_refused_267 ?_
                                              refine lv_icmp_ne (tgt := 276) hx hb dL_refused_269 (by decide) (fun c120 => ?_) (fun c120 => ?_)
                                              · have h := ce_ie c120 h
                                                exact Ju7 M117 h  _ _ _ hA hS (lv_sub hl [1, 0] rfl)
                                              · have h := ce_it c120 h
                                                refine lv_iconst (v := 1) hx hb dL_refused_272 (by decide) ?_
                                                refine lv_goto (tgt := 277) hx hb dL_refused_273 (by decide) ?_
                                                exact Ju10 M117 1 h  _ _ _ hA hS (lv_sub hl [1, 0] rfl)
def f_L_comesTrue (M : ce_M) (a1 : Nat) (a2 : Int32) : Option (ce_M × Int32) :=
  ce_b1 (f_L_sum M a1) (fun (q1 : Int64) =>
  ce_b1 (f0_L_served M a1 a2) (fun (x3 : Int32) =>
  ce_b2 (f0_L_empty M a1 a2) (fun (M5 : ce_M) (x6 : Int32) =>
  ce_nm (fun (x8 : Int32) =>
      ce_b1 (f0_L_one M5 a1 a2 6) (fun (x10 : Int32) =>
      ce_nm (fun (x12 : Int32) =>
          ce_nm (fun (x14 : Int32) =>
              ce_nm (fun (M16 : ce_M) (x17 : Int32) =>
                  ce_nm (fun (M19 : ce_M) (x20 : Int32) =>
                      if x20 = 0 then
                        some (M19, 0)
                      else
                        ce_b1 (f_L_sum M19 a1) (fun (q23 : Int64) =>
                        if (lg_cmp q23 q1) = 0 then
                          some (M19, 1)
                        else
                          some (M19, 0))) (fun (u21 : ce_M → Int32 → Option (ce_M × Int32)) =>
                  if x17 = 0 then
                    u21 M16 x17
                  else
                    if x6 ≤ 0 then
                      u21 M16 x17
                    else
                      if 50 < x6 then
                        u21 M16 x17
                      else
                        ce_nm (fun (M30 : ce_M) =>
                      ce_b2 (f0_L_passes M30 a1 x6) (fun (M32 : ce_M) (x33 : Int32) =>
                      if x33 ≤ 0 then
                        u21 M32 0
                      else
                        ce_b1 (f0_L_one M32 a1 a2 6) (fun (x36 : Int32) =>
                        if x36 = 0 then
                          ce_b2 (f0_L_back M32 a1) (fun (M39 : ce_M) (x40 : Int32) =>
                          if x40 < 0 then
                            u21 M39 0
                          else
                            u21 M39 1)
                        else
                          u21 M32 0))) (fun (u31 : ce_M → Option (ce_M × Int32)) =>
                        if x6 = 1 then
                          u31 M16
                        else
                          ce_b2 (f0_L_passes M16 a1 (x6 - 1)) (fun (M45 : ce_M) (x46 : Int32) =>
                          if x46 < 0 then
                            u21 M45 0
                          else
                            ce_b1 (f0_L_one M45 a1 a2 6) (fun (x49 : Int32) =>
                            if x49 ≤ 0 then
                              u21 M45 0
                            else
                              ce_b2 (f0_L_back M45 a1) (fun (M52 : ce_M) (x53 : Int32) =>
                              if x53 < 0 then
                                u21 M52 0
                              else
                                u31 M52)))))) (fun (u18 : ce_M → Int32 → Option (ce_M × Int32)) =>
              if x14 = 0 then
                u18 M5 x14
              else
                if x3 ≤ 0 then
                  u18 M5 x14
                else
                  ce_nm (fun (M59 : ce_M) =>
                  ce_b2 (f0_L_passes M59 a1 x3) (fun (M61 : ce_M) (x62 : Int32) =>
                  if x62 < 0 then
                    u18 M61 0
                  else
                    ce_b1 (f0_L_one M61 a1 a2 4) (fun (x65 : Int32) =>
                    ce_b1 (f0_L_one M61 a1 a2 2) (fun (x67 : Int32) =>
                    if x65 = x67 then
                      ce_b2 (f0_L_back M61 a1) (fun (M70 : ce_M) (x71 : Int32) =>
                      if x71 < 0 then
                        u18 M70 0
                      else
                        u18 M70 1)
                    else
                      u18 M61 0)))) (fun (u60 : ce_M → Option (ce_M × Int32)) =>
                  if x3 = 1 then
                    u60 M5
                  else
                    ce_b2 (f0_L_passes M5 a1 (x3 - 1)) (fun (M76 : ce_M) (x77 : Int32) =>
                    if x77 < 0 then
                      u18 M76 0
                    else
                      ce_b1 (f0_L_one M76 a1 a2 4) (fun (x80 : Int32) =>
                      ce_b1 (f0_L_one M76 a1 a2 2) (fun (x82 : Int32) =>
                      if x80 = x82 then
                        u18 M76 0
                      else
                        ce_b2 (f0_L_back M76 a1) (fun (M85 : ce_M) (x86 : Int32) =>
                        if x86 < 0 then
                          u18 M85 0
                        else
                          u60 M85))))))) (fun (u15 : Int32 → Option (ce_M × Int32)) =>
          if x8 = x12 then
            u15 1
          else
            u15 0)) (fun (u13 : Int32 → Option (ce_M × Int32)) =>
      if x10 = 0 then
        u13 1
      else
        u13 0))) (fun (u9 : Int32 → Option (ce_M × Int32)) =>
  if x6 = 0 then
    u9 1
  else
    u9 0))))
set_option maxRecDepth 100000 in
set_option maxHeartbeats 4000000 in
theorem c_L_comesTrue (l : Launch) (hfl : l.stackTraces = false) (X : ce_X) (G : ce_G) (b : Nat) {a1 : Nat} {a2 : Int32} {M : ce_M} (ha1 : ce_kd a1 = 7) {M' : ce_M} {r : Int32} (h : f_L_comesTrue M a1 a2 = some (M', r)) : ce_Ct l yL_comesTrue cL_comesTrue 7 (some .boolean) 10 202 X G b [.ref (b + a1), .int a2] M (some (.int r)) M' := by
  refine ce_ofW (own := RL) (by decide) rfl (Nat.le_of_ble_eq_true rfl) (fun p e s m below meth c ls hx hb hr hlocks hml hown hB hF hA hl hS => ?_)
  have hK := hF.1
  have hl : lv_has ls 7 [(0, .ref (b + a1)), (1, .int a2)] := hl
  unfold f_L_comesTrue at h
  refine lv_aload_n hx hb dL_comesTrue_0 rfl (lv_at hl 0 rfl) ?_
  obtain ⟨q1, g2, h⟩ := ce_b1_e h
  refine ce_callSl (As := [.ref (b + a1)]) (rest := []) hx hb hml hown hB (c_L_sum l hfl X G b ha1 g2) ce_s_L_sum ce_w614 ⟨Nat.le_of_ble_eq_true rfl, Nat.le_of_ble_eq_true rfl⟩ hF hA hS hl rfl rfl (Nat.le_of_ble_eq_true rfl) dL_comesTrue_1 ⟨Nat.le_of_ble_eq_true rfl, Nat.le_of_ble_eq_true rfl⟩ (fun H locs hA hS => ?_)
  refine lv_lstore_n (lv' := [(2, .long q1), (0, .ref (b + a1)), (1, .int a2)]) hx hb dL_comesTrue_4 rfl hl (by decide) rfl (fun ls hl => ?_)
  refine lv_aload_n hx hb dL_comesTrue_5 rfl (lv_at hl 1 rfl) ?_
  refine lv_iload_n hx hb dL_comesTrue_6 rfl (lv_at hl 2 rfl) ?_
  obtain ⟨x3, g4, h⟩ := ce_b1_e h
  refine ce_callWi (As := [.ref (b + a1), .int a2]) (rest := []) hx hb hml hown hB (c0_L_served l hfl X G b ha1 g4) ce_s_L_served ce_w738 ⟨Nat.le_of_ble_eq_true rfl, Nat.le_of_ble_eq_true rfl⟩ hF hA hS hl rfl rfl (Nat.le_of_ble_eq_true rfl) dL_comesTrue_7 ⟨Nat.le_of_ble_eq_true rfl, Nat.le_of_ble_eq_true rfl⟩ (fun H locs hA hS => ?_)
  refine lv_istore (lv' := [(4, .int x3), (2, .long q1), (0, .ref (b + a1)), (1, .int a2)]) hx hb dL_comesTrue_10 hl (by decide) rfl (fun ls hl => ?_)
  refine lv_aload_n hx hb dL_comesTrue_12 rfl (lv_at hl 2 rfl) ?_
  refine lv_iload_n hx hb dL_comesTrue_13 rfl (lv_at hl 3 rfl) ?_
  obtain ⟨M5, x6, g7, h⟩ := ce_b2_e h
  refine ce_callWi (As := [.ref (b + a1), .int a2]) (rest := []) hx hb hml hown hB (c0_L_empty l hfl X G b ha1 g7) ce_s_L_empty ce_w753 ⟨Nat.le_of_ble_eq_true rfl, Nat.le_of_ble_eq_true rfl⟩ hF hA hS hl rfl rfl (Nat.le_of_ble_eq_true rfl) dL_comesTrue_14 ⟨Nat.le_of_ble_eq_true rfl, Nat.le_of_ble_eq_true rfl⟩ (fun H locs hA hS => ?_)
  refine lv_istore (lv' := [(5, .int x6), (4, .int x3), (2, .long q1), (0, .ref (b + a1)), (1, .int a2)]) hx hb dL_comesTrue_17 hl (by decide) rfl (fun ls hl => ?_)
  refine lv_iload hx hb dL_comesTrue_19 (lv_at hl 0 rfl) ?_
  obtain ⟨u9, e93, h⟩ := ce_nm_e h
  have Ju9 : ∀ (x8 : Int32), u9 x8 = some (M', r) → ce_Wg p l e (ce_R 10 202 0 0) s m (([.ref (b + a1), .int a2] : List Value).toArray) below meth c 0 0 (MQ below (ce_Q X b M' (some (.int r))) ([.ref (b + a1), .int a2] : List Value).toArray s 0 0 (ce_Ab b)) X b M5 7 [(0, .ref (b + a1)), (1, .int a2), (2, .long q1), (4, .int x3), (5, .int x6)] 29 [.int x8] := by
    intro x8 h  H locs ls hA hS hl
    subst e93
    refine lv_aload_n hx hb dL_comesTrue_29 rfl (lv_at hl 0 rfl) ?_
    refine lv_iload_n hx hb dL_comesTrue_30 rfl (lv_at hl 1 rfl) ?_
    refine lv_bipush (v := 6) hx hb dL_comesTrue_31 (by decide) ?_
    obtain ⟨x10, g11, h⟩ := ce_b1_e h
    refine ce_callWi (As := [.ref (b + a1), .int a2, .int 6]) (rest := [.int x8]) hx hb hml hown hB (c0_L_one l hfl X G b ha1 g11) ce_s_L_one ce_w619 ⟨Nat.le_of_ble_eq_true rfl, Nat.le_of_ble_eq_true rfl⟩ hF hA hS hl rfl rfl (Nat.le_of_ble_eq_true rfl) dL_comesTrue_33 ⟨Nat.le_of_ble_eq_true rfl, Nat.le_of_ble_eq_true rfl⟩ (fun H locs hA hS => ?_)
    obtain ⟨u13, e91, h⟩ := ce_nm_e h
    have Ju13 : ∀ (x12 : Int32), u13 x12 = some (M', r) → ce_Wg p l e (ce_R 10 202 0 0) s m (([.ref (b + a1), .int a2] : List Value).toArray) below meth c 0 0 (MQ below (ce_Q X b M' (some (.int r))) ([.ref (b + a1), .int a2] : List Value).toArray s 0 0 (ce_Ab b)) X b M5 7 [(0, .ref (b + a1)), (1, .int a2), (2, .long q1), (4, .int x3), (5, .int x6)] 44 [.int x12, .int x8] := by
      intro x12 h  H locs ls hA hS hl
      subst e91
      obtain ⟨u15, e89, h⟩ := ce_nm_e h
      have Ju15 : ∀ (x14 : Int32), u15 x14 = some (M', r) → ce_Wg p l e (ce_R 10 202 0 0) s m (([.ref (b + a1), .int a2] : List Value).toArray) below meth c 0 0 (MQ below (ce_Q X b M' (some (.int r))) ([.ref (b + a1), .int a2] : List Value).toArray s 0 0 (ce_Ab b)) X b M5 7 [(0, .ref (b + a1)), (1, .int a2), (2, .long q1), (4, .int x3), (5, .int x6)] 52 [.int x14] := by
        intro x14 h  H locs ls hA hS hl
        subst e89
        refine lv_istore (lv' := [(6, .int x14), (0, .ref (b + a1)), (1, .int a2), (2, .long q1), (4, .int x3), (5, .int x6)]) hx hb dL_comesTrue_52 hl (by decide) rfl (fun ls hl => ?_)
        refine lv_iload hx hb dL_comesTrue_54 (lv_at hl 0 rfl) ?_
        obtain ⟨u18, e56, h⟩ := ce_nm_e h
        have Ju18 : ∀ (M16 : ce_M) (x17 : Int32), u18 M16 x17 = some (M', r) → ce_Wg p l e (ce_R 10 202 0 0) s m (([.ref (b + a1), .int a2] : List Value).toArray) below meth c 0 0 (MQ below (ce_Q X b M' (some (.int r))) ([.ref (b + a1), .int a2] : List Value).toArray s 0 0 (ce_Ab b)) X b M16 7 [(0, .ref (b + a1)), (1, .int a2), (2, .long q1), (5, .int x6), (6, .int x17)] 141 [] := by
          intro M16 x17 h  H locs ls hA hS hl
          subst e56
          refine lv_iload hx hb dL_comesTrue_141 (lv_at hl 4 rfl) ?_
          obtain ⟨u21, e26, h⟩ := ce_nm_e h
          have Ju21 : ∀ (M19 : ce_M) (x20 : Int32), u21 M19 x20 = some (M', r) → ce_Wg p l e (ce_R 10 202 0 0) s m (([.ref (b + a1), .int a2] : List Value).toArray) below meth c 0 0 (MQ below (ce_Q X b M' (some (.int r))) ([.ref (b + a1), .int a2] : List Value).toArray s 0 0 (ce_Ab b)) X b M19 7 [(0, .ref (b + a1)), (2, .long q1), (6, .int x20)] 225 [] := by
            intro M19 x20 h  H locs ls hA hS hl
            subst e26
            refine lv_iload hx hb dL_comesTrue_225 (lv_at hl 2 rfl) ?_
            refine lv_if_eq (tgt := 243) hx hb dL_comesTrue_227 (by decide) (fun c22 => ?_) (fun c22 => ?_)
            · have h := ce_it c22 h
              refine lv_iconst (v := 0) hx hb dL_comesTrue_243 (by decide) ?_
              cases h
              exact ce_zret hx hb hr hlocks (Or.inl rfl) hA hS dL_comesTrue_244
            · have h := ce_ie c22 h
              refine lv_aload_n hx hb dL_comesTrue_230 rfl (lv_at hl 0 rfl) ?_
              obtain ⟨q23, g24, h⟩ := ce_b1_e h
              refine ce_callSl (As := [.ref (b + a1)]) (rest := []) hx hb hml hown hB (c_L_sum l hfl X G b ha1 g24) ce_s_L_sum ce_w614 ⟨Nat.le_of_ble_eq_true rfl, Nat.le_of_ble_eq_true rfl⟩ hF hA hS hl rfl rfl (Nat.le_of_ble_eq_true rfl) dL_comesTrue_231 ⟨Nat.le_of_ble_eq_true rfl, Nat.le_of_ble_eq_true rfl⟩ (fun H locs hA hS => ?_)
              refine lv_lload_n hx hb dL_comesTrue_234 rfl (lv_at hl 1 rfl) ?_
              refine W.lcmp hx hb dL_comesTrue_235 ?_
              refine lv_if_ne (tgt := 243) hx hb dL_comesTrue_236 (by decide) (fun c25 => ?_) (fun c25 => ?_)
              · have h := ce_ie c25 h
                refine lv_iconst (v := 0) hx hb dL_comesTrue_243 (by decide) ?_
                cases h
                exact ce_zret hx hb hr hlocks (Or.inl rfl) hA hS dL_comesTrue_244
              · have h := ce_it c25 h
                refine lv_iconst (v := 1) hx hb dL_comesTrue_239 (by decide) ?_
                refine lv_goto (tgt := 244) hx hb dL_comesTrue_240 (by decide) ?_
                cases h
                exact ce_zret hx hb hr hlocks (Or.inr rfl) hA hS dL_comesTrue_244
          refine lv_if_eq (tgt := 225) hx hb dL_comesTrue_143 (by decide) (fun c27 => ?_) (fun c27 => ?_)
          · have h := ce_it c27 h
            exact Ju21 M16 x17 h  _ _ _ hA hS (lv_sub hl [0, 2, 4] rfl)
          · have h := ce_ie c27 h
            refine lv_iload hx hb dL_comesTrue_146 (lv_at hl 3 rfl) ?_
            refine lv_if_le (tgt := 225) hx hb dL_comesTrue_148 (by decide) (fun c28 => ?_) (fun c28 => ?_)
            · have h := ce_it c28 h
              exact Ju21 M16 x17 h  _ _ _ hA hS (lv_sub hl [0, 2, 4] rfl)
            · have h := ce_ie c28 h
              refine lv_iload hx hb dL_comesTrue_151 (lv_at hl 3 rfl) ?_
              refine lv_bipush (v := 50) hx hb dL_comesTrue_153 (by decide) ?_
              refine lv_icmp_gt (tgt := 225) hx hb dL_comesTrue_155 (by decide) (fun c29 => ?_) (fun c29 => ?_)
              · have h := ce_it c29 h
                exact Ju21 M16 x17 h  _ _ _ hA hS (lv_sub hl [0, 2, 4] rfl)
              · have h := ce_ie c29 h
                refine lv_iload hx hb dL_comesTrue_158 (lv_at hl 3 rfl) ?_
                refine lv_iconst (v := 1) hx hb dL_comesTrue_160 (by decide) ?_
                obtain ⟨u31, e43, h⟩ := ce_nm_e h
                have Ju31 : ∀ (M30 : ce_M), u31 M30 = some (M', r) → ce_Wg p l e (ce_R 10 202 0 0) s m (([.ref (b + a1), .int a2] : List Value).toArray) below meth c 0 0 (MQ below (ce_Q X b M' (some (.int r))) ([.ref (b + a1), .int a2] : List Value).toArray s 0 0 (ce_Ab b)) X b M30 7 [(0, .ref (b + a1)), (1, .int a2), (2, .long q1), (5, .int x6)] 192 [] := by
                  intro M30 h  H locs ls hA hS hl
                  subst e43
                  refine lv_aload_n hx hb dL_comesTrue_192 rfl (lv_at hl 0 rfl) ?_
                  refine lv_iload hx hb dL_comesTrue_193 (lv_at hl 3 rfl) ?_
                  obtain ⟨M32, x33, g34, h⟩ := ce_b2_e h
                  refine ce_callWi (As := [.ref (b + a1), .int x6]) (rest := []) hx hb hml hown hB (c0_L_passes l hfl X G b ha1 g34) ce_s_L_passes ce_w572 ⟨Nat.le_of_ble_eq_true rfl, Nat.le_of_ble_eq_true rfl⟩ hF hA hS hl rfl rfl (Nat.le_of_ble_eq_true rfl) dL_comesTrue_195 ⟨Nat.le_of_ble_eq_true rfl, Nat.le_of_ble_eq_true rfl⟩ (fun H locs hA hS => ?_)
                  refine lv_if_le (tgt := 222) hx hb dL_comesTrue_198 (by decide) (fun c35 => ?_) (fun c35 => ?_)
                  · have h := ce_it c35 h
                    refine lv_iconst (v := 0) hx hb dL_comesTrue_222 (by decide) ?_
                    refine lv_istore (lv' := [(6, .int 0), (0, .ref (b + a1)), (1, .int a2), (2, .long q1), (5, .int x6)]) hx hb dL_comesTrue_223 hl (by decide) rfl (fun ls hl => ?_)
                    exact Ju21 M32 0 h  _ _ _ hA hS (lv_sub hl [1, 3, 0] rfl)
                  · have h := ce_ie c35 h
                    refine lv_aload_n hx hb dL_comesTrue_201 rfl (lv_at hl 0 rfl) ?_
                    refine lv_iload_n hx hb dL_comesTrue_202 rfl (lv_at hl 1 rfl) ?_
                    refine lv_bipush (v := 6) hx hb dL_comesTrue_203 (by decide) ?_
                    obtain ⟨x36, g37, h⟩ := ce_b1_e h
                    refine ce_callWi (As := [.ref (b + a1), .int a2, .int 6]) (rest := []) hx hb hml hown hB (c0_L_one l hfl X G b ha1 g37) ce_s_L_one ce_w619 ⟨Nat.le_of_ble_eq_true rfl, Nat.le_of_ble_eq_true rfl⟩ hF hA hS hl rfl rfl (Nat.le_of_ble_eq_true rfl) dL_comesTrue_205 ⟨Nat.le_of_ble_eq_true rfl, Nat.le_of_ble_eq_true rfl⟩ (fun H locs hA hS => ?_)
                    refine lv_if_ne (tgt := 222) hx hb dL_comesTrue_208 (by decide) (fun c38 => ?_) (fun c38 => ?_)
                    · have h := ce_ie c38 h
                      refine lv_iconst (v := 0) hx hb dL_comesTrue_222 (by decide) ?_
                      refine lv_istore (lv' := [(6, .int 0), (0, .ref (b + a1)), (1, .int a2), (2, .long q1), (5, .int x6)]) hx hb dL_comesTrue_223 hl (by decide) rfl (fun ls hl => ?_)
                      exact Ju21 M32 0 h  _ _ _ hA hS (lv_sub hl [1, 3, 0] rfl)
                    · have h := ce_it c38 h
                      refine lv_aload_n hx hb dL_comesTrue_211 rfl (lv_at hl 0 rfl) ?_
                      obtain ⟨M39, x40, g41, h⟩ := ce_b2_e h
                      refine ce_callWi (As := [.ref (b + a1)]) (rest := []) hx hb hml hown hB (c0_L_back l hfl X G b ha1 g41) ce_s_L_back ce_w603 ⟨Nat.le_of_ble_eq_true rfl, Nat.le_of_ble_eq_true rfl⟩ hF hA hS hl rfl rfl (Nat.le_of_ble_eq_true rfl) dL_comesTrue_212 ⟨Nat.le_of_ble_eq_true rfl, Nat.le_of_ble_eq_true rfl⟩ (fun H locs hA hS => ?_)
                      refine lv_if_lt (tgt := 222) hx hb dL_comesTrue_215 (by decide) (fun c42 => ?_) (fun c42 => ?_)
                      · have h := ce_it c42 h
                        refine lv_iconst (v := 0) hx hb dL_comesTrue_222 (by decide) ?_
                        refine lv_istore (lv' := [(6, .int 0), (0, .ref (b + a1)), (1, .int a2), (2, .long q1), (5, .int x6)]) hx hb dL_comesTrue_223 hl (by decide) rfl (fun ls hl => ?_)
                        exact Ju21 M39 0 h  _ _ _ hA hS (lv_sub hl [1, 3, 0] rfl)
                      · have h := ce_ie c42 h
                        refine lv_iconst (v := 1) hx hb dL_comesTrue_218 (by decide) ?_
                        refine lv_goto (tgt := 223) hx hb dL_comesTrue_219 (by decide) ?_
                        refine lv_istore (lv' := [(6, .int 1), (0, .ref (b + a1)), (1, .int a2), (2, .long q1), (5, .int x6)]) hx hb dL_comesTrue_223 hl (by decide) rfl (fun ls hl => ?_)
                        exact Ju21 M39 1 h  _ _ _ hA hS (lv_sub hl [1, 3, 0] rfl)
                refine lv_icmp_eq (tgt := 192) hx hb dL_comesTrue_161 (by decide) (fun c44 => ?_) (fun c44 => ?_)
                · have h := ce_it c44 h
                  exact Ju31 M16 h  _ _ _ hA hS (lv_sub hl [0, 1, 2, 3] rfl)
                · have h := ce_ie c44 h
                  refine lv_aload_n hx hb dL_comesTrue_164 rfl (lv_at hl 0 rfl) ?_
                  refine lv_iload hx hb dL_comesTrue_165 (lv_at hl 3 rfl) ?_
                  refine lv_iconst (v := 1) hx hb dL_comesTrue_167 (by decide) ?_
                  refine lv_isub hx hb dL_comesTrue_168 ?_
                  obtain ⟨M45, x46, g47, h⟩ := ce_b2_e h
                  refine ce_callWi (As := [.ref (b + a1), .int (x6 - 1)]) (rest := []) hx hb hml hown hB (c0_L_passes l hfl X G b ha1 g47) ce_s_L_passes ce_w572 ⟨Nat.le_of_ble_eq_true rfl, Nat.le_of_ble_eq_true rfl⟩ hF hA hS hl rfl rfl (Nat.le_of_ble_eq_true rfl) dL_comesTrue_169 ⟨Nat.le_of_ble_eq_true rfl, Nat.le_of_ble_eq_true rfl⟩ (fun H locs hA hS => ?_)
                  refine lv_if_lt (tgt := 222) hx hb dL_comesTrue_172 (by decide) (fun c48 => ?_) (fun c48 => ?_)
                  · have h := ce_it c48 h
                    refine lv_iconst (v := 0) hx hb dL_comesTrue_222 (by decide) ?_
                    refine lv_istore (lv' := [(6, .int 0), (0, .ref (b + a1)), (1, .int a2), (2, .long q1), (5, .int x6)]) hx hb dL_comesTrue_223 hl (by decide) rfl (fun ls hl => ?_)
                    exact Ju21 M45 0 h  _ _ _ hA hS (lv_sub hl [1, 3, 0] rfl)
                  · have h := ce_ie c48 h
                    refine lv_aload_n hx hb dL_comesTrue_175 rfl (lv_at hl 0 rfl) ?_
                    refine lv_iload_n hx hb dL_comesTrue_176 rfl (lv_at hl 1 rfl) ?_
                    refine lv_bipush (v := 6) hx hb dL_comesTrue_177 (by decide) ?_
                    obtain ⟨x49, g50, h⟩ := ce_b1_e h
                    refine ce_callWi (As := [.ref (b + a1), .int a2, .int 6]) (rest := []) hx hb hml hown hB (c0_L_one l hfl X G b ha1 g50) ce_s_L_one ce_w619 ⟨Nat.le_of_ble_eq_true rfl, Nat.le_of_ble_eq_true rfl⟩ hF hA hS hl rfl rfl (Nat.le_of_ble_eq_true rfl) dL_comesTrue_179 ⟨Nat.le_of_ble_eq_true rfl, Nat.le_of_ble_eq_true rfl⟩ (fun H locs hA hS => ?_)
                    refine lv_if_le (tgt := 222) hx hb dL_comesTrue_182 (by decide) (fun c51 => ?_) (fun c51 => ?_)
                    · have h := ce_it c51 h
                      refine lv_iconst (v := 0) hx hb dL_comesTrue_222 (by decide) ?_
                      refine lv_istore (lv' := [(6, .int 0), (0, .ref (b + a1)), (1, .int a2), (2, .long q1), (5, .int x6)]) hx hb dL_comesTrue_223 hl (by decide) rfl (fun ls hl => ?_)
                      exact Ju21 M45 0 h  _ _ _ hA hS (lv_sub hl [1, 3, 0] rfl)
                    · have h := ce_ie c51 h
                      refine lv_aload_n hx hb dL_comesTrue_185 rfl (lv_at hl 0 rfl) ?_
                      obtain ⟨M52, x53, g54, h⟩ := ce_b2_e h
                      refine ce_callWi (As := [.ref (b + a1)]) (rest := []) hx hb hml hown hB (c0_L_back l hfl X G b ha1 g54) ce_s_L_back ce_w603 ⟨Nat.le_of_ble_eq_true rfl, Nat.le_of_ble_eq_true rfl⟩ hF hA hS hl rfl rfl (Nat.le_of_ble_eq_true rfl) dL_comesTrue_186 ⟨Nat.le_of_ble_eq_true rfl, Nat.le_of_ble_eq_true rfl⟩ (fun H locs hA hS => ?_)
                      refine lv_if_lt (tgt := 222) hx hb dL_comesTrue_189 (by decide) (fun c55 => ?_) (fun c55 => ?_)
                      · have h := ce_it c55 h
                        refine lv_iconst (v := 0) hx hb dL_comesTrue_222 (by decide) ?_
                        refine lv_istore (lv' := [(6, .int 0), (0, .ref (b + a1)), (1, .int a2), (2, .long q1), (5, .int x6)]) hx hb dL_comesTrue_223 hl (by decide) rfl (fun ls hl => ?_)
                        exact Ju21 M52 0 h  _ _ _ hA hS (lv_sub hl [1, 3, 0] rfl)
                      · have h := ce_ie c55 h
                        exact Ju31 M52 h  _ _ _ hA hS (lv_sub hl [0, 1, 2, 3] rfl)
        refine lv_if_eq (tgt := 141) hx hb dL_comesTrue_56 (by decide) (fun c57 => ?_) (fun c57 => ?_)
        · have h := ce_it c57 h
          exact Ju18 M5 x14 h  _ _ _ hA hS (lv_sub hl [1, 2, 3, 5, 0] rfl)
        · have h := ce_ie c57 h
          refine lv_iload hx hb dL_comesTrue_59 (lv_at hl 4 rfl) ?_
          refine lv_if_le (tgt := 141) hx hb dL_comesTrue_61 (by decide) (fun c58 => ?_) (fun c58 => ?_)
          · have h := ce_it c58 h
            exact Ju18 M5 x14 h  _ _ _ hA hS (lv_sub hl [1, 2, 3, 5, 0] rfl)
          · have h := ce_ie c58 h
            refine lv_iload hx hb dL_comesTrue_64 (lv_at hl 4 rfl) ?_
            refine lv_iconst (v := 1) hx hb dL_comesTrue_66 (by decide) ?_
            obtain ⟨u60, e74, h⟩ := ce_nm_e h
            have Ju60 : ∀ (M59 : ce_M), u60 M59 = some (M', r) → ce_Wg p l e (ce_R 10 202 0 0) s m (([.ref (b + a1), .int a2] : List Value).toArray) below meth c 0 0 (MQ below (ce_Q X b M' (some (.int r))) ([.ref (b + a1), .int a2] : List Value).toArray s 0 0 (ce_Ab b)) X b M59 7 [(0, .ref (b + a1)), (1, .int a2), (2, .long q1), (4, .int x3), (5, .int x6)] 103 [] := by
              intro M59 h  H locs ls hA hS hl
              subst e74
              refine lv_aload_n hx hb dL_comesTrue_103 rfl (lv_at hl 0 rfl) ?_
              refine lv_iload hx hb dL_comesTrue_104 (lv_at hl 3 rfl) ?_
              obtain ⟨M61, x62, g63, h⟩ := ce_b2_e h
              refine ce_callWi (As := [.ref (b + a1), .int x3]) (rest := []) hx hb hml hown hB (c0_L_passes l hfl X G b ha1 g63) ce_s_L_passes ce_w572 ⟨Nat.le_of_ble_eq_true rfl, Nat.le_of_ble_eq_true rfl⟩ hF hA hS hl rfl rfl (Nat.le_of_ble_eq_true rfl) dL_comesTrue_106 ⟨Nat.le_of_ble_eq_true rfl, Nat.le_of_ble_eq_true rfl⟩ (fun H locs hA hS => ?_)
              refine lv_if_lt (tgt := 138) hx hb dL_comesTrue_109 (by decide) (fun c64 => ?_) (fun c64 => ?_)
              · have h := ce_it c64 h
                refine lv_iconst (v := 0) hx hb dL_comesTrue_138 (by decide) ?_
                refine lv_istore (lv' := [(6, .int 0), (0, .ref (b + a1)), (1, .int a2), (2, .long q1), (4, .int x3), (5, .int x6)]) hx hb dL_comesTrue_139 hl (by decide) rfl (fun ls hl => ?_)
                exact Ju18 M61 0 h  _ _ _ hA hS (lv_sub hl [1, 2, 3, 5, 0] rfl)
              · have h := ce_ie c64 h
                refine lv_aload_n hx hb dL_comesTrue_112 rfl (lv_at hl 0 rfl) ?_
                refine lv_iload_n hx hb dL_comesTrue_113 rfl (lv_at hl 1 rfl) ?_
                refine lv_iconst (v := 4) hx hb dL_comesTrue_114 (by decide) ?_
                obtain ⟨x65, g66, h⟩ := ce_b1_e h
                refine ce_callWi (As := [.ref (b + a1), .int a2, .int 4]) (rest := []) hx hb hml hown hB (c0_L_one l hfl X G b ha1 g66) ce_s_L_one ce_w619 ⟨Nat.le_of_ble_eq_true rfl, Nat.le_of_ble_eq_true rfl⟩ hF hA hS hl rfl rfl (Nat.le_of_ble_eq_true rfl) dL_comesTrue_115 ⟨Nat.le_of_ble_eq_true rfl, Nat.le_of_ble_eq_true rfl⟩ (fun H locs hA hS => ?_)
                refine lv_aload_n hx hb dL_comesTrue_118 rfl (lv_at hl 0 rfl) ?_
                refine lv_iload_n hx hb dL_comesTrue_119 rfl (lv_at hl 1 rfl) ?_
                refine lv_iconst (v := 2) hx hb dL_comesTrue_120 (by decide) ?_
                obtain ⟨x67, g68, h⟩ := ce_b1_e h
                refine ce_callWi (As := [.ref (b + a1), .int a2, .int 2]) (rest := [.int x65]) hx hb hml hown hB (c0_L_one l hfl X G b ha1 g68) ce_s_L_one ce_w619 ⟨Nat.le_of_ble_eq_true rfl, Nat.le_of_ble_eq_true rfl⟩ hF hA hS hl rfl rfl (Nat.le_of_ble_eq_true rfl) dL_comesTrue_121 ⟨Nat.le_of_ble_eq_true rfl, Nat.le_of_ble_eq_true rfl⟩ (fun H locs hA hS => ?_)
                refine lv_icmp_ne (tgt := 138) hx hb dL_comesTrue_124 (by decide) (fun c69 => ?_) (fun c69 => ?_)
                · have h := ce_ie c69 h
                  refine lv_iconst (v := 0) hx hb dL_comesTrue_138 (by decide) ?_
                  refine lv_istore (lv' := [(6, .int 0), (0, .ref (b + a1)), (1, .int a2), (2, .long q1), (4, .int x3), (5, .int x6)]) hx hb dL_comesTrue_139 hl (by decide) rfl (fun ls hl => ?_)
                  exact Ju18 M61 0 h  _ _ _ hA hS (lv_sub hl [1, 2, 3, 5, 0] rfl)
                · have h := ce_it c69 h
                  refine lv_aload_n hx hb dL_comesTrue_127 rfl (lv_at hl 0 rfl) ?_
                  obtain ⟨M70, x71, g72, h⟩ := ce_b2_e h
                  refine ce_callWi (As := [.ref (b + a1)]) (rest := []) hx hb hml hown hB (c0_L_back l hfl X G b ha1 g72) ce_s_L_back ce_w603 ⟨Nat.le_of_ble_eq_true rfl, Nat.le_of_ble_eq_true rfl⟩ hF hA hS hl rfl rfl (Nat.le_of_ble_eq_true rfl) dL_comesTrue_128 ⟨Nat.le_of_ble_eq_true rfl, Nat.le_of_ble_eq_true rfl⟩ (fun H locs hA hS => ?_)
                  refine lv_if_lt (tgt := 138) hx hb dL_comesTrue_131 (by decide) (fun c73 => ?_) (fun c73 => ?_)
                  · have h := ce_it c73 h
                    refine lv_iconst (v := 0) hx hb dL_comesTrue_138 (by decide) ?_
                    refine lv_istore (lv' := [(6, .int 0), (0, .ref (b + a1)), (1, .int a2), (2, .long q1), (4, .int x3), (5, .int x6)]) hx hb dL_comesTrue_139 hl (by decide) rfl (fun ls hl => ?_)
                    exact Ju18 M70 0 h  _ _ _ hA hS (lv_sub hl [1, 2, 3, 5, 0] rfl)
                  · have h := ce_ie c73 h
                    refine lv_iconst (v := 1) hx hb dL_comesTrue_134 (by decide) ?_
                    refine lv_goto (tgt := 139) hx hb dL_comesTrue_135 (by decide) ?_
                    refine lv_istore (lv' := [(6, .int 1), (0, .ref (b + a1)), (1, .int a2), (2, .long q1), (4, .int x3), (5, .int x6)]) hx hb dL_comesTrue_139 hl (by decide) rfl (fun ls hl => ?_)
                    exact Ju18 M70 1 h  _ _ _ hA hS (lv_sub hl [1, 2, 3, 5, 0] rfl)
            refine lv_icmp_eq (tgt := 103) hx hb dL_comesTrue_67 (by decide) (fun c75 => ?_) (fun c75 => ?_)
            · have h := ce_it c75 h
              exact Ju60 M5 h  _ _ _ hA hS (lv_sub hl [1, 2, 3, 4, 5] rfl)
            · have h := ce_ie c75 h
              refine lv_aload_n hx hb dL_comesTrue_70 rfl (lv_at hl 1 rfl) ?_
              refine lv_iload hx hb dL_comesTrue_71 (lv_at hl 4 rfl) ?_
              refine lv_iconst (v := 1) hx hb dL_comesTrue_73 (by decide) ?_
              refine lv_isub hx hb dL_comesTrue_74 ?_
              obtain ⟨M76, x77, g78, h⟩ := ce_b2_e h
              refine ce_callWi (As := [.ref (b + a1), .int (x3 - 1)]) (rest := []) hx hb hml hown hB (c0_L_passes l hfl X G b ha1 g78) ce_s_L_passes ce_w572 ⟨Nat.le_of_ble_eq_true rfl, Nat.le_of_ble_eq_true rfl⟩ hF hA hS hl rfl rfl (Nat.le_of_ble_eq_true rfl) dL_comesTrue_75 ⟨Nat.le_of_ble_eq_true rfl, Nat.le_of_ble_eq_true rfl⟩ (fun H locs hA hS => ?_)
              refine lv_if_lt (tgt := 138) hx hb dL_comesTrue_78 (by decide) (fun c79 => ?_) (fun c79 => ?_)
              · have h := ce_it c79 h
                refine lv_iconst (v := 0) hx hb dL_comesTrue_138 (by decide) ?_
                refine lv_istore (lv' := [(6, .int 0), (0, .ref (b + a1)), (1, .int a2), (2, .long q1), (4, .int x3), (5, .int x6)]) hx hb dL_comesTrue_139 hl (by decide) rfl (fun ls hl => ?_)
                exact Ju18 M76 0 h  _ _ _ hA hS (lv_sub hl [1, 2, 3, 5, 0] rfl)
              · have h := ce_ie c79 h
                refine lv_aload_n hx hb dL_comesTrue_81 rfl (lv_at hl 1 rfl) ?_
                refine lv_iload_n hx hb dL_comesTrue_82 rfl (lv_at hl 2 rfl) ?_
                refine lv_iconst (v := 4) hx hb dL_comesTrue_83 (by decide) ?_
                obtain ⟨x80, g81, h⟩ := ce_b1_e h
                refine ce_callWi (As := [.ref (b + a1), .int a2, .int 4]) (rest := []) hx hb hml hown hB (c0_L_one l hfl X G b ha1 g81) ce_s_L_one ce_w619 ⟨Nat.le_of_ble_eq_true rfl, Nat.le_of_ble_eq_true rfl⟩ hF hA hS hl rfl rfl (Nat.le_of_ble_eq_true rfl) dL_comesTrue_84 ⟨Nat.le_of_ble_eq_true rfl, Nat.le_of_ble_eq_true rfl⟩ (fun H locs hA hS => ?_)
                refine lv_aload_n hx hb dL_comesTrue_87 rfl (lv_at hl 1 rfl) ?_
                refine lv_iload_n hx hb dL_comesTrue_88 rfl (lv_at hl 2 rfl) ?_
                refine lv_iconst (v := 2) hx hb dL_comesTrue_89 (by decide) ?_
                obtain ⟨x82, g83, h⟩ := ce_b1_e h
                refine ce_callWi (As := [.ref (b + a1), .int a2, .int 2]) (rest := [.int x80]) hx hb hml hown hB (c0_L_one l hfl X G b ha1 g83) ce_s_L_one ce_w619 ⟨Nat.le_of_ble_eq_true rfl, Nat.le_of_ble_eq_true rfl⟩ hF hA hS hl rfl rfl (Nat.le_of_ble_eq_true rfl) dL_comesTrue_90 ⟨Nat.le_of_ble_eq_true rfl, Nat.le_of_ble_eq_true rfl⟩ (fun H locs hA hS => ?_)
                refine lv_icmp_eq (tgt := 138) hx hb dL_comesTrue_93 (by decide) (fun c84 => ?_) (fun c84 => ?_)
                · have h := ce_it c84 h
                  refine lv_iconst (v := 0) hx hb dL_comesTrue_138 (by decide) ?_
                  refine lv_istore (lv' := [(6, .int 0), (0, .ref (b + a1)), (1, .int a2), (2, .long q1), (4, .int x3), (5, .int x6)]) hx hb dL_comesTrue_139 hl (by decide) rfl (fun ls hl => ?_)
                  exact Ju18 M76 0 h  _ _ _ hA hS (lv_sub hl [1, 2, 3, 5, 0] rfl)
                · have h := ce_ie c84 h
                  refine lv_aload_n hx hb dL_comesTrue_96 rfl (lv_at hl 1 rfl) ?_
                  obtain ⟨M85, x86, g87, h⟩ := ce_b2_e h
                  refine ce_callWi (As := [.ref (b + a1)]) (rest := []) hx hb hml hown hB (c0_L_back l hfl X G b ha1 g87) ce_s_L_back ce_w603 ⟨Nat.le_of_ble_eq_true rfl, Nat.le_of_ble_eq_true rfl⟩ hF hA hS hl rfl rfl (Nat.le_of_ble_eq_true rfl) dL_comesTrue_97 ⟨Nat.le_of_ble_eq_true rfl, Nat.le_of_ble_eq_true rfl⟩ (fun H locs hA hS => ?_)
                  refine lv_if_lt (tgt := 138) hx hb dL_comesTrue_100 (by decide) (fun c88 => ?_) (fun c88 => ?_)
                  · have h := ce_it c88 h
                    refine lv_iconst (v := 0) hx hb dL_comesTrue_138 (by decide) ?_
                    refine lv_istore (lv' := [(6, .int 0), (0, .ref (b + a1)), (1, .int a2), (2, .long q1), (4, .int x3), (5, .int x6)]) hx hb dL_comesTrue_139 hl (by decide) rfl (fun ls hl => ?_)
                    exact Ju18 M85 0 h  _ _ _ hA hS (lv_sub hl [1, 2, 3, 5, 0] rfl)
                  · have h := ce_ie c88 h
                    exact Ju60 M85 h  _ _ _ hA hS (lv_sub hl [1, 2, 3, 4, 5] rfl)
      refine lv_icmp_ne (tgt := 51) hx hb dL_comesTrue_44 (by decide) (fun c90 => ?_) (fun c90 => ?_)
      · have h := ce_ie c90 h
        refine lv_iconst (v := 0) hx hb dL_comesTrue_51 (by decide) ?_
        exact Ju15 0 h  _ _ _ hA hS (lv_sub hl [0, 1, 2, 3, 4] rfl)
      · have h := ce_it c90 h
        refine lv_iconst (v := 1) hx hb dL_comesTrue_47 (by decide) ?_
        refine lv_goto (tgt := 52) hx hb dL_comesTrue_48 (by decide) ?_
        exact Ju15 1 h  _ _ _ hA hS (lv_sub hl [0, 1, 2, 3, 4] rfl)
    refine lv_if_ne (tgt := 43) hx hb dL_comesTrue_36 (by decide) (fun c92 => ?_) (fun c92 => ?_)
    · have h := ce_ie c92 h
      refine lv_iconst (v := 0) hx hb dL_comesTrue_43 (by decide) ?_
      exact Ju13 0 h  _ _ _ hA hS (lv_sub hl [0, 1, 2, 3, 4] rfl)
    · have h := ce_it c92 h
      refine lv_iconst (v := 1) hx hb dL_comesTrue_39 (by decide) ?_
      refine lv_goto (tgt := 44) hx hb dL_comesTrue_40 (by decide) ?_
      exact Ju13 1 h  _ _ _ hA hS (lv_sub hl [0, 1, 2, 3, 4] rfl)
  refine lv_if_ne (tgt := 28) hx hb dL_comesTrue_21 (by decide) (fun c94 => ?_) (fun c94 => ?_)
  · have h := ce_ie c94 h
    refine lv_iconst (v := 0) hx hb dL_comesTrue_28 (by decide) ?_
    exact Ju9 0 h  _ _ _ hA hS (lv_sub hl [3, 4, 2, 1, 0] rfl)
  · have h := ce_it c94 h
    refine lv_iconst (v := 1) hx hb dL_comesTrue_24 (by decide) ?_
    refine lv_goto (tgt := 29) hx hb dL_comesTrue_25 (by decide) ?_
    exact Ju9 1 h  _ _ _ hA hS (lv_sub hl [3, 4, 2, 1, 0] rfl)
def f_L_sent_L115 (x9 : Int32) (u31 : Int32 → Option (ce_M × Int32)) (rec28 : Int32 → Int32 → Option (ce_M × Int32)) (x26 : Int32) (x27 : Int32) : Option (ce_M × Int32) :=
  if 8 ≤ x27 then
    u31 x26
  else
    ce_nm (x26 + ((x9 >>> (x27 &&& 31)) &&& 1)) (fun (x62 : Int32) =>
    ce_nm (x27 + 1) (fun (x64 : Int32) =>
    rec28 x62 x64))
def f_L_sent (M : ce_M) (a1 : Nat) (a2 : Int32) (a3 : Int32) : Option (ce_M × Int32) :=
  ce_b1 (f_L_low M a2 16) (fun (x1 : Int32) =>
  ce_b1 (f_L_low M (a2 >>> (4 &&& 31)) 3) (fun (x3 : Int32) =>
  ce_b1 (f_L_low M a3 3) (fun (x5 : Int32) =>
  ce_nm (fun (x7 : Int32) =>
      ce_b1 (f0_L_would M a1 x1 x3 x7) (fun (x9 : Int32) =>
      ce_b1 (f0_L_whole M a1 2) (fun (x11 : Int32) =>
      ce_b1 (f0_L_whole M a1 8) (fun (x13 : Int32) =>
      ce_b1 (f0_L_whole M a1 10) (fun (x15 : Int32) =>
      ce_b2 (f_L_sends M a1 x1 x3 x7) (fun (M17 : ce_M) (x18 : Int32) =>
      ce_nm (fun (z21 : Unit) =>
          if x18 = (-900000002) then
            some (M17, 1)
          else
            some (M17, 0)) (fun (u20 : Unit → Option (ce_M × Int32)) =>
      if x9 = (-1) then
        u20 ()
      else
        if x11 = 60 then
          u20 ()
        else
          ce_nm (fun (x30 : Int32) =>
          if x18 = x11 then
            ce_b1 (f0_L_event M17 a1 x11 0) (fun (x33 : Int32) =>
            if x33 = x1 then
              ce_b1 (f0_L_event M17 a1 x11 1) (fun (x36 : Int32) =>
              if x36 = x3 then
                ce_b1 (f0_L_event M17 a1 x11 2) (fun (x39 : Int32) =>
                ce_b1 (f0_L_whole M17 a1 3) (fun (x41 : Int32) =>
                if x39 = (x41 - x7) then
                  ce_b1 (f0_L_event M17 a1 x11 4) (fun (x44 : Int32) =>
                  if x44 = x9 then
                    ce_b1 (f0_L_event M17 a1 x11 5) (fun (x47 : Int32) =>
                    if x47 = 0 then
                      ce_b1 (f0_L_whole M17 a1 8) (fun (x50 : Int32) =>
                      ce_b1 (f0_L_whole M17 a1 10) (fun (x52 : Int32) =>
                      if (((x50 - x13) + x52) - x15) = x30 then
                        ce_b1 (f0_L_event M17 a1 x11 6) (fun (x55 : Int32) =>
                        ce_b1 (f0_L_whole M17 a1 8) (fun (x57 : Int32) =>
                        if x55 = (x57 - x13) then
                          some (M17, 1)
                        else
                          some (M17, 0)))
                      else
                        some (M17, 0)))
                    else
                      some (M17, 0))
                  else
                    some (M17, 0))
                else
                  some (M17, 0)))
              else
                some (M17, 0))
            else
              some (M17, 0))
          else
            some (M17, 0)) (fun (u31 : Int32 → Option (ce_M × Int32)) =>
          ce_lp2 (f_L_sent_L115 x9 u31) ce_FU 0 0)))))))) (fun (u8 : Int32 → Option (ce_M × Int32)) =>
  if x5 = 0 then
    ce_b1 (f_L_low M (a3 >>> (2 &&& 31)) 10) (fun (x68 : Int32) =>
    u8 x68)
  else
    u8 0))))
set_option maxRecDepth 100000 in
set_option maxHeartbeats 4000000 in
theorem c_L_sent (l : Launch) (hfl : l.stackTraces = false) (X : ce_X) (G : ce_G) (b : Nat) {a1 : Nat} {a2 : Int32} {a3 : Int32} {M : ce_M} (ha1 : ce_kd a1 = 7) {M' : ce_M} {r : Int32} (h : f_L_sent M a1 a2 a3 = some (M', r)) : ce_CtC l yL_sent cL_sent 13 (some .boolean) 10 206 3 18 X G b [.ref (b + a1), .int a2, .int a3] M (some (.int r)) M' := by
  refine ce_ofWC (own := RL) (by decide) rfl (Nat.le_of_ble_eq_true rfl) (fun p e s m below meth c ls hx hb hr hlocks hml hown hB hF hA hl hS => ?_)
  have hK := hF.1
  have hl : lv_has ls 13 [(0, .ref (b + a1)), (1, .int a2), (2, .int a3)] := hl
  unfold f_L_sent at h
  refine lv_iload_n hx hb dL_sent_0 rfl (lv_at hl 1 rfl) ?_
  refine lv_bipush (v := 16) hx hb dL_sent_1 (by decide) ?_
  obtain ⟨x1, g2, h⟩ := ce_b1_e h
  refine ce_callSi (As := [.int a2, .int 16]) (rest := []) hx hb hml hown hB (c_L_low l X G b  g2) ce_s_L_low ce_w240 ⟨Nat.le_of_ble_eq_true rfl, Nat.le_of_ble_eq_true rfl⟩ hF hA hS hl rfl rfl (Nat.le_of_ble_eq_true rfl) dL_sent_3 ⟨Nat.le_of_ble_eq_true rfl, Nat.le_of_ble_eq_true rfl⟩ (fun H locs hA hS => ?_)
  refine lv_istore_n (lv' := [(3, .int x1), (0, .ref (b + a1)), (1, .int a2), (2, .int a3)]) hx hb dL_sent_6 rfl hl (by decide) rfl (fun ls hl => ?_)
  refine lv_iload_n hx hb dL_sent_7 rfl (lv_at hl 2 rfl) ?_
  refine lv_iconst (v := 4) hx hb dL_sent_8 (by decide) ?_
  refine lv_ishr hx hb dL_sent_9 ?_
  refine lv_iconst (v := 3) hx hb dL_sent_10 (by decide) ?_
  obtain ⟨x3, g4, h⟩ := ce_b1_e h
  refine ce_callSi (As := [.int (a2 >>> (4 &&& 31)), .int 3]) (rest := []) hx hb hml hown hB (c_L_low l X G b  g4) ce_s_L_low ce_w240 ⟨Nat.le_of_ble_eq_true rfl, Nat.le_of_ble_eq_true rfl⟩ hF hA hS hl rfl rfl (Nat.le_of_ble_eq_true rfl) dL_sent_11 ⟨Nat.le_of_ble_eq_true rfl, Nat.le_of_ble_eq_true rfl⟩ (fun H locs hA hS => ?_)
  refine lv_istore (lv' := [(4, .int x3), (3, .int x1), (0, .ref (b + a1)), (1, .int a2), (2, .int a3)]) hx hb dL_sent_14 hl (by decide) rfl (fun ls hl => ?_)
  refine lv_iload_n hx hb dL_sent_16 rfl (lv_at hl 4 rfl) ?_
  refine lv_iconst (v := 3) hx hb dL_sent_17 (by decide) ?_
  obtain ⟨x5, g6, h⟩ := ce_b1_e h
  refine ce_callSi (As := [.int a3, .int 3]) (rest := []) hx hb hml hown hB (c_L_low l X G b  g6) ce_s_L_low ce_w240 ⟨Nat.le_of_ble_eq_true rfl, Nat.le_of_ble_eq_true rfl⟩ hF hA hS hl rfl rfl (Nat.le_of_ble_eq_true rfl) dL_sent_18 ⟨Nat.le_of_ble_eq_true rfl, Nat.le_of_ble_eq_true rfl⟩ (fun H locs hA hS => ?_)
  obtain ⟨u8, e66, h⟩ := ce_nm_e h
  have Ju8 : ∀ (x7 : Int32), u8 x7 = some (M', r) → ce_Wg p l e (ce_R 10 206 3 18) s m (([.ref (b + a1), .int a2, .int a3] : List Value).toArray) below meth c 0 0 (MQ below (ce_Q X b M' (some (.int r))) ([.ref (b + a1), .int a2, .int a3] : List Value).toArray s 3 18 (ce_Ab b)) X b M 13 [(0, .ref (b + a1)), (3, .int x1), (4, .int x3)] 36 [.int x7] := by
    intro x7 h  H locs ls hA hS hl
    subst e66
    refine lv_istore (lv' := [(5, .int x7), (0, .ref (b + a1)), (3, .int x1), (4, .int x3)]) hx hb dL_sent_36 hl (by decide) rfl (fun ls hl => ?_)
    refine lv_aload_n hx hb dL_sent_38 rfl (lv_at hl 1 rfl) ?_
    refine lv_iload_n hx hb dL_sent_39 rfl (lv_at hl 2 rfl) ?_
    refine lv_iload hx hb dL_sent_40 (lv_at hl 3 rfl) ?_
    refine lv_iload hx hb dL_sent_42 (lv_at hl 0 rfl) ?_
    obtain ⟨x9, g10, h⟩ := ce_b1_e h
    refine ce_callWi (As := [.ref (b + a1), .int x1, .int x3, .int x7]) (rest := []) hx hb hml hown hB (c0_L_would l hfl X G b ha1 g10) ce_s_L_would ce_w717 ⟨Nat.le_of_ble_eq_true rfl, Nat.le_of_ble_eq_true rfl⟩ hF hA hS hl rfl rfl (Nat.le_of_ble_eq_true rfl) dL_sent_44 ⟨Nat.le_of_ble_eq_true rfl, Nat.le_of_ble_eq_true rfl⟩ (fun H locs hA hS => ?_)
    refine lv_istore (lv' := [(6, .int x9), (5, .int x7), (0, .ref (b + a1)), (3, .int x1), (4, .int x3)]) hx hb dL_sent_47 hl (by decide) rfl (fun ls hl => ?_)
    refine lv_aload_n hx hb dL_sent_49 rfl (lv_at hl 2 rfl) ?_
    refine lv_iconst (v := 2) hx hb dL_sent_50 (by decide) ?_
    obtain ⟨x11, g12, h⟩ := ce_b1_e h
    refine ce_callWi (As := [.ref (b + a1), .int 2]) (rest := []) hx hb hml hown hB (c0_L_whole l hfl X G b ha1 g12) ce_s_L_whole ce_w579 ⟨Nat.le_of_ble_eq_true rfl, Nat.le_of_ble_eq_true rfl⟩ hF hA hS hl rfl rfl (Nat.le_of_ble_eq_true rfl) dL_sent_51 ⟨Nat.le_of_ble_eq_true rfl, Nat.le_of_ble_eq_true rfl⟩ (fun H locs hA hS => ?_)
    refine lv_istore (lv' := [(7, .int x11), (6, .int x9), (5, .int x7), (0, .ref (b + a1)), (3, .int x1), (4, .int x3)]) hx hb dL_sent_54 hl (by decide) rfl (fun ls hl => ?_)
    refine lv_aload_n hx hb dL_sent_56 rfl (lv_at hl 3 rfl) ?_
    refine lv_bipush (v := 8) hx hb dL_sent_57 (by decide) ?_
    obtain ⟨x13, g14, h⟩ := ce_b1_e h
    refine ce_callWi (As := [.ref (b + a1), .int 8]) (rest := []) hx hb hml hown hB (c0_L_whole l hfl X G b ha1 g14) ce_s_L_whole ce_w579 ⟨Nat.le_of_ble_eq_true rfl, Nat.le_of_ble_eq_true rfl⟩ hF hA hS hl rfl rfl (Nat.le_of_ble_eq_true rfl) dL_sent_59 ⟨Nat.le_of_ble_eq_true rfl, Nat.le_of_ble_eq_true rfl⟩ (fun H locs hA hS => ?_)
    refine lv_istore (lv' := [(8, .int x13), (7, .int x11), (6, .int x9), (5, .int x7), (0, .ref (b + a1)), (3, .int x1), (4, .int x3)]) hx hb dL_sent_62 hl (by decide) rfl (fun ls hl => ?_)
    refine lv_aload_n hx hb dL_sent_64 rfl (lv_at hl 4 rfl) ?_
    refine lv_bipush (v := 10) hx hb dL_sent_65 (by decide) ?_
    obtain ⟨x15, g16, h⟩ := ce_b1_e h
    refine ce_callWi (As := [.ref (b + a1), .int 10]) (rest := []) hx hb hml hown hB (c0_L_whole l hfl X G b ha1 g16) ce_s_L_whole ce_w579 ⟨Nat.le_of_ble_eq_true rfl, Nat.le_of_ble_eq_true rfl⟩ hF hA hS hl rfl rfl (Nat.le_of_ble_eq_true rfl) dL_sent_67 ⟨Nat.le_of_ble_eq_true rfl, Nat.le_of_ble_eq_true rfl⟩ (fun H locs hA hS => ?_)
    refine lv_istore (lv' := [(9, .int x15), (8, .int x13), (7, .int x11), (6, .int x9), (5, .int x7), (0, .ref (b + a1)), (3, .int x1), (4, .int x3)]) hx hb dL_sent_70 hl (by decide) rfl (fun ls hl => ?_)
    refine lv_aload_n hx hb dL_sent_72 rfl (lv_at hl 5 rfl) ?_
    refine lv_iload_n hx hb dL_sent_73 rfl (lv_at hl 6 rfl) ?_
    refine lv_iload hx hb dL_sent_74 (lv_at hl 7 rfl) ?_
    refine lv_iload hx hb dL_sent_76 (lv_at hl 4 rfl) ?_
    obtain ⟨M17, x18, g19, h⟩ := ce_b2_e h
    refine ce_callWi (As := [.ref (b + a1), .int x1, .int x3, .int x7]) (rest := []) hx hb hml hown hB (c_L_sends l hfl X G b ha1 g19) ce_s_L_sends ce_w565 ⟨Nat.le_of_ble_eq_true rfl, Nat.le_of_ble_eq_true rfl⟩ hF hA hS hl rfl rfl (Nat.le_of_ble_eq_true rfl) dL_sent_78 ⟨Nat.le_of_ble_eq_true rfl, Nat.le_of_ble_eq_true rfl⟩ (fun H locs hA hS => ?_)
    refine lv_istore (lv' := [(10, .int x18), (9, .int x15), (8, .int x13), (7, .int x11), (6, .int x9), (5, .int x7), (0, .ref (b + a1)), (3, .int x1), (4, .int x3)]) hx hb dL_sent_81 hl (by decide) rfl (fun ls hl => ?_)
    refine lv_iload hx hb dL_sent_83 (lv_at hl 4 rfl) ?_
    refine lv_iconst (v := (-1)) hx hb dL_sent_85 (by decide) ?_
    obtain ⟨u20, e23, h⟩ := ce_nm_e h
    have Ju20 : ∀ (z21 : Unit), u20 z21 = some (M', r) → ce_Wg p l e (ce_R 10 206 3 18) s m (([.ref (b + a1), .int a2, .int a3] : List Value).toArray) below meth c 3 18 (MQ below (ce_Q X b M' (some (.int r))) ([.ref (b + a1), .int a2, .int a3] : List Value).toArray s 3 18 (ce_Ab b)) X b M17 13 [(10, .int x18)] 96 [] := by
      intro z21 h  H locs ls hA hS hl
      subst e23
      refine lv_iload hx hb dL_sent_96 (lv_at hl 0 rfl) ?_
      refine lv_ldc (v := (-900000002)) hx hb hown (hB _ ce_w557) dL_sent_98 ?_
      refine lv_icmp_ne (tgt := 107) hx hb dL_sent_100 (by decide) (fun c22 => ?_) (fun c22 => ?_)
      · have h := ce_ie c22 h
        refine lv_iconst (v := 0) hx hb dL_sent_107 (by decide) ?_
        cases h
        exact ce_zretC hx hb hr hlocks (Or.inl rfl) hA hS (Nat.le_of_ble_eq_true rfl) (Nat.le_of_ble_eq_true rfl) dL_sent_108
      · have h := ce_it c22 h
        refine lv_iconst (v := 1) hx hb dL_sent_103 (by decide) ?_
        refine lv_goto (tgt := 108) hx hb dL_sent_104 (by decide) ?_
        cases h
        exact ce_zretC hx hb hr hlocks (Or.inr rfl) hA hS (Nat.le_of_ble_eq_true rfl) (Nat.le_of_ble_eq_true rfl) dL_sent_108
    refine lv_icmp_eq (tgt := 96) hx hb dL_sent_86 (by decide) (fun c24 => ?_) (fun c24 => ?_)
    · have h := ce_it c24 h
      exact Ju20 () h  _ _ _ hA hS (lv_sub hl [0] rfl)
    · have h := ce_ie c24 h
      refine lv_iload hx hb dL_sent_89 (lv_at hl 3 rfl) ?_
      refine lv_bipush (v := 60) hx hb dL_sent_91 (by decide) ?_
      refine lv_icmp_ne (tgt := 109) hx hb dL_sent_93 (by decide) (fun c25 => ?_) (fun c25 => ?_)
      · have h := ce_ie c25 h
        refine lv_iconst (v := 0) hx hb dL_sent_109 (by decide) ?_
        refine lv_istore (lv' := [(11, .int 0), (10, .int x18), (9, .int x15), (8, .int x13), (7, .int x11), (6, .int x9), (5, .int x7), (0, .ref (b + a1)), (3, .int x1), (4, .int x3)]) hx hb dL_sent_110 hl (by decide) rfl (fun ls hl => ?_)
        refine lv_iconst (v := 0) hx hb dL_sent_112 (by decide) ?_
        refine lv_istore (lv' := [(12, .int 0), (11, .int 0), (10, .int x18), (9, .int x15), (8, .int x13), (7, .int x11), (6, .int x9), (5, .int x7), (0, .ref (b + a1)), (3, .int x1), (4, .int x3)]) hx hb dL_sent_113 hl (by decide) rfl (fun ls hl => ?_)
        obtain ⟨u31, e60, h⟩ := ce_nm_e h
        have Ju31 : ∀ (x30 : Int32), u31 x30 = some (M', r) → ce_Wg p l e (ce_R 10 206 3 18) s m (([.ref (b + a1), .int a2, .int a3] : List Value).toArray) below meth c 3 18 (MQ below (ce_Q X b M' (some (.int r))) ([.ref (b + a1), .int a2, .int a3] : List Value).toArray s 3 18 (ce_Ab b)) X b M17 13 [(0, .ref (b + a1)), (3, .int x1), (4, .int x3), (5, .int x7), (6, .int x9), (7, .int x11), (8, .int x13), (9, .int x15), (10, .int x18), (11, .int x30)] 140 [] := by
          intro x30 h  H locs ls hA hS hl
          subst e60
          refine lv_iload hx hb dL_sent_140 (lv_at hl 8 rfl) ?_
          refine lv_iload hx hb dL_sent_142 (lv_at hl 5 rfl) ?_
          refine lv_icmp_ne (tgt := 258) hx hb dL_sent_144 (by decide) (fun c32 => ?_) (fun c32 => ?_)
          · have h := ce_ie c32 h
            refine lv_iconst (v := 0) hx hb dL_sent_258 (by decide) ?_
            cases h
            exact ce_zretC hx hb hr hlocks (Or.inl rfl) hA hS (Nat.le_of_ble_eq_true rfl) (Nat.le_of_ble_eq_true rfl) dL_sent_259
          · have h := ce_it c32 h
            refine lv_aload_n hx hb dL_sent_147 rfl (lv_at hl 0 rfl) ?_
            refine lv_iload hx hb dL_sent_148 (lv_at hl 5 rfl) ?_
            refine lv_iconst (v := 0) hx hb dL_sent_150 (by decide) ?_
            obtain ⟨x33, g34, h⟩ := ce_b1_e h
            refine ce_callWi (As := [.ref (b + a1), .int x11, .int 0]) (rest := []) hx hb hml hown hB (c0_L_event l hfl X G b ha1 g34) ce_s_L_event ce_w647 ⟨Nat.le_of_ble_eq_true rfl, Nat.le_of_ble_eq_true rfl⟩ hF hA hS hl rfl rfl (Nat.le_of_ble_eq_true rfl) dL_sent_151 ⟨Nat.le_of_ble_eq_true rfl, Nat.le_of_ble_eq_true rfl⟩ (fun H locs hA hS => ?_)
            refine lv_iload_n hx hb dL_sent_154 rfl (lv_at hl 1 rfl) ?_
            refine lv_icmp_ne (tgt := 258) hx hb dL_sent_155 (by decide) (fun c35 => ?_) (fun c35 => ?_)
            · have h := ce_ie c35 h
              refine lv_iconst (v := 0) hx hb dL_sent_258 (by decide) ?_
              cases h
              exact ce_zretC hx hb hr hlocks (Or.inl rfl) hA hS (Nat.le_of_ble_eq_true rfl) (Nat.le_of_ble_eq_true rfl) dL_sent_259
            · have h := ce_it c35 h
              refine lv_aload_n hx hb dL_sent_158 rfl (lv_at hl 0 rfl) ?_
              refine lv_iload hx hb dL_sent_159 (lv_at hl 5 rfl) ?_
              refine lv_iconst (v := 1) hx hb dL_sent_161 (by decide) ?_
              obtain ⟨x36, g37, h⟩ := ce_b1_e h
              refine ce_callWi (As := [.ref (b + a1), .int x11, .int 1]) (rest := []) hx hb hml hown hB (c0_L_event l hfl X G b ha1 g37) ce_s_L_event ce_w647 ⟨Nat.le_of_ble_eq_true rfl, Nat.le_of_ble_eq_true rfl⟩ hF hA hS hl rfl rfl (Nat.le_of_ble_eq_true rfl) dL_sent_162 ⟨Nat.le_of_ble_eq_true rfl, Nat.le_of_ble_eq_true rfl⟩ (fun H locs hA hS => ?_)
              refine lv_iload hx hb dL_sent_165 (lv_at hl 2 rfl) ?_
              refine lv_icmp_ne (tgt := 258) hx hb dL_sent_167 (by decide) (fun c38 => ?_) (fun c38 => ?_)
              · have h := ce_ie c38 h
                refine lv_iconst (v := 0) hx hb dL_sent_258 (by decide) ?_
                cases h
                exact ce_zretC hx hb hr hlocks (Or.inl rfl) hA hS (Nat.le_of_ble_eq_true rfl) (Nat.le_of_ble_eq_true rfl) dL_sent_259
              · have h := ce_it c38 h
                refine lv_aload_n hx hb dL_sent_170 rfl (lv_at hl 0 rfl) ?_
                refine lv_iload hx hb dL_sent_171 (lv_at hl 5 rfl) ?_
                refine lv_iconst (v := 2) hx hb dL_sent_173 (by decide) ?_
                obtain ⟨x39, g40, h⟩ := ce_b1_e h
                refine ce_callWi (As := [.ref (b + a1), .int x11, .int 2]) (rest := []) hx hb hml hown hB (c0_L_event l hfl X G b ha1 g40) ce_s_L_event ce_w647 ⟨Nat.le_of_ble_eq_true rfl, Nat.le_of_ble_eq_true rfl⟩ hF hA hS hl rfl rfl (Nat.le_of_ble_eq_true rfl) dL_sent_174 ⟨Nat.le_of_ble_eq_true rfl, Nat.le_of_ble_eq_true rfl⟩ (fun H locs hA hS => ?_)
                refine lv_aload_n hx hb dL_sent_177 rfl (lv_at hl 0 rfl) ?_
                refine lv_iconst (v := 3) hx hb dL_sent_178 (by decide) ?_
                obtain ⟨x41, g42, h⟩ := ce_b1_e h
                refine ce_callWi (As := [.ref (b + a1), .int 3]) (rest := [.int x39]) hx hb hml hown hB (c0_L_whole l hfl X G b ha1 g42) ce_s_L_whole ce_w579 ⟨Nat.le_of_ble_eq_true rfl, Nat.le_of_ble_eq_true rfl⟩ hF hA hS hl rfl rfl (Nat.le_of_ble_eq_true rfl) dL_sent_179 ⟨Nat.le_of_ble_eq_true rfl, Nat.le_of_ble_eq_true rfl⟩ (fun H locs hA hS => ?_)
                refine lv_iload hx hb dL_sent_182 (lv_at hl 3 rfl) ?_
                refine lv_isub hx hb dL_sent_184 ?_
                refine lv_icmp_ne (tgt := 258) hx hb dL_sent_185 (by decide) (fun c43 => ?_) (fun c43 => ?_)
                · have h := ce_ie c43 h
                  refine lv_iconst (v := 0) hx hb dL_sent_258 (by decide) ?_
                  cases h
                  exact ce_zretC hx hb hr hlocks (Or.inl rfl) hA hS (Nat.le_of_ble_eq_true rfl) (Nat.le_of_ble_eq_true rfl) dL_sent_259
                · have h := ce_it c43 h
                  refine lv_aload_n hx hb dL_sent_188 rfl (lv_at hl 0 rfl) ?_
                  refine lv_iload hx hb dL_sent_189 (lv_at hl 5 rfl) ?_
                  refine lv_iconst (v := 4) hx hb dL_sent_191 (by decide) ?_
                  obtain ⟨x44, g45, h⟩ := ce_b1_e h
                  refine ce_callWi (As := [.ref (b + a1), .int x11, .int 4]) (rest := []) hx hb hml hown hB (c0_L_event l hfl X G b ha1 g45) ce_s_L_event ce_w647 ⟨Nat.le_of_ble_eq_true rfl, Nat.le_of_ble_eq_true rfl⟩ hF hA hS hl rfl rfl (Nat.le_of_ble_eq_true rfl) dL_sent_192 ⟨Nat.le_of_ble_eq_true rfl, Nat.le_of_ble_eq_true rfl⟩ (fun H locs hA hS => ?_)
                  refine lv_iload hx hb dL_sent_195 (lv_at hl 4 rfl) ?_
                  refine lv_icmp_ne (tgt := 258) hx hb dL_sent_197 (by decide) (fun c46 => ?_) (fun c46 => ?_)
                  · have h := ce_ie c46 h
                    refine lv_iconst (v := 0) hx hb dL_sent_258 (by decide) ?_
                    cases h
                    exact ce_zretC hx hb hr hlocks (Or.inl rfl) hA hS (Nat.le_of_ble_eq_true rfl) (Nat.le_of_ble_eq_true rfl) dL_sent_259
                  · have h := ce_it c46 h
                    refine lv_aload_n hx hb dL_sent_200 rfl (lv_at hl 0 rfl) ?_
                    refine lv_iload hx hb dL_sent_201 (lv_at hl 5 rfl) ?_
                    refine lv_iconst (v := 5) hx hb dL_sent_203 (by decide) ?_
                    obtain ⟨x47, g48, h⟩ := ce_b1_e h
                    refine ce_callWi (As := [.ref (b + a1), .int x11, .int 5]) (rest := []) hx hb hml hown hB (c0_L_event l hfl X G b ha1 g48) ce_s_L_event ce_w647 ⟨Nat.le_of_ble_eq_true rfl, Nat.le_of_ble_eq_true rfl⟩ hF hA hS hl rfl rfl (Nat.le_of_ble_eq_true rfl) dL_sent_204 ⟨Nat.le_of_ble_eq_true rfl, Nat.le_of_ble_eq_true rfl⟩ (fun H locs hA hS => ?_)
                    refine lv_if_ne (tgt := 258) hx hb dL_sent_207 (by decide) (fun c49 => ?_) (fun c49 => ?_)
                    · have h := ce_ie c49 h
                      refine lv_iconst (v := 0) hx hb dL_sent_258 (by decide) ?_
                      cases h
                      exact ce_zretC hx hb hr hlocks (Or.inl rfl) hA hS (Nat.le_of_ble_eq_true rfl) (Nat.le_of_ble_eq_true rfl) dL_sent_259
                    · have h := ce_it c49 h
                      refine lv_aload_n hx hb dL_sent_210 rfl (lv_at hl 0 rfl) ?_
                      refine lv_bipush (v := 8) hx hb dL_sent_211 (by decide) ?_
                      obtain ⟨x50, g51, h⟩ := ce_b1_e h
                      refine ce_callWi (As := [.ref (b + a1), .int 8]) (rest := []) hx hb hml hown hB (c0_L_whole l hfl X G b ha1 g51) ce_s_L_whole ce_w579 ⟨Nat.le_of_ble_eq_true rfl, Nat.le_of_ble_eq_true rfl⟩ hF hA hS hl rfl rfl (Nat.le_of_ble_eq_true rfl) dL_sent_213 ⟨Nat.le_of_ble_eq_true rfl, Nat.le_of_ble_eq_true rfl⟩ (fun H locs hA hS => ?_)
                      refine lv_iload hx hb dL_sent_216 (lv_at hl 6 rfl) ?_
                      refine lv_isub hx hb dL_sent_218 ?_
                      refine lv_aload_n hx hb dL_sent_219 rfl (lv_at hl 0 rfl) ?_
                      refine lv_bipush (v := 10) hx hb dL_sent_220 (by decide) ?_
                      obtain ⟨x52, g53, h⟩ := ce_b1_e h
                      refine ce_callWi (As := [.ref (b + a1), .int 10]) (rest := [.int (x50 - x13)]) hx hb hml hown hB (c0_L_whole l hfl X G b ha1 g53) ce_s_L_whole ce_w579 ⟨Nat.le_of_ble_eq_true rfl, Nat.le_of_ble_eq_true rfl⟩ hF hA hS hl rfl rfl (Nat.le_of_ble_eq_true rfl) dL_sent_222 ⟨Nat.le_of_ble_eq_true rfl, Nat.le_of_ble_eq_true rfl⟩ (fun H locs hA hS => ?_)
                      refine lv_iadd hx hb dL_sent_225 ?_
                      refine lv_iload hx hb dL_sent_226 (lv_at hl 7 rfl) ?_
                      refine lv_isub hx hb dL_sent_228 ?_
                      refine lv_iload hx hb dL_sent_229 (lv_at hl 9 rfl) ?_
                      refine lv_icmp_ne (tgt := 258) hx hb dL_sent_231 (by decide) (fun c54 => ?_) (fun c54 => ?_)
                      · have h := ce_ie c54 h
                        refine lv_iconst (v := 0) hx hb dL_sent_258 (by decide) ?_
                        cases h
                        exact ce_zretC hx hb hr hlocks (Or.inl rfl) hA hS (Nat.le_of_ble_eq_true rfl) (Nat.le_of_ble_eq_true rfl) dL_sent_259
                      · have h := ce_it c54 h
                        refine lv_aload_n hx hb dL_sent_234 rfl (lv_at hl 0 rfl) ?_
                        refine lv_iload hx hb dL_sent_235 (lv_at hl 5 rfl) ?_
                        refine lv_bipush (v := 6) hx hb dL_sent_237 (by decide) ?_
                        obtain ⟨x55, g56, h⟩ := ce_b1_e h
                        refine ce_callWi (As := [.ref (b + a1), .int x11, .int 6]) (rest := []) hx hb hml hown hB (c0_L_event l hfl X G b ha1 g56) ce_s_L_event ce_w647 ⟨Nat.le_of_ble_eq_true rfl, Nat.le_of_ble_eq_true rfl⟩ hF hA hS hl rfl rfl (Nat.le_of_ble_eq_true rfl) dL_sent_239 ⟨Nat.le_of_ble_eq_true rfl, Nat.le_of_ble_eq_true rfl⟩ (fun H locs hA hS => ?_)
                        refine lv_aload_n hx hb dL_sent_242 rfl (lv_at hl 0 rfl) ?_
                        refine lv_bipush (v := 8) hx hb dL_sent_243 (by decide) ?_
                        obtain ⟨x57, g58, h⟩ := ce_b1_e h
                        refine ce_callWi (As := [.ref (b + a1), .int 8]) (rest := [.int x55]) hx hb hml hown hB (c0_L_whole l hfl X G b ha1 g58) ce_s_L_whole ce_w579 ⟨Nat.le_of_ble_eq_true rfl, Nat.le_of_ble_eq_true rfl⟩ hF hA hS hl rfl rfl (Nat.le_of_ble_eq_true rfl) dL_sent_245 ⟨Nat.le_of_ble_eq_true rfl, Nat.le_of_ble_eq_true rfl⟩ (fun H locs hA hS => ?_)
                        refine lv_iload hx hb dL_sent_248 (lv_at hl 6 rfl) ?_
                        refine lv_isub hx hb dL_sent_250 ?_
                        refine lv_icmp_ne (tgt := 258) hx hb dL_sent_251 (by decide) (fun c59 => ?_) (fun c59 => ?_)
                        · have h := ce_ie c59 h
                          refine lv_iconst (v := 0) hx hb dL_sent_258 (by decide) ?_
                          cases h
                          exact ce_zretC hx hb hr hlocks (Or.inl rfl) hA hS (Nat.le_of_ble_eq_true rfl) (Nat.le_of_ble_eq_true rfl) dL_sent_259
                        · have h := ce_it c59 h
                          refine lv_iconst (v := 1) hx hb dL_sent_254 (by decide) ?_
                          refine lv_goto (tgt := 259) hx hb dL_sent_255 (by decide) ?_
                          cases h
                          exact ce_zretC hx hb hr hlocks (Or.inr rfl) hA hS (Nat.le_of_ble_eq_true rfl) (Nat.le_of_ble_eq_true rfl) dL_sent_259
        refine ce_lp2_i (y := (M', r)) (P := fun (x26 : Int32) (x27 : Int32) => ce_Wg p l e (ce_R 10 206 3 18) s m (([.ref (b + a1), .int a2, .int a3] : List Value).toArray) below meth c 3 18 (MQ below (ce_Q X b M' (some (.int r))) ([.ref (b + a1), .int a2, .int a3] : List Value).toArray s 3 18 (ce_Ab b)) X b M17 13 [(0, .ref (b + a1)), (3, .int x1), (4, .int x3), (5, .int x7), (6, .int x9), (7, .int x11), (8, .int x13), (9, .int x15), (10, .int x18), (11, .int x26), (12, .int x27)] 115 []) (fun rec28 ih29 x26 x27 h => ?_) _ _ _ h _ _ _ hA hS (lv_sub hl [8, 9, 10, 7, 6, 5, 4, 3, 2, 1, 0] rfl)
        intro H locs ls hA hS hl
        unfold f_L_sent_L115 at h
        refine lv_iload hx hb dL_sent_115 (lv_at hl 10 rfl) ?_
        refine lv_bipush (v := 8) hx hb dL_sent_117 (by decide) ?_
        refine lv_icmp_ge (tgt := 140) hx hb dL_sent_119 (by decide) (fun c61 => ?_) (fun c61 => ?_)
        · have h := ce_it c61 h
          exact Ju31 x26 h  _ _ _ hA hS (lv_sub hl [0, 1, 2, 3, 4, 5, 6, 7, 8, 9] rfl)
        · have h := ce_ie c61 h
          refine lv_iload hx hb dL_sent_122 (lv_at hl 9 rfl) ?_
          refine lv_iload hx hb dL_sent_124 (lv_at hl 4 rfl) ?_
          refine lv_iload hx hb dL_sent_126 (lv_at hl 10 rfl) ?_
          refine lv_ishr hx hb dL_sent_128 ?_
          refine lv_iconst (v := 1) hx hb dL_sent_129 (by decide) ?_
          refine lv_iand hx hb dL_sent_130 ?_
          refine lv_iadd hx hb dL_sent_131 ?_
          obtain ⟨x62, e63, h⟩ := ce_nm_e h
          refine ce_top e63 ?_
          refine lv_istore (lv' := [(11, .int x62), (0, .ref (b + a1)), (3, .int x1), (4, .int x3), (5, .int x7), (6, .int x9), (7, .int x11), (8, .int x13), (9, .int x15), (10, .int x18), (12, .int x27)]) hx hb dL_sent_132 hl (by decide) rfl (fun ls hl => ?_)
          obtain ⟨x64, e65, h⟩ := ce_nm_e h
          refine lv_iinc (v := x64) (lv' := [(12, .int x64), (11, .int x62), (0, .ref (b + a1)), (3, .int x1), (4, .int x3), (5, .int x7), (6, .int x9), (7, .int x11), (8, .int x13), (9, .int x15), (10, .int x18)]) hx hb dL_sent_134 hl (k := 10) rfl (by rw [← e65]; rfl) (by decide) rfl (fun ls hl => ?_)
          refine lv_goto (tgt := 115) hx hb dL_sent_137 (by decide) ?_
          exact ih29 x62 x64 h  _ _ _ hA hS (lv_sub hl [2, 3, 4, 5, 6, 7, 8, 9, 10, 1, 0] rfl)
      · have h := ce_it c25 h
        exact Ju20 () h  _ _ _ hA hS (lv_sub hl [0] rfl)
  refine lv_if_ne (tgt := 35) hx hb dL_sent_21 (by decide) (fun c67 => ?_) (fun c67 => ?_)
  · have h := ce_ie c67 h
    refine lv_iconst (v := 0) hx hb dL_sent_35 (by decide) ?_
    exact Ju8 0 h  _ _ _ hA hS (lv_sub hl [2, 1, 0] rfl)
  · have h := ce_it c67 h
    refine lv_iload_n hx hb dL_sent_24 rfl (lv_at hl 4 rfl) ?_
    refine lv_iconst (v := 2) hx hb dL_sent_25 (by decide) ?_
    refine lv_ishr hx hb dL_sent_26 ?_
    refine lv_bipush (v := 10) hx hb dL_sent_27 (by decide) ?_
    obtain ⟨x68, g69, h⟩ := ce_b1_e h
    refine ce_callSi (As := [.int (a3 >>> (2 &&& 31)), .int 10]) (rest := []) hx hb hml hown hB (c_L_low l X G b  g69) ce_s_L_low ce_w240 ⟨Nat.le_of_ble_eq_true rfl, Nat.le_of_ble_eq_true rfl⟩ hF hA hS hl rfl rfl (Nat.le_of_ble_eq_true rfl) dL_sent_29 ⟨Nat.le_of_ble_eq_true rfl, Nat.le_of_ble_eq_true rfl⟩ (fun H locs hA hS => ?_)
    refine lv_goto (tgt := 36) hx hb dL_sent_32 (by decide) ?_
    exact Ju8 x68 h  _ _ _ hA hS (lv_sub hl [2, 1, 0] rfl)
def f_L_acts (M : ce_M) (a1 : Nat) (a2 : Int32) (a3 : Int32) (a4 : Int32) : Option (ce_M × Int32) :=
  ce_b1 (f0_L_whole M a1 0) (fun (x1 : Int32) =>
  ce_b1 (f_L_low M a3 x1) (fun (x3 : Int32) =>
  if a2 = 0 then
    ce_b2 (f_L_sent M a1 a3 a4) (fun (M6 : ce_M) (x7 : Int32) =>
    ce_gz x7 (
    some (M6, x7)))
  else
  if a2 = 1 then
    ce_b2 (f_L_sent M a1 a3 a4) (fun (M11 : ce_M) (x12 : Int32) =>
    ce_gz x12 (
    some (M11, x12)))
  else
  if a2 = 2 then
    ce_b2 (f_L_sent M a1 a3 a4) (fun (M16 : ce_M) (x17 : Int32) =>
    ce_gz x17 (
    some (M16, x17)))
  else
  if a2 = 3 then
    ce_b2 (f_L_sent M a1 a3 a4) (fun (M21 : ce_M) (x22 : Int32) =>
    ce_gz x22 (
    some (M21, x22)))
  else
  if a2 = 4 then
    ce_b1 (f0_L_one M a1 x3 2) (fun (x26 : Int32) =>
    ce_b1 (f_L_low M a4 16) (fun (x28 : Int32) =>
    ce_b2 (f_L_goes M a1 x3 x28) (fun (M30 : ce_M) (x31 : Int32) =>
    ce_b1 (f0_L_one M30 a1 x3 5) (fun (x33 : Int32) =>
    ce_nm (α := Int32 → Option (ce_M × Int32)) (fun (x37 : Int32) =>
      if x31 = x37 then
        if x31 < 0 then
          some (M30, 1)
        else
          ce_b1 (f0_L_one M30 a1 x3 2) (fun (x41 : Int32) =>
          if x41 = x28 then
            ce_b1 (f0_L_one M30 a1 x3 3) (fun (x44 : Int32) =>
            ce_b1 (f0_L_whole M30 a1 3) (fun (x46 : Int32) =>
            if x44 = x46 then
              some (M30, 1)
            else
              some (M30, 0)))
          else
            some (M30, 0))
      else
        some (M30, 0)) (fun (u38 : Int32 → Option (ce_M × Int32)) =>
    ce_nm (α := Unit → Option (ce_M × Int32)) (fun (z36 : Unit) =>
      u38 (-900000002)) (fun (u35 : Unit → Option (ce_M × Int32)) =>
    if x33 = 0 then
      u35 ()
    else
      ce_b1 (f0_L_one M30 a1 x3 0) (fun (x52 : Int32) =>
      if x52 = 2 then
        u35 ()
      else
        if x26 = x28 then
          u35 ()
        else
          u38 x26)))))))
  else
  if a2 = 5 then
    ce_b1 (f0_L_one M a1 x3 2) (fun (x57 : Int32) =>
    ce_b1 (f_L_low M a4 16) (fun (x59 : Int32) =>
    ce_b2 (f_L_goes M a1 x3 x59) (fun (M61 : ce_M) (x62 : Int32) =>
    ce_b1 (f0_L_one M61 a1 x3 5) (fun (x64 : Int32) =>
    ce_nm (α := Int32 → Option (ce_M × Int32)) (fun (x68 : Int32) =>
      if x62 = x68 then
        if x62 < 0 then
          some (M61, 1)
        else
          ce_b1 (f0_L_one M61 a1 x3 2) (fun (x72 : Int32) =>
          if x72 = x59 then
            ce_b1 (f0_L_one M61 a1 x3 3) (fun (x75 : Int32) =>
            ce_b1 (f0_L_whole M61 a1 3) (fun (x77 : Int32) =>
            if x75 = x77 then
              some (M61, 1)
            else
              some (M61, 0)))
          else
            some (M61, 0))
      else
        some (M61, 0)) (fun (u69 : Int32 → Option (ce_M × Int32)) =>
    ce_nm (α := Unit → Option (ce_M × Int32)) (fun (z67 : Unit) =>
      u69 (-900000002)) (fun (u66 : Unit → Option (ce_M × Int32)) =>
    if x64 = 0 then
      u66 ()
    else
      ce_b1 (f0_L_one M61 a1 x3 0) (fun (x83 : Int32) =>
      if x83 = 2 then
        u66 ()
      else
        if x57 = x59 then
          u66 ()
        else
          u69 x57)))))))
  else
  if a2 = 6 then
    ce_b2 (f_L_ticked M a1) (fun (M88 : ce_M) (x89 : Int32) =>
    ce_gz x89 (
    some (M88, x89)))
  else
  if a2 = 7 then
    ce_b2 (f_L_ticked M a1) (fun (M93 : ce_M) (x94 : Int32) =>
    ce_gz x94 (
    some (M93, x94)))
  else
  if a2 = 8 then
    ce_b2 (f_L_ticked M a1) (fun (M98 : ce_M) (x99 : Int32) =>
    ce_gz x99 (
    some (M98, x99)))
  else
  if a2 = 9 then
    ce_b1 (f0_L_one M a1 x3 1) (fun (x103 : Int32) =>
    ce_b1 (f_L_low M a4 3) (fun (x105 : Int32) =>
    ce_b2 (f0_L_levels M a1 x3 x105) (fun (M107 : ce_M) (x108 : Int32) =>
    if x108 = x103 then
      ce_b1 (f0_L_one M107 a1 x3 1) (fun (x111 : Int32) =>
      ce_b1 (f_L_low M107 a4 3) (fun (x113 : Int32) =>
      if x111 = x113 then
        some (M107, 1)
      else
        some (M107, 0)))
    else
      some (M107, 0))))
  else
  if a2 = 10 then
    ce_b1 (f_L_low M a4 4) (fun (x117 : Int32) =>
    ce_b1 (f0_L_whole M a1 (4 + x117)) (fun (x119 : Int32) =>
    ce_nm (α := Int32 → Option (ce_M × Int32)) (fun (x121 : Int32) =>
      ce_b2 (f0_L_sets M a1 x117 x121) (fun (M123 : ce_M) (x124 : Int32) =>
      if x124 = x119 then
        ce_b1 (f0_L_whole M123 a1 (4 + x117)) (fun (x127 : Int32) =>
        if x127 = x121 then
          some (M123, 1)
        else
          some (M123, 0))
      else
        some (M123, 0))) (fun (u122 : Int32 → Option (ce_M × Int32)) =>
    if x117 = 1 then
      ce_b1 (f_L_low M (a4 >>> (2 &&& 31)) 3) (fun (x134 : Int32) =>
      u122 (1 + x134))
    else
      ce_b1 (f_L_low M (a4 >>> (2 &&& 31)) 6) (fun (x132 : Int32) =>
      u122 x132))))
  else
  if a2 = 11 then
    ce_b1 (f0_L_whole M a1 0) (fun (x137 : Int32) =>
    ce_b1 (f_L_low M a4 3) (fun (x139 : Int32) =>
    ce_b1 (f_L_low M (a4 >>> (2 &&& 31)) 3) (fun (x141 : Int32) =>
    ce_b1 (f_L_low M (a4 >>> (4 &&& 31)) 16) (fun (x143 : Int32) =>
    ce_b2 (f_L_joins M a1 x139 x141 x143) (fun (M145 : ce_M) (x146 : Int32) =>
    ce_nm (α := Int32 → Option (ce_M × Int32)) (fun (x148 : Int32) =>
      if x146 = x148 then
        if x137 = 8 then
          some (M145, 1)
        else
          ce_b1 (f0_L_one M145 a1 x137 4) (fun (x152 : Int32) =>
          ce_b1 (f_L_low M145 (a4 >>> (4 &&& 31)) 16) (fun (x154 : Int32) =>
          if x152 = x154 then
            ce_b1 (f0_L_stay M145 a1 x137 0 1) (fun (x157 : Int32) =>
            ce_b1 (f0_L_whole M145 a1 3) (fun (x159 : Int32) =>
            if x157 = x159 then
              some (M145, 1)
            else
              some (M145, 0)))
          else
            some (M145, 0)))
      else
        some (M145, 0)) (fun (u149 : Int32 → Option (ce_M × Int32)) =>
    if x137 = 8 then
      u149 (-900000002)
    else
      u149 x137))))))
  else
  ce_b1 (f0_L_one M a1 x3 5) (fun (x164 : Int32) =>
  ce_b1 (f0_L_one M a1 x3 6) (fun (x166 : Int32) =>
  ce_b1 (f0_L_whole M a1 11) (fun (x168 : Int32) =>
  ce_b1 (f_L_low M a4 3) (fun (x170 : Int32) =>
  ce_nm (α := ce_M → Int32 → Option (ce_M × Int32)) (fun (M172 : ce_M) (x173 : Int32) =>
      ce_nm (α := Int32 → Option (ce_M × Int32)) (fun (x175 : Int32) =>
          if x173 = x175 then
            ce_b1 (f0_L_whole M172 a1 11) (fun (x178 : Int32) =>
            if x178 = x168 then
              some (M172, 1)
            else
              ce_b1 (f0_L_whole M172 a1 11) (fun (x181 : Int32) =>
              if x181 = (x168 + x166) then
                some (M172, 1)
              else
                some (M172, 0)))
          else
            some (M172, 0)) (fun (u176 : Int32 → Option (ce_M × Int32)) =>
      if x164 = 0 then
        u176 (-900000002)
      else
        u176 x166)) (fun (u174 : ce_M → Int32 → Option (ce_M × Int32)) =>
  if x170 = 0 then
    ce_b2 (f_L_quits M a1 x3) (fun (M189 : ce_M) (x190 : Int32) =>
    u174 M189 x190)
  else
    if x164 = 0 then
      u174 M (-900000002)
    else
      u174 M x166)))))))
set_option maxRecDepth 100000 in
set_option maxHeartbeats 4000000 in
theorem c_L_acts (l : Launch) (hfl : l.stackTraces = false) (X : ce_X) (G : ce_G) (b : Nat) {a1 : Nat} {a2 : Int32} {a3 : Int32} {a4 : Int32} {M : ce_M} (ha1 : ce_kd a1 = 7) {M' : ce_M} {r : Int32} (h : f_L_acts M a1 a2 a3 a4 = some (M', r)) : ce_CtC l yL_acts cL_acts 9 (some .boolean) 11 238 13 88 X G b [.ref (b + a1), .int a2, .int a3, .int a4] M (some (.int r)) M' := by
  refine ce_ofWC (own := RL) (by decide) rfl (Nat.le_of_ble_eq_true rfl) (fun p e s m below meth c ls hx hb hr hlocks hml hown hB hF hA hl hS => ?_)
  have hK := hF.1
  have hl : lv_has ls 9 [(0, .ref (b + a1)), (1, .int a2), (2, .int a3), (3, .int a4)] := hl
  unfold f_L_acts at h
  refine lv_iload_n hx hb dL_acts_0 rfl (lv_at hl 2 rfl) ?_
  refine lv_aload_n hx hb dL_acts_1 rfl (lv_at hl 0 rfl) ?_
  refine lv_iconst (v := 0) hx hb dL_acts_2 (by decide) ?_
  obtain ⟨x1, g2, h⟩ := ce_b1_e h
  refine ce_callWi (As := [.ref (b + a1), .int 0]) (rest := [.int a3]) hx hb hml hown hB (c0_L_whole l hfl X G b ha1 g2) ce_s_L_whole ce_w579 ⟨Nat.le_of_ble_eq_true rfl, Nat.le_of_ble_eq_true rfl⟩ hF hA hS hl rfl rfl (Nat.le_of_ble_eq_true rfl) dL_acts_3 ⟨Nat.le_of_ble_eq_true rfl, Nat.le_of_ble_eq_true rfl⟩ (fun H locs hA hS => ?_)
  obtain ⟨x3, g4, h⟩ := ce_b1_e h
  refine ce_callSi (As := [.int a3, .int x1]) (rest := []) hx hb hml hown hB (c_L_low l X G b  g4) ce_s_L_low ce_w240 ⟨Nat.le_of_ble_eq_true rfl, Nat.le_of_ble_eq_true rfl⟩ hF hA hS hl rfl rfl (Nat.le_of_ble_eq_true rfl) dL_acts_6 ⟨Nat.le_of_ble_eq_true rfl, Nat.le_of_ble_eq_true rfl⟩ (fun H locs hA hS => ?_)
  refine lv_istore (lv' := [(4, .int x3), (0, .ref (b + a1)), (1, .int a2), (2, .int a3), (3, .int a4)]) hx hb dL_acts_9 hl (by decide) rfl (fun ls hl => ?_)
  refine lv_iload_n hx hb dL_acts_11 rfl (lv_at hl 2 rfl) ?_
  by_cases c5 : a2 = 0
  · have h := ce_it c5 h
    refine lv_tableIn (off := 64) (tgt := 76) hx hb dL_acts_12 (by rw [c5]; decide) (by rw [c5]; decide) (by rw [c5]; rfl) (by decide) ?_
    refine lv_aload_n hx hb dL_acts_76 rfl (lv_at hl 1 rfl) ?_
    refine lv_iload_n hx hb dL_acts_77 rfl (lv_at hl 3 rfl) ?_
    refine lv_iload_n hx hb dL_acts_78 rfl (lv_at hl 4 rfl) ?_
    obtain ⟨M6, x7, g8, h⟩ := ce_b2_e h
    refine ce_callCi (As := [.ref (b + a1), .int a3, .int a4]) (rest := []) hx hb hml hown hB (c_L_sent l hfl X G b ha1 g8) ce_s_L_sent ce_w812 ⟨Nat.le_of_ble_eq_true rfl, Nat.le_of_ble_eq_true rfl⟩ hF hA hS hl rfl rfl (Nat.le_of_ble_eq_true rfl) dL_acts_79 ⟨Nat.le_of_ble_eq_true rfl, Nat.le_of_ble_eq_true rfl⟩ (fun H locs hA hS => ?_)
    obtain ⟨z9, h⟩ := ce_gz_e h
    cases h
    exact ce_zretC hx hb hr hlocks z9 hA hS (Nat.le_of_ble_eq_true rfl) (Nat.le_of_ble_eq_true rfl) dL_acts_82
  have h := ce_ie c5 h
  by_cases c10 : a2 = 1
  · have h := ce_it c10 h
    refine lv_tableIn (off := 64) (tgt := 76) hx hb dL_acts_12 (by rw [c10]; decide) (by rw [c10]; decide) (by rw [c10]; rfl) (by decide) ?_
    refine lv_aload_n hx hb dL_acts_76 rfl (lv_at hl 1 rfl) ?_
    refine lv_iload_n hx hb dL_acts_77 rfl (lv_at hl 3 rfl) ?_
    refine lv_iload_n hx hb dL_acts_78 rfl (lv_at hl 4 rfl) ?_
    obtain ⟨M11, x12, g13, h⟩ := ce_b2_e h
    refine ce_callCi (As := [.ref (b + a1), .int a3, .int a4]) (rest := []) hx hb hml hown hB (c_L_sent l hfl X G b ha1 g13) ce_s_L_sent ce_w812 ⟨Nat.le_of_ble_eq_true rfl, Nat.le_of_ble_eq_true rfl⟩ hF hA hS hl rfl rfl (Nat.le_of_ble_eq_true rfl) dL_acts_79 ⟨Nat.le_of_ble_eq_true rfl, Nat.le_of_ble_eq_true rfl⟩ (fun H locs hA hS => ?_)
    obtain ⟨z14, h⟩ := ce_gz_e h
    cases h
    exact ce_zretC hx hb hr hlocks z14 hA hS (Nat.le_of_ble_eq_true rfl) (Nat.le_of_ble_eq_true rfl) dL_acts_82
  have h := ce_ie c10 h
  by_cases c15 : a2 = 2
  · have h := ce_it c15 h
    refine lv_tableIn (off := 64) (tgt := 76) hx hb dL_acts_12 (by rw [c15]; decide) (by rw [c15]; decide) (by rw [c15]; rfl) (by decide) ?_
    refine lv_aload_n hx hb dL_acts_76 rfl (lv_at hl 1 rfl) ?_
    refine lv_iload_n hx hb dL_acts_77 rfl (lv_at hl 3 rfl) ?_
    refine lv_iload_n hx hb dL_acts_78 rfl (lv_at hl 4 rfl) ?_
    obtain ⟨M16, x17, g18, h⟩ := ce_b2_e h
    refine ce_callCi (As := [.ref (b + a1), .int a3, .int a4]) (rest := []) hx hb hml hown hB (c_L_sent l hfl X G b ha1 g18) ce_s_L_sent ce_w812 ⟨Nat.le_of_ble_eq_true rfl, Nat.le_of_ble_eq_true rfl⟩ hF hA hS hl rfl rfl (Nat.le_of_ble_eq_true rfl) dL_acts_79 ⟨Nat.le_of_ble_eq_true rfl, Nat.le_of_ble_eq_true rfl⟩ (fun H locs hA hS => ?_)
    obtain ⟨z19, h⟩ := ce_gz_e h
    cases h
    exact ce_zretC hx hb hr hlocks z19 hA hS (Nat.le_of_ble_eq_true rfl) (Nat.le_of_ble_eq_true rfl) dL_acts_82
  have h := ce_ie c15 h
  by_cases c20 : a2 = 3
  · have h := ce_it c20 h
    refine lv_tableIn (off := 64) (tgt := 76) hx hb dL_acts_12 (by rw [c20]; decide) (by rw [c20]; decide) (by rw [c20]; rfl) (by decide) ?_
    refine lv_aload_n hx hb dL_acts_76 rfl (lv_at hl 1 rfl) ?_
    refine lv_iload_n hx hb dL_acts_77 rfl (lv_at hl 3 rfl) ?_
    refine lv_iload_n hx hb dL_acts_78 rfl (lv_at hl 4 rfl) ?_
    obtain ⟨M21, x22, g23, h⟩ := ce_b2_e h
    refine ce_callCi (As := [.ref (b + a1), .int a3, .int a4]) (rest := []) hx hb hml hown hB (c_L_sent l hfl X G b ha1 g23) ce_s_L_sent ce_w812 ⟨Nat.le_of_ble_eq_true rfl, Nat.le_of_ble_eq_true rfl⟩ hF hA hS hl rfl rfl (Nat.le_of_ble_eq_true rfl) dL_acts_79 ⟨Nat.le_of_ble_eq_true rfl, Nat.le_of_ble_eq_true rfl⟩ (fun H locs hA hS => ?_)
    obtain ⟨z24, h⟩ := ce_gz_e h
    cases h
    exact ce_zretC hx hb hr hlocks z24 hA hS (Nat.le_of_ble_eq_true rfl) (Nat.le_of_ble_eq_true rfl) dL_acts_82
  have h := ce_ie c20 h
  by_cases c25 : a2 = 4
  · have h := ce_it c25 h
    refine lv_tableIn (off := 71) (tgt := 83) hx hb dL_acts_12 (by rw [c25]; decide) (by rw [c25]; decide) (by rw [c25]; rfl) (by decide) ?_
    refine lv_aload_n hx hb dL_acts_83 rfl (lv_at hl 1 rfl) ?_
    refine lv_iload hx hb dL_acts_84 (lv_at hl 0 rfl) ?_
    refine lv_iconst (v := 2) hx hb dL_acts_86 (by decide) ?_
    obtain ⟨x26, g27, h⟩ := ce_b1_e h
    refine ce_callWi (As := [.ref (b + a1), .int x3, .int 2]) (rest := []) hx hb hml hown hB (c0_L_one l hfl X G b ha1 g27) ce_s_L_one ce_w619 ⟨Nat.le_of_ble_eq_true rfl, Nat.le_of_ble_eq_true rfl⟩ hF hA hS hl rfl rfl (Nat.le_of_ble_eq_true rfl) dL_acts_87 ⟨Nat.le_of_ble_eq_true rfl, Nat.le_of_ble_eq_true rfl⟩ (fun H locs hA hS => ?_)
    refine lv_istore (lv' := [(5, .int x26), (4, .int x3), (0, .ref (b + a1)), (1, .int a2), (2, .int a3), (3, .int a4)]) hx hb dL_acts_90 hl (by decide) rfl (fun ls hl => ?_)
    refine lv_iload_n hx hb dL_acts_92 rfl (lv_at hl 5 rfl) ?_
    refine lv_bipush (v := 16) hx hb dL_acts_93 (by decide) ?_
    obtain ⟨x28, g29, h⟩ := ce_b1_e h
    refine ce_callSi (As := [.int a4, .int 16]) (rest := []) hx hb hml hown hB (c_L_low l X G b  g29) ce_s_L_low ce_w240 ⟨Nat.le_of_ble_eq_true rfl, Nat.le_of_ble_eq_true rfl⟩ hF hA hS hl rfl rfl (Nat.le_of_ble_eq_true rfl) dL_acts_95 ⟨Nat.le_of_ble_eq_true rfl, Nat.le_of_ble_eq_true rfl⟩ (fun H locs hA hS => ?_)
    refine lv_istore (lv' := [(6, .int x28), (5, .int x26), (4, .int x3), (0, .ref (b + a1)), (1, .int a2), (2, .int a3), (3, .int a4)]) hx hb dL_acts_98 hl (by decide) rfl (fun ls hl => ?_)
    refine lv_aload_n hx hb dL_acts_100 rfl (lv_at hl 3 rfl) ?_
    refine lv_iload hx hb dL_acts_101 (lv_at hl 2 rfl) ?_
    refine lv_iload hx hb dL_acts_103 (lv_at hl 0 rfl) ?_
    obtain ⟨M30, x31, g32, h⟩ := ce_b2_e h
    refine ce_callWi (As := [.ref (b + a1), .int x3, .int x28]) (rest := []) hx hb hml hown hB (c_L_goes l hfl X G b ha1 g32) ce_s_L_goes ce_w696 ⟨Nat.le_of_ble_eq_true rfl, Nat.le_of_ble_eq_true rfl⟩ hF hA hS hl rfl rfl (Nat.le_of_ble_eq_true rfl) dL_acts_105 ⟨Nat.le_of_ble_eq_true rfl, Nat.le_of_ble_eq_true rfl⟩ (fun H locs hA hS => ?_)
    refine lv_istore (lv' := [(7, .int x31), (6, .int x28), (5, .int x26), (4, .int x3), (0, .ref (b + a1)), (1, .int a2), (2, .int a3), (3, .int a4)]) hx hb dL_acts_108 hl (by decide) rfl (fun ls hl => ?_)
    refine lv_iload hx hb dL_acts_110 (lv_at hl 0 rfl) ?_
    refine lv_aload_n hx hb dL_acts_112 rfl (lv_at hl 4 rfl) ?_
    refine lv_iload hx hb dL_acts_113 (lv_at hl 3 rfl) ?_
    refine lv_iconst (v := 5) hx hb dL_acts_115 (by decide) ?_
    obtain ⟨x33, g34, h⟩ := ce_b1_e h
    refine ce_callWi (As := [.ref (b + a1), .int x3, .int 5]) (rest := [.int x31]) hx hb hml hown hB (c0_L_one l hfl X G b ha1 g34) ce_s_L_one ce_w619 ⟨Nat.le_of_ble_eq_true rfl, Nat.le_of_ble_eq_true rfl⟩ hF hA hS hl rfl rfl (Nat.le_of_ble_eq_true rfl) dL_acts_116 ⟨Nat.le_of_ble_eq_true rfl, Nat.le_of_ble_eq_true rfl⟩ (fun H locs hA hS => ?_)
    obtain ⟨u38, e49, h⟩ := ce_nm_e h
    have Ju38 : ∀ (x37 : Int32), u38 x37 = some (M', r) → ce_Wg p l e (ce_R 11 238 13 88) s m (([.ref (b + a1), .int a2, .int a3, .int a4] : List Value).toArray) below meth c 3 18 (MQ below (ce_Q X b M' (some (.int r))) ([.ref (b + a1), .int a2, .int a3, .int a4] : List Value).toArray s 13 88 (ce_Ab b)) X b M30 9 [(0, .ref (b + a1)), (4, .int x3), (6, .int x28), (7, .int x31)] 147 [.int x37, .int x31] := by
      intro x37 h  H locs ls hA hS hl
      subst e49
      refine lv_icmp_ne (tgt := 186) hx hb dL_acts_147 (by decide) (fun c39 => ?_) (fun c39 => ?_)
      · have h := ce_ie c39 h
        refine lv_iconst (v := 0) hx hb dL_acts_186 (by decide) ?_
        cases h
        exact ce_zretC hx hb hr hlocks (Or.inl rfl) hA hS (Nat.le_of_ble_eq_true rfl) (Nat.le_of_ble_eq_true rfl) dL_acts_187
      · have h := ce_it c39 h
        refine lv_iload hx hb dL_acts_150 (lv_at hl 3 rfl) ?_
        refine lv_if_lt (tgt := 182) hx hb dL_acts_152 (by decide) (fun c40 => ?_) (fun c40 => ?_)
        · have h := ce_it c40 h
          refine lv_iconst (v := 1) hx hb dL_acts_182 (by decide) ?_
          refine lv_goto (tgt := 187) hx hb dL_acts_183 (by decide) ?_
          cases h
          exact ce_zretC hx hb hr hlocks (Or.inr rfl) hA hS (Nat.le_of_ble_eq_true rfl) (Nat.le_of_ble_eq_true rfl) dL_acts_187
        · have h := ce_ie c40 h
          refine lv_aload_n hx hb dL_acts_155 rfl (lv_at hl 0 rfl) ?_
          refine lv_iload hx hb dL_acts_156 (lv_at hl 1 rfl) ?_
          refine lv_iconst (v := 2) hx hb dL_acts_158 (by decide) ?_
          obtain ⟨x41, g42, h⟩ := ce_b1_e h
          refine ce_callWi (As := [.ref (b + a1), .int x3, .int 2]) (rest := []) hx hb hml hown hB (c0_L_one l hfl X G b ha1 g42) ce_s_L_one ce_w619 ⟨Nat.le_of_ble_eq_true rfl, Nat.le_of_ble_eq_true rfl⟩ hF hA hS hl rfl rfl (Nat.le_of_ble_eq_true rfl) dL_acts_159 ⟨Nat.le_of_ble_eq_true rfl, Nat.le_of_ble_eq_true rfl⟩ (fun H locs hA hS => ?_)
          refine lv_iload hx hb dL_acts_162 (lv_at hl 2 rfl) ?_
          refine lv_icmp_ne (tgt := 186) hx hb dL_acts_164 (by decide) (fun c43 => ?_) (fun c43 => ?_)
          · have h := ce_ie c43 h
            refine lv_iconst (v := 0) hx hb dL_acts_186 (by decide) ?_
            cases h
            exact ce_zretC hx hb hr hlocks (Or.inl rfl) hA hS (Nat.le_of_ble_eq_true rfl) (Nat.le_of_ble_eq_true rfl) dL_acts_187
          · have h := ce_it c43 h
            refine lv_aload_n hx hb dL_acts_167 rfl (lv_at hl 0 rfl) ?_
            refine lv_iload hx hb dL_acts_168 (lv_at hl 1 rfl) ?_
            refine lv_iconst (v := 3) hx hb dL_acts_170 (by decide) ?_
            obtain ⟨x44, g45, h⟩ := ce_b1_e h
            refine ce_callWi (As := [.ref (b + a1), .int x3, .int 3]) (rest := []) hx hb hml hown hB (c0_L_one l hfl X G b ha1 g45) ce_s_L_one ce_w619 ⟨Nat.le_of_ble_eq_true rfl, Nat.le_of_ble_eq_true rfl⟩ hF hA hS hl rfl rfl (Nat.le_of_ble_eq_true rfl) dL_acts_171 ⟨Nat.le_of_ble_eq_true rfl, Nat.le_of_ble_eq_true rfl⟩ (fun H locs hA hS => ?_)
            refine lv_aload_n hx hb dL_acts_174 rfl (lv_at hl 0 rfl) ?_
            refine lv_iconst (v := 3) hx hb dL_acts_175 (by decide) ?_
            obtain ⟨x46, g47, h⟩ := ce_b1_e h
            refine ce_callWi (As := [.ref (b + a1), .int 3]) (rest := [.int x44]) hx hb hml hown hB (c0_L_whole l hfl X G b ha1 g47) ce_s_L_whole ce_w579 ⟨Nat.le_of_ble_eq_true rfl, Nat.le_of_ble_eq_true rfl⟩ hF hA hS hl rfl rfl (Nat.le_of_ble_eq_true rfl) dL_acts_176 ⟨Nat.le_of_ble_eq_true rfl, Nat.le_of_ble_eq_true rfl⟩ (fun H locs hA hS => ?_)
            refine lv_icmp_ne (tgt := 186) hx hb dL_acts_179 (by decide) (fun c48 => ?_) (fun c48 => ?_)
            · have h := ce_ie c48 h
              refine lv_iconst (v := 0) hx hb dL_acts_186 (by decide) ?_
              cases h
              exact ce_zretC hx hb hr hlocks (Or.inl rfl) hA hS (Nat.le_of_ble_eq_true rfl) (Nat.le_of_ble_eq_true rfl) dL_acts_187
            · have h := ce_it c48 h
              refine lv_iconst (v := 1) hx hb dL_acts_182 (by decide) ?_
              refine lv_goto (tgt := 187) hx hb dL_acts_183 (by decide) ?_
              cases h
              exact ce_zretC hx hb hr hlocks (Or.inr rfl) hA hS (Nat.le_of_ble_eq_true rfl) (Nat.le_of_ble_eq_true rfl) dL_acts_187
    obtain ⟨u35, e50, h⟩ := ce_nm_e h
    have Ju35 : ∀ (z36 : Unit), u35 z36 = some (M', r) → ce_Wg p l e (ce_R 11 238 13 88) s m (([.ref (b + a1), .int a2, .int a3, .int a4] : List Value).toArray) below meth c 3 18 (MQ below (ce_Q X b M' (some (.int r))) ([.ref (b + a1), .int a2, .int a3, .int a4] : List Value).toArray s 13 88 (ce_Ab b)) X b M30 9 [(0, .ref (b + a1)), (4, .int x3), (6, .int x28), (7, .int x31)] 140 [.int x31] := by
      intro z36 h  H locs ls hA hS hl
      subst e50
      refine lv_ldc (v := (-900000002)) hx hb hown (hB _ ce_w557) dL_acts_140 ?_
      refine lv_goto (tgt := 147) hx hb dL_acts_142 (by decide) ?_
      exact Ju38 (-900000002) h  _ _ _ hA hS (lv_sub hl [0, 1, 2, 3] rfl)
    refine lv_if_eq (tgt := 140) hx hb dL_acts_119 (by decide) (fun c51 => ?_) (fun c51 => ?_)
    · have h := ce_it c51 h
      exact Ju35 () h  _ _ _ hA hS (lv_sub hl [4, 3, 1, 0] rfl)
    · have h := ce_ie c51 h
      refine lv_aload_n hx hb dL_acts_122 rfl (lv_at hl 4 rfl) ?_
      refine lv_iload hx hb dL_acts_123 (lv_at hl 3 rfl) ?_
      refine lv_iconst (v := 0) hx hb dL_acts_125 (by decide) ?_
      obtain ⟨x52, g53, h⟩ := ce_b1_e h
      refine ce_callWi (As := [.ref (b + a1), .int x3, .int 0]) (rest := [.int x31]) hx hb hml hown hB (c0_L_one l hfl X G b ha1 g53) ce_s_L_one ce_w619 ⟨Nat.le_of_ble_eq_true rfl, Nat.le_of_ble_eq_true rfl⟩ hF hA hS hl rfl rfl (Nat.le_of_ble_eq_true rfl) dL_acts_126 ⟨Nat.le_of_ble_eq_true rfl, Nat.le_of_ble_eq_true rfl⟩ (fun H locs hA hS => ?_)
      refine lv_iconst (v := 2) hx hb dL_acts_129 (by decide) ?_
      refine lv_icmp_eq (tgt := 140) hx hb dL_acts_130 (by decide) (fun c54 => ?_) (fun c54 => ?_)
      · have h := ce_it c54 h
        exact Ju35 () h  _ _ _ hA hS (lv_sub hl [4, 3, 1, 0] rfl)
      · have h := ce_ie c54 h
        refine lv_iload hx hb dL_acts_133 (lv_at hl 2 rfl) ?_
        refine lv_iload hx hb dL_acts_135 (lv_at hl 1 rfl) ?_
        refine lv_icmp_ne (tgt := 145) hx hb dL_acts_137 (by decide) (fun c55 => ?_) (fun c55 => ?_)
        · have h := ce_ie c55 h
          refine lv_iload hx hb dL_acts_145 (lv_at hl 2 rfl) ?_
          exact Ju38 x26 h  _ _ _ hA hS (lv_sub hl [4, 3, 1, 0] rfl)
        · have h := ce_it c55 h
          exact Ju35 () h  _ _ _ hA hS (lv_sub hl [4, 3, 1, 0] rfl)
  have h := ce_ie c25 h
  by_cases c56 : a2 = 5
  · have h := ce_it c56 h
    refine lv_tableIn (off := 71) (tgt := 83) hx hb dL_acts_12 (by rw [c56]; decide) (by rw [c56]; decide) (by rw [c56]; rfl) (by decide) ?_
    refine lv_aload_n hx hb dL_acts_83 rfl (lv_at hl 1 rfl) ?_
    refine lv_iload hx hb dL_acts_84 (lv_at hl 0 rfl) ?_
    refine lv_iconst (v := 2) hx hb dL_acts_86 (by decide) ?_
    obtain ⟨x57, g58, h⟩ := ce_b1_e h
    refine ce_callWi (As := [.ref (b + a1), .int x3, .int 2]) (rest := []) hx hb hml hown hB (c0_L_one l hfl X G b ha1 g58) ce_s_L_one ce_w619 ⟨Nat.le_of_ble_eq_true rfl, Nat.le_of_ble_eq_true rfl⟩ hF hA hS hl rfl rfl (Nat.le_of_ble_eq_true rfl) dL_acts_87 ⟨Nat.le_of_ble_eq_true rfl, Nat.le_of_ble_eq_true rfl⟩ (fun H locs hA hS => ?_)
    refine lv_istore (lv' := [(5, .int x57), (4, .int x3), (0, .ref (b + a1)), (1, .int a2), (2, .int a3), (3, .int a4)]) hx hb dL_acts_90 hl (by decide) rfl (fun ls hl => ?_)
    refine lv_iload_n hx hb dL_acts_92 rfl (lv_at hl 5 rfl) ?_
    refine lv_bipush (v := 16) hx hb dL_acts_93 (by decide) ?_
    obtain ⟨x59, g60, h⟩ := ce_b1_e h
    refine ce_callSi (As := [.int a4, .int 16]) (rest := []) hx hb hml hown hB (c_L_low l X G b  g60) ce_s_L_low ce_w240 ⟨Nat.le_of_ble_eq_true rfl, Nat.le_of_ble_eq_true rfl⟩ hF hA hS hl rfl rfl (Nat.le_of_ble_eq_true rfl) dL_acts_95 ⟨Nat.le_of_ble_eq_true rfl, Nat.le_of_ble_eq_true rfl⟩ (fun H locs hA hS => ?_)
    refine lv_istore (lv' := [(6, .int x59), (5, .int x57), (4, .int x3), (0, .ref (b + a1)), (1, .int a2), (2, .int a3), (3, .int a4)]) hx hb dL_acts_98 hl (by decide) rfl (fun ls hl => ?_)
    refine lv_aload_n hx hb dL_acts_100 rfl (lv_at hl 3 rfl) ?_
    refine lv_iload hx hb dL_acts_101 (lv_at hl 2 rfl) ?_
    refine lv_iload hx hb dL_acts_103 (lv_at hl 0 rfl) ?_
    obtain ⟨M61, x62, g63, h⟩ := ce_b2_e h
    refine ce_callWi (As := [.ref (b + a1), .int x3, .int x59]) (rest := []) hx hb hml hown hB (c_L_goes l hfl X G b ha1 g63) ce_s_L_goes ce_w696 ⟨Nat.le_of_ble_eq_true rfl, Nat.le_of_ble_eq_true rfl⟩ hF hA hS hl rfl rfl (Nat.le_of_ble_eq_true rfl) dL_acts_105 ⟨Nat.le_of_ble_eq_true rfl, Nat.le_of_ble_eq_true rfl⟩ (fun H locs hA hS => ?_)
    refine lv_istore (lv' := [(7, .int x62), (6, .int x59), (5, .int x57), (4, .int x3), (0, .ref (b + a1)), (1, .int a2), (2, .int a3), (3, .int a4)]) hx hb dL_acts_108 hl (by decide) rfl (fun ls hl => ?_)
    refine lv_iload hx hb dL_acts_110 (lv_at hl 0 rfl) ?_
    refine lv_aload_n hx hb dL_acts_112 rfl (lv_at hl 4 rfl) ?_
    refine lv_iload hx hb dL_acts_113 (lv_at hl 3 rfl) ?_
    refine lv_iconst (v := 5) hx hb dL_acts_115 (by decide) ?_
    obtain ⟨x64, g65, h⟩ := ce_b1_e h
    refine ce_callWi (As := [.ref (b + a1), .int x3, .int 5]) (rest := [.int x62]) hx hb hml hown hB (c0_L_one l hfl X G b ha1 g65) ce_s_L_one ce_w619 ⟨Nat.le_of_ble_eq_true rfl, Nat.le_of_ble_eq_true rfl⟩ hF hA hS hl rfl rfl (Nat.le_of_ble_eq_true rfl) dL_acts_116 ⟨Nat.le_of_ble_eq_true rfl, Nat.le_of_ble_eq_true rfl⟩ (fun H locs hA hS => ?_)
    obtain ⟨u69, e80, h⟩ := ce_nm_e h
    have Ju69 : ∀ (x68 : Int32), u69 x68 = some (M', r) → ce_Wg p l e (ce_R 11 238 13 88) s m (([.ref (b + a1), .int a2, .int a3, .int a4] : List Value).toArray) below meth c 3 18 (MQ below (ce_Q X b M' (some (.int r))) ([.ref (b + a1), .int a2, .int a3, .int a4] : List Value).toArray s 13 88 (ce_Ab b)) X b M61 9 [(0, .ref (b + a1)), (4, .int x3), (6, .int x59), (7, .int x62)] 147 [.int x68, .int x62] := by
      intro x68 h  H locs ls hA hS hl
      subst e80
      refine lv_icmp_ne (tgt := 186) hx hb dL_acts_147 (by decide) (fun c70 => ?_) (fun c70 => ?_)
      · have h := ce_ie c70 h
        refine lv_iconst (v := 0) hx hb dL_acts_186 (by decide) ?_
        cases h
        exact ce_zretC hx hb hr hlocks (Or.inl rfl) hA hS (Nat.le_of_ble_eq_true rfl) (Nat.le_of_ble_eq_true rfl) dL_acts_187
      · have h := ce_it c70 h
        refine lv_iload hx hb dL_acts_150 (lv_at hl 3 rfl) ?_
        refine lv_if_lt (tgt := 182) hx hb dL_acts_152 (by decide) (fun c71 => ?_) (fun c71 => ?_)
        · have h := ce_it c71 h
          refine lv_iconst (v := 1) hx hb dL_acts_182 (by decide) ?_
          refine lv_goto (tgt := 187) hx hb dL_acts_183 (by decide) ?_
          cases h
          exact ce_zretC hx hb hr hlocks (Or.inr rfl) hA hS (Nat.le_of_ble_eq_true rfl) (Nat.le_of_ble_eq_true rfl) dL_acts_187
        · have h := ce_ie c71 h
          refine lv_aload_n hx hb dL_acts_155 rfl (lv_at hl 0 rfl) ?_
          refine lv_iload hx hb dL_acts_156 (lv_at hl 1 rfl) ?_
          refine lv_iconst (v := 2) hx hb dL_acts_158 (by decide) ?_
          obtain ⟨x72, g73, h⟩ := ce_b1_e h
          refine ce_callWi (As := [.ref (b + a1), .int x3, .int 2]) (rest := []) hx hb hml hown hB (c0_L_one l hfl X G b ha1 g73) ce_s_L_one ce_w619 ⟨Nat.le_of_ble_eq_true rfl, Nat.le_of_ble_eq_true rfl⟩ hF hA hS hl rfl rfl (Nat.le_of_ble_eq_true rfl) dL_acts_159 ⟨Nat.le_of_ble_eq_true rfl, Nat.le_of_ble_eq_true rfl⟩ (fun H locs hA hS => ?_)
          refine lv_iload hx hb dL_acts_162 (lv_at hl 2 rfl) ?_
          refine lv_icmp_ne (tgt := 186) hx hb dL_acts_164 (by decide) (fun c74 => ?_) (fun c74 => ?_)
          · have h := ce_ie c74 h
            refine lv_iconst (v := 0) hx hb dL_acts_186 (by decide) ?_
            cases h
            exact ce_zretC hx hb hr hlocks (Or.inl rfl) hA hS (Nat.le_of_ble_eq_true rfl) (Nat.le_of_ble_eq_true rfl) dL_acts_187
          · have h := ce_it c74 h
            refine lv_aload_n hx hb dL_acts_167 rfl (lv_at hl 0 rfl) ?_
            refine lv_iload hx hb dL_acts_168 (lv_at hl 1 rfl) ?_
            refine lv_iconst (v := 3) hx hb dL_acts_170 (by decide) ?_
            obtain ⟨x75, g76, h⟩ := ce_b1_e h
            refine ce_callWi (As := [.ref (b + a1), .int x3, .int 3]) (rest := []) hx hb hml hown hB (c0_L_one l hfl X G b ha1 g76) ce_s_L_one ce_w619 ⟨Nat.le_of_ble_eq_true rfl, Nat.le_of_ble_eq_true rfl⟩ hF hA hS hl rfl rfl (Nat.le_of_ble_eq_true rfl) dL_acts_171 ⟨Nat.le_of_ble_eq_true rfl, Nat.le_of_ble_eq_true rfl⟩ (fun H locs hA hS => ?_)
            refine lv_aload_n hx hb dL_acts_174 rfl (lv_at hl 0 rfl) ?_
            refine lv_iconst (v := 3) hx hb dL_acts_175 (by decide) ?_
            obtain ⟨x77, g78, h⟩ := ce_b1_e h
            refine ce_callWi (As := [.ref (b + a1), .int 3]) (rest := [.int x75]) hx hb hml hown hB (c0_L_whole l hfl X G b ha1 g78) ce_s_L_whole ce_w579 ⟨Nat.le_of_ble_eq_true rfl, Nat.le_of_ble_eq_true rfl⟩ hF hA hS hl rfl rfl (Nat.le_of_ble_eq_true rfl) dL_acts_176 ⟨Nat.le_of_ble_eq_true rfl, Nat.le_of_ble_eq_true rfl⟩ (fun H locs hA hS => ?_)
            refine lv_icmp_ne (tgt := 186) hx hb dL_acts_179 (by decide) (fun c79 => ?_) (fun c79 => ?_)
            · have h := ce_ie c79 h
              refine lv_iconst (v := 0) hx hb dL_acts_186 (by decide) ?_
              cases h
              exact ce_zretC hx hb hr hlocks (Or.inl rfl) hA hS (Nat.le_of_ble_eq_true rfl) (Nat.le_of_ble_eq_true rfl) dL_acts_187
            · have h := ce_it c79 h
              refine lv_iconst (v := 1) hx hb dL_acts_182 (by decide) ?_
              refine lv_goto (tgt := 187) hx hb dL_acts_183 (by decide) ?_
              cases h
              exact ce_zretC hx hb hr hlocks (Or.inr rfl) hA hS (Nat.le_of_ble_eq_true rfl) (Nat.le_of_ble_eq_true rfl) dL_acts_187
    obtain ⟨u66, e81, h⟩ := ce_nm_e h
    have Ju66 : ∀ (z67 : Unit), u66 z67 = some (M', r) → ce_Wg p l e (ce_R 11 238 13 88) s m (([.ref (b + a1), .int a2, .int a3, .int a4] : List Value).toArray) below meth c 3 18 (MQ below (ce_Q X b M' (some (.int r))) ([.ref (b + a1), .int a2, .int a3, .int a4] : List Value).toArray s 13 88 (ce_Ab b)) X b M61 9 [(0, .ref (b + a1)), (4, .int x3), (6, .int x59), (7, .int x62)] 140 [.int x62] := by
      intro z67 h  H locs ls hA hS hl
      subst e81
      refine lv_ldc (v := (-900000002)) hx hb hown (hB _ ce_w557) dL_acts_140 ?_
      refine lv_goto (tgt := 147) hx hb dL_acts_142 (by decide) ?_
      exact Ju69 (-900000002) h  _ _ _ hA hS (lv_sub hl [0, 1, 2, 3] rfl)
    refine lv_if_eq (tgt := 140) hx hb dL_acts_119 (by decide) (fun c82 => ?_) (fun c82 => ?_)
    · have h := ce_it c82 h
      exact Ju66 () h  _ _ _ hA hS (lv_sub hl [4, 3, 1, 0] rfl)
    · have h := ce_ie c82 h
      refine lv_aload_n hx hb dL_acts_122 rfl (lv_at hl 4 rfl) ?_
      refine lv_iload hx hb dL_acts_123 (lv_at hl 3 rfl) ?_
      refine lv_iconst (v := 0) hx hb dL_acts_125 (by decide) ?_
      obtain ⟨x83, g84, h⟩ := ce_b1_e h
      refine ce_callWi (As := [.ref (b + a1), .int x3, .int 0]) (rest := [.int x62]) hx hb hml hown hB (c0_L_one l hfl X G b ha1 g84) ce_s_L_one ce_w619 ⟨Nat.le_of_ble_eq_true rfl, Nat.le_of_ble_eq_true rfl⟩ hF hA hS hl rfl rfl (Nat.le_of_ble_eq_true rfl) dL_acts_126 ⟨Nat.le_of_ble_eq_true rfl, Nat.le_of_ble_eq_true rfl⟩ (fun H locs hA hS => ?_)
      refine lv_iconst (v := 2) hx hb dL_acts_129 (by decide) ?_
      refine lv_icmp_eq (tgt := 140) hx hb dL_acts_130 (by decide) (fun c85 => ?_) (fun c85 => ?_)
      · have h := ce_it c85 h
        exact Ju66 () h  _ _ _ hA hS (lv_sub hl [4, 3, 1, 0] rfl)
      · have h := ce_ie c85 h
        refine lv_iload hx hb dL_acts_133 (lv_at hl 2 rfl) ?_
        refine lv_iload hx hb dL_acts_135 (lv_at hl 1 rfl) ?_
        refine lv_icmp_ne (tgt := 145) hx hb dL_acts_137 (by decide) (fun c86 => ?_) (fun c86 => ?_)
        · have h := ce_ie c86 h
          refine lv_iload hx hb dL_acts_145 (lv_at hl 2 rfl) ?_
          exact Ju69 x57 h  _ _ _ hA hS (lv_sub hl [4, 3, 1, 0] rfl)
        · have h := ce_it c86 h
          exact Ju66 () h  _ _ _ hA hS (lv_sub hl [4, 3, 1, 0] rfl)
  have h := ce_ie c56 h
  by_cases c87 : a2 = 6
  · have h := ce_it c87 h
    refine lv_tableIn (off := 176) (tgt := 188) hx hb dL_acts_12 (by rw [c87]; decide) (by rw [c87]; decide) (by rw [c87]; rfl) (by decide) ?_
    refine lv_aload_n hx hb dL_acts_188 rfl (lv_at hl 1 rfl) ?_
    obtain ⟨M88, x89, g90, h⟩ := ce_b2_e h
    refine ce_callCi (As := [.ref (b + a1)]) (rest := []) hx hb hml hown hB (c_L_ticked l hfl X G b ha1 g90) ce_s_L_ticked ce_w815 ⟨Nat.le_of_ble_eq_true rfl, Nat.le_of_ble_eq_true rfl⟩ hF hA hS hl rfl rfl (Nat.le_of_ble_eq_true rfl) dL_acts_189 ⟨Nat.le_of_ble_eq_true rfl, Nat.le_of_ble_eq_true rfl⟩ (fun H locs hA hS => ?_)
    obtain ⟨z91, h⟩ := ce_gz_e h
    cases h
    exact ce_zretC hx hb hr hlocks z91 hA hS (Nat.le_of_ble_eq_true rfl) (Nat.le_of_ble_eq_true rfl) dL_acts_192
  have h := ce_ie c87 h
  by_cases c92 : a2 = 7
  · have h := ce_it c92 h
    refine lv_tableIn (off := 176) (tgt := 188) hx hb dL_acts_12 (by rw [c92]; decide) (by rw [c92]; decide) (by rw [c92]; rfl) (by decide) ?_
    refine lv_aload_n hx hb dL_acts_188 rfl (lv_at hl 1 rfl) ?_
    obtain ⟨M93, x94, g95, h⟩ := ce_b2_e h
    refine ce_callCi (As := [.ref (b + a1)]) (rest := []) hx hb hml hown hB (c_L_ticked l hfl X G b ha1 g95) ce_s_L_ticked ce_w815 ⟨Nat.le_of_ble_eq_true rfl, Nat.le_of_ble_eq_true rfl⟩ hF hA hS hl rfl rfl (Nat.le_of_ble_eq_true rfl) dL_acts_189 ⟨Nat.le_of_ble_eq_true rfl, Nat.le_of_ble_eq_true rfl⟩ (fun H locs hA hS => ?_)
    obtain ⟨z96, h⟩ := ce_gz_e h
    cases h
    exact ce_zretC hx hb hr hlocks z96 hA hS (Nat.le_of_ble_eq_true rfl) (Nat.le_of_ble_eq_true rfl) dL_acts_192
  have h := ce_ie c92 h
  by_cases c97 : a2 = 8
  · have h := ce_it c97 h
    refine lv_tableIn (off := 176) (tgt := 188) hx hb dL_acts_12 (by rw [c97]; decide) (by rw [c97]; decide) (by rw [c97]; rfl) (by decide) ?_
    refine lv_aload_n hx hb dL_acts_188 rfl (lv_at hl 1 rfl) ?_
    obtain ⟨M98, x99, g100, h⟩ := ce_b2_e h
    refine ce_callCi (As := [.ref (b + a1)]) (rest := []) hx hb hml hown hB (c_L_ticked l hfl X G b ha1 g100) ce_s_L_ticked ce_w815 ⟨Nat.le_of_ble_eq_true rfl, Nat.le_of_ble_eq_true rfl⟩ hF hA hS hl rfl rfl (Nat.le_of_ble_eq_true rfl) dL_acts_189 ⟨Nat.le_of_ble_eq_true rfl, Nat.le_of_ble_eq_true rfl⟩ (fun H locs hA hS => ?_)
    obtain ⟨z101, h⟩ := ce_gz_e h
    cases h
    exact ce_zretC hx hb hr hlocks z101 hA hS (Nat.le_of_ble_eq_true rfl) (Nat.le_of_ble_eq_true rfl) dL_acts_192
  have h := ce_ie c97 h
  by_cases c102 : a2 = 9
  · have h := ce_it c102 h
    refine lv_tableIn (off := 181) (tgt := 193) hx hb dL_acts_12 (by rw [c102]; decide) (by rw [c102]; decide) (by rw [c102]; rfl) (by decide) ?_
    refine lv_aload_n hx hb dL_acts_193 rfl (lv_at hl 1 rfl) ?_
    refine lv_iload hx hb dL_acts_194 (lv_at hl 0 rfl) ?_
    refine lv_iconst (v := 1) hx hb dL_acts_196 (by decide) ?_
    obtain ⟨x103, g104, h⟩ := ce_b1_e h
    refine ce_callWi (As := [.ref (b + a1), .int x3, .int 1]) (rest := []) hx hb hml hown hB (c0_L_one l hfl X G b ha1 g104) ce_s_L_one ce_w619 ⟨Nat.le_of_ble_eq_true rfl, Nat.le_of_ble_eq_true rfl⟩ hF hA hS hl rfl rfl (Nat.le_of_ble_eq_true rfl) dL_acts_197 ⟨Nat.le_of_ble_eq_true rfl, Nat.le_of_ble_eq_true rfl⟩ (fun H locs hA hS => ?_)
    refine lv_istore (lv' := [(5, .int x103), (4, .int x3), (0, .ref (b + a1)), (1, .int a2), (2, .int a3), (3, .int a4)]) hx hb dL_acts_200 hl (by decide) rfl (fun ls hl => ?_)
    refine lv_aload_n hx hb dL_acts_202 rfl (lv_at hl 2 rfl) ?_
    refine lv_iload hx hb dL_acts_203 (lv_at hl 1 rfl) ?_
    refine lv_iload_n hx hb dL_acts_205 rfl (lv_at hl 5 rfl) ?_
    refine lv_iconst (v := 3) hx hb dL_acts_206 (by decide) ?_
    obtain ⟨x105, g106, h⟩ := ce_b1_e h
    refine ce_callSi (As := [.int a4, .int 3]) (rest := [.int x3, .ref (b + a1)]) hx hb hml hown hB (c_L_low l X G b  g106) ce_s_L_low ce_w240 ⟨Nat.le_of_ble_eq_true rfl, Nat.le_of_ble_eq_true rfl⟩ hF hA hS hl rfl rfl (Nat.le_of_ble_eq_true rfl) dL_acts_207 ⟨Nat.le_of_ble_eq_true rfl, Nat.le_of_ble_eq_true rfl⟩ (fun H locs hA hS => ?_)
    obtain ⟨M107, x108, g109, h⟩ := ce_b2_e h
    refine ce_callWi (As := [.ref (b + a1), .int x3, .int x105]) (rest := []) hx hb hml hown hB (c0_L_levels l hfl X G b ha1 g109) ce_s_L_levels ce_w710 ⟨Nat.le_of_ble_eq_true rfl, Nat.le_of_ble_eq_true rfl⟩ hF hA hS hl rfl rfl (Nat.le_of_ble_eq_true rfl) dL_acts_210 ⟨Nat.le_of_ble_eq_true rfl, Nat.le_of_ble_eq_true rfl⟩ (fun H locs hA hS => ?_)
    refine lv_iload hx hb dL_acts_213 (lv_at hl 0 rfl) ?_
    refine lv_icmp_ne (tgt := 237) hx hb dL_acts_215 (by decide) (fun c110 => ?_) (fun c110 => ?_)
    · have h := ce_ie c110 h
      refine lv_iconst (v := 0) hx hb dL_acts_237 (by decide) ?_
      cases h
      exact ce_zretC hx hb hr hlocks (Or.inl rfl) hA hS (Nat.le_of_ble_eq_true rfl) (Nat.le_of_ble_eq_true rfl) dL_acts_238
    · have h := ce_it c110 h
      refine lv_aload_n hx hb dL_acts_218 rfl (lv_at hl 2 rfl) ?_
      refine lv_iload hx hb dL_acts_219 (lv_at hl 1 rfl) ?_
      refine lv_iconst (v := 1) hx hb dL_acts_221 (by decide) ?_
      obtain ⟨x111, g112, h⟩ := ce_b1_e h
      refine ce_callWi (As := [.ref (b + a1), .int x3, .int 1]) (rest := []) hx hb hml hown hB (c0_L_one l hfl X G b ha1 g112) ce_s_L_one ce_w619 ⟨Nat.le_of_ble_eq_true rfl, Nat.le_of_ble_eq_true rfl⟩ hF hA hS hl rfl rfl (Nat.le_of_ble_eq_true rfl) dL_acts_222 ⟨Nat.le_of_ble_eq_true rfl, Nat.le_of_ble_eq_true rfl⟩ (fun H locs hA hS => ?_)
      refine lv_iload_n hx hb dL_acts_225 rfl (lv_at hl 5 rfl) ?_
      refine lv_iconst (v := 3) hx hb dL_acts_226 (by decide) ?_
      obtain ⟨x113, g114, h⟩ := ce_b1_e h
      refine ce_callSi (As := [.int a4, .int 3]) (rest := [.int x111]) hx hb hml hown hB (c_L_low l X G b  g114) ce_s_L_low ce_w240 ⟨Nat.le_of_ble_eq_true rfl, Nat.le_of_ble_eq_true rfl⟩ hF hA hS hl rfl rfl (Nat.le_of_ble_eq_true rfl) dL_acts_227 ⟨Nat.le_of_ble_eq_true rfl, Nat.le_of_ble_eq_true rfl⟩ (fun H locs hA hS => ?_)
      refine lv_icmp_ne (tgt := 237) hx hb dL_acts_230 (by decide) (fun c115 => ?_) (fun c115 => ?_)
      · have h := ce_ie c115 h
        refine lv_iconst (v := 0) hx hb dL_acts_237 (by decide) ?_
        cases h
        exact ce_zretC hx hb hr hlocks (Or.inl rfl) hA hS (Nat.le_of_ble_eq_true rfl) (Nat.le_of_ble_eq_true rfl) dL_acts_238
      · have h := ce_it c115 h
        refine lv_iconst (v := 1) hx hb dL_acts_233 (by decide) ?_
        refine lv_goto (tgt := 238) hx hb dL_acts_234 (by decide) ?_
        cases h
        exact ce_zretC hx hb hr hlocks (Or.inr rfl) hA hS (Nat.le_of_ble_eq_true rfl) (Nat.le_of_ble_eq_true rfl) dL_acts_238
  have h := ce_ie c102 h
  by_cases c116 : a2 = 10
  · have h := ce_it c116 h
    refine lv_tableIn (off := 227) (tgt := 239) hx hb dL_acts_12 (by rw [c116]; decide) (by rw [c116]; decide) (by rw [c116]; rfl) (by decide) ?_
    refine lv_iload_n hx hb dL_acts_239 rfl (lv_at hl 4 rfl) ?_
    refine lv_iconst (v := 4) hx hb dL_acts_240 (by decide) ?_
    obtain ⟨x117, g118, h⟩ := ce_b1_e h
    refine ce_callSi (As := [.int a4, .int 4]) (rest := []) hx hb hml hown hB (c_L_low l X G b  g118) ce_s_L_low ce_w240 ⟨Nat.le_of_ble_eq_true rfl, Nat.le_of_ble_eq_true rfl⟩ hF hA hS hl rfl rfl (Nat.le_of_ble_eq_true rfl) dL_acts_241 ⟨Nat.le_of_ble_eq_true rfl, Nat.le_of_ble_eq_true rfl⟩ (fun H locs hA hS => ?_)
    refine lv_istore (lv' := [(5, .int x117), (4, .int x3), (0, .ref (b + a1)), (1, .int a2), (2, .int a3), (3, .int a4)]) hx hb dL_acts_244 hl (by decide) rfl (fun ls hl => ?_)
    refine lv_aload_n hx hb dL_acts_246 rfl (lv_at hl 2 rfl) ?_
    refine lv_iconst (v := 4) hx hb dL_acts_247 (by decide) ?_
    refine lv_iload hx hb dL_acts_248 (lv_at hl 0 rfl) ?_
    refine lv_iadd hx hb dL_acts_250 ?_
    obtain ⟨x119, g120, h⟩ := ce_b1_e h
    refine ce_callWi (As := [.ref (b + a1), .int (4 + x117)]) (rest := []) hx hb hml hown hB (c0_L_whole l hfl X G b ha1 g120) ce_s_L_whole ce_w579 ⟨Nat.le_of_ble_eq_true rfl, Nat.le_of_ble_eq_true rfl⟩ hF hA hS hl rfl rfl (Nat.le_of_ble_eq_true rfl) dL_acts_251 ⟨Nat.le_of_ble_eq_true rfl, Nat.le_of_ble_eq_true rfl⟩ (fun H locs hA hS => ?_)
    refine lv_istore (lv' := [(6, .int x119), (5, .int x117), (4, .int x3), (0, .ref (b + a1)), (1, .int a2), (2, .int a3), (3, .int a4)]) hx hb dL_acts_254 hl (by decide) rfl (fun ls hl => ?_)
    refine lv_iload hx hb dL_acts_256 (lv_at hl 1 rfl) ?_
    refine lv_iconst (v := 1) hx hb dL_acts_258 (by decide) ?_
    obtain ⟨u122, e130, h⟩ := ce_nm_e h
    have Ju122 : ∀ (x121 : Int32), u122 x121 = some (M', r) → ce_Wg p l e (ce_R 11 238 13 88) s m (([.ref (b + a1), .int a2, .int a3, .int a4] : List Value).toArray) below meth c 0 0 (MQ below (ce_Q X b M' (some (.int r))) ([.ref (b + a1), .int a2, .int a3, .int a4] : List Value).toArray s 13 88 (ce_Ab b)) X b M 9 [(0, .ref (b + a1)), (5, .int x117), (6, .int x119)] 282 [.int x121] := by
      intro x121 h  H locs ls hA hS hl
      subst e130
      refine lv_istore (lv' := [(7, .int x121), (0, .ref (b + a1)), (5, .int x117), (6, .int x119)]) hx hb dL_acts_282 hl (by decide) rfl (fun ls hl => ?_)
      refine lv_aload_n hx hb dL_acts_284 rfl (lv_at hl 1 rfl) ?_
      refine lv_iload hx hb dL_acts_285 (lv_at hl 2 rfl) ?_
      refine lv_iload hx hb dL_acts_287 (lv_at hl 0 rfl) ?_
      obtain ⟨M123, x124, g125, h⟩ := ce_b2_e h
      refine ce_callWi (As := [.ref (b + a1), .int x117, .int x121]) (rest := []) hx hb hml hown hB (c0_L_sets l hfl X G b ha1 g125) ce_s_L_sets ce_w558 ⟨Nat.le_of_ble_eq_true rfl, Nat.le_of_ble_eq_true rfl⟩ hF hA hS hl rfl rfl (Nat.le_of_ble_eq_true rfl) dL_acts_289 ⟨Nat.le_of_ble_eq_true rfl, Nat.le_of_ble_eq_true rfl⟩ (fun H locs hA hS => ?_)
      refine lv_iload hx hb dL_acts_292 (lv_at hl 3 rfl) ?_
      refine lv_icmp_ne (tgt := 314) hx hb dL_acts_294 (by decide) (fun c126 => ?_) (fun c126 => ?_)
      · have h := ce_ie c126 h
        refine lv_iconst (v := 0) hx hb dL_acts_314 (by decide) ?_
        cases h
        exact ce_zretC hx hb hr hlocks (Or.inl rfl) hA hS (Nat.le_of_ble_eq_true rfl) (Nat.le_of_ble_eq_true rfl) dL_acts_315
      · have h := ce_it c126 h
        refine lv_aload_n hx hb dL_acts_297 rfl (lv_at hl 1 rfl) ?_
        refine lv_iconst (v := 4) hx hb dL_acts_298 (by decide) ?_
        refine lv_iload hx hb dL_acts_299 (lv_at hl 2 rfl) ?_
        refine lv_iadd hx hb dL_acts_301 ?_
        obtain ⟨x127, g128, h⟩ := ce_b1_e h
        refine ce_callWi (As := [.ref (b + a1), .int (4 + x117)]) (rest := []) hx hb hml hown hB (c0_L_whole l hfl X G b ha1 g128) ce_s_L_whole ce_w579 ⟨Nat.le_of_ble_eq_true rfl, Nat.le_of_ble_eq_true rfl⟩ hF hA hS hl rfl rfl (Nat.le_of_ble_eq_true rfl) dL_acts_302 ⟨Nat.le_of_ble_eq_true rfl, Nat.le_of_ble_eq_true rfl⟩ (fun H locs hA hS => ?_)
        refine lv_iload hx hb dL_acts_305 (lv_at hl 0 rfl) ?_
        refine lv_icmp_ne (tgt := 314) hx hb dL_acts_307 (by decide) (fun c129 => ?_) (fun c129 => ?_)
        · have h := ce_ie c129 h
          refine lv_iconst (v := 0) hx hb dL_acts_314 (by decide) ?_
          cases h
          exact ce_zretC hx hb hr hlocks (Or.inl rfl) hA hS (Nat.le_of_ble_eq_true rfl) (Nat.le_of_ble_eq_true rfl) dL_acts_315
        · have h := ce_it c129 h
          refine lv_iconst (v := 1) hx hb dL_acts_310 (by decide) ?_
          refine lv_goto (tgt := 315) hx hb dL_acts_311 (by decide) ?_
          cases h
          exact ce_zretC hx hb hr hlocks (Or.inr rfl) hA hS (Nat.le_of_ble_eq_true rfl) (Nat.le_of_ble_eq_true rfl) dL_acts_315
    refine lv_icmp_ne (tgt := 274) hx hb dL_acts_259 (by decide) (fun c131 => ?_) (fun c131 => ?_)
    · have h := ce_ie c131 h
      refine lv_iload_n hx hb dL_acts_274 rfl (lv_at hl 6 rfl) ?_
      refine lv_iconst (v := 2) hx hb dL_acts_275 (by decide) ?_
      refine lv_ishr hx hb dL_acts_276 ?_
      refine lv_bipush (v := 6) hx hb dL_acts_277 (by decide) ?_
      obtain ⟨x132, g133, h⟩ := ce_b1_e h
      refine ce_callSi (As := [.int (a4 >>> (2 &&& 31)), .int 6]) (rest := []) hx hb hml hown hB (c_L_low l X G b  g133) ce_s_L_low ce_w240 ⟨Nat.le_of_ble_eq_true rfl, Nat.le_of_ble_eq_true rfl⟩ hF hA hS hl rfl rfl (Nat.le_of_ble_eq_true rfl) dL_acts_279 ⟨Nat.le_of_ble_eq_true rfl, Nat.le_of_ble_eq_true rfl⟩ (fun H locs hA hS => ?_)
      exact Ju122 x132 h  _ _ _ hA hS (lv_sub hl [3, 1, 0] rfl)
    · have h := ce_it c131 h
      refine lv_iconst (v := 1) hx hb dL_acts_262 (by decide) ?_
      refine lv_iload_n hx hb dL_acts_263 rfl (lv_at hl 6 rfl) ?_
      refine lv_iconst (v := 2) hx hb dL_acts_264 (by decide) ?_
      refine lv_ishr hx hb dL_acts_265 ?_
      refine lv_iconst (v := 3) hx hb dL_acts_266 (by decide) ?_
      obtain ⟨x134, g135, h⟩ := ce_b1_e h
      refine ce_callSi (As := [.int (a4 >>> (2 &&& 31)), .int 3]) (rest := [.int 1]) hx hb hml hown hB (c_L_low l X G b  g135) ce_s_L_low ce_w240 ⟨Nat.le_of_ble_eq_true rfl, Nat.le_of_ble_eq_true rfl⟩ hF hA hS hl rfl rfl (Nat.le_of_ble_eq_true rfl) dL_acts_267 ⟨Nat.le_of_ble_eq_true rfl, Nat.le_of_ble_eq_true rfl⟩ (fun H locs hA hS => ?_)
      refine lv_iadd hx hb dL_acts_270 ?_
      refine lv_goto (tgt := 282) hx hb dL_acts_271 (by decide) ?_
      exact Ju122 (1 + x134) h  _ _ _ hA hS (lv_sub hl [3, 1, 0] rfl)
  have h := ce_ie c116 h
  by_cases c136 : a2 = 11
  · have h := ce_it c136 h
    refine lv_tableIn (off := 304) (tgt := 316) hx hb dL_acts_12 (by rw [c136]; decide) (by rw [c136]; decide) (by rw [c136]; rfl) (by decide) ?_
    refine lv_aload_n hx hb dL_acts_316 rfl (lv_at hl 1 rfl) ?_
    refine lv_iconst (v := 0) hx hb dL_acts_317 (by decide) ?_
    obtain ⟨x137, g138, h⟩ := ce_b1_e h
    refine ce_callWi (As := [.ref (b + a1), .int 0]) (rest := []) hx hb hml hown hB (c0_L_whole l hfl X G b ha1 g138) ce_s_L_whole ce_w579 ⟨Nat.le_of_ble_eq_true rfl, Nat.le_of_ble_eq_true rfl⟩ hF hA hS hl rfl rfl (Nat.le_of_ble_eq_true rfl) dL_acts_318 ⟨Nat.le_of_ble_eq_true rfl, Nat.le_of_ble_eq_true rfl⟩ (fun H locs hA hS => ?_)
    refine lv_istore (lv' := [(5, .int x137), (4, .int x3), (0, .ref (b + a1)), (1, .int a2), (2, .int a3), (3, .int a4)]) hx hb dL_acts_321 hl (by decide) rfl (fun ls hl => ?_)
    refine lv_aload_n hx hb dL_acts_323 rfl (lv_at hl 2 rfl) ?_
    refine lv_iload_n hx hb dL_acts_324 rfl (lv_at hl 5 rfl) ?_
    refine lv_iconst (v := 3) hx hb dL_acts_325 (by decide) ?_
    obtain ⟨x139, g140, h⟩ := ce_b1_e h
    refine ce_callSi (As := [.int a4, .int 3]) (rest := [.ref (b + a1)]) hx hb hml hown hB (c_L_low l X G b  g140) ce_s_L_low ce_w240 ⟨Nat.le_of_ble_eq_true rfl, Nat.le_of_ble_eq_true rfl⟩ hF hA hS hl rfl rfl (Nat.le_of_ble_eq_true rfl) dL_acts_326 ⟨Nat.le_of_ble_eq_true rfl, Nat.le_of_ble_eq_true rfl⟩ (fun H locs hA hS => ?_)
    refine lv_iload_n hx hb dL_acts_329 rfl (lv_at hl 5 rfl) ?_
    refine lv_iconst (v := 2) hx hb dL_acts_330 (by decide) ?_
    refine lv_ishr hx hb dL_acts_331 ?_
    refine lv_iconst (v := 3) hx hb dL_acts_332 (by decide) ?_
    obtain ⟨x141, g142, h⟩ := ce_b1_e h
    refine ce_callSi (As := [.int (a4 >>> (2 &&& 31)), .int 3]) (rest := [.int x139, .ref (b + a1)]) hx hb hml hown hB (c_L_low l X G b  g142) ce_s_L_low ce_w240 ⟨Nat.le_of_ble_eq_true rfl, Nat.le_of_ble_eq_true rfl⟩ hF hA hS hl rfl rfl (Nat.le_of_ble_eq_true rfl) dL_acts_333 ⟨Nat.le_of_ble_eq_true rfl, Nat.le_of_ble_eq_true rfl⟩ (fun H locs hA hS => ?_)
    refine lv_iload_n hx hb dL_acts_336 rfl (lv_at hl 5 rfl) ?_
    refine lv_iconst (v := 4) hx hb dL_acts_337 (by decide) ?_
    refine lv_ishr hx hb dL_acts_338 ?_
    refine lv_bipush (v := 16) hx hb dL_acts_339 (by decide) ?_
    obtain ⟨x143, g144, h⟩ := ce_b1_e h
    refine ce_callSi (As := [.int (a4 >>> (4 &&& 31)), .int 16]) (rest := [.int x141, .int x139, .ref (b + a1)]) hx hb hml hown hB (c_L_low l X G b  g144) ce_s_L_low ce_w240 ⟨Nat.le_of_ble_eq_true rfl, Nat.le_of_ble_eq_true rfl⟩ hF hA hS hl rfl rfl (Nat.le_of_ble_eq_true rfl) dL_acts_341 ⟨Nat.le_of_ble_eq_true rfl, Nat.le_of_ble_eq_true rfl⟩ (fun H locs hA hS => ?_)
    obtain ⟨M145, x146, g147, h⟩ := ce_b2_e h
    refine ce_callWi (As := [.ref (b + a1), .int x139, .int x141, .int x143]) (rest := []) hx hb hml hown hB (c_L_joins l hfl X G b ha1 g147) ce_s_L_joins ce_w244 ⟨Nat.le_of_ble_eq_true rfl, Nat.le_of_ble_eq_true rfl⟩ hF hA hS hl rfl rfl (Nat.le_of_ble_eq_true rfl) dL_acts_344 ⟨Nat.le_of_ble_eq_true rfl, Nat.le_of_ble_eq_true rfl⟩ (fun H locs hA hS => ?_)
    refine lv_istore (lv' := [(6, .int x146), (5, .int x137), (4, .int x3), (0, .ref (b + a1)), (1, .int a2), (2, .int a3), (3, .int a4)]) hx hb dL_acts_347 hl (by decide) rfl (fun ls hl => ?_)
    refine lv_iload hx hb dL_acts_349 (lv_at hl 0 rfl) ?_
    refine lv_iload hx hb dL_acts_351 (lv_at hl 1 rfl) ?_
    refine lv_bipush (v := 8) hx hb dL_acts_353 (by decide) ?_
    obtain ⟨u149, e162, h⟩ := ce_nm_e h
    have Ju149 : ∀ (x148 : Int32), u149 x148 = some (M', r) → ce_Wg p l e (ce_R 11 238 13 88) s m (([.ref (b + a1), .int a2, .int a3, .int a4] : List Value).toArray) below meth c 3 18 (MQ below (ce_Q X b M' (some (.int r))) ([.ref (b + a1), .int a2, .int a3, .int a4] : List Value).toArray s 13 88 (ce_Ab b)) X b M145 9 [(0, .ref (b + a1)), (3, .int a4), (5, .int x137)] 365 [.int x148, .int x146] := by
      intro x148 h  H locs ls hA hS hl
      subst e162
      refine lv_icmp_ne (tgt := 413) hx hb dL_acts_365 (by decide) (fun c150 => ?_) (fun c150 => ?_)
      · have h := ce_ie c150 h
        refine lv_iconst (v := 0) hx hb dL_acts_413 (by decide) ?_
        cases h
        exact ce_zretC hx hb hr hlocks (Or.inl rfl) hA hS (Nat.le_of_ble_eq_true rfl) (Nat.le_of_ble_eq_true rfl) dL_acts_414
      · have h := ce_it c150 h
        refine lv_iload hx hb dL_acts_368 (lv_at hl 2 rfl) ?_
        refine lv_bipush (v := 8) hx hb dL_acts_370 (by decide) ?_
        refine lv_icmp_eq (tgt := 409) hx hb dL_acts_372 (by decide) (fun c151 => ?_) (fun c151 => ?_)
        · have h := ce_it c151 h
          refine lv_iconst (v := 1) hx hb dL_acts_409 (by decide) ?_
          refine lv_goto (tgt := 414) hx hb dL_acts_410 (by decide) ?_
          cases h
          exact ce_zretC hx hb hr hlocks (Or.inr rfl) hA hS (Nat.le_of_ble_eq_true rfl) (Nat.le_of_ble_eq_true rfl) dL_acts_414
        · have h := ce_ie c151 h
          refine lv_aload_n hx hb dL_acts_375 rfl (lv_at hl 0 rfl) ?_
          refine lv_iload hx hb dL_acts_376 (lv_at hl 2 rfl) ?_
          refine lv_iconst (v := 4) hx hb dL_acts_378 (by decide) ?_
          obtain ⟨x152, g153, h⟩ := ce_b1_e h
          refine ce_callWi (As := [.ref (b + a1), .int x137, .int 4]) (rest := []) hx hb hml hown hB (c0_L_one l hfl X G b ha1 g153) ce_s_L_one ce_w619 ⟨Nat.le_of_ble_eq_true rfl, Nat.le_of_ble_eq_true rfl⟩ hF hA hS hl rfl rfl (Nat.le_of_ble_eq_true rfl) dL_acts_379 ⟨Nat.le_of_ble_eq_true rfl, Nat.le_of_ble_eq_true rfl⟩ (fun H locs hA hS => ?_)
          refine lv_iload_n hx hb dL_acts_382 rfl (lv_at hl 1 rfl) ?_
          refine lv_iconst (v := 4) hx hb dL_acts_383 (by decide) ?_
          refine lv_ishr hx hb dL_acts_384 ?_
          refine lv_bipush (v := 16) hx hb dL_acts_385 (by decide) ?_
          obtain ⟨x154, g155, h⟩ := ce_b1_e h
          refine ce_callSi (As := [.int (a4 >>> (4 &&& 31)), .int 16]) (rest := [.int x152]) hx hb hml hown hB (c_L_low l X G b  g155) ce_s_L_low ce_w240 ⟨Nat.le_of_ble_eq_true rfl, Nat.le_of_ble_eq_true rfl⟩ hF hA hS hl rfl rfl (Nat.le_of_ble_eq_true rfl) dL_acts_387 ⟨Nat.le_of_ble_eq_true rfl, Nat.le_of_ble_eq_true rfl⟩ (fun H locs hA hS => ?_)
          refine lv_icmp_ne (tgt := 413) hx hb dL_acts_390 (by decide) (fun c156 => ?_) (fun c156 => ?_)
          · have h := ce_ie c156 h
            refine lv_iconst (v := 0) hx hb dL_acts_413 (by decide) ?_
            cases h
            exact ce_zretC hx hb hr hlocks (Or.inl rfl) hA hS (Nat.le_of_ble_eq_true rfl) (Nat.le_of_ble_eq_true rfl) dL_acts_414
          · have h := ce_it c156 h
            refine lv_aload_n hx hb dL_acts_393 rfl (lv_at hl 0 rfl) ?_
            refine lv_iload hx hb dL_acts_394 (lv_at hl 2 rfl) ?_
            refine lv_iconst (v := 0) hx hb dL_acts_396 (by decide) ?_
            refine lv_iconst (v := 1) hx hb dL_acts_397 (by decide) ?_
            obtain ⟨x157, g158, h⟩ := ce_b1_e h
            refine ce_callWi (As := [.ref (b + a1), .int x137, .int 0, .int 1]) (rest := []) hx hb hml hown hB (c0_L_stay l hfl X G b ha1 g158) ce_s_L_stay ce_w628 ⟨Nat.le_of_ble_eq_true rfl, Nat.le_of_ble_eq_true rfl⟩ hF hA hS hl rfl rfl (Nat.le_of_ble_eq_true rfl) dL_acts_398 ⟨Nat.le_of_ble_eq_true rfl, Nat.le_of_ble_eq_true rfl⟩ (fun H locs hA hS => ?_)
            refine lv_aload_n hx hb dL_acts_401 rfl (lv_at hl 0 rfl) ?_
            refine lv_iconst (v := 3) hx hb dL_acts_402 (by decide) ?_
            obtain ⟨x159, g160, h⟩ := ce_b1_e h
            refine ce_callWi (As := [.ref (b + a1), .int 3]) (rest := [.int x157]) hx hb hml hown hB (c0_L_whole l hfl X G b ha1 g160) ce_s_L_whole ce_w579 ⟨Nat.le_of_ble_eq_true rfl, Nat.le_of_ble_eq_true rfl⟩ hF hA hS hl rfl rfl (Nat.le_of_ble_eq_true rfl) dL_acts_403 ⟨Nat.le_of_ble_eq_true rfl, Nat.le_of_ble_eq_true rfl⟩ (fun H locs hA hS => ?_)
            refine lv_icmp_ne (tgt := 413) hx hb dL_acts_406 (by decide) (fun c161 => ?_) (fun c161 => ?_)
            · have h := ce_ie c161 h
              refine lv_iconst (v := 0) hx hb dL_acts_413 (by decide) ?_
              cases h
              exact ce_zretC hx hb hr hlocks (Or.inl rfl) hA hS (Nat.le_of_ble_eq_true rfl) (Nat.le_of_ble_eq_true rfl) dL_acts_414
            · have h := ce_it c161 h
              refine lv_iconst (v := 1) hx hb dL_acts_409 (by decide) ?_
              refine lv_goto (tgt := 414) hx hb dL_acts_410 (by decide) ?_
              cases h
              exact ce_zretC hx hb hr hlocks (Or.inr rfl) hA hS (Nat.le_of_ble_eq_true rfl) (Nat.le_of_ble_eq_true rfl) dL_acts_414
    refine lv_icmp_ne (tgt := 363) hx hb dL_acts_355 (by decide) (fun c163 => ?_) (fun c163 => ?_)
    · have h := ce_ie c163 h
      refine lv_iload hx hb dL_acts_363 (lv_at hl 1 rfl) ?_
      exact Ju149 x137 h  _ _ _ hA hS (lv_sub hl [3, 6, 1] rfl)
    · have h := ce_it c163 h
      refine lv_ldc (v := (-900000002)) hx hb hown (hB _ ce_w557) dL_acts_358 ?_
      refine lv_goto (tgt := 365) hx hb dL_acts_360 (by decide) ?_
      exact Ju149 (-900000002) h  _ _ _ hA hS (lv_sub hl [3, 6, 1] rfl)
  have h := ce_ie c136 h
  have nc5 : (a2).toInt ≠ 0 := fun q => c5 (Int32.toInt_inj.mp (q.trans (by decide)))
  have nc10 : (a2).toInt ≠ 1 := fun q => c10 (Int32.toInt_inj.mp (q.trans (by decide)))
  have nc15 : (a2).toInt ≠ 2 := fun q => c15 (Int32.toInt_inj.mp (q.trans (by decide)))
  have nc20 : (a2).toInt ≠ 3 := fun q => c20 (Int32.toInt_inj.mp (q.trans (by decide)))
  have nc25 : (a2).toInt ≠ 4 := fun q => c25 (Int32.toInt_inj.mp (q.trans (by decide)))
  have nc56 : (a2).toInt ≠ 5 := fun q => c56 (Int32.toInt_inj.mp (q.trans (by decide)))
  have nc87 : (a2).toInt ≠ 6 := fun q => c87 (Int32.toInt_inj.mp (q.trans (by decide)))
  have nc92 : (a2).toInt ≠ 7 := fun q => c92 (Int32.toInt_inj.mp (q.trans (by decide)))
  have nc97 : (a2).toInt ≠ 8 := fun q => c97 (Int32.toInt_inj.mp (q.trans (by decide)))
  have nc102 : (a2).toInt ≠ 9 := fun q => c102 (Int32.toInt_inj.mp (q.trans (by decide)))
  have nc116 : (a2).toInt ≠ 10 := fun q => c116 (Int32.toInt_inj.mp (q.trans (by decide)))
  have nc136 : (a2).toInt ≠ 11 := fun q => c136 (Int32.toInt_inj.mp (q.trans (by decide)))
  refine lv_tableOut (tgt := 415) hx hb dL_acts_12 (by omega) (by decide) ?_
  refine lv_aload_n hx hb dL_acts_415 rfl (lv_at hl 1 rfl) ?_
  refine lv_iload hx hb dL_acts_416 (lv_at hl 0 rfl) ?_
  refine lv_iconst (v := 5) hx hb dL_acts_418 (by decide) ?_
  obtain ⟨x164, g165, h⟩ := ce_b1_e h
  refine ce_callWi (As := [.ref (b + a1), .int x3, .int 5]) (rest := []) hx hb hml hown hB (c0_L_one l hfl X G b ha1 g165) ce_s_L_one ce_w619 ⟨Nat.le_of_ble_eq_true rfl, Nat.le_of_ble_eq_true rfl⟩ hF hA hS hl rfl rfl (Nat.le_of_ble_eq_true rfl) dL_acts_419 ⟨Nat.le_of_ble_eq_true rfl, Nat.le_of_ble_eq_true rfl⟩ (fun H locs hA hS => ?_)
  refine lv_istore (lv' := [(5, .int x164), (4, .int x3), (0, .ref (b + a1)), (1, .int a2), (2, .int a3), (3, .int a4)]) hx hb dL_acts_422 hl (by decide) rfl (fun ls hl => ?_)
  refine lv_aload_n hx hb dL_acts_424 rfl (lv_at hl 2 rfl) ?_
  refine lv_iload hx hb dL_acts_425 (lv_at hl 1 rfl) ?_
  refine lv_bipush (v := 6) hx hb dL_acts_427 (by decide) ?_
  obtain ⟨x166, g167, h⟩ := ce_b1_e h
  refine ce_callWi (As := [.ref (b + a1), .int x3, .int 6]) (rest := []) hx hb hml hown hB (c0_L_one l hfl X G b ha1 g167) ce_s_L_one ce_w619 ⟨Nat.le_of_ble_eq_true rfl, Nat.le_of_ble_eq_true rfl⟩ hF hA hS hl rfl rfl (Nat.le_of_ble_eq_true rfl) dL_acts_429 ⟨Nat.le_of_ble_eq_true rfl, Nat.le_of_ble_eq_true rfl⟩ (fun H locs hA hS => ?_)
  refine lv_istore (lv' := [(6, .int x166), (5, .int x164), (4, .int x3), (0, .ref (b + a1)), (1, .int a2), (2, .int a3), (3, .int a4)]) hx hb dL_acts_432 hl (by decide) rfl (fun ls hl => ?_)
  refine lv_aload_n hx hb dL_acts_434 rfl (lv_at hl 3 rfl) ?_
  refine lv_bipush (v := 11) hx hb dL_acts_435 (by decide) ?_
  obtain ⟨x168, g169, h⟩ := ce_b1_e h
  refine ce_callWi (As := [.ref (b + a1), .int 11]) (rest := []) hx hb hml hown hB (c0_L_whole l hfl X G b ha1 g169) ce_s_L_whole ce_w579 ⟨Nat.le_of_ble_eq_true rfl, Nat.le_of_ble_eq_true rfl⟩ hF hA hS hl rfl rfl (Nat.le_of_ble_eq_true rfl) dL_acts_437 ⟨Nat.le_of_ble_eq_true rfl, Nat.le_of_ble_eq_true rfl⟩ (fun H locs hA hS => ?_)
  refine lv_istore (lv' := [(7, .int x168), (6, .int x166), (5, .int x164), (4, .int x3), (0, .ref (b + a1)), (1, .int a2), (2, .int a3), (3, .int a4)]) hx hb dL_acts_440 hl (by decide) rfl (fun ls hl => ?_)
  refine lv_iload_n hx hb dL_acts_442 rfl (lv_at hl 7 rfl) ?_
  refine lv_iconst (v := 3) hx hb dL_acts_443 (by decide) ?_
  obtain ⟨x170, g171, h⟩ := ce_b1_e h
  refine ce_callSi (As := [.int a4, .int 3]) (rest := []) hx hb hml hown hB (c_L_low l X G b  g171) ce_s_L_low ce_w240 ⟨Nat.le_of_ble_eq_true rfl, Nat.le_of_ble_eq_true rfl⟩ hF hA hS hl rfl rfl (Nat.le_of_ble_eq_true rfl) dL_acts_444 ⟨Nat.le_of_ble_eq_true rfl, Nat.le_of_ble_eq_true rfl⟩ (fun H locs hA hS => ?_)
  obtain ⟨u174, e186, h⟩ := ce_nm_e h
  have Ju174 : ∀ (M172 : ce_M) (x173 : Int32), u174 M172 x173 = some (M', r) → ce_Wg p l e (ce_R 11 238 13 88) s m (([.ref (b + a1), .int a2, .int a3, .int a4] : List Value).toArray) below meth c 3 18 (MQ below (ce_Q X b M' (some (.int r))) ([.ref (b + a1), .int a2, .int a3, .int a4] : List Value).toArray s 13 88 (ce_Ab b)) X b M172 9 [(0, .ref (b + a1)), (5, .int x164), (6, .int x166), (7, .int x168)] 471 [.int x173] := by
    intro M172 x173 h  H locs ls hA hS hl
    subst e186
    refine lv_istore (lv' := [(8, .int x173), (0, .ref (b + a1)), (5, .int x164), (6, .int x166), (7, .int x168)]) hx hb dL_acts_471 hl (by decide) rfl (fun ls hl => ?_)
    refine lv_iload hx hb dL_acts_473 (lv_at hl 0 rfl) ?_
    refine lv_iload hx hb dL_acts_475 (lv_at hl 2 rfl) ?_
    obtain ⟨u176, e184, h⟩ := ce_nm_e h
    have Ju176 : ∀ (x175 : Int32), u176 x175 = some (M', r) → ce_Wg p l e (ce_R 11 238 13 88) s m (([.ref (b + a1), .int a2, .int a3, .int a4] : List Value).toArray) below meth c 3 18 (MQ below (ce_Q X b M' (some (.int r))) ([.ref (b + a1), .int a2, .int a3, .int a4] : List Value).toArray s 13 88 (ce_Ab b)) X b M172 9 [(0, .ref (b + a1)), (6, .int x166), (7, .int x168)] 487 [.int x175, .int x173] := by
      intro x175 h  H locs ls hA hS hl
      subst e184
      refine lv_icmp_ne (tgt := 519) hx hb dL_acts_487 (by decide) (fun c177 => ?_) (fun c177 => ?_)
      · have h := ce_ie c177 h
        refine lv_iconst (v := 0) hx hb dL_acts_519 (by decide) ?_
        cases h
        exact ce_zretC hx hb hr hlocks (Or.inl rfl) hA hS (Nat.le_of_ble_eq_true rfl) (Nat.le_of_ble_eq_true rfl) dL_acts_520
      · have h := ce_it c177 h
        refine lv_aload_n hx hb dL_acts_490 rfl (lv_at hl 0 rfl) ?_
        refine lv_bipush (v := 11) hx hb dL_acts_491 (by decide) ?_
        obtain ⟨x178, g179, h⟩ := ce_b1_e h
        refine ce_callWi (As := [.ref (b + a1), .int 11]) (rest := []) hx hb hml hown hB (c0_L_whole l hfl X G b ha1 g179) ce_s_L_whole ce_w579 ⟨Nat.le_of_ble_eq_true rfl, Nat.le_of_ble_eq_true rfl⟩ hF hA hS hl rfl rfl (Nat.le_of_ble_eq_true rfl) dL_acts_493 ⟨Nat.le_of_ble_eq_true rfl, Nat.le_of_ble_eq_true rfl⟩ (fun H locs hA hS => ?_)
        refine lv_iload hx hb dL_acts_496 (lv_at hl 2 rfl) ?_
        refine lv_icmp_eq (tgt := 515) hx hb dL_acts_498 (by decide) (fun c180 => ?_) (fun c180 => ?_)
        · have h := ce_it c180 h
          refine lv_iconst (v := 1) hx hb dL_acts_515 (by decide) ?_
          refine lv_goto (tgt := 520) hx hb dL_acts_516 (by decide) ?_
          cases h
          exact ce_zretC hx hb hr hlocks (Or.inr rfl) hA hS (Nat.le_of_ble_eq_true rfl) (Nat.le_of_ble_eq_true rfl) dL_acts_520
        · have h := ce_ie c180 h
          refine lv_aload_n hx hb dL_acts_501 rfl (lv_at hl 0 rfl) ?_
          refine lv_bipush (v := 11) hx hb dL_acts_502 (by decide) ?_
          obtain ⟨x181, g182, h⟩ := ce_b1_e h
          refine ce_callWi (As := [.ref (b + a1), .int 11]) (rest := []) hx hb hml hown hB (c0_L_whole l hfl X G b ha1 g182) ce_s_L_whole ce_w579 ⟨Nat.le_of_ble_eq_true rfl, Nat.le_of_ble_eq_true rfl⟩ hF hA hS hl rfl rfl (Nat.le_of_ble_eq_true rfl) dL_acts_504 ⟨Nat.le_of_ble_eq_true rfl, Nat.le_of_ble_eq_true rfl⟩ (fun H locs hA hS => ?_)
          refine lv_iload hx hb dL_acts_507 (lv_at hl 2 rfl) ?_
          refine lv_iload hx hb dL_acts_509 (lv_at hl 1 rfl) ?_
          refine lv_iadd hx hb dL_acts_511 ?_
          refine lv_icmp_ne (tgt := 519) hx hb dL_acts_512 (by decide) (fun c183 => ?_) (fun c183 => ?_)
          · have h := ce_ie c183 h
            refine lv_iconst (v := 0) hx hb dL_acts_519 (by decide) ?_
            cases h
            exact ce_zretC hx hb hr hlocks (Or.inl rfl) hA hS (Nat.le_of_ble_eq_true rfl) (Nat.le_of_ble_eq_true rfl) dL_acts_520
          · have h := ce_it c183 h
            refine lv_iconst (v := 1) hx hb dL_acts_515 (by decide) ?_
            refine lv_goto (tgt := 520) hx hb dL_acts_516 (by decide) ?_
            cases h
            exact ce_zretC hx hb hr hlocks (Or.inr rfl) hA hS (Nat.le_of_ble_eq_true rfl) (Nat.le_of_ble_eq_true rfl) dL_acts_520
    refine lv_if_ne (tgt := 485) hx hb dL_acts_477 (by decide) (fun c185 => ?_) (fun c185 => ?_)
    · have h := ce_ie c185 h
      refine lv_iload hx hb dL_acts_485 (lv_at hl 3 rfl) ?_
      exact Ju176 x166 h  _ _ _ hA hS (lv_sub hl [1, 3, 4] rfl)
    · have h := ce_it c185 h
      refine lv_ldc (v := (-900000002)) hx hb hown (hB _ ce_w557) dL_acts_480 ?_
      refine lv_goto (tgt := 487) hx hb dL_acts_482 (by decide) ?_
      exact Ju176 (-900000002) h  _ _ _ hA hS (lv_sub hl [1, 3, 4] rfl)
  refine lv_if_ne (tgt := 459) hx hb dL_acts_447 (by decide) (fun c187 => ?_) (fun c187 => ?_)
  · have h := ce_ie c187 h
    refine lv_iload hx hb dL_acts_459 (lv_at hl 2 rfl) ?_
    refine lv_if_ne (tgt := 469) hx hb dL_acts_461 (by decide) (fun c188 => ?_) (fun c188 => ?_)
    · have h := ce_ie c188 h
      refine lv_iload hx hb dL_acts_469 (lv_at hl 1 rfl) ?_
      exact W.widen (Nat.le_of_ble_eq_true rfl) (Nat.le_of_ble_eq_true rfl) (Ju174 M x166 h  _ _ _ hA hS (lv_sub hl [4, 2, 1, 0] rfl))
    · have h := ce_it c188 h
      refine lv_ldc (v := (-900000002)) hx hb hown (hB _ ce_w557) dL_acts_464 ?_
      refine lv_goto (tgt := 471) hx hb dL_acts_466 (by decide) ?_
      exact W.widen (Nat.le_of_ble_eq_true rfl) (Nat.le_of_ble_eq_true rfl) (Ju174 M (-900000002) h  _ _ _ hA hS (lv_sub hl [4, 2, 1, 0] rfl))
  · have h := ce_it c187 h
    refine lv_aload_n hx hb dL_acts_450 rfl (lv_at hl 4 rfl) ?_
    refine lv_iload hx hb dL_acts_451 (lv_at hl 3 rfl) ?_
    obtain ⟨M189, x190, g191, h⟩ := ce_b2_e h
    refine ce_callWi (As := [.ref (b + a1), .int x3]) (rest := []) hx hb hml hown hB (c_L_quits l hfl X G b ha1 g191) ce_s_L_quits ce_w703 ⟨Nat.le_of_ble_eq_true rfl, Nat.le_of_ble_eq_true rfl⟩ hF hA hS hl rfl rfl (Nat.le_of_ble_eq_true rfl) dL_acts_453 ⟨Nat.le_of_ble_eq_true rfl, Nat.le_of_ble_eq_true rfl⟩ (fun H locs hA hS => ?_)
    refine lv_goto (tgt := 471) hx hb dL_acts_456 (by decide) ?_
    exact Ju174 M189 x190 h  _ _ _ hA hS (lv_sub hl [4, 2, 1, 0] rfl)
