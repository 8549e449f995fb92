theorem ce_k0 : ce_kd 0 = 7 := by decide +kernel
theorem ce_k414 : ce_kd 414 = 8 := by decide +kernel
theorem ce_k421 : ce_kd 421 = 12 := by decide +kernel
def f_L_law_L23 (xs : Nat → Int32) (L : Nat) (rec : ce_M → Int32 → Option Unit) (M1 : ce_M) (x1 : Int32) : Option Unit :=
  if ((Int32.ofNat L) - 4) < x1 then
    some ()
  else
    ce_gi x1 L (ce_nm (xs (Int32.toNatClampNeg x1)) (fun (x3 : Int32) =>
    if (x3 &&& 31) = 0 then
      ce_gi (x1 + 1) L (ce_nm (xs (Int32.toNatClampNeg (x1 + 1))) (fun (x7 : Int32) =>
      ce_gi (x1 + 2) L (ce_nm (xs (Int32.toNatClampNeg (x1 + 2))) (fun (x10 : Int32) =>
      ce_gi (x1 + 3) L (ce_nm (xs (Int32.toNatClampNeg (x1 + 3))) (fun (x13 : Int32) =>
      ce_b2 (f_L_subscribe M1 0 x7 x10 x13 421) (fun (M16 : ce_M) (x17 : Int32) =>
      ce_gi (x1 + 1) L (ce_nm (xs (Int32.toNatClampNeg (x1 + 1))) (fun (x19 : Int32) =>
      ce_gi (x1 + 2) L (ce_nm (xs (Int32.toNatClampNeg (x1 + 2))) (fun (x22 : Int32) =>
      ce_gi (x1 + 3) L (ce_nm (xs (Int32.toNatClampNeg (x1 + 3))) (fun (x25 : Int32) =>
      ce_b2 (f_X8_subscribe 414 M16 x19 x22 x25) (fun (M28 : ce_M) (x29 : Int32) =>
      ce_b1 (f_X8_thrown 414 M28) (fun (x31 : Int32) =>
      if x31 = x17 then
        if x17 = 0 then
          if (lg_cmp (ce_rl M28 1) (Int32.toInt64 x29)) = 0 then
            ce_nm (x1 + 4) (fun (x38 : Int32) =>
            rec M28 x38)
          else
            none
        else
          ce_nm (x1 + 4) (fun (x35 : Int32) =>
          rec M28 x35)
      else
        none)))))))))))))))
    else
    if (x3 &&& 31) = 1 then
      ce_gi (x1 + 1) L (ce_nm (xs (Int32.toNatClampNeg (x1 + 1))) (fun (x41 : Int32) =>
      ce_gi (x1 + 2) L (ce_nm (xs (Int32.toNatClampNeg (x1 + 2))) (fun (x44 : Int32) =>
      ce_b2 (f_L_move M1 0 x41 x44 421) (fun (M47 : ce_M) (x48 : Int32) =>
      ce_gi (x1 + 1) L (ce_nm (xs (Int32.toNatClampNeg (x1 + 1))) (fun (x50 : Int32) =>
      ce_gi (x1 + 2) L (ce_nm (xs (Int32.toNatClampNeg (x1 + 2))) (fun (x53 : Int32) =>
      ce_b2 (f_X8_move 414 M47 x50 x53) (fun (M56 : ce_M) (x57 : Int32) =>
      ce_b1 (f_X8_thrown 414 M56) (fun (x59 : Int32) =>
      if x59 = x48 then
        if x48 = 0 then
          if (lg_cmp (ce_rl M56 1) (Int32.toInt64 x57)) = 0 then
            ce_nm (x1 + 4) (fun (x66 : Int32) =>
            rec M56 x66)
          else
            none
        else
          ce_nm (x1 + 4) (fun (x63 : Int32) =>
          rec M56 x63)
      else
        none)))))))))))
    else
    if (x3 &&& 31) = 2 then
      ce_gi (x1 + 1) L (ce_nm (xs (Int32.toNatClampNeg (x1 + 1))) (fun (x69 : Int32) =>
      ce_b2 (f_L_leave M1 0 x69 421) (fun (M72 : ce_M) (x73 : Int32) =>
      ce_gi (x1 + 1) L (ce_nm (xs (Int32.toNatClampNeg (x1 + 1))) (fun (x75 : Int32) =>
      ce_b2 (f_X8_leave 414 M72 x75) (fun (M78 : ce_M) (x79 : Int32) =>
      ce_b1 (f_X8_thrown 414 M78) (fun (x81 : Int32) =>
      if x81 = x73 then
        if x73 = 0 then
          if (lg_cmp (ce_rl M78 1) (Int32.toInt64 x79)) = 0 then
            ce_nm (x1 + 4) (fun (x88 : Int32) =>
            rec M78 x88)
          else
            none
        else
          ce_nm (x1 + 4) (fun (x85 : Int32) =>
          rec M78 x85)
      else
        none)))))))
    else
    if (x3 &&& 31) = 3 then
      ce_gi (x1 + 1) L (ce_nm (xs (Int32.toNatClampNeg (x1 + 1))) (fun (x91 : Int32) =>
      ce_gi (x1 + 2) L (ce_nm (xs (Int32.toNatClampNeg (x1 + 2))) (fun (x94 : Int32) =>
      ce_b2 (f_L_setLevel M1 0 x91 x94 421) (fun (M97 : ce_M) (x98 : Int32) =>
      ce_gi (x1 + 1) L (ce_nm (xs (Int32.toNatClampNeg (x1 + 1))) (fun (x100 : Int32) =>
      ce_gi (x1 + 2) L (ce_nm (xs (Int32.toNatClampNeg (x1 + 2))) (fun (x103 : Int32) =>
      ce_b2 (f_X8_setLevel 414 M97 x100 x103) (fun (M106 : ce_M) (x107 : Int32) =>
      ce_b1 (f_X8_thrown 414 M106) (fun (x109 : Int32) =>
      if x109 = x98 then
        if x98 = 0 then
          if (lg_cmp (ce_rl M106 1) (Int32.toInt64 x107)) = 0 then
            ce_nm (x1 + 4) (fun (x116 : Int32) =>
            rec M106 x116)
          else
            none
        else
          ce_nm (x1 + 4) (fun (x113 : Int32) =>
          rec M106 x113)
      else
        none)))))))))))
    else
    if (x3 &&& 31) = 4 then
      ce_gi (x1 + 1) L (ce_nm (xs (Int32.toNatClampNeg (x1 + 1))) (fun (x119 : Int32) =>
      ce_gi (x1 + 2) L (ce_nm (xs (Int32.toNatClampNeg (x1 + 2))) (fun (x122 : Int32) =>
      ce_b2 (f_L_set M1 0 x119 x122 421) (fun (M125 : ce_M) (x126 : Int32) =>
      ce_gi (x1 + 1) L (ce_nm (xs (Int32.toNatClampNeg (x1 + 1))) (fun (x128 : Int32) =>
      ce_gi (x1 + 2) L (ce_nm (xs (Int32.toNatClampNeg (x1 + 2))) (fun (x131 : Int32) =>
      ce_b2 (f_X8_set 414 M125 x128 x131) (fun (M134 : ce_M) (x135 : Int32) =>
      ce_b1 (f_X8_thrown 414 M134) (fun (x137 : Int32) =>
      if x137 = x126 then
        if x126 = 0 then
          if (lg_cmp (ce_rl M134 1) (Int32.toInt64 x135)) = 0 then
            ce_nm (x1 + 4) (fun (x144 : Int32) =>
            rec M134 x144)
          else
            none
        else
          ce_nm (x1 + 4) (fun (x141 : Int32) =>
          rec M134 x141)
      else
        none)))))))))))
    else
    if (x3 &&& 31) = 5 then
      ce_gi (x1 + 1) L (ce_nm (xs (Int32.toNatClampNeg (x1 + 1))) (fun (x147 : Int32) =>
      ce_gi (x1 + 2) L (ce_nm (xs (Int32.toNatClampNeg (x1 + 2))) (fun (x150 : Int32) =>
      ce_gi (x1 + 3) L (ce_nm (xs (Int32.toNatClampNeg (x1 + 3))) (fun (x153 : Int32) =>
      ce_b2 (f_L_publish M1 0 x147 x150 x153 421) (fun (M156 : ce_M) (x157 : Int32) =>
      ce_gi (x1 + 1) L (ce_nm (xs (Int32.toNatClampNeg (x1 + 1))) (fun (x159 : Int32) =>
      ce_gi (x1 + 2) L (ce_nm (xs (Int32.toNatClampNeg (x1 + 2))) (fun (x162 : Int32) =>
      ce_gi (x1 + 3) L (ce_nm (xs (Int32.toNatClampNeg (x1 + 3))) (fun (x165 : Int32) =>
      ce_b2 (f_X8_publish 414 M156 x159 x162 x165) (fun (M168 : ce_M) (x169 : Int32) =>
      ce_b1 (f_X8_thrown 414 M168) (fun (x171 : Int32) =>
      if x171 = x157 then
        if x157 = 0 then
          if (lg_cmp (ce_rl M168 1) (Int32.toInt64 x169)) = 0 then
            ce_nm (x1 + 4) (fun (x178 : Int32) =>
            rec M168 x178)
          else
            none
        else
          ce_nm (x1 + 4) (fun (x175 : Int32) =>
          rec M168 x175)
      else
        none)))))))))))))))
    else
    if (x3 &&& 31) = 6 then
      ce_gi (x1 + 1) L (ce_nm (xs (Int32.toNatClampNeg (x1 + 1))) (fun (x181 : Int32) =>
      ce_b2 (f_L_pass M1 0 x181 421) (fun (M184 : ce_M) (x185 : Int32) =>
      ce_gi (x1 + 1) L (ce_nm (xs (Int32.toNatClampNeg (x1 + 1))) (fun (x187 : Int32) =>
      ce_b2 (f_X8_pass 414 M184 x187) (fun (M190 : ce_M) (x191 : Int32) =>
      ce_b1 (f_X8_thrown 414 M190) (fun (x193 : Int32) =>
      if x193 = x185 then
        if x185 = 0 then
          if (lg_cmp (ce_rl M190 1) (Int32.toInt64 x191)) = 0 then
            ce_nm (x1 + 4) (fun (x200 : Int32) =>
            rec M190 x200)
          else
            none
        else
          ce_nm (x1 + 4) (fun (x197 : Int32) =>
          rec M190 x197)
      else
        none)))))))
    else
    if (x3 &&& 31) = 7 then
      ce_gi (x1 + 1) L (ce_nm (xs (Int32.toNatClampNeg (x1 + 1))) (fun (x203 : Int32) =>
      ce_gi (x1 + 2) L (ce_nm (xs (Int32.toNatClampNeg (x1 + 2))) (fun (x206 : Int32) =>
      ce_b2 (f_L_subscriber M1 0 x203 x206 421) (fun (M209 : ce_M) (x210 : Int32) =>
      ce_gi (x1 + 1) L (ce_nm (xs (Int32.toNatClampNeg (x1 + 1))) (fun (x212 : Int32) =>
      ce_gi (x1 + 2) L (ce_nm (xs (Int32.toNatClampNeg (x1 + 2))) (fun (x215 : Int32) =>
      ce_b2 (f_X8_subscriber 414 M209 x212 x215) (fun (M218 : ce_M) (x219 : Int32) =>
      ce_b1 (f_X8_thrown 414 M218) (fun (x221 : Int32) =>
      if x221 = x210 then
        if x210 = 0 then
          if (lg_cmp (ce_rl M218 1) (Int32.toInt64 x219)) = 0 then
            ce_nm (x1 + 4) (fun (x228 : Int32) =>
            rec M218 x228)
          else
            none
        else
          ce_nm (x1 + 4) (fun (x225 : Int32) =>
          rec M218 x225)
      else
        none)))))))))))
    else
    if (x3 &&& 31) = 8 then
      ce_gi (x1 + 1) L (ce_nm (xs (Int32.toNatClampNeg (x1 + 1))) (fun (x231 : Int32) =>
      ce_gi (x1 + 2) L (ce_nm (xs (Int32.toNatClampNeg (x1 + 2))) (fun (x234 : Int32) =>
      ce_gi (x1 + 3) L (ce_nm (xs (Int32.toNatClampNeg (x1 + 3))) (fun (x237 : Int32) =>
      ce_b2 (f_L_stay M1 0 x231 x234 x237 421) (fun (M240 : ce_M) (x241 : Int32) =>
      ce_gi (x1 + 1) L (ce_nm (xs (Int32.toNatClampNeg (x1 + 1))) (fun (x243 : Int32) =>
      ce_gi (x1 + 2) L (ce_nm (xs (Int32.toNatClampNeg (x1 + 2))) (fun (x246 : Int32) =>
      ce_gi (x1 + 3) L (ce_nm (xs (Int32.toNatClampNeg (x1 + 3))) (fun (x249 : Int32) =>
      ce_b2 (f_X8_stay 414 M240 x243 x246 x249) (fun (M252 : ce_M) (x253 : Int32) =>
      ce_b1 (f_X8_thrown 414 M252) (fun (x255 : Int32) =>
      if x255 = x241 then
        if x241 = 0 then
          if (lg_cmp (ce_rl M252 1) (Int32.toInt64 x253)) = 0 then
            ce_nm (x1 + 4) (fun (x262 : Int32) =>
            rec M252 x262)
          else
            none
        else
          ce_nm (x1 + 4) (fun (x259 : Int32) =>
          rec M252 x259)
      else
        none)))))))))))))))
    else
    if (x3 &&& 31) = 9 then
      ce_gi (x1 + 1) L (ce_nm (xs (Int32.toNatClampNeg (x1 + 1))) (fun (x265 : Int32) =>
      ce_gi (x1 + 2) L (ce_nm (xs (Int32.toNatClampNeg (x1 + 2))) (fun (x268 : Int32) =>
      ce_b2 (f_L_waiting M1 0 x265 x268 421) (fun (M271 : ce_M) (x272 : Int32) =>
      ce_gi (x1 + 1) L (ce_nm (xs (Int32.toNatClampNeg (x1 + 1))) (fun (x274 : Int32) =>
      ce_gi (x1 + 2) L (ce_nm (xs (Int32.toNatClampNeg (x1 + 2))) (fun (x277 : Int32) =>
      ce_b2 (f_X8_waiting 414 M271 x274 x277) (fun (M280 : ce_M) (x281 : Int32) =>
      ce_b1 (f_X8_thrown 414 M280) (fun (x283 : Int32) =>
      if x283 = x272 then
        if x272 = 0 then
          if (lg_cmp (ce_rl M280 1) (Int32.toInt64 x281)) = 0 then
            ce_nm (x1 + 4) (fun (x290 : Int32) =>
            rec M280 x290)
          else
            none
        else
          ce_nm (x1 + 4) (fun (x287 : Int32) =>
          rec M280 x287)
      else
        none)))))))))))
    else
    if (x3 &&& 31) = 10 then
      ce_gi (x1 + 1) L (ce_nm (xs (Int32.toNatClampNeg (x1 + 1))) (fun (x293 : Int32) =>
      ce_gi (x1 + 2) L (ce_nm (xs (Int32.toNatClampNeg (x1 + 2))) (fun (x296 : Int32) =>
      ce_b2 (f_L_event M1 0 x293 x296 421) (fun (M299 : ce_M) (x300 : Int32) =>
      ce_gi (x1 + 1) L (ce_nm (xs (Int32.toNatClampNeg (x1 + 1))) (fun (x302 : Int32) =>
      ce_gi (x1 + 2) L (ce_nm (xs (Int32.toNatClampNeg (x1 + 2))) (fun (x305 : Int32) =>
      ce_b2 (f_X8_event 414 M299 x302 x305) (fun (M308 : ce_M) (x309 : Int32) =>
      ce_b1 (f_X8_thrown 414 M308) (fun (x311 : Int32) =>
      if x311 = x300 then
        if x300 = 0 then
          if (lg_cmp (ce_rl M308 1) (Int32.toInt64 x309)) = 0 then
            ce_nm (x1 + 4) (fun (x318 : Int32) =>
            rec M308 x318)
          else
            none
        else
          ce_nm (x1 + 4) (fun (x315 : Int32) =>
          rec M308 x315)
      else
        none)))))))))))
    else
    if (x3 &&& 31) = 11 then
      ce_gi (x1 + 1) L (ce_nm (xs (Int32.toNatClampNeg (x1 + 1))) (fun (x321 : Int32) =>
      ce_gi (x1 + 2) L (ce_nm (xs (Int32.toNatClampNeg (x1 + 2))) (fun (x324 : Int32) =>
      ce_b2 (f_L_leaf M1 0 x321 x324 421) (fun (M327 : ce_M) (x328 : Int32) =>
      ce_gi (x1 + 1) L (ce_nm (xs (Int32.toNatClampNeg (x1 + 1))) (fun (x330 : Int32) =>
      ce_gi (x1 + 2) L (ce_nm (xs (Int32.toNatClampNeg (x1 + 2))) (fun (x333 : Int32) =>
      ce_b2 (f_X8_leaf 414 M327 x330 x333) (fun (M336 : ce_M) (x337 : Int32) =>
      ce_b1 (f_X8_thrown 414 M336) (fun (x339 : Int32) =>
      if x339 = x328 then
        if x328 = 0 then
          if (lg_cmp (ce_rl M336 1) (Int32.toInt64 x337)) = 0 then
            ce_nm (x1 + 4) (fun (x346 : Int32) =>
            rec M336 x346)
          else
            none
        else
          ce_nm (x1 + 4) (fun (x343 : Int32) =>
          rec M336 x343)
      else
        none)))))))))))
    else
    if (x3 &&& 31) = 12 then
      ce_gi (x1 + 1) L (ce_nm (xs (Int32.toNatClampNeg (x1 + 1))) (fun (x349 : Int32) =>
      ce_b2 (f_L_whole M1 0 x349 421) (fun (M352 : ce_M) (x353 : Int32) =>
      ce_gi (x1 + 1) L (ce_nm (xs (Int32.toNatClampNeg (x1 + 1))) (fun (x355 : Int32) =>
      ce_b2 (f_X8_whole 414 M352 x355) (fun (M358 : ce_M) (x359 : Int32) =>
      ce_b1 (f_X8_thrown 414 M358) (fun (x361 : Int32) =>
      if x361 = x353 then
        if x353 = 0 then
          if (lg_cmp (ce_rl M358 1) (Int32.toInt64 x359)) = 0 then
            ce_nm (x1 + 4) (fun (x368 : Int32) =>
            rec M358 x368)
          else
            none
        else
          ce_nm (x1 + 4) (fun (x365 : Int32) =>
          rec M358 x365)
      else
        none)))))))
    else
    if (x3 &&& 31) = 13 then
      ce_gi (x1 + 1) L (ce_nm (xs (Int32.toNatClampNeg (x1 + 1))) (fun (x371 : Int32) =>
      ce_gi (x1 + 2) L (ce_nm (xs (Int32.toNatClampNeg (x1 + 2))) (fun (x374 : Int32) =>
      ce_gi (x1 + 3) L (ce_nm (xs (Int32.toNatClampNeg (x1 + 3))) (fun (x377 : Int32) =>
      ce_b2 (f_L_wouldReach M1 0 x371 x374 x377 421) (fun (M380 : ce_M) (x381 : Int32) =>
      ce_gi (x1 + 1) L (ce_nm (xs (Int32.toNatClampNeg (x1 + 1))) (fun (x383 : Int32) =>
      ce_gi (x1 + 2) L (ce_nm (xs (Int32.toNatClampNeg (x1 + 2))) (fun (x386 : Int32) =>
      ce_gi (x1 + 3) L (ce_nm (xs (Int32.toNatClampNeg (x1 + 3))) (fun (x389 : Int32) =>
      ce_b2 (f_X8_wouldReach 414 M380 x383 x386 x389) (fun (M392 : ce_M) (x393 : Int32) =>
      ce_b1 (f_X8_thrown 414 M392) (fun (x395 : Int32) =>
      if x395 = x381 then
        if x381 = 0 then
          if (lg_cmp (ce_rl M392 1) (Int32.toInt64 x393)) = 0 then
            ce_nm (x1 + 4) (fun (x402 : Int32) =>
            rec M392 x402)
          else
            none
        else
          ce_nm (x1 + 4) (fun (x399 : Int32) =>
          rec M392 x399)
      else
        none)))))))))))))))
    else
    if (x3 &&& 31) = 14 then
      ce_gi (x1 + 1) L (ce_nm (xs (Int32.toNatClampNeg (x1 + 1))) (fun (x405 : Int32) =>
      ce_gi (x1 + 2) L (ce_nm (xs (Int32.toNatClampNeg (x1 + 2))) (fun (x408 : Int32) =>
      ce_gi (x1 + 3) L (ce_nm (xs (Int32.toNatClampNeg (x1 + 3))) (fun (x411 : Int32) =>
      ce_b2 (f_L_reason M1 0 x405 x408 x411 421) (fun (M414 : ce_M) (x415 : Int32) =>
      ce_gi (x1 + 1) L (ce_nm (xs (Int32.toNatClampNeg (x1 + 1))) (fun (x417 : Int32) =>
      ce_gi (x1 + 2) L (ce_nm (xs (Int32.toNatClampNeg (x1 + 2))) (fun (x420 : Int32) =>
      ce_gi (x1 + 3) L (ce_nm (xs (Int32.toNatClampNeg (x1 + 3))) (fun (x423 : Int32) =>
      ce_b2 (f_X8_reason 414 M414 x417 x420 x423) (fun (M426 : ce_M) (x427 : Int32) =>
      ce_b1 (f_X8_thrown 414 M426) (fun (x429 : Int32) =>
      if x429 = x415 then
        if x415 = 0 then
          if (lg_cmp (ce_rl M426 1) (Int32.toInt64 x427)) = 0 then
            ce_nm (x1 + 4) (fun (x436 : Int32) =>
            rec M426 x436)
          else
            none
        else
          ce_nm (x1 + 4) (fun (x433 : Int32) =>
          rec M426 x433)
      else
        none)))))))))))))))
    else
    if (x3 &&& 31) = 15 then
      ce_gi (x1 + 1) L (ce_nm (xs (Int32.toNatClampNeg (x1 + 1))) (fun (x439 : Int32) =>
      ce_b2 (f_L_servedIn M1 0 x439 421) (fun (M442 : ce_M) (x443 : Int32) =>
      ce_gi (x1 + 1) L (ce_nm (xs (Int32.toNatClampNeg (x1 + 1))) (fun (x445 : Int32) =>
      ce_b2 (f_X8_servedIn 414 M442 x445) (fun (M448 : ce_M) (x449 : Int32) =>
      ce_b1 (f_X8_thrown 414 M448) (fun (x451 : Int32) =>
      if x451 = x443 then
        if x443 = 0 then
          if (lg_cmp (ce_rl M448 1) (Int32.toInt64 x449)) = 0 then
            ce_nm (x1 + 4) (fun (x458 : Int32) =>
            rec M448 x458)
          else
            none
        else
          ce_nm (x1 + 4) (fun (x455 : Int32) =>
          rec M448 x455)
      else
        none)))))))
    else
    if (x3 &&& 31) = 16 then
      ce_gi (x1 + 1) L (ce_nm (xs (Int32.toNatClampNeg (x1 + 1))) (fun (x461 : Int32) =>
      ce_b2 (f_L_emptyIn M1 0 x461 421) (fun (M464 : ce_M) (x465 : Int32) =>
      ce_gi (x1 + 1) L (ce_nm (xs (Int32.toNatClampNeg (x1 + 1))) (fun (x467 : Int32) =>
      ce_b2 (f_X8_emptyIn 414 M464 x467) (fun (M470 : ce_M) (x471 : Int32) =>
      ce_b1 (f_X8_thrown 414 M470) (fun (x473 : Int32) =>
      if x473 = x465 then
        if x465 = 0 then
          if (lg_cmp (ce_rl M470 1) (Int32.toInt64 x471)) = 0 then
            ce_nm (x1 + 4) (fun (x480 : Int32) =>
            rec M470 x480)
          else
            none
        else
          ce_nm (x1 + 4) (fun (x477 : Int32) =>
          rec M470 x477)
      else
        none)))))))
    else
    if (x3 &&& 31) = 17 then
      ce_gi (x1 + 1) L (ce_nm (xs (Int32.toNatClampNeg (x1 + 1))) (fun (x483 : Int32) =>
      ce_b2 (f_L_covered M1 0 x483 421) (fun (M486 : ce_M) (x487 : Int32) =>
      ce_gi (x1 + 1) L (ce_nm (xs (Int32.toNatClampNeg (x1 + 1))) (fun (x489 : Int32) =>
      ce_b2 (f_X8_covered 414 M486 x489) (fun (M492 : ce_M) (x493 : Int32) =>
      ce_b1 (f_X8_thrown 414 M492) (fun (x495 : Int32) =>
      if x495 = x487 then
        if x487 = 0 then
          if (lg_cmp (ce_rl M492 1) (Int32.toInt64 x493)) = 0 then
            ce_nm (x1 + 4) (fun (x502 : Int32) =>
            rec M492 x502)
          else
            none
        else
          ce_nm (x1 + 4) (fun (x499 : Int32) =>
          rec M492 x499)
      else
        none)))))))
    else
    if (x3 &&& 31) = 18 then
      ce_b1 (f_X7_busiest 0 M1) (fun (x505 : Int32) =>
      ce_b2 (f_X8_busiest 414 M1) (fun (M507 : ce_M) (x508 : Int32) =>
      if x505 = x508 then
        ce_nm (x1 + 4) (fun (x511 : Int32) =>
        rec M507 x511)
      else
        none))
    else
    if (x3 &&& 31) = 19 then
      ce_gi (x1 + 1) L (ce_nm (xs (Int32.toNatClampNeg (x1 + 1))) (fun (x514 : Int32) =>
      ce_b2 (f_L_type M1 0 x514 421) (fun (M517 : ce_M) (x518 : Int32) =>
      ce_gi (x1 + 1) L (ce_nm (xs (Int32.toNatClampNeg (x1 + 1))) (fun (x520 : Int32) =>
      ce_b2 (f_X8_type 414 M517 x520) (fun (M523 : ce_M) (x524 : Int32) =>
      ce_b1 (f_X8_thrown 414 M523) (fun (x526 : Int32) =>
      if x526 = x518 then
        if x518 = 0 then
          if (lg_cmp (ce_rl M523 1) (Int32.toInt64 x524)) = 0 then
            ce_nm (x1 + 4) (fun (x533 : Int32) =>
            rec M523 x533)
          else
            none
        else
          ce_nm (x1 + 4) (fun (x530 : Int32) =>
          rec M523 x530)
      else
        none)))))))
    else
    if (x3 &&& 31) = 20 then
      ce_b2 (f_X7_clearCommands 0 M1) (fun (M536 : ce_M) (x537 : Int32) =>
      ce_b2 (f_X8_clearCommands 414 M536) (fun (M539 : ce_M) (x540 : Int32) =>
      if x537 = x540 then
        ce_nm (x1 + 4) (fun (x543 : Int32) =>
        rec M539 x543)
      else
        none))
    else
    if (x3 &&& 31) = 21 then
      ce_b2 (f_X7_runCommands 0 M1) (fun (M546 : ce_M) (x547 : Int32) =>
      ce_b2 (f_X8_runCommands 414 M546) (fun (M549 : ce_M) (x550 : Int32) =>
      if x547 = x550 then
        ce_nm (x1 + 4) (fun (x553 : Int32) =>
        rec M549 x553)
      else
        none))
    else
    if (x3 &&& 31) = 22 then
      ce_b2 (f_L_undo M1 0 421) (fun (M556 : ce_M) (x557 : Int32) =>
      ce_b2 (f_X8_undo 414 M556) (fun (M559 : ce_M) (x560 : Int32) =>
      ce_b1 (f_X8_thrown 414 M559) (fun (x562 : Int32) =>
      if x562 = x557 then
        if x557 = 0 then
          if (lg_cmp (ce_rl M559 1) (Int32.toInt64 x560)) = 0 then
            ce_nm (x1 + 4) (fun (x569 : Int32) =>
            rec M559 x569)
          else
            none
        else
          ce_nm (x1 + 4) (fun (x566 : Int32) =>
          rec M559 x566)
      else
        none)))
    else
    if (x3 &&& 31) = 23 then
      ce_b1 (f_X7_digest 0 M1) (fun (q572 : Int64) =>
      ce_b2 (f_X8_digest 414 M1) (fun (M574 : ce_M) (q575 : Int64) =>
      if (lg_cmp q572 q575) = 0 then
        ce_nm (x1 + 4) (fun (x578 : Int32) =>
        rec M574 x578)
      else
        none))
    else
    ce_nm (x1 + 4) (fun (x580 : Int32) =>
    rec M1 x580)))
set_option maxRecDepth 100000 in
set_option maxHeartbeats 40000000 in
theorem law_loop {p : Program} {e : Env} {s : State} {m : MethodId} {below : List Frame} {meth : Method} {c : Code} (l : Launch) (hfl : l.stackTraces = false) {sb L : Nat} {xs : Nat → Int32} {X : ce_X} {G : ce_G} {b : Nat} (hbs : b = s.heap.size) (hx : p.tables.exec = Jvm.exec) (hb : c.code = code) (hr : meth.sig.returnType = ret) (hlocks : meth.locks = false) (hml : c.maxLocals = 7) (hown : s.vm.findClass RL = some m.cls) (hB : ∀ w ∈ ce_big, w.before #[Value.ref sb] s = true) (hF : ce_Fx X G b s) (hX : va_X sb L xs s s.heap) (hbl : sb < s.heap.size) :
    ∀ (n : Nat) (M1 : ce_M) (x1 : Int32), ce_lp2 (f_L_law_L23 xs L) n M1 x1 = some () → ∀ (cl sl : Nat), cl + 10 * n ≤ 601024 → sl + 60 * n ≤ 7293034 → ce_Wg p l e room_1 s m #[Value.ref sb] below meth c cl sl (lw_Z below #[Value.ref sb] s) X b M1 7 [(0, .ref sb), (1, .ref (b + 0)), (2, .ref (b + 414)), (3, .ref (b + 421)), (4, .int x1)] 23 [] := by
  have hK := hF.1
  have hbA : ¬ ce_Ab b sb := fun h => by
    have h : b ≤ sb := h
    omega
  intro n
  induction n with
  | zero => intro M1 x1 h; cases h
  | succ n ih =>
    intro M1 x1 h cl sl hcl hsl H locs ls hA hS hl
    have h : f_L_law_L23 xs L (ce_lp2 (f_L_law_L23 xs L) n) M1 x1 = some () := h
    unfold f_L_law_L23 at h
    refine lv_iload hx hb dL_law_23 (lv_at hl 4 rfl) ?_
    refine lv_aload_n hx hb dL_law_25 rfl (lv_at hl 0 rfl) ?_
    refine va_slen hx hb hX hbl hbA (hbs ▸ hS) dL_law_26 ?_
    refine lv_iconst (v := 4) hx hb dL_law_27 (by decide) ?_
    refine lv_isub hx hb dL_law_28 ?_
    refine lv_icmp_gt (tgt := 1519) hx hb dL_law_29 (by decide) (fun c2 => ?_) (fun c2 => ?_)
    · have h := ce_it c2 h
      refine lv_iconst (v := 1) hx hb dL_law_1519 (by decide) ?_
      refine va_forget (fun q hq => hbs ▸ hS.2.2 q hq) ?_
      exact W.widen (by omega) (by omega) (lw_ret hx hb hr hlocks dL_law_1520)
    · have h := ce_ie c2 h
      refine lv_aload_n hx hb dL_law_32 rfl (lv_at hl 0 rfl) ?_
      refine lv_iload hx hb dL_law_33 (lv_at hl 4 rfl) ?_
      obtain ⟨i4, h⟩ := ce_gi_e h
      obtain ⟨x3, e5, h⟩ := ce_nm_e h
      refine va_sld hx hb hX hbl hbA (hbs ▸ hS) i4 dL_law_35 ?_
      refine ce_top e5 ?_
      refine lv_bipush (v := 31) hx hb dL_law_36 (by decide) ?_
      refine lv_iand hx hb dL_law_38 ?_
      by_cases c6 : (x3 &&& 31) = 0
      · have h := ce_it c6 h
        refine lv_tableIn (off := 109) (tgt := 148) hx hb dL_law_39 (by rw [c6]; decide) (by rw [c6]; decide) (by rw [c6]; rfl) (by decide) ?_
        refine lv_aload_n hx hb dL_law_148 rfl (lv_at hl 1 rfl) ?_
        refine lv_aload_n hx hb dL_law_149 rfl (lv_at hl 0 rfl) ?_
        refine lv_iload hx hb dL_law_150 (lv_at hl 4 rfl) ?_
        refine lv_iconst (v := 1) hx hb dL_law_152 (by decide) ?_
        refine lv_iadd hx hb dL_law_153 ?_
        obtain ⟨i8, h⟩ := ce_gi_e h
        obtain ⟨x7, e9, h⟩ := ce_nm_e h
        refine va_sld hx hb hX hbl hbA (hbs ▸ hS) i8 dL_law_154 ?_
        refine ce_top e9 ?_
        refine lv_aload_n hx hb dL_law_155 rfl (lv_at hl 0 rfl) ?_
        refine lv_iload hx hb dL_law_156 (lv_at hl 4 rfl) ?_
        refine lv_iconst (v := 2) hx hb dL_law_158 (by decide) ?_
        refine lv_iadd hx hb dL_law_159 ?_
        obtain ⟨i11, h⟩ := ce_gi_e h
        obtain ⟨x10, e12, h⟩ := ce_nm_e h
        refine va_sld hx hb hX hbl hbA (hbs ▸ hS) i11 dL_law_160 ?_
        refine ce_top e12 ?_
        refine lv_aload_n hx hb dL_law_161 rfl (lv_at hl 0 rfl) ?_
        refine lv_iload hx hb dL_law_162 (lv_at hl 4 rfl) ?_
        refine lv_iconst (v := 3) hx hb dL_law_164 (by decide) ?_
        refine lv_iadd hx hb dL_law_165 ?_
        obtain ⟨i14, h⟩ := ce_gi_e h
        obtain ⟨x13, e15, h⟩ := ce_nm_e h
        refine va_sld hx hb hX hbl hbA (hbs ▸ hS) i14 dL_law_166 ?_
        refine ce_top e15 ?_
        refine lv_aload_n hx hb dL_law_167 rfl (lv_at hl 3 rfl) ?_
        obtain ⟨M16, x17, g18, h⟩ := ce_b2_e h
        refine ce_callWi (As := [.ref (b + 0), .int x7, .int x10, .int x13, .ref (b + 421)]) (rest := []) hx hb hml hown hB (c_L_subscribe l hfl X G b ce_k0 ce_k421 g18) ce_s_L_subscribe ce_w663 ⟨Nat.le_of_ble_eq_true rfl, Nat.le_of_ble_eq_true rfl⟩ hF hA hS hl rfl rfl (Nat.le_of_ble_eq_true rfl) dL_law_168 ⟨(by show _ ≤ 601024; omega), (by show _ ≤ 7293034; omega)⟩ (fun H locs hA hS => ?_)
        refine lv_istore (lv' := [(5, .int x17), (0, .ref sb), (1, .ref (b + 0)), (2, .ref (b + 414)), (3, .ref (b + 421)), (4, .int x1)]) hx hb dL_law_171 hl (by decide) rfl (fun ls hl => ?_)
        refine lv_aload_n hx hb dL_law_173 rfl (lv_at hl 3 rfl) ?_
        refine lv_aload_n hx hb dL_law_174 rfl (lv_at hl 1 rfl) ?_
        refine lv_iload hx hb dL_law_175 (lv_at hl 5 rfl) ?_
        refine lv_iconst (v := 1) hx hb dL_law_177 (by decide) ?_
        refine lv_iadd hx hb dL_law_178 ?_
        obtain ⟨i20, h⟩ := ce_gi_e h
        obtain ⟨x19, e21, h⟩ := ce_nm_e h
        refine va_sld hx hb hX hbl hbA (hbs ▸ hS) i20 dL_law_179 ?_
        refine ce_top e21 ?_
        refine lv_aload_n hx hb dL_law_180 rfl (lv_at hl 1 rfl) ?_
        refine lv_iload hx hb dL_law_181 (lv_at hl 5 rfl) ?_
        refine lv_iconst (v := 2) hx hb dL_law_183 (by decide) ?_
        refine lv_iadd hx hb dL_law_184 ?_
        obtain ⟨i23, h⟩ := ce_gi_e h
        obtain ⟨x22, e24, h⟩ := ce_nm_e h
        refine va_sld hx hb hX hbl hbA (hbs ▸ hS) i23 dL_law_185 ?_
        refine ce_top e24 ?_
        refine lv_aload_n hx hb dL_law_186 rfl (lv_at hl 1 rfl) ?_
        refine lv_iload hx hb dL_law_187 (lv_at hl 5 rfl) ?_
        refine lv_iconst (v := 3) hx hb dL_law_189 (by decide) ?_
        refine lv_iadd hx hb dL_law_190 ?_
        obtain ⟨i26, h⟩ := ce_gi_e h
        obtain ⟨x25, e27, h⟩ := ce_nm_e h
        refine va_sld hx hb hX hbl hbA (hbs ▸ hS) i26 dL_law_191 ?_
        refine ce_top e27 ?_
        obtain ⟨M28, x29, g30, h⟩ := ce_b2_e h
        refine ce_callVi (As := [.int x19, .int x22, .int x25]) (rest := []) hx hb hml hown hB (c_X8_subscribe l X G b ce_k414 g30) ce_v_X8_subscribe ce_w988 ⟨Nat.le_of_ble_eq_true rfl, Nat.le_of_ble_eq_true rfl⟩ hF hA hS (ce_rc_8 hK hA ce_k414) hl rfl rfl (Nat.le_of_ble_eq_true rfl) dL_law_192 ⟨(by show _ ≤ 601024; omega), (by show _ ≤ 7293034; omega)⟩ (fun H locs hA hS => ?_)
        refine lv_istore (lv' := [(6, .int x29), (5, .int x17), (0, .ref sb), (1, .ref (b + 0)), (2, .ref (b + 414)), (3, .ref (b + 421)), (4, .int x1)]) hx hb dL_law_195 hl (by decide) rfl (fun ls hl => ?_)
        refine lv_aload_n hx hb dL_law_197 rfl (lv_at hl 4 rfl) ?_
        obtain ⟨x31, g32, h⟩ := ce_b1_e h
        refine ce_callVi (As := []) (rest := []) hx hb hml hown hB (c_X8_thrown l X G b ce_k414 g32) ce_v_X8_thrown ce_w984 ⟨Nat.le_of_ble_eq_true rfl, Nat.le_of_ble_eq_true rfl⟩ hF hA hS (ce_rc_8 hK hA ce_k414) hl rfl rfl (Nat.le_of_ble_eq_true rfl) dL_law_198 ⟨(by show _ ≤ 601024; omega), (by show _ ≤ 7293034; omega)⟩ (fun H locs hA hS => ?_)
        refine lv_iload hx hb dL_law_201 (lv_at hl 1 rfl) ?_
        refine lv_icmp_eq (tgt := 208) hx hb dL_law_203 (by decide) (fun c33 => ?_) (fun c33 => ?_)
        · have h := ce_it c33 h
          refine lv_iload hx hb dL_law_208 (lv_at hl 1 rfl) ?_
          refine lv_if_ne (tgt := 225) hx hb dL_law_210 (by decide) (fun c34 => ?_) (fun c34 => ?_)
          · have h := ce_ie c34 h
            refine lv_goto (tgt := 1513) hx hb dL_law_225 (by decide) ?_
            obtain ⟨x35, e36, h⟩ := ce_nm_e h
            refine lv_iinc (v := x35) (lv' := [(4, .int x35), (6, .int x29), (5, .int x17), (0, .ref sb), (1, .ref (b + 0)), (2, .ref (b + 414)), (3, .ref (b + 421))]) hx hb dL_law_1513 hl (k := 6) rfl (by rw [← e36]; rfl) (by decide) rfl (fun ls hl => ?_)
            refine lv_goto (tgt := 23) hx hb dL_law_1516 (by decide) ?_
            exact ih M28 x35 h _ _ (by omega) (by omega) _ _ _ hA hS (lv_sub hl [3, 4, 5, 6, 0] rfl)
          · have h := ce_it c34 h
            refine lv_aload_n hx hb dL_law_213 rfl (lv_at hl 5 rfl) ?_
            refine lv_iconst (v := 0) hx hb dL_law_214 (by decide) ?_
            refine ce_lald hx hb hK hA ce_k421 dL_law_215 ?_
            refine lv_iload hx hb dL_law_216 (lv_at hl 0 rfl) ?_
            refine lv_i2l hx hb dL_law_218 rfl ?_
            refine W.lcmp hx hb dL_law_219 ?_
            refine lv_if_eq (tgt := 225) hx hb dL_law_220 (by decide) (fun c37 => ?_) (fun c37 => ?_)
            · have h := ce_it c37 h
              refine lv_goto (tgt := 1513) hx hb dL_law_225 (by decide) ?_
              obtain ⟨x38, e39, h⟩ := ce_nm_e h
              refine lv_iinc (v := x38) (lv' := [(4, .int x38), (6, .int x29), (5, .int x17), (0, .ref sb), (1, .ref (b + 0)), (2, .ref (b + 414)), (3, .ref (b + 421))]) hx hb dL_law_1513 hl (k := 6) rfl (by rw [← e39]; rfl) (by decide) rfl (fun ls hl => ?_)
              refine lv_goto (tgt := 23) hx hb dL_law_1516 (by decide) ?_
              exact ih M28 x38 h _ _ (by omega) (by omega) _ _ _ hA hS (lv_sub hl [3, 4, 5, 6, 0] rfl)
            · have h := ce_ie c37 h
              refine lv_iconst (v := 0) hx hb dL_law_223 (by decide) ?_
              cases h
        · have h := ce_ie c33 h
          refine lv_iconst (v := 0) hx hb dL_law_206 (by decide) ?_
          cases h
      have h := ce_ie c6 h
      by_cases c40 : (x3 &&& 31) = 1
      · have h := ce_it c40 h
        refine lv_tableIn (off := 189) (tgt := 228) hx hb dL_law_39 (by rw [c40]; decide) (by rw [c40]; decide) (by rw [c40]; rfl) (by decide) ?_
        refine lv_aload_n hx hb dL_law_228 rfl (lv_at hl 1 rfl) ?_
        refine lv_aload_n hx hb dL_law_229 rfl (lv_at hl 0 rfl) ?_
        refine lv_iload hx hb dL_law_230 (lv_at hl 4 rfl) ?_
        refine lv_iconst (v := 1) hx hb dL_law_232 (by decide) ?_
        refine lv_iadd hx hb dL_law_233 ?_
        obtain ⟨i42, h⟩ := ce_gi_e h
        obtain ⟨x41, e43, h⟩ := ce_nm_e h
        refine va_sld hx hb hX hbl hbA (hbs ▸ hS) i42 dL_law_234 ?_
        refine ce_top e43 ?_
        refine lv_aload_n hx hb dL_law_235 rfl (lv_at hl 0 rfl) ?_
        refine lv_iload hx hb dL_law_236 (lv_at hl 4 rfl) ?_
        refine lv_iconst (v := 2) hx hb dL_law_238 (by decide) ?_
        refine lv_iadd hx hb dL_law_239 ?_
        obtain ⟨i45, h⟩ := ce_gi_e h
        obtain ⟨x44, e46, h⟩ := ce_nm_e h
        refine va_sld hx hb hX hbl hbA (hbs ▸ hS) i45 dL_law_240 ?_
        refine ce_top e46 ?_
        refine lv_aload_n hx hb dL_law_241 rfl (lv_at hl 3 rfl) ?_
        obtain ⟨M47, x48, g49, h⟩ := ce_b2_e h
        refine ce_callWi (As := [.ref (b + 0), .int x41, .int x44, .ref (b + 421)]) (rest := []) hx hb hml hown hB (c_L_move l hfl X G b ce_k0 ce_k421 g49) ce_s_L_move ce_w779 ⟨Nat.le_of_ble_eq_true rfl, Nat.le_of_ble_eq_true rfl⟩ hF hA hS hl rfl rfl (Nat.le_of_ble_eq_true rfl) dL_law_242 ⟨(by show _ ≤ 601024; omega), (by show _ ≤ 7293034; omega)⟩ (fun H locs hA hS => ?_)
        refine lv_istore (lv' := [(5, .int x48), (0, .ref sb), (1, .ref (b + 0)), (2, .ref (b + 414)), (3, .ref (b + 421)), (4, .int x1)]) hx hb dL_law_245 hl (by decide) rfl (fun ls hl => ?_)
        refine lv_aload_n hx hb dL_law_247 rfl (lv_at hl 3 rfl) ?_
        refine lv_aload_n hx hb dL_law_248 rfl (lv_at hl 1 rfl) ?_
        refine lv_iload hx hb dL_law_249 (lv_at hl 5 rfl) ?_
        refine lv_iconst (v := 1) hx hb dL_law_251 (by decide) ?_
        refine lv_iadd hx hb dL_law_252 ?_
        obtain ⟨i51, h⟩ := ce_gi_e h
        obtain ⟨x50, e52, h⟩ := ce_nm_e h
        refine va_sld hx hb hX hbl hbA (hbs ▸ hS) i51 dL_law_253 ?_
        refine ce_top e52 ?_
        refine lv_aload_n hx hb dL_law_254 rfl (lv_at hl 1 rfl) ?_
        refine lv_iload hx hb dL_law_255 (lv_at hl 5 rfl) ?_
        refine lv_iconst (v := 2) hx hb dL_law_257 (by decide) ?_
        refine lv_iadd hx hb dL_law_258 ?_
        obtain ⟨i54, h⟩ := ce_gi_e h
        obtain ⟨x53, e55, h⟩ := ce_nm_e h
        refine va_sld hx hb hX hbl hbA (hbs ▸ hS) i54 dL_law_259 ?_
        refine ce_top e55 ?_
        obtain ⟨M56, x57, g58, h⟩ := ce_b2_e h
        refine ce_callVi (As := [.int x50, .int x53]) (rest := []) hx hb hml hown hB (c_X8_move l X G b ce_k414 g58) ce_v_X8_move ce_w1045 ⟨Nat.le_of_ble_eq_true rfl, Nat.le_of_ble_eq_true rfl⟩ hF hA hS (ce_rc_8 hK hA ce_k414) hl rfl rfl (Nat.le_of_ble_eq_true rfl) dL_law_260 ⟨(by show _ ≤ 601024; omega), (by show _ ≤ 7293034; omega)⟩ (fun H locs hA hS => ?_)
        refine lv_istore (lv' := [(6, .int x57), (5, .int x48), (0, .ref sb), (1, .ref (b + 0)), (2, .ref (b + 414)), (3, .ref (b + 421)), (4, .int x1)]) hx hb dL_law_263 hl (by decide) rfl (fun ls hl => ?_)
        refine lv_aload_n hx hb dL_law_265 rfl (lv_at hl 4 rfl) ?_
        obtain ⟨x59, g60, h⟩ := ce_b1_e h
        refine ce_callVi (As := []) (rest := []) hx hb hml hown hB (c_X8_thrown l X G b ce_k414 g60) ce_v_X8_thrown ce_w984 ⟨Nat.le_of_ble_eq_true rfl, Nat.le_of_ble_eq_true rfl⟩ hF hA hS (ce_rc_8 hK hA ce_k414) hl rfl rfl (Nat.le_of_ble_eq_true rfl) dL_law_266 ⟨(by show _ ≤ 601024; omega), (by show _ ≤ 7293034; omega)⟩ (fun H locs hA hS => ?_)
        refine lv_iload hx hb dL_law_269 (lv_at hl 1 rfl) ?_
        refine lv_icmp_eq (tgt := 276) hx hb dL_law_271 (by decide) (fun c61 => ?_) (fun c61 => ?_)
        · have h := ce_it c61 h
          refine lv_iload hx hb dL_law_276 (lv_at hl 1 rfl) ?_
          refine lv_if_ne (tgt := 293) hx hb dL_law_278 (by decide) (fun c62 => ?_) (fun c62 => ?_)
          · have h := ce_ie c62 h
            refine lv_goto (tgt := 1513) hx hb dL_law_293 (by decide) ?_
            obtain ⟨x63, e64, h⟩ := ce_nm_e h
            refine lv_iinc (v := x63) (lv' := [(4, .int x63), (6, .int x57), (5, .int x48), (0, .ref sb), (1, .ref (b + 0)), (2, .ref (b + 414)), (3, .ref (b + 421))]) hx hb dL_law_1513 hl (k := 6) rfl (by rw [← e64]; rfl) (by decide) rfl (fun ls hl => ?_)
            refine lv_goto (tgt := 23) hx hb dL_law_1516 (by decide) ?_
            exact ih M56 x63 h _ _ (by omega) (by omega) _ _ _ hA hS (lv_sub hl [3, 4, 5, 6, 0] rfl)
          · have h := ce_it c62 h
            refine lv_aload_n hx hb dL_law_281 rfl (lv_at hl 5 rfl) ?_
            refine lv_iconst (v := 0) hx hb dL_law_282 (by decide) ?_
            refine ce_lald hx hb hK hA ce_k421 dL_law_283 ?_
            refine lv_iload hx hb dL_law_284 (lv_at hl 0 rfl) ?_
            refine lv_i2l hx hb dL_law_286 rfl ?_
            refine W.lcmp hx hb dL_law_287 ?_
            refine lv_if_eq (tgt := 293) hx hb dL_law_288 (by decide) (fun c65 => ?_) (fun c65 => ?_)
            · have h := ce_it c65 h
              refine lv_goto (tgt := 1513) hx hb dL_law_293 (by decide) ?_
              obtain ⟨x66, e67, h⟩ := ce_nm_e h
              refine lv_iinc (v := x66) (lv' := [(4, .int x66), (6, .int x57), (5, .int x48), (0, .ref sb), (1, .ref (b + 0)), (2, .ref (b + 414)), (3, .ref (b + 421))]) hx hb dL_law_1513 hl (k := 6) rfl (by rw [← e67]; rfl) (by decide) rfl (fun ls hl => ?_)
              refine lv_goto (tgt := 23) hx hb dL_law_1516 (by decide) ?_
              exact ih M56 x66 h _ _ (by omega) (by omega) _ _ _ hA hS (lv_sub hl [3, 4, 5, 6, 0] rfl)
            · have h := ce_ie c65 h
              refine lv_iconst (v := 0) hx hb dL_law_291 (by decide) ?_
              cases h
        · have h := ce_ie c61 h
          refine lv_iconst (v := 0) hx hb dL_law_274 (by decide) ?_
          cases h
      have h := ce_ie c40 h
      by_cases c68 : (x3 &&& 31) = 2
      · have h := ce_it c68 h
        refine lv_tableIn (off := 257) (tgt := 296) hx hb dL_law_39 (by rw [c68]; decide) (by rw [c68]; decide) (by rw [c68]; rfl) (by decide) ?_
        refine lv_aload_n hx hb dL_law_296 rfl (lv_at hl 1 rfl) ?_
        refine lv_aload_n hx hb dL_law_297 rfl (lv_at hl 0 rfl) ?_
        refine lv_iload hx hb dL_law_298 (lv_at hl 4 rfl) ?_
        refine lv_iconst (v := 1) hx hb dL_law_300 (by decide) ?_
        refine lv_iadd hx hb dL_law_301 ?_
        obtain ⟨i70, h⟩ := ce_gi_e h
        obtain ⟨x69, e71, h⟩ := ce_nm_e h
        refine va_sld hx hb hX hbl hbA (hbs ▸ hS) i70 dL_law_302 ?_
        refine ce_top e71 ?_
        refine lv_aload_n hx hb dL_law_303 rfl (lv_at hl 3 rfl) ?_
        obtain ⟨M72, x73, g74, h⟩ := ce_b2_e h
        refine ce_callWi (As := [.ref (b + 0), .int x69, .ref (b + 421)]) (rest := []) hx hb hml hown hB (c_L_leave l hfl X G b ce_k0 ce_k421 g74) ce_s_L_leave ce_w786 ⟨Nat.le_of_ble_eq_true rfl, Nat.le_of_ble_eq_true rfl⟩ hF hA hS hl rfl rfl (Nat.le_of_ble_eq_true rfl) dL_law_304 ⟨(by show _ ≤ 601024; omega), (by show _ ≤ 7293034; omega)⟩ (fun H locs hA hS => ?_)
        refine lv_istore (lv' := [(5, .int x73), (0, .ref sb), (1, .ref (b + 0)), (2, .ref (b + 414)), (3, .ref (b + 421)), (4, .int x1)]) hx hb dL_law_307 hl (by decide) rfl (fun ls hl => ?_)
        refine lv_aload_n hx hb dL_law_309 rfl (lv_at hl 3 rfl) ?_
        refine lv_aload_n hx hb dL_law_310 rfl (lv_at hl 1 rfl) ?_
        refine lv_iload hx hb dL_law_311 (lv_at hl 5 rfl) ?_
        refine lv_iconst (v := 1) hx hb dL_law_313 (by decide) ?_
        refine lv_iadd hx hb dL_law_314 ?_
        obtain ⟨i76, h⟩ := ce_gi_e h
        obtain ⟨x75, e77, h⟩ := ce_nm_e h
        refine va_sld hx hb hX hbl hbA (hbs ▸ hS) i76 dL_law_315 ?_
        refine ce_top e77 ?_
        obtain ⟨M78, x79, g80, h⟩ := ce_b2_e h
        refine ce_callVi (As := [.int x75]) (rest := []) hx hb hml hown hB (c_X8_leave l X G b ce_k414 g80) ce_v_X8_leave ce_w1057 ⟨Nat.le_of_ble_eq_true rfl, Nat.le_of_ble_eq_true rfl⟩ hF hA hS (ce_rc_8 hK hA ce_k414) hl rfl rfl (Nat.le_of_ble_eq_true rfl) dL_law_316 ⟨(by show _ ≤ 601024; omega), (by show _ ≤ 7293034; omega)⟩ (fun H locs hA hS => ?_)
        refine lv_istore (lv' := [(6, .int x79), (5, .int x73), (0, .ref sb), (1, .ref (b + 0)), (2, .ref (b + 414)), (3, .ref (b + 421)), (4, .int x1)]) hx hb dL_law_319 hl (by decide) rfl (fun ls hl => ?_)
        refine lv_aload_n hx hb dL_law_321 rfl (lv_at hl 4 rfl) ?_
        obtain ⟨x81, g82, h⟩ := ce_b1_e h
        refine ce_callVi (As := []) (rest := []) hx hb hml hown hB (c_X8_thrown l X G b ce_k414 g82) ce_v_X8_thrown ce_w984 ⟨Nat.le_of_ble_eq_true rfl, Nat.le_of_ble_eq_true rfl⟩ hF hA hS (ce_rc_8 hK hA ce_k414) hl rfl rfl (Nat.le_of_ble_eq_true rfl) dL_law_322 ⟨(by show _ ≤ 601024; omega), (by show _ ≤ 7293034; omega)⟩ (fun H locs hA hS => ?_)
        refine lv_iload hx hb dL_law_325 (lv_at hl 1 rfl) ?_
        refine lv_icmp_eq (tgt := 332) hx hb dL_law_327 (by decide) (fun c83 => ?_) (fun c83 => ?_)
        · have h := ce_it c83 h
          refine lv_iload hx hb dL_law_332 (lv_at hl 1 rfl) ?_
          refine lv_if_ne (tgt := 349) hx hb dL_law_334 (by decide) (fun c84 => ?_) (fun c84 => ?_)
          · have h := ce_ie c84 h
            refine lv_goto (tgt := 1513) hx hb dL_law_349 (by decide) ?_
            obtain ⟨x85, e86, h⟩ := ce_nm_e h
            refine lv_iinc (v := x85) (lv' := [(4, .int x85), (6, .int x79), (5, .int x73), (0, .ref sb), (1, .ref (b + 0)), (2, .ref (b + 414)), (3, .ref (b + 421))]) hx hb dL_law_1513 hl (k := 6) rfl (by rw [← e86]; rfl) (by decide) rfl (fun ls hl => ?_)
            refine lv_goto (tgt := 23) hx hb dL_law_1516 (by decide) ?_
            exact ih M78 x85 h _ _ (by omega) (by omega) _ _ _ hA hS (lv_sub hl [3, 4, 5, 6, 0] rfl)
          · have h := ce_it c84 h
            refine lv_aload_n hx hb dL_law_337 rfl (lv_at hl 5 rfl) ?_
            refine lv_iconst (v := 0) hx hb dL_law_338 (by decide) ?_
            refine ce_lald hx hb hK hA ce_k421 dL_law_339 ?_
            refine lv_iload hx hb dL_law_340 (lv_at hl 0 rfl) ?_
            refine lv_i2l hx hb dL_law_342 rfl ?_
            refine W.lcmp hx hb dL_law_343 ?_
            refine lv_if_eq (tgt := 349) hx hb dL_law_344 (by decide) (fun c87 => ?_) (fun c87 => ?_)
            · have h := ce_it c87 h
              refine lv_goto (tgt := 1513) hx hb dL_law_349 (by decide) ?_
              obtain ⟨x88, e89, h⟩ := ce_nm_e h
              refine lv_iinc (v := x88) (lv' := [(4, .int x88), (6, .int x79), (5, .int x73), (0, .ref sb), (1, .ref (b + 0)), (2, .ref (b + 414)), (3, .ref (b + 421))]) hx hb dL_law_1513 hl (k := 6) rfl (by rw [← e89]; rfl) (by decide) rfl (fun ls hl => ?_)
              refine lv_goto (tgt := 23) hx hb dL_law_1516 (by decide) ?_
              exact ih M78 x88 h _ _ (by omega) (by omega) _ _ _ hA hS (lv_sub hl [3, 4, 5, 6, 0] rfl)
            · have h := ce_ie c87 h
              refine lv_iconst (v := 0) hx hb dL_law_347 (by decide) ?_
              cases h
        · have h := ce_ie c83 h
          refine lv_iconst (v := 0) hx hb dL_law_330 (by decide) ?_
          cases h
      have h := ce_ie c68 h
      by_cases c90 : (x3 &&& 31) = 3
      · have h := ce_it c90 h
        refine lv_tableIn (off := 313) (tgt := 352) hx hb dL_law_39 (by rw [c90]; decide) (by rw [c90]; decide) (by rw [c90]; rfl) (by decide) ?_
        refine lv_aload_n hx hb dL_law_352 rfl (lv_at hl 1 rfl) ?_
        refine lv_aload_n hx hb dL_law_353 rfl (lv_at hl 0 rfl) ?_
        refine lv_iload hx hb dL_law_354 (lv_at hl 4 rfl) ?_
        refine lv_iconst (v := 1) hx hb dL_law_356 (by decide) ?_
        refine lv_iadd hx hb dL_law_357 ?_
        obtain ⟨i92, h⟩ := ce_gi_e h
        obtain ⟨x91, e93, h⟩ := ce_nm_e h
        refine va_sld hx hb hX hbl hbA (hbs ▸ hS) i92 dL_law_358 ?_
        refine ce_top e93 ?_
        refine lv_aload_n hx hb dL_law_359 rfl (lv_at hl 0 rfl) ?_
        refine lv_iload hx hb dL_law_360 (lv_at hl 4 rfl) ?_
        refine lv_iconst (v := 2) hx hb dL_law_362 (by decide) ?_
        refine lv_iadd hx hb dL_law_363 ?_
        obtain ⟨i95, h⟩ := ce_gi_e h
        obtain ⟨x94, e96, h⟩ := ce_nm_e h
        refine va_sld hx hb hX hbl hbA (hbs ▸ hS) i95 dL_law_364 ?_
        refine ce_top e96 ?_
        refine lv_aload_n hx hb dL_law_365 rfl (lv_at hl 3 rfl) ?_
        obtain ⟨M97, x98, g99, h⟩ := ce_b2_e h
        refine ce_callWi (As := [.ref (b + 0), .int x91, .int x94, .ref (b + 421)]) (rest := []) hx hb hml hown hB (c_L_setLevel l hfl X G b ce_k0 ce_k421 g99) ce_s_L_setLevel ce_w793 ⟨Nat.le_of_ble_eq_true rfl, Nat.le_of_ble_eq_true rfl⟩ hF hA hS hl rfl rfl (Nat.le_of_ble_eq_true rfl) dL_law_366 ⟨(by show _ ≤ 601024; omega), (by show _ ≤ 7293034; omega)⟩ (fun H locs hA hS => ?_)
        refine lv_istore (lv' := [(5, .int x98), (0, .ref sb), (1, .ref (b + 0)), (2, .ref (b + 414)), (3, .ref (b + 421)), (4, .int x1)]) hx hb dL_law_369 hl (by decide) rfl (fun ls hl => ?_)
        refine lv_aload_n hx hb dL_law_371 rfl (lv_at hl 3 rfl) ?_
        refine lv_aload_n hx hb dL_law_372 rfl (lv_at hl 1 rfl) ?_
        refine lv_iload hx hb dL_law_373 (lv_at hl 5 rfl) ?_
        refine lv_iconst (v := 1) hx hb dL_law_375 (by decide) ?_
        refine lv_iadd hx hb dL_law_376 ?_
        obtain ⟨i101, h⟩ := ce_gi_e h
        obtain ⟨x100, e102, h⟩ := ce_nm_e h
        refine va_sld hx hb hX hbl hbA (hbs ▸ hS) i101 dL_law_377 ?_
        refine ce_top e102 ?_
        refine lv_aload_n hx hb dL_law_378 rfl (lv_at hl 1 rfl) ?_
        refine lv_iload hx hb dL_law_379 (lv_at hl 5 rfl) ?_
        refine lv_iconst (v := 2) hx hb dL_law_381 (by decide) ?_
        refine lv_iadd hx hb dL_law_382 ?_
        obtain ⟨i104, h⟩ := ce_gi_e h
        obtain ⟨x103, e105, h⟩ := ce_nm_e h
        refine va_sld hx hb hX hbl hbA (hbs ▸ hS) i104 dL_law_383 ?_
        refine ce_top e105 ?_
        obtain ⟨M106, x107, g108, h⟩ := ce_b2_e h
        refine ce_callVi (As := [.int x100, .int x103]) (rest := []) hx hb hml hown hB (c_X8_setLevel l X G b ce_k414 g108) ce_v_X8_setLevel ce_w1069 ⟨Nat.le_of_ble_eq_true rfl, Nat.le_of_ble_eq_true rfl⟩ hF hA hS (ce_rc_8 hK hA ce_k414) hl rfl rfl (Nat.le_of_ble_eq_true rfl) dL_law_384 ⟨(by show _ ≤ 601024; omega), (by show _ ≤ 7293034; omega)⟩ (fun H locs hA hS => ?_)
        refine lv_istore (lv' := [(6, .int x107), (5, .int x98), (0, .ref sb), (1, .ref (b + 0)), (2, .ref (b + 414)), (3, .ref (b + 421)), (4, .int x1)]) hx hb dL_law_387 hl (by decide) rfl (fun ls hl => ?_)
        refine lv_aload_n hx hb dL_law_389 rfl (lv_at hl 4 rfl) ?_
        obtain ⟨x109, g110, h⟩ := ce_b1_e h
        refine ce_callVi (As := []) (rest := []) hx hb hml hown hB (c_X8_thrown l X G b ce_k414 g110) ce_v_X8_thrown ce_w984 ⟨Nat.le_of_ble_eq_true rfl, Nat.le_of_ble_eq_true rfl⟩ hF hA hS (ce_rc_8 hK hA ce_k414) hl rfl rfl (Nat.le_of_ble_eq_true rfl) dL_law_390 ⟨(by show _ ≤ 601024; omega), (by show _ ≤ 7293034; omega)⟩ (fun H locs hA hS => ?_)
        refine lv_iload hx hb dL_law_393 (lv_at hl 1 rfl) ?_
        refine lv_icmp_eq (tgt := 400) hx hb dL_law_395 (by decide) (fun c111 => ?_) (fun c111 => ?_)
        · have h := ce_it c111 h
          refine lv_iload hx hb dL_law_400 (lv_at hl 1 rfl) ?_
          refine lv_if_ne (tgt := 417) hx hb dL_law_402 (by decide) (fun c112 => ?_) (fun c112 => ?_)
          · have h := ce_ie c112 h
            refine lv_goto (tgt := 1513) hx hb dL_law_417 (by decide) ?_
            obtain ⟨x113, e114, h⟩ := ce_nm_e h
            refine lv_iinc (v := x113) (lv' := [(4, .int x113), (6, .int x107), (5, .int x98), (0, .ref sb), (1, .ref (b + 0)), (2, .ref (b + 414)), (3, .ref (b + 421))]) hx hb dL_law_1513 hl (k := 6) rfl (by rw [← e114]; rfl) (by decide) rfl (fun ls hl => ?_)
            refine lv_goto (tgt := 23) hx hb dL_law_1516 (by decide) ?_
            exact ih M106 x113 h _ _ (by omega) (by omega) _ _ _ hA hS (lv_sub hl [3, 4, 5, 6, 0] rfl)
          · have h := ce_it c112 h
            refine lv_aload_n hx hb dL_law_405 rfl (lv_at hl 5 rfl) ?_
            refine lv_iconst (v := 0) hx hb dL_law_406 (by decide) ?_
            refine ce_lald hx hb hK hA ce_k421 dL_law_407 ?_
            refine lv_iload hx hb dL_law_408 (lv_at hl 0 rfl) ?_
            refine lv_i2l hx hb dL_law_410 rfl ?_
            refine W.lcmp hx hb dL_law_411 ?_
            refine lv_if_eq (tgt := 417) hx hb dL_law_412 (by decide) (fun c115 => ?_) (fun c115 => ?_)
            · have h := ce_it c115 h
              refine lv_goto (tgt := 1513) hx hb dL_law_417 (by decide) ?_
              obtain ⟨x116, e117, h⟩ := ce_nm_e h
              refine lv_iinc (v := x116) (lv' := [(4, .int x116), (6, .int x107), (5, .int x98), (0, .ref sb), (1, .ref (b + 0)), (2, .ref (b + 414)), (3, .ref (b + 421))]) hx hb dL_law_1513 hl (k := 6) rfl (by rw [← e117]; rfl) (by decide) rfl (fun ls hl => ?_)
              refine lv_goto (tgt := 23) hx hb dL_law_1516 (by decide) ?_
              exact ih M106 x116 h _ _ (by omega) (by omega) _ _ _ hA hS (lv_sub hl [3, 4, 5, 6, 0] rfl)
            · have h := ce_ie c115 h
              refine lv_iconst (v := 0) hx hb dL_law_415 (by decide) ?_
              cases h
        · have h := ce_ie c111 h
          refine lv_iconst (v := 0) hx hb dL_law_398 (by decide) ?_
          cases h
      have h := ce_ie c90 h
      by_cases c118 : (x3 &&& 31) = 4
      · have h := ce_it c118 h
        refine lv_tableIn (off := 381) (tgt := 420) hx hb dL_law_39 (by rw [c118]; decide) (by rw [c118]; decide) (by rw [c118]; rfl) (by decide) ?_
        refine lv_aload_n hx hb dL_law_420 rfl (lv_at hl 1 rfl) ?_
        refine lv_aload_n hx hb dL_law_421 rfl (lv_at hl 0 rfl) ?_
        refine lv_iload hx hb dL_law_422 (lv_at hl 4 rfl) ?_
        refine lv_iconst (v := 1) hx hb dL_law_424 (by decide) ?_
        refine lv_iadd hx hb dL_law_425 ?_
        obtain ⟨i120, h⟩ := ce_gi_e h
        obtain ⟨x119, e121, h⟩ := ce_nm_e h
        refine va_sld hx hb hX hbl hbA (hbs ▸ hS) i120 dL_law_426 ?_
        refine ce_top e121 ?_
        refine lv_aload_n hx hb dL_law_427 rfl (lv_at hl 0 rfl) ?_
        refine lv_iload hx hb dL_law_428 (lv_at hl 4 rfl) ?_
        refine lv_iconst (v := 2) hx hb dL_law_430 (by decide) ?_
        refine lv_iadd hx hb dL_law_431 ?_
        obtain ⟨i123, h⟩ := ce_gi_e h
        obtain ⟨x122, e124, h⟩ := ce_nm_e h
        refine va_sld hx hb hX hbl hbA (hbs ▸ hS) i123 dL_law_432 ?_
        refine ce_top e124 ?_
        refine lv_aload_n hx hb dL_law_433 rfl (lv_at hl 3 rfl) ?_
        obtain ⟨M125, x126, g127, h⟩ := ce_b2_e h
        refine ce_callWi (As := [.ref (b + 0), .int x119, .int x122, .ref (b + 421)]) (rest := []) hx hb hml hown hB (c_L_set l hfl X G b ce_k0 ce_k421 g127) ce_s_L_set ce_w800 ⟨Nat.le_of_ble_eq_true rfl, Nat.le_of_ble_eq_true rfl⟩ hF hA hS hl rfl rfl (Nat.le_of_ble_eq_true rfl) dL_law_434 ⟨(by show _ ≤ 601024; omega), (by show _ ≤ 7293034; omega)⟩ (fun H locs hA hS => ?_)
        refine lv_istore (lv' := [(5, .int x126), (0, .ref sb), (1, .ref (b + 0)), (2, .ref (b + 414)), (3, .ref (b + 421)), (4, .int x1)]) hx hb dL_law_437 hl (by decide) rfl (fun ls hl => ?_)
        refine lv_aload_n hx hb dL_law_439 rfl (lv_at hl 3 rfl) ?_
        refine lv_aload_n hx hb dL_law_440 rfl (lv_at hl 1 rfl) ?_
        refine lv_iload hx hb dL_law_441 (lv_at hl 5 rfl) ?_
        refine lv_iconst (v := 1) hx hb dL_law_443 (by decide) ?_
        refine lv_iadd hx hb dL_law_444 ?_
        obtain ⟨i129, h⟩ := ce_gi_e h
        obtain ⟨x128, e130, h⟩ := ce_nm_e h
        refine va_sld hx hb hX hbl hbA (hbs ▸ hS) i129 dL_law_445 ?_
        refine ce_top e130 ?_
        refine lv_aload_n hx hb dL_law_446 rfl (lv_at hl 1 rfl) ?_
        refine lv_iload hx hb dL_law_447 (lv_at hl 5 rfl) ?_
        refine lv_iconst (v := 2) hx hb dL_law_449 (by decide) ?_
        refine lv_iadd hx hb dL_law_450 ?_
        obtain ⟨i132, h⟩ := ce_gi_e h
        obtain ⟨x131, e133, h⟩ := ce_nm_e h
        refine va_sld hx hb hX hbl hbA (hbs ▸ hS) i132 dL_law_451 ?_
        refine ce_top e133 ?_
        obtain ⟨M134, x135, g136, h⟩ := ce_b2_e h
        refine ce_callVi (As := [.int x128, .int x131]) (rest := []) hx hb hml hown hB (c_X8_set l X G b ce_k414 g136) ce_v_X8_set ce_w1073 ⟨Nat.le_of_ble_eq_true rfl, Nat.le_of_ble_eq_true rfl⟩ hF hA hS (ce_rc_8 hK hA ce_k414) hl rfl rfl (Nat.le_of_ble_eq_true rfl) dL_law_452 ⟨(by show _ ≤ 601024; omega), (by show _ ≤ 7293034; omega)⟩ (fun H locs hA hS => ?_)
        refine lv_istore (lv' := [(6, .int x135), (5, .int x126), (0, .ref sb), (1, .ref (b + 0)), (2, .ref (b + 414)), (3, .ref (b + 421)), (4, .int x1)]) hx hb dL_law_455 hl (by decide) rfl (fun ls hl => ?_)
        refine lv_aload_n hx hb dL_law_457 rfl (lv_at hl 4 rfl) ?_
        obtain ⟨x137, g138, h⟩ := ce_b1_e h
        refine ce_callVi (As := []) (rest := []) hx hb hml hown hB (c_X8_thrown l X G b ce_k414 g138) ce_v_X8_thrown ce_w984 ⟨Nat.le_of_ble_eq_true rfl, Nat.le_of_ble_eq_true rfl⟩ hF hA hS (ce_rc_8 hK hA ce_k414) hl rfl rfl (Nat.le_of_ble_eq_true rfl) dL_law_458 ⟨(by show _ ≤ 601024; omega), (by show _ ≤ 7293034; omega)⟩ (fun H locs hA hS => ?_)
        refine lv_iload hx hb dL_law_461 (lv_at hl 1 rfl) ?_
        refine lv_icmp_eq (tgt := 468) hx hb dL_law_463 (by decide) (fun c139 => ?_) (fun c139 => ?_)
        · have h := ce_it c139 h
          refine lv_iload hx hb dL_law_468 (lv_at hl 1 rfl) ?_
          refine lv_if_ne (tgt := 485) hx hb dL_law_470 (by decide) (fun c140 => ?_) (fun c140 => ?_)
          · have h := ce_ie c140 h
            refine lv_goto (tgt := 1513) hx hb dL_law_485 (by decide) ?_
            obtain ⟨x141, e142, h⟩ := ce_nm_e h
            refine lv_iinc (v := x141) (lv' := [(4, .int x141), (6, .int x135), (5, .int x126), (0, .ref sb), (1, .ref (b + 0)), (2, .ref (b + 414)), (3, .ref (b + 421))]) hx hb dL_law_1513 hl (k := 6) rfl (by rw [← e142]; rfl) (by decide) rfl (fun ls hl => ?_)
            refine lv_goto (tgt := 23) hx hb dL_law_1516 (by decide) ?_
            exact ih M134 x141 h _ _ (by omega) (by omega) _ _ _ hA hS (lv_sub hl [3, 4, 5, 6, 0] rfl)
          · have h := ce_it c140 h
            refine lv_aload_n hx hb dL_law_473 rfl (lv_at hl 5 rfl) ?_
            refine lv_iconst (v := 0) hx hb dL_law_474 (by decide) ?_
            refine ce_lald hx hb hK hA ce_k421 dL_law_475 ?_
            refine lv_iload hx hb dL_law_476 (lv_at hl 0 rfl) ?_
            refine lv_i2l hx hb dL_law_478 rfl ?_
            refine W.lcmp hx hb dL_law_479 ?_
            refine lv_if_eq (tgt := 485) hx hb dL_law_480 (by decide) (fun c143 => ?_) (fun c143 => ?_)
            · have h := ce_it c143 h
              refine lv_goto (tgt := 1513) hx hb dL_law_485 (by decide) ?_
              obtain ⟨x144, e145, h⟩ := ce_nm_e h
              refine lv_iinc (v := x144) (lv' := [(4, .int x144), (6, .int x135), (5, .int x126), (0, .ref sb), (1, .ref (b + 0)), (2, .ref (b + 414)), (3, .ref (b + 421))]) hx hb dL_law_1513 hl (k := 6) rfl (by rw [← e145]; rfl) (by decide) rfl (fun ls hl => ?_)
              refine lv_goto (tgt := 23) hx hb dL_law_1516 (by decide) ?_
              exact ih M134 x144 h _ _ (by omega) (by omega) _ _ _ hA hS (lv_sub hl [3, 4, 5, 6, 0] rfl)
            · have h := ce_ie c143 h
              refine lv_iconst (v := 0) hx hb dL_law_483 (by decide) ?_
              cases h
        · have h := ce_ie c139 h
          refine lv_iconst (v := 0) hx hb dL_law_466 (by decide) ?_
          cases h
      have h := ce_ie c118 h
      by_cases c146 : (x3 &&& 31) = 5
      · have h := ce_it c146 h
        refine lv_tableIn (off := 449) (tgt := 488) hx hb dL_law_39 (by rw [c146]; decide) (by rw [c146]; decide) (by rw [c146]; rfl) (by decide) ?_
        refine lv_aload_n hx hb dL_law_488 rfl (lv_at hl 1 rfl) ?_
        refine lv_aload_n hx hb dL_law_489 rfl (lv_at hl 0 rfl) ?_
        refine lv_iload hx hb dL_law_490 (lv_at hl 4 rfl) ?_
        refine lv_iconst (v := 1) hx hb dL_law_492 (by decide) ?_
        refine lv_iadd hx hb dL_law_493 ?_
        obtain ⟨i148, h⟩ := ce_gi_e h
        obtain ⟨x147, e149, h⟩ := ce_nm_e h
        refine va_sld hx hb hX hbl hbA (hbs ▸ hS) i148 dL_law_494 ?_
        refine ce_top e149 ?_
        refine lv_aload_n hx hb dL_law_495 rfl (lv_at hl 0 rfl) ?_
        refine lv_iload hx hb dL_law_496 (lv_at hl 4 rfl) ?_
        refine lv_iconst (v := 2) hx hb dL_law_498 (by decide) ?_
        refine lv_iadd hx hb dL_law_499 ?_
        obtain ⟨i151, h⟩ := ce_gi_e h
        obtain ⟨x150, e152, h⟩ := ce_nm_e h
        refine va_sld hx hb hX hbl hbA (hbs ▸ hS) i151 dL_law_500 ?_
        refine ce_top e152 ?_
        refine lv_aload_n hx hb dL_law_501 rfl (lv_at hl 0 rfl) ?_
        refine lv_iload hx hb dL_law_502 (lv_at hl 4 rfl) ?_
        refine lv_iconst (v := 3) hx hb dL_law_504 (by decide) ?_
        refine lv_iadd hx hb dL_law_505 ?_
        obtain ⟨i154, h⟩ := ce_gi_e h
        obtain ⟨x153, e155, h⟩ := ce_nm_e h
        refine va_sld hx hb hX hbl hbA (hbs ▸ hS) i154 dL_law_506 ?_
        refine ce_top e155 ?_
        refine lv_aload_n hx hb dL_law_507 rfl (lv_at hl 3 rfl) ?_
        obtain ⟨M156, x157, g158, h⟩ := ce_b2_e h
        refine ce_callWi (As := [.ref (b + 0), .int x147, .int x150, .int x153, .ref (b + 421)]) (rest := []) hx hb hml hown hB (c_L_publish l hfl X G b ce_k0 ce_k421 g158) ce_s_L_publish ce_w807 ⟨Nat.le_of_ble_eq_true rfl, Nat.le_of_ble_eq_true rfl⟩ hF hA hS hl rfl rfl (Nat.le_of_ble_eq_true rfl) dL_law_508 ⟨(by show _ ≤ 601024; omega), (by show _ ≤ 7293034; omega)⟩ (fun H locs hA hS => ?_)
        refine lv_istore (lv' := [(5, .int x157), (0, .ref sb), (1, .ref (b + 0)), (2, .ref (b + 414)), (3, .ref (b + 421)), (4, .int x1)]) hx hb dL_law_511 hl (by decide) rfl (fun ls hl => ?_)
        refine lv_aload_n hx hb dL_law_513 rfl (lv_at hl 3 rfl) ?_
        refine lv_aload_n hx hb dL_law_514 rfl (lv_at hl 1 rfl) ?_
        refine lv_iload hx hb dL_law_515 (lv_at hl 5 rfl) ?_
        refine lv_iconst (v := 1) hx hb dL_law_517 (by decide) ?_
        refine lv_iadd hx hb dL_law_518 ?_
        obtain ⟨i160, h⟩ := ce_gi_e h
        obtain ⟨x159, e161, h⟩ := ce_nm_e h
        refine va_sld hx hb hX hbl hbA (hbs ▸ hS) i160 dL_law_519 ?_
        refine ce_top e161 ?_
        refine lv_aload_n hx hb dL_law_520 rfl (lv_at hl 1 rfl) ?_
        refine lv_iload hx hb dL_law_521 (lv_at hl 5 rfl) ?_
        refine lv_iconst (v := 2) hx hb dL_law_523 (by decide) ?_
        refine lv_iadd hx hb dL_law_524 ?_
        obtain ⟨i163, h⟩ := ce_gi_e h
        obtain ⟨x162, e164, h⟩ := ce_nm_e h
        refine va_sld hx hb hX hbl hbA (hbs ▸ hS) i163 dL_law_525 ?_
        refine ce_top e164 ?_
        refine lv_aload_n hx hb dL_law_526 rfl (lv_at hl 1 rfl) ?_
        refine lv_iload hx hb dL_law_527 (lv_at hl 5 rfl) ?_
        refine lv_iconst (v := 3) hx hb dL_law_529 (by decide) ?_
        refine lv_iadd hx hb dL_law_530 ?_
        obtain ⟨i166, h⟩ := ce_gi_e h
        obtain ⟨x165, e167, h⟩ := ce_nm_e h
        refine va_sld hx hb hX hbl hbA (hbs ▸ hS) i166 dL_law_531 ?_
        refine ce_top e167 ?_
        obtain ⟨M168, x169, g170, h⟩ := ce_b2_e h
        refine ce_callVi (As := [.int x159, .int x162, .int x165]) (rest := []) hx hb hml hown hB (c_X8_publish l X G b ce_k414 g170) ce_v_X8_publish ce_w1085 ⟨Nat.le_of_ble_eq_true rfl, Nat.le_of_ble_eq_true rfl⟩ hF hA hS (ce_rc_8 hK hA ce_k414) hl rfl rfl (Nat.le_of_ble_eq_true rfl) dL_law_532 ⟨(by show _ ≤ 601024; omega), (by show _ ≤ 7293034; omega)⟩ (fun H locs hA hS => ?_)
        refine lv_istore (lv' := [(6, .int x169), (5, .int x157), (0, .ref sb), (1, .ref (b + 0)), (2, .ref (b + 414)), (3, .ref (b + 421)), (4, .int x1)]) hx hb dL_law_535 hl (by decide) rfl (fun ls hl => ?_)
        refine lv_aload_n hx hb dL_law_537 rfl (lv_at hl 4 rfl) ?_
        obtain ⟨x171, g172, h⟩ := ce_b1_e h
        refine ce_callVi (As := []) (rest := []) hx hb hml hown hB (c_X8_thrown l X G b ce_k414 g172) ce_v_X8_thrown ce_w984 ⟨Nat.le_of_ble_eq_true rfl, Nat.le_of_ble_eq_true rfl⟩ hF hA hS (ce_rc_8 hK hA ce_k414) hl rfl rfl (Nat.le_of_ble_eq_true rfl) dL_law_538 ⟨(by show _ ≤ 601024; omega), (by show _ ≤ 7293034; omega)⟩ (fun H locs hA hS => ?_)
        refine lv_iload hx hb dL_law_541 (lv_at hl 1 rfl) ?_
        refine lv_icmp_eq (tgt := 548) hx hb dL_law_543 (by decide) (fun c173 => ?_) (fun c173 => ?_)
        · have h := ce_it c173 h
          refine lv_iload hx hb dL_law_548 (lv_at hl 1 rfl) ?_
          refine lv_if_ne (tgt := 565) hx hb dL_law_550 (by decide) (fun c174 => ?_) (fun c174 => ?_)
          · have h := ce_ie c174 h
            refine lv_goto (tgt := 1513) hx hb dL_law_565 (by decide) ?_
            obtain ⟨x175, e176, h⟩ := ce_nm_e h
            refine lv_iinc (v := x175) (lv' := [(4, .int x175), (6, .int x169), (5, .int x157), (0, .ref sb), (1, .ref (b + 0)), (2, .ref (b + 414)), (3, .ref (b + 421))]) hx hb dL_law_1513 hl (k := 6) rfl (by rw [← e176]; rfl) (by decide) rfl (fun ls hl => ?_)
            refine lv_goto (tgt := 23) hx hb dL_law_1516 (by decide) ?_
            exact ih M168 x175 h _ _ (by omega) (by omega) _ _ _ hA hS (lv_sub hl [3, 4, 5, 6, 0] rfl)
          · have h := ce_it c174 h
            refine lv_aload_n hx hb dL_law_553 rfl (lv_at hl 5 rfl) ?_
            refine lv_iconst (v := 0) hx hb dL_law_554 (by decide) ?_
            refine ce_lald hx hb hK hA ce_k421 dL_law_555 ?_
            refine lv_iload hx hb dL_law_556 (lv_at hl 0 rfl) ?_
            refine lv_i2l hx hb dL_law_558 rfl ?_
            refine W.lcmp hx hb dL_law_559 ?_
            refine lv_if_eq (tgt := 565) hx hb dL_law_560 (by decide) (fun c177 => ?_) (fun c177 => ?_)
            · have h := ce_it c177 h
              refine lv_goto (tgt := 1513) hx hb dL_law_565 (by decide) ?_
              obtain ⟨x178, e179, h⟩ := ce_nm_e h
              refine lv_iinc (v := x178) (lv' := [(4, .int x178), (6, .int x169), (5, .int x157), (0, .ref sb), (1, .ref (b + 0)), (2, .ref (b + 414)), (3, .ref (b + 421))]) hx hb dL_law_1513 hl (k := 6) rfl (by rw [← e179]; rfl) (by decide) rfl (fun ls hl => ?_)
              refine lv_goto (tgt := 23) hx hb dL_law_1516 (by decide) ?_
              exact ih M168 x178 h _ _ (by omega) (by omega) _ _ _ hA hS (lv_sub hl [3, 4, 5, 6, 0] rfl)
            · have h := ce_ie c177 h
              refine lv_iconst (v := 0) hx hb dL_law_563 (by decide) ?_
              cases h
        · have h := ce_ie c173 h
          refine lv_iconst (v := 0) hx hb dL_law_546 (by decide) ?_
          cases h
      have h := ce_ie c146 h
      by_cases c180 : (x3 &&& 31) = 6
      · have h := ce_it c180 h
        refine lv_tableIn (off := 529) (tgt := 568) hx hb dL_law_39 (by rw [c180]; decide) (by rw [c180]; decide) (by rw [c180]; rfl) (by decide) ?_
        refine lv_aload_n hx hb dL_law_568 rfl (lv_at hl 1 rfl) ?_
        refine lv_aload_n hx hb dL_law_569 rfl (lv_at hl 0 rfl) ?_
        refine lv_iload hx hb dL_law_570 (lv_at hl 4 rfl) ?_
        refine lv_iconst (v := 1) hx hb dL_law_572 (by decide) ?_
        refine lv_iadd hx hb dL_law_573 ?_
        obtain ⟨i182, h⟩ := ce_gi_e h
        obtain ⟨x181, e183, h⟩ := ce_nm_e h
        refine va_sld hx hb hX hbl hbA (hbs ▸ hS) i182 dL_law_574 ?_
        refine ce_top e183 ?_
        refine lv_aload_n hx hb dL_law_575 rfl (lv_at hl 3 rfl) ?_
        obtain ⟨M184, x185, g186, h⟩ := ce_b2_e h
        refine ce_callWi (As := [.ref (b + 0), .int x181, .ref (b + 421)]) (rest := []) hx hb hml hown hB (c_L_pass l hfl X G b ce_k0 ce_k421 g186) ce_s_L_pass ce_w814 ⟨Nat.le_of_ble_eq_true rfl, Nat.le_of_ble_eq_true rfl⟩ hF hA hS hl rfl rfl (Nat.le_of_ble_eq_true rfl) dL_law_576 ⟨(by show _ ≤ 601024; omega), (by show _ ≤ 7293034; omega)⟩ (fun H locs hA hS => ?_)
        refine lv_istore (lv' := [(5, .int x185), (0, .ref sb), (1, .ref (b + 0)), (2, .ref (b + 414)), (3, .ref (b + 421)), (4, .int x1)]) hx hb dL_law_579 hl (by decide) rfl (fun ls hl => ?_)
        refine lv_aload_n hx hb dL_law_581 rfl (lv_at hl 3 rfl) ?_
        refine lv_aload_n hx hb dL_law_582 rfl (lv_at hl 1 rfl) ?_
        refine lv_iload hx hb dL_law_583 (lv_at hl 5 rfl) ?_
        refine lv_iconst (v := 1) hx hb dL_law_585 (by decide) ?_
        refine lv_iadd hx hb dL_law_586 ?_
        obtain ⟨i188, h⟩ := ce_gi_e h
        obtain ⟨x187, e189, h⟩ := ce_nm_e h
        refine va_sld hx hb hX hbl hbA (hbs ▸ hS) i188 dL_law_587 ?_
        refine ce_top e189 ?_
        obtain ⟨M190, x191, g192, h⟩ := ce_b2_e h
        refine ce_callVi (As := [.int x187]) (rest := []) hx hb hml hown hB (c_X8_pass l X G b ce_k414 g192) ce_v_X8_pass ce_w1123 ⟨Nat.le_of_ble_eq_true rfl, Nat.le_of_ble_eq_true rfl⟩ hF hA hS (ce_rc_8 hK hA ce_k414) hl rfl rfl (Nat.le_of_ble_eq_true rfl) dL_law_588 ⟨(by show _ ≤ 601024; omega), (by show _ ≤ 7293034; omega)⟩ (fun H locs hA hS => ?_)
        refine lv_istore (lv' := [(6, .int x191), (5, .int x185), (0, .ref sb), (1, .ref (b + 0)), (2, .ref (b + 414)), (3, .ref (b + 421)), (4, .int x1)]) hx hb dL_law_591 hl (by decide) rfl (fun ls hl => ?_)
        refine lv_aload_n hx hb dL_law_593 rfl (lv_at hl 4 rfl) ?_
        obtain ⟨x193, g194, h⟩ := ce_b1_e h
        refine ce_callVi (As := []) (rest := []) hx hb hml hown hB (c_X8_thrown l X G b ce_k414 g194) ce_v_X8_thrown ce_w984 ⟨Nat.le_of_ble_eq_true rfl, Nat.le_of_ble_eq_true rfl⟩ hF hA hS (ce_rc_8 hK hA ce_k414) hl rfl rfl (Nat.le_of_ble_eq_true rfl) dL_law_594 ⟨(by show _ ≤ 601024; omega), (by show _ ≤ 7293034; omega)⟩ (fun H locs hA hS => ?_)
        refine lv_iload hx hb dL_law_597 (lv_at hl 1 rfl) ?_
        refine lv_icmp_eq (tgt := 604) hx hb dL_law_599 (by decide) (fun c195 => ?_) (fun c195 => ?_)
        · have h := ce_it c195 h
          refine lv_iload hx hb dL_law_604 (lv_at hl 1 rfl) ?_
          refine lv_if_ne (tgt := 621) hx hb dL_law_606 (by decide) (fun c196 => ?_) (fun c196 => ?_)
          · have h := ce_ie c196 h
            refine lv_goto (tgt := 1513) hx hb dL_law_621 (by decide) ?_
            obtain ⟨x197, e198, h⟩ := ce_nm_e h
            refine lv_iinc (v := x197) (lv' := [(4, .int x197), (6, .int x191), (5, .int x185), (0, .ref sb), (1, .ref (b + 0)), (2, .ref (b + 414)), (3, .ref (b + 421))]) hx hb dL_law_1513 hl (k := 6) rfl (by rw [← e198]; rfl) (by decide) rfl (fun ls hl => ?_)
            refine lv_goto (tgt := 23) hx hb dL_law_1516 (by decide) ?_
            exact ih M190 x197 h _ _ (by omega) (by omega) _ _ _ hA hS (lv_sub hl [3, 4, 5, 6, 0] rfl)
          · have h := ce_it c196 h
            refine lv_aload_n hx hb dL_law_609 rfl (lv_at hl 5 rfl) ?_
            refine lv_iconst (v := 0) hx hb dL_law_610 (by decide) ?_
            refine ce_lald hx hb hK hA ce_k421 dL_law_611 ?_
            refine lv_iload hx hb dL_law_612 (lv_at hl 0 rfl) ?_
            refine lv_i2l hx hb dL_law_614 rfl ?_
            refine W.lcmp hx hb dL_law_615 ?_
            refine lv_if_eq (tgt := 621) hx hb dL_law_616 (by decide) (fun c199 => ?_) (fun c199 => ?_)
            · have h := ce_it c199 h
              refine lv_goto (tgt := 1513) hx hb dL_law_621 (by decide) ?_
              obtain ⟨x200, e201, h⟩ := ce_nm_e h
              refine lv_iinc (v := x200) (lv' := [(4, .int x200), (6, .int x191), (5, .int x185), (0, .ref sb), (1, .ref (b + 0)), (2, .ref (b + 414)), (3, .ref (b + 421))]) hx hb dL_law_1513 hl (k := 6) rfl (by rw [← e201]; rfl) (by decide) rfl (fun ls hl => ?_)
              refine lv_goto (tgt := 23) hx hb dL_law_1516 (by decide) ?_
              exact ih M190 x200 h _ _ (by omega) (by omega) _ _ _ hA hS (lv_sub hl [3, 4, 5, 6, 0] rfl)
            · have h := ce_ie c199 h
              refine lv_iconst (v := 0) hx hb dL_law_619 (by decide) ?_
              cases h
        · have h := ce_ie c195 h
          refine lv_iconst (v := 0) hx hb dL_law_602 (by decide) ?_
          cases h
      have h := ce_ie c180 h
      by_cases c202 : (x3 &&& 31) = 7
      · have h := ce_it c202 h
        refine lv_tableIn (off := 585) (tgt := 624) hx hb dL_law_39 (by rw [c202]; decide) (by rw [c202]; decide) (by rw [c202]; rfl) (by decide) ?_
        refine lv_aload_n hx hb dL_law_624 rfl (lv_at hl 1 rfl) ?_
        refine lv_aload_n hx hb dL_law_625 rfl (lv_at hl 0 rfl) ?_
        refine lv_iload hx hb dL_law_626 (lv_at hl 4 rfl) ?_
        refine lv_iconst (v := 1) hx hb dL_law_628 (by decide) ?_
        refine lv_iadd hx hb dL_law_629 ?_
        obtain ⟨i204, h⟩ := ce_gi_e h
        obtain ⟨x203, e205, h⟩ := ce_nm_e h
        refine va_sld hx hb hX hbl hbA (hbs ▸ hS) i204 dL_law_630 ?_
        refine ce_top e205 ?_
        refine lv_aload_n hx hb dL_law_631 rfl (lv_at hl 0 rfl) ?_
        refine lv_iload hx hb dL_law_632 (lv_at hl 4 rfl) ?_
        refine lv_iconst (v := 2) hx hb dL_law_634 (by decide) ?_
        refine lv_iadd hx hb dL_law_635 ?_
        obtain ⟨i207, h⟩ := ce_gi_e h
        obtain ⟨x206, e208, h⟩ := ce_nm_e h
        refine va_sld hx hb hX hbl hbA (hbs ▸ hS) i207 dL_law_636 ?_
        refine ce_top e208 ?_
        refine lv_aload_n hx hb dL_law_637 rfl (lv_at hl 3 rfl) ?_
        obtain ⟨M209, x210, g211, h⟩ := ce_b2_e h
        refine ce_callWi (As := [.ref (b + 0), .int x203, .int x206, .ref (b + 421)]) (rest := []) hx hb hml hown hB (c_L_subscriber l hfl X G b ce_k0 ce_k421 g211) ce_s_L_subscriber ce_w821 ⟨Nat.le_of_ble_eq_true rfl, Nat.le_of_ble_eq_true rfl⟩ hF hA hS hl rfl rfl (Nat.le_of_ble_eq_true rfl) dL_law_638 ⟨(by show _ ≤ 601024; omega), (by show _ ≤ 7293034; omega)⟩ (fun H locs hA hS => ?_)
        refine lv_istore (lv' := [(5, .int x210), (0, .ref sb), (1, .ref (b + 0)), (2, .ref (b + 414)), (3, .ref (b + 421)), (4, .int x1)]) hx hb dL_law_641 hl (by decide) rfl (fun ls hl => ?_)
        refine lv_aload_n hx hb dL_law_643 rfl (lv_at hl 3 rfl) ?_
        refine lv_aload_n hx hb dL_law_644 rfl (lv_at hl 1 rfl) ?_
        refine lv_iload hx hb dL_law_645 (lv_at hl 5 rfl) ?_
        refine lv_iconst (v := 1) hx hb dL_law_647 (by decide) ?_
        refine lv_iadd hx hb dL_law_648 ?_
        obtain ⟨i213, h⟩ := ce_gi_e h
        obtain ⟨x212, e214, h⟩ := ce_nm_e h
        refine va_sld hx hb hX hbl hbA (hbs ▸ hS) i213 dL_law_649 ?_
        refine ce_top e214 ?_
        refine lv_aload_n hx hb dL_law_650 rfl (lv_at hl 1 rfl) ?_
        refine lv_iload hx hb dL_law_651 (lv_at hl 5 rfl) ?_
        refine lv_iconst (v := 2) hx hb dL_law_653 (by decide) ?_
        refine lv_iadd hx hb dL_law_654 ?_
        obtain ⟨i216, h⟩ := ce_gi_e h
        obtain ⟨x215, e217, h⟩ := ce_nm_e h
        refine va_sld hx hb hX hbl hbA (hbs ▸ hS) i216 dL_law_655 ?_
        refine ce_top e217 ?_
        obtain ⟨M218, x219, g220, h⟩ := ce_b2_e h
        refine ce_callVi (As := [.int x212, .int x215]) (rest := []) hx hb hml hown hB (c_X8_subscriber l X G b ce_k414 g220) ce_v_X8_subscriber ce_w1147 ⟨Nat.le_of_ble_eq_true rfl, Nat.le_of_ble_eq_true rfl⟩ hF hA hS (ce_rc_8 hK hA ce_k414) hl rfl rfl (Nat.le_of_ble_eq_true rfl) dL_law_656 ⟨(by show _ ≤ 601024; omega), (by show _ ≤ 7293034; omega)⟩ (fun H locs hA hS => ?_)
        refine lv_istore (lv' := [(6, .int x219), (5, .int x210), (0, .ref sb), (1, .ref (b + 0)), (2, .ref (b + 414)), (3, .ref (b + 421)), (4, .int x1)]) hx hb dL_law_659 hl (by decide) rfl (fun ls hl => ?_)
        refine lv_aload_n hx hb dL_law_661 rfl (lv_at hl 4 rfl) ?_
        obtain ⟨x221, g222, h⟩ := ce_b1_e h
        refine ce_callVi (As := []) (rest := []) hx hb hml hown hB (c_X8_thrown l X G b ce_k414 g222) ce_v_X8_thrown ce_w984 ⟨Nat.le_of_ble_eq_true rfl, Nat.le_of_ble_eq_true rfl⟩ hF hA hS (ce_rc_8 hK hA ce_k414) hl rfl rfl (Nat.le_of_ble_eq_true rfl) dL_law_662 ⟨(by show _ ≤ 601024; omega), (by show _ ≤ 7293034; omega)⟩ (fun H locs hA hS => ?_)
        refine lv_iload hx hb dL_law_665 (lv_at hl 1 rfl) ?_
        refine lv_icmp_eq (tgt := 672) hx hb dL_law_667 (by decide) (fun c223 => ?_) (fun c223 => ?_)
        · have h := ce_it c223 h
          refine lv_iload hx hb dL_law_672 (lv_at hl 1 rfl) ?_
          refine lv_if_ne (tgt := 689) hx hb dL_law_674 (by decide) (fun c224 => ?_) (fun c224 => ?_)
          · have h := ce_ie c224 h
            refine lv_goto (tgt := 1513) hx hb dL_law_689 (by decide) ?_
            obtain ⟨x225, e226, h⟩ := ce_nm_e h
            refine lv_iinc (v := x225) (lv' := [(4, .int x225), (6, .int x219), (5, .int x210), (0, .ref sb), (1, .ref (b + 0)), (2, .ref (b + 414)), (3, .ref (b + 421))]) hx hb dL_law_1513 hl (k := 6) rfl (by rw [← e226]; rfl) (by decide) rfl (fun ls hl => ?_)
            refine lv_goto (tgt := 23) hx hb dL_law_1516 (by decide) ?_
            exact ih M218 x225 h _ _ (by omega) (by omega) _ _ _ hA hS (lv_sub hl [3, 4, 5, 6, 0] rfl)
          · have h := ce_it c224 h
            refine lv_aload_n hx hb dL_law_677 rfl (lv_at hl 5 rfl) ?_
            refine lv_iconst (v := 0) hx hb dL_law_678 (by decide) ?_
            refine ce_lald hx hb hK hA ce_k421 dL_law_679 ?_
            refine lv_iload hx hb dL_law_680 (lv_at hl 0 rfl) ?_
            refine lv_i2l hx hb dL_law_682 rfl ?_
            refine W.lcmp hx hb dL_law_683 ?_
            refine lv_if_eq (tgt := 689) hx hb dL_law_684 (by decide) (fun c227 => ?_) (fun c227 => ?_)
            · have h := ce_it c227 h
              refine lv_goto (tgt := 1513) hx hb dL_law_689 (by decide) ?_
              obtain ⟨x228, e229, h⟩ := ce_nm_e h
              refine lv_iinc (v := x228) (lv' := [(4, .int x228), (6, .int x219), (5, .int x210), (0, .ref sb), (1, .ref (b + 0)), (2, .ref (b + 414)), (3, .ref (b + 421))]) hx hb dL_law_1513 hl (k := 6) rfl (by rw [← e229]; rfl) (by decide) rfl (fun ls hl => ?_)
              refine lv_goto (tgt := 23) hx hb dL_law_1516 (by decide) ?_
              exact ih M218 x228 h _ _ (by omega) (by omega) _ _ _ hA hS (lv_sub hl [3, 4, 5, 6, 0] rfl)
            · have h := ce_ie c227 h
              refine lv_iconst (v := 0) hx hb dL_law_687 (by decide) ?_
              cases h
        · have h := ce_ie c223 h
          refine lv_iconst (v := 0) hx hb dL_law_670 (by decide) ?_
          cases h
      have h := ce_ie c202 h
      by_cases c230 : (x3 &&& 31) = 8
      · have h := ce_it c230 h
        refine lv_tableIn (off := 653) (tgt := 692) hx hb dL_law_39 (by rw [c230]; decide) (by rw [c230]; decide) (by rw [c230]; rfl) (by decide) ?_
        refine lv_aload_n hx hb dL_law_692 rfl (lv_at hl 1 rfl) ?_
        refine lv_aload_n hx hb dL_law_693 rfl (lv_at hl 0 rfl) ?_
        refine lv_iload hx hb dL_law_694 (lv_at hl 4 rfl) ?_
        refine lv_iconst (v := 1) hx hb dL_law_696 (by decide) ?_
        refine lv_iadd hx hb dL_law_697 ?_
        obtain ⟨i232, h⟩ := ce_gi_e h
        obtain ⟨x231, e233, h⟩ := ce_nm_e h
        refine va_sld hx hb hX hbl hbA (hbs ▸ hS) i232 dL_law_698 ?_
        refine ce_top e233 ?_
        refine lv_aload_n hx hb dL_law_699 rfl (lv_at hl 0 rfl) ?_
        refine lv_iload hx hb dL_law_700 (lv_at hl 4 rfl) ?_
        refine lv_iconst (v := 2) hx hb dL_law_702 (by decide) ?_
        refine lv_iadd hx hb dL_law_703 ?_
        obtain ⟨i235, h⟩ := ce_gi_e h
        obtain ⟨x234, e236, h⟩ := ce_nm_e h
        refine va_sld hx hb hX hbl hbA (hbs ▸ hS) i235 dL_law_704 ?_
        refine ce_top e236 ?_
        refine lv_aload_n hx hb dL_law_705 rfl (lv_at hl 0 rfl) ?_
        refine lv_iload hx hb dL_law_706 (lv_at hl 4 rfl) ?_
        refine lv_iconst (v := 3) hx hb dL_law_708 (by decide) ?_
        refine lv_iadd hx hb dL_law_709 ?_
        obtain ⟨i238, h⟩ := ce_gi_e h
        obtain ⟨x237, e239, h⟩ := ce_nm_e h
        refine va_sld hx hb hX hbl hbA (hbs ▸ hS) i238 dL_law_710 ?_
        refine ce_top e239 ?_
        refine lv_aload_n hx hb dL_law_711 rfl (lv_at hl 3 rfl) ?_
        obtain ⟨M240, x241, g242, h⟩ := ce_b2_e h
        refine ce_callWi (As := [.ref (b + 0), .int x231, .int x234, .int x237, .ref (b + 421)]) (rest := []) hx hb hml hown hB (c_L_stay l hfl X G b ce_k0 ce_k421 g242) ce_s_L_stay ce_w830 ⟨Nat.le_of_ble_eq_true rfl, Nat.le_of_ble_eq_true rfl⟩ hF hA hS hl rfl rfl (Nat.le_of_ble_eq_true rfl) dL_law_712 ⟨(by show _ ≤ 601024; omega), (by show _ ≤ 7293034; omega)⟩ (fun H locs hA hS => ?_)
        refine lv_istore (lv' := [(5, .int x241), (0, .ref sb), (1, .ref (b + 0)), (2, .ref (b + 414)), (3, .ref (b + 421)), (4, .int x1)]) hx hb dL_law_715 hl (by decide) rfl (fun ls hl => ?_)
        refine lv_aload_n hx hb dL_law_717 rfl (lv_at hl 3 rfl) ?_
        refine lv_aload_n hx hb dL_law_718 rfl (lv_at hl 1 rfl) ?_
        refine lv_iload hx hb dL_law_719 (lv_at hl 5 rfl) ?_
        refine lv_iconst (v := 1) hx hb dL_law_721 (by decide) ?_
        refine lv_iadd hx hb dL_law_722 ?_
        obtain ⟨i244, h⟩ := ce_gi_e h
        obtain ⟨x243, e245, h⟩ := ce_nm_e h
        refine va_sld hx hb hX hbl hbA (hbs ▸ hS) i244 dL_law_723 ?_
        refine ce_top e245 ?_
        refine lv_aload_n hx hb dL_law_724 rfl (lv_at hl 1 rfl) ?_
        refine lv_iload hx hb dL_law_725 (lv_at hl 5 rfl) ?_
        refine lv_iconst (v := 2) hx hb dL_law_727 (by decide) ?_
        refine lv_iadd hx hb dL_law_728 ?_
        obtain ⟨i247, h⟩ := ce_gi_e h
        obtain ⟨x246, e248, h⟩ := ce_nm_e h
        refine va_sld hx hb hX hbl hbA (hbs ▸ hS) i247 dL_law_729 ?_
        refine ce_top e248 ?_
        refine lv_aload_n hx hb dL_law_730 rfl (lv_at hl 1 rfl) ?_
        refine lv_iload hx hb dL_law_731 (lv_at hl 5 rfl) ?_
        refine lv_iconst (v := 3) hx hb dL_law_733 (by decide) ?_
        refine lv_iadd hx hb dL_law_734 ?_
        obtain ⟨i250, h⟩ := ce_gi_e h
        obtain ⟨x249, e251, h⟩ := ce_nm_e h
        refine va_sld hx hb hX hbl hbA (hbs ▸ hS) i250 dL_law_735 ?_
        refine ce_top e251 ?_
        obtain ⟨M252, x253, g254, h⟩ := ce_b2_e h
        refine ce_callVi (As := [.int x243, .int x246, .int x249]) (rest := []) hx hb hml hown hB (c_X8_stay l X G b ce_k414 g254) ce_v_X8_stay ce_w1163 ⟨Nat.le_of_ble_eq_true rfl, Nat.le_of_ble_eq_true rfl⟩ hF hA hS (ce_rc_8 hK hA ce_k414) hl rfl rfl (Nat.le_of_ble_eq_true rfl) dL_law_736 ⟨(by show _ ≤ 601024; omega), (by show _ ≤ 7293034; omega)⟩ (fun H locs hA hS => ?_)
        refine lv_istore (lv' := [(6, .int x253), (5, .int x241), (0, .ref sb), (1, .ref (b + 0)), (2, .ref (b + 414)), (3, .ref (b + 421)), (4, .int x1)]) hx hb dL_law_739 hl (by decide) rfl (fun ls hl => ?_)
        refine lv_aload_n hx hb dL_law_741 rfl (lv_at hl 4 rfl) ?_
        obtain ⟨x255, g256, h⟩ := ce_b1_e h
        refine ce_callVi (As := []) (rest := []) hx hb hml hown hB (c_X8_thrown l X G b ce_k414 g256) ce_v_X8_thrown ce_w984 ⟨Nat.le_of_ble_eq_true rfl, Nat.le_of_ble_eq_true rfl⟩ hF hA hS (ce_rc_8 hK hA ce_k414) hl rfl rfl (Nat.le_of_ble_eq_true rfl) dL_law_742 ⟨(by show _ ≤ 601024; omega), (by show _ ≤ 7293034; omega)⟩ (fun H locs hA hS => ?_)
        refine lv_iload hx hb dL_law_745 (lv_at hl 1 rfl) ?_
        refine lv_icmp_eq (tgt := 752) hx hb dL_law_747 (by decide) (fun c257 => ?_) (fun c257 => ?_)
        · have h := ce_it c257 h
          refine lv_iload hx hb dL_law_752 (lv_at hl 1 rfl) ?_
          refine lv_if_ne (tgt := 769) hx hb dL_law_754 (by decide) (fun c258 => ?_) (fun c258 => ?_)
          · have h := ce_ie c258 h
            refine lv_goto (tgt := 1513) hx hb dL_law_769 (by decide) ?_
            obtain ⟨x259, e260, h⟩ := ce_nm_e h
            refine lv_iinc (v := x259) (lv' := [(4, .int x259), (6, .int x253), (5, .int x241), (0, .ref sb), (1, .ref (b + 0)), (2, .ref (b + 414)), (3, .ref (b + 421))]) hx hb dL_law_1513 hl (k := 6) rfl (by rw [← e260]; rfl) (by decide) rfl (fun ls hl => ?_)
            refine lv_goto (tgt := 23) hx hb dL_law_1516 (by decide) ?_
            exact ih M252 x259 h _ _ (by omega) (by omega) _ _ _ hA hS (lv_sub hl [3, 4, 5, 6, 0] rfl)
          · have h := ce_it c258 h
            refine lv_aload_n hx hb dL_law_757 rfl (lv_at hl 5 rfl) ?_
            refine lv_iconst (v := 0) hx hb dL_law_758 (by decide) ?_
            refine ce_lald hx hb hK hA ce_k421 dL_law_759 ?_
            refine lv_iload hx hb dL_law_760 (lv_at hl 0 rfl) ?_
            refine lv_i2l hx hb dL_law_762 rfl ?_
            refine W.lcmp hx hb dL_law_763 ?_
            refine lv_if_eq (tgt := 769) hx hb dL_law_764 (by decide) (fun c261 => ?_) (fun c261 => ?_)
            · have h := ce_it c261 h
              refine lv_goto (tgt := 1513) hx hb dL_law_769 (by decide) ?_
              obtain ⟨x262, e263, h⟩ := ce_nm_e h
              refine lv_iinc (v := x262) (lv' := [(4, .int x262), (6, .int x253), (5, .int x241), (0, .ref sb), (1, .ref (b + 0)), (2, .ref (b + 414)), (3, .ref (b + 421))]) hx hb dL_law_1513 hl (k := 6) rfl (by rw [← e263]; rfl) (by decide) rfl (fun ls hl => ?_)
              refine lv_goto (tgt := 23) hx hb dL_law_1516 (by decide) ?_
              exact ih M252 x262 h _ _ (by omega) (by omega) _ _ _ hA hS (lv_sub hl [3, 4, 5, 6, 0] rfl)
            · have h := ce_ie c261 h
              refine lv_iconst (v := 0) hx hb dL_law_767 (by decide) ?_
              cases h
        · have h := ce_ie c257 h
          refine lv_iconst (v := 0) hx hb dL_law_750 (by decide) ?_
          cases h
      have h := ce_ie c230 h
      by_cases c264 : (x3 &&& 31) = 9
      · have h := ce_it c264 h
        refine lv_tableIn (off := 733) (tgt := 772) hx hb dL_law_39 (by rw [c264]; decide) (by rw [c264]; decide) (by rw [c264]; rfl) (by decide) ?_
        refine lv_aload_n hx hb dL_law_772 rfl (lv_at hl 1 rfl) ?_
        refine lv_aload_n hx hb dL_law_773 rfl (lv_at hl 0 rfl) ?_
        refine lv_iload hx hb dL_law_774 (lv_at hl 4 rfl) ?_
        refine lv_iconst (v := 1) hx hb dL_law_776 (by decide) ?_
        refine lv_iadd hx hb dL_law_777 ?_
        obtain ⟨i266, h⟩ := ce_gi_e h
        obtain ⟨x265, e267, h⟩ := ce_nm_e h
        refine va_sld hx hb hX hbl hbA (hbs ▸ hS) i266 dL_law_778 ?_
        refine ce_top e267 ?_
        refine lv_aload_n hx hb dL_law_779 rfl (lv_at hl 0 rfl) ?_
        refine lv_iload hx hb dL_law_780 (lv_at hl 4 rfl) ?_
        refine lv_iconst (v := 2) hx hb dL_law_782 (by decide) ?_
        refine lv_iadd hx hb dL_law_783 ?_
        obtain ⟨i269, h⟩ := ce_gi_e h
        obtain ⟨x268, e270, h⟩ := ce_nm_e h
        refine va_sld hx hb hX hbl hbA (hbs ▸ hS) i269 dL_law_784 ?_
        refine ce_top e270 ?_
        refine lv_aload_n hx hb dL_law_785 rfl (lv_at hl 3 rfl) ?_
        obtain ⟨M271, x272, g273, h⟩ := ce_b2_e h
        refine ce_callWi (As := [.ref (b + 0), .int x265, .int x268, .ref (b + 421)]) (rest := []) hx hb hml hown hB (c_L_waiting l hfl X G b ce_k0 ce_k421 g273) ce_s_L_waiting ce_w837 ⟨Nat.le_of_ble_eq_true rfl, Nat.le_of_ble_eq_true rfl⟩ hF hA hS hl rfl rfl (Nat.le_of_ble_eq_true rfl) dL_law_786 ⟨(by show _ ≤ 601024; omega), (by show _ ≤ 7293034; omega)⟩ (fun H locs hA hS => ?_)
        refine lv_istore (lv' := [(5, .int x272), (0, .ref sb), (1, .ref (b + 0)), (2, .ref (b + 414)), (3, .ref (b + 421)), (4, .int x1)]) hx hb dL_law_789 hl (by decide) rfl (fun ls hl => ?_)
        refine lv_aload_n hx hb dL_law_791 rfl (lv_at hl 3 rfl) ?_
        refine lv_aload_n hx hb dL_law_792 rfl (lv_at hl 1 rfl) ?_
        refine lv_iload hx hb dL_law_793 (lv_at hl 5 rfl) ?_
        refine lv_iconst (v := 1) hx hb dL_law_795 (by decide) ?_
        refine lv_iadd hx hb dL_law_796 ?_
        obtain ⟨i275, h⟩ := ce_gi_e h
        obtain ⟨x274, e276, h⟩ := ce_nm_e h
        refine va_sld hx hb hX hbl hbA (hbs ▸ hS) i275 dL_law_797 ?_
        refine ce_top e276 ?_
        refine lv_aload_n hx hb dL_law_798 rfl (lv_at hl 1 rfl) ?_
        refine lv_iload hx hb dL_law_799 (lv_at hl 5 rfl) ?_
        refine lv_iconst (v := 2) hx hb dL_law_801 (by decide) ?_
        refine lv_iadd hx hb dL_law_802 ?_
        obtain ⟨i278, h⟩ := ce_gi_e h
        obtain ⟨x277, e279, h⟩ := ce_nm_e h
        refine va_sld hx hb hX hbl hbA (hbs ▸ hS) i278 dL_law_803 ?_
        refine ce_top e279 ?_
        obtain ⟨M280, x281, g282, h⟩ := ce_b2_e h
        refine ce_callVi (As := [.int x274, .int x277]) (rest := []) hx hb hml hown hB (c_X8_waiting l X G b ce_k414 g282) ce_v_X8_waiting ce_w1167 ⟨Nat.le_of_ble_eq_true rfl, Nat.le_of_ble_eq_true rfl⟩ hF hA hS (ce_rc_8 hK hA ce_k414) hl rfl rfl (Nat.le_of_ble_eq_true rfl) dL_law_804 ⟨(by show _ ≤ 601024; omega), (by show _ ≤ 7293034; omega)⟩ (fun H locs hA hS => ?_)
        refine lv_istore (lv' := [(6, .int x281), (5, .int x272), (0, .ref sb), (1, .ref (b + 0)), (2, .ref (b + 414)), (3, .ref (b + 421)), (4, .int x1)]) hx hb dL_law_807 hl (by decide) rfl (fun ls hl => ?_)
        refine lv_aload_n hx hb dL_law_809 rfl (lv_at hl 4 rfl) ?_
        obtain ⟨x283, g284, h⟩ := ce_b1_e h
        refine ce_callVi (As := []) (rest := []) hx hb hml hown hB (c_X8_thrown l X G b ce_k414 g284) ce_v_X8_thrown ce_w984 ⟨Nat.le_of_ble_eq_true rfl, Nat.le_of_ble_eq_true rfl⟩ hF hA hS (ce_rc_8 hK hA ce_k414) hl rfl rfl (Nat.le_of_ble_eq_true rfl) dL_law_810 ⟨(by show _ ≤ 601024; omega), (by show _ ≤ 7293034; omega)⟩ (fun H locs hA hS => ?_)
        refine lv_iload hx hb dL_law_813 (lv_at hl 1 rfl) ?_
        refine lv_icmp_eq (tgt := 820) hx hb dL_law_815 (by decide) (fun c285 => ?_) (fun c285 => ?_)
        · have h := ce_it c285 h
          refine lv_iload hx hb dL_law_820 (lv_at hl 1 rfl) ?_
          refine lv_if_ne (tgt := 837) hx hb dL_law_822 (by decide) (fun c286 => ?_) (fun c286 => ?_)
          · have h := ce_ie c286 h
            refine lv_goto (tgt := 1513) hx hb dL_law_837 (by decide) ?_
            obtain ⟨x287, e288, h⟩ := ce_nm_e h
            refine lv_iinc (v := x287) (lv' := [(4, .int x287), (6, .int x281), (5, .int x272), (0, .ref sb), (1, .ref (b + 0)), (2, .ref (b + 414)), (3, .ref (b + 421))]) hx hb dL_law_1513 hl (k := 6) rfl (by rw [← e288]; rfl) (by decide) rfl (fun ls hl => ?_)
            refine lv_goto (tgt := 23) hx hb dL_law_1516 (by decide) ?_
            exact ih M280 x287 h _ _ (by omega) (by omega) _ _ _ hA hS (lv_sub hl [3, 4, 5, 6, 0] rfl)
          · have h := ce_it c286 h
            refine lv_aload_n hx hb dL_law_825 rfl (lv_at hl 5 rfl) ?_
            refine lv_iconst (v := 0) hx hb dL_law_826 (by decide) ?_
            refine ce_lald hx hb hK hA ce_k421 dL_law_827 ?_
            refine lv_iload hx hb dL_law_828 (lv_at hl 0 rfl) ?_
            refine lv_i2l hx hb dL_law_830 rfl ?_
            refine W.lcmp hx hb dL_law_831 ?_
            refine lv_if_eq (tgt := 837) hx hb dL_law_832 (by decide) (fun c289 => ?_) (fun c289 => ?_)
            · have h := ce_it c289 h
              refine lv_goto (tgt := 1513) hx hb dL_law_837 (by decide) ?_
              obtain ⟨x290, e291, h⟩ := ce_nm_e h
              refine lv_iinc (v := x290) (lv' := [(4, .int x290), (6, .int x281), (5, .int x272), (0, .ref sb), (1, .ref (b + 0)), (2, .ref (b + 414)), (3, .ref (b + 421))]) hx hb dL_law_1513 hl (k := 6) rfl (by rw [← e291]; rfl) (by decide) rfl (fun ls hl => ?_)
              refine lv_goto (tgt := 23) hx hb dL_law_1516 (by decide) ?_
              exact ih M280 x290 h _ _ (by omega) (by omega) _ _ _ hA hS (lv_sub hl [3, 4, 5, 6, 0] rfl)
            · have h := ce_ie c289 h
              refine lv_iconst (v := 0) hx hb dL_law_835 (by decide) ?_
              cases h
        · have h := ce_ie c285 h
          refine lv_iconst (v := 0) hx hb dL_law_818 (by decide) ?_
          cases h
      have h := ce_ie c264 h
      by_cases c292 : (x3 &&& 31) = 10
      · have h := ce_it c292 h
        refine lv_tableIn (off := 801) (tgt := 840) hx hb dL_law_39 (by rw [c292]; decide) (by rw [c292]; decide) (by rw [c292]; rfl) (by decide) ?_
        refine lv_aload_n hx hb dL_law_840 rfl (lv_at hl 1 rfl) ?_
        refine lv_aload_n hx hb dL_law_841 rfl (lv_at hl 0 rfl) ?_
        refine lv_iload hx hb dL_law_842 (lv_at hl 4 rfl) ?_
        refine lv_iconst (v := 1) hx hb dL_law_844 (by decide) ?_
        refine lv_iadd hx hb dL_law_845 ?_
        obtain ⟨i294, h⟩ := ce_gi_e h
        obtain ⟨x293, e295, h⟩ := ce_nm_e h
        refine va_sld hx hb hX hbl hbA (hbs ▸ hS) i294 dL_law_846 ?_
        refine ce_top e295 ?_
        refine lv_aload_n hx hb dL_law_847 rfl (lv_at hl 0 rfl) ?_
        refine lv_iload hx hb dL_law_848 (lv_at hl 4 rfl) ?_
        refine lv_iconst (v := 2) hx hb dL_law_850 (by decide) ?_
        refine lv_iadd hx hb dL_law_851 ?_
        obtain ⟨i297, h⟩ := ce_gi_e h
        obtain ⟨x296, e298, h⟩ := ce_nm_e h
        refine va_sld hx hb hX hbl hbA (hbs ▸ hS) i297 dL_law_852 ?_
        refine ce_top e298 ?_
        refine lv_aload_n hx hb dL_law_853 rfl (lv_at hl 3 rfl) ?_
        obtain ⟨M299, x300, g301, h⟩ := ce_b2_e h
        refine ce_callWi (As := [.ref (b + 0), .int x293, .int x296, .ref (b + 421)]) (rest := []) hx hb hml hown hB (c_L_event l hfl X G b ce_k0 ce_k421 g301) ce_s_L_event ce_w844 ⟨Nat.le_of_ble_eq_true rfl, Nat.le_of_ble_eq_true rfl⟩ hF hA hS hl rfl rfl (Nat.le_of_ble_eq_true rfl) dL_law_854 ⟨(by show _ ≤ 601024; omega), (by show _ ≤ 7293034; omega)⟩ (fun H locs hA hS => ?_)
        refine lv_istore (lv' := [(5, .int x300), (0, .ref sb), (1, .ref (b + 0)), (2, .ref (b + 414)), (3, .ref (b + 421)), (4, .int x1)]) hx hb dL_law_857 hl (by decide) rfl (fun ls hl => ?_)
        refine lv_aload_n hx hb dL_law_859 rfl (lv_at hl 3 rfl) ?_
        refine lv_aload_n hx hb dL_law_860 rfl (lv_at hl 1 rfl) ?_
        refine lv_iload hx hb dL_law_861 (lv_at hl 5 rfl) ?_
        refine lv_iconst (v := 1) hx hb dL_law_863 (by decide) ?_
        refine lv_iadd hx hb dL_law_864 ?_
        obtain ⟨i303, h⟩ := ce_gi_e h
        obtain ⟨x302, e304, h⟩ := ce_nm_e h
        refine va_sld hx hb hX hbl hbA (hbs ▸ hS) i303 dL_law_865 ?_
        refine ce_top e304 ?_
        refine lv_aload_n hx hb dL_law_866 rfl (lv_at hl 1 rfl) ?_
        refine lv_iload hx hb dL_law_867 (lv_at hl 5 rfl) ?_
        refine lv_iconst (v := 2) hx hb dL_law_869 (by decide) ?_
        refine lv_iadd hx hb dL_law_870 ?_
        obtain ⟨i306, h⟩ := ce_gi_e h
        obtain ⟨x305, e307, h⟩ := ce_nm_e h
        refine va_sld hx hb hX hbl hbA (hbs ▸ hS) i306 dL_law_871 ?_
        refine ce_top e307 ?_
        obtain ⟨M308, x309, g310, h⟩ := ce_b2_e h
        refine ce_callVi (As := [.int x302, .int x305]) (rest := []) hx hb hml hown hB (c_X8_event l X G b ce_k414 g310) ce_v_X8_event ce_w1171 ⟨Nat.le_of_ble_eq_true rfl, Nat.le_of_ble_eq_true rfl⟩ hF hA hS (ce_rc_8 hK hA ce_k414) hl rfl rfl (Nat.le_of_ble_eq_true rfl) dL_law_872 ⟨(by show _ ≤ 601024; omega), (by show _ ≤ 7293034; omega)⟩ (fun H locs hA hS => ?_)
        refine lv_istore (lv' := [(6, .int x309), (5, .int x300), (0, .ref sb), (1, .ref (b + 0)), (2, .ref (b + 414)), (3, .ref (b + 421)), (4, .int x1)]) hx hb dL_law_875 hl (by decide) rfl (fun ls hl => ?_)
        refine lv_aload_n hx hb dL_law_877 rfl (lv_at hl 4 rfl) ?_
        obtain ⟨x311, g312, h⟩ := ce_b1_e h
        refine ce_callVi (As := []) (rest := []) hx hb hml hown hB (c_X8_thrown l X G b ce_k414 g312) ce_v_X8_thrown ce_w984 ⟨Nat.le_of_ble_eq_true rfl, Nat.le_of_ble_eq_true rfl⟩ hF hA hS (ce_rc_8 hK hA ce_k414) hl rfl rfl (Nat.le_of_ble_eq_true rfl) dL_law_878 ⟨(by show _ ≤ 601024; omega), (by show _ ≤ 7293034; omega)⟩ (fun H locs hA hS => ?_)
        refine lv_iload hx hb dL_law_881 (lv_at hl 1 rfl) ?_
        refine lv_icmp_eq (tgt := 888) hx hb dL_law_883 (by decide) (fun c313 => ?_) (fun c313 => ?_)
        · have h := ce_it c313 h
          refine lv_iload hx hb dL_law_888 (lv_at hl 1 rfl) ?_
          refine lv_if_ne (tgt := 905) hx hb dL_law_890 (by decide) (fun c314 => ?_) (fun c314 => ?_)
          · have h := ce_ie c314 h
            refine lv_goto (tgt := 1513) hx hb dL_law_905 (by decide) ?_
            obtain ⟨x315, e316, h⟩ := ce_nm_e h
            refine lv_iinc (v := x315) (lv' := [(4, .int x315), (6, .int x309), (5, .int x300), (0, .ref sb), (1, .ref (b + 0)), (2, .ref (b + 414)), (3, .ref (b + 421))]) hx hb dL_law_1513 hl (k := 6) rfl (by rw [← e316]; rfl) (by decide) rfl (fun ls hl => ?_)
            refine lv_goto (tgt := 23) hx hb dL_law_1516 (by decide) ?_
            exact ih M308 x315 h _ _ (by omega) (by omega) _ _ _ hA hS (lv_sub hl [3, 4, 5, 6, 0] rfl)
          · have h := ce_it c314 h
            refine lv_aload_n hx hb dL_law_893 rfl (lv_at hl 5 rfl) ?_
            refine lv_iconst (v := 0) hx hb dL_law_894 (by decide) ?_
            refine ce_lald hx hb hK hA ce_k421 dL_law_895 ?_
            refine lv_iload hx hb dL_law_896 (lv_at hl 0 rfl) ?_
            refine lv_i2l hx hb dL_law_898 rfl ?_
            refine W.lcmp hx hb dL_law_899 ?_
            refine lv_if_eq (tgt := 905) hx hb dL_law_900 (by decide) (fun c317 => ?_) (fun c317 => ?_)
            · have h := ce_it c317 h
              refine lv_goto (tgt := 1513) hx hb dL_law_905 (by decide) ?_
              obtain ⟨x318, e319, h⟩ := ce_nm_e h
              refine lv_iinc (v := x318) (lv' := [(4, .int x318), (6, .int x309), (5, .int x300), (0, .ref sb), (1, .ref (b + 0)), (2, .ref (b + 414)), (3, .ref (b + 421))]) hx hb dL_law_1513 hl (k := 6) rfl (by rw [← e319]; rfl) (by decide) rfl (fun ls hl => ?_)
              refine lv_goto (tgt := 23) hx hb dL_law_1516 (by decide) ?_
              exact ih M308 x318 h _ _ (by omega) (by omega) _ _ _ hA hS (lv_sub hl [3, 4, 5, 6, 0] rfl)
            · have h := ce_ie c317 h
              refine lv_iconst (v := 0) hx hb dL_law_903 (by decide) ?_
              cases h
        · have h := ce_ie c313 h
          refine lv_iconst (v := 0) hx hb dL_law_886 (by decide) ?_
          cases h
      have h := ce_ie c292 h
      by_cases c320 : (x3 &&& 31) = 11
      · have h := ce_it c320 h
        refine lv_tableIn (off := 869) (tgt := 908) hx hb dL_law_39 (by rw [c320]; decide) (by rw [c320]; decide) (by rw [c320]; rfl) (by decide) ?_
        refine lv_aload_n hx hb dL_law_908 rfl (lv_at hl 1 rfl) ?_
        refine lv_aload_n hx hb dL_law_909 rfl (lv_at hl 0 rfl) ?_
        refine lv_iload hx hb dL_law_910 (lv_at hl 4 rfl) ?_
        refine lv_iconst (v := 1) hx hb dL_law_912 (by decide) ?_
        refine lv_iadd hx hb dL_law_913 ?_
        obtain ⟨i322, h⟩ := ce_gi_e h
        obtain ⟨x321, e323, h⟩ := ce_nm_e h
        refine va_sld hx hb hX hbl hbA (hbs ▸ hS) i322 dL_law_914 ?_
        refine ce_top e323 ?_
        refine lv_aload_n hx hb dL_law_915 rfl (lv_at hl 0 rfl) ?_
        refine lv_iload hx hb dL_law_916 (lv_at hl 4 rfl) ?_
        refine lv_iconst (v := 2) hx hb dL_law_918 (by decide) ?_
        refine lv_iadd hx hb dL_law_919 ?_
        obtain ⟨i325, h⟩ := ce_gi_e h
        obtain ⟨x324, e326, h⟩ := ce_nm_e h
        refine va_sld hx hb hX hbl hbA (hbs ▸ hS) i325 dL_law_920 ?_
        refine ce_top e326 ?_
        refine lv_aload_n hx hb dL_law_921 rfl (lv_at hl 3 rfl) ?_
        obtain ⟨M327, x328, g329, h⟩ := ce_b2_e h
        refine ce_callWi (As := [.ref (b + 0), .int x321, .int x324, .ref (b + 421)]) (rest := []) hx hb hml hown hB (c_L_leaf l hfl X G b ce_k0 ce_k421 g329) ce_s_L_leaf ce_w851 ⟨Nat.le_of_ble_eq_true rfl, Nat.le_of_ble_eq_true rfl⟩ hF hA hS hl rfl rfl (Nat.le_of_ble_eq_true rfl) dL_law_922 ⟨(by show _ ≤ 601024; omega), (by show _ ≤ 7293034; omega)⟩ (fun H locs hA hS => ?_)
        refine lv_istore (lv' := [(5, .int x328), (0, .ref sb), (1, .ref (b + 0)), (2, .ref (b + 414)), (3, .ref (b + 421)), (4, .int x1)]) hx hb dL_law_925 hl (by decide) rfl (fun ls hl => ?_)
        refine lv_aload_n hx hb dL_law_927 rfl (lv_at hl 3 rfl) ?_
        refine lv_aload_n hx hb dL_law_928 rfl (lv_at hl 1 rfl) ?_
        refine lv_iload hx hb dL_law_929 (lv_at hl 5 rfl) ?_
        refine lv_iconst (v := 1) hx hb dL_law_931 (by decide) ?_
        refine lv_iadd hx hb dL_law_932 ?_
        obtain ⟨i331, h⟩ := ce_gi_e h
        obtain ⟨x330, e332, h⟩ := ce_nm_e h
        refine va_sld hx hb hX hbl hbA (hbs ▸ hS) i331 dL_law_933 ?_
        refine ce_top e332 ?_
        refine lv_aload_n hx hb dL_law_934 rfl (lv_at hl 1 rfl) ?_
        refine lv_iload hx hb dL_law_935 (lv_at hl 5 rfl) ?_
        refine lv_iconst (v := 2) hx hb dL_law_937 (by decide) ?_
        refine lv_iadd hx hb dL_law_938 ?_
        obtain ⟨i334, h⟩ := ce_gi_e h
        obtain ⟨x333, e335, h⟩ := ce_nm_e h
        refine va_sld hx hb hX hbl hbA (hbs ▸ hS) i334 dL_law_939 ?_
        refine ce_top e335 ?_
        obtain ⟨M336, x337, g338, h⟩ := ce_b2_e h
        refine ce_callVi (As := [.int x330, .int x333]) (rest := []) hx hb hml hown hB (c_X8_leaf l X G b ce_k414 g338) ce_v_X8_leaf ce_w1183 ⟨Nat.le_of_ble_eq_true rfl, Nat.le_of_ble_eq_true rfl⟩ hF hA hS (ce_rc_8 hK hA ce_k414) hl rfl rfl (Nat.le_of_ble_eq_true rfl) dL_law_940 ⟨(by show _ ≤ 601024; omega), (by show _ ≤ 7293034; omega)⟩ (fun H locs hA hS => ?_)
        refine lv_istore (lv' := [(6, .int x337), (5, .int x328), (0, .ref sb), (1, .ref (b + 0)), (2, .ref (b + 414)), (3, .ref (b + 421)), (4, .int x1)]) hx hb dL_law_943 hl (by decide) rfl (fun ls hl => ?_)
        refine lv_aload_n hx hb dL_law_945 rfl (lv_at hl 4 rfl) ?_
        obtain ⟨x339, g340, h⟩ := ce_b1_e h
        refine ce_callVi (As := []) (rest := []) hx hb hml hown hB (c_X8_thrown l X G b ce_k414 g340) ce_v_X8_thrown ce_w984 ⟨Nat.le_of_ble_eq_true rfl, Nat.le_of_ble_eq_true rfl⟩ hF hA hS (ce_rc_8 hK hA ce_k414) hl rfl rfl (Nat.le_of_ble_eq_true rfl) dL_law_946 ⟨(by show _ ≤ 601024; omega), (by show _ ≤ 7293034; omega)⟩ (fun H locs hA hS => ?_)
        refine lv_iload hx hb dL_law_949 (lv_at hl 1 rfl) ?_
        refine lv_icmp_eq (tgt := 956) hx hb dL_law_951 (by decide) (fun c341 => ?_) (fun c341 => ?_)
        · have h := ce_it c341 h
          refine lv_iload hx hb dL_law_956 (lv_at hl 1 rfl) ?_
          refine lv_if_ne (tgt := 973) hx hb dL_law_958 (by decide) (fun c342 => ?_) (fun c342 => ?_)
          · have h := ce_ie c342 h
            refine lv_goto (tgt := 1513) hx hb dL_law_973 (by decide) ?_
            obtain ⟨x343, e344, h⟩ := ce_nm_e h
            refine lv_iinc (v := x343) (lv' := [(4, .int x343), (6, .int x337), (5, .int x328), (0, .ref sb), (1, .ref (b + 0)), (2, .ref (b + 414)), (3, .ref (b + 421))]) hx hb dL_law_1513 hl (k := 6) rfl (by rw [← e344]; rfl) (by decide) rfl (fun ls hl => ?_)
            refine lv_goto (tgt := 23) hx hb dL_law_1516 (by decide) ?_
            exact ih M336 x343 h _ _ (by omega) (by omega) _ _ _ hA hS (lv_sub hl [3, 4, 5, 6, 0] rfl)
          · have h := ce_it c342 h
            refine lv_aload_n hx hb dL_law_961 rfl (lv_at hl 5 rfl) ?_
            refine lv_iconst (v := 0) hx hb dL_law_962 (by decide) ?_
            refine ce_lald hx hb hK hA ce_k421 dL_law_963 ?_
            refine lv_iload hx hb dL_law_964 (lv_at hl 0 rfl) ?_
            refine lv_i2l hx hb dL_law_966 rfl ?_
            refine W.lcmp hx hb dL_law_967 ?_
            refine lv_if_eq (tgt := 973) hx hb dL_law_968 (by decide) (fun c345 => ?_) (fun c345 => ?_)
            · have h := ce_it c345 h
              refine lv_goto (tgt := 1513) hx hb dL_law_973 (by decide) ?_
              obtain ⟨x346, e347, h⟩ := ce_nm_e h
              refine lv_iinc (v := x346) (lv' := [(4, .int x346), (6, .int x337), (5, .int x328), (0, .ref sb), (1, .ref (b + 0)), (2, .ref (b + 414)), (3, .ref (b + 421))]) hx hb dL_law_1513 hl (k := 6) rfl (by rw [← e347]; rfl) (by decide) rfl (fun ls hl => ?_)
              refine lv_goto (tgt := 23) hx hb dL_law_1516 (by decide) ?_
              exact ih M336 x346 h _ _ (by omega) (by omega) _ _ _ hA hS (lv_sub hl [3, 4, 5, 6, 0] rfl)
            · have h := ce_ie c345 h
              refine lv_iconst (v := 0) hx hb dL_law_971 (by decide) ?_
              cases h
        · have h := ce_ie c341 h
          refine lv_iconst (v := 0) hx hb dL_law_954 (by decide) ?_
          cases h
      have h := ce_ie c320 h
      by_cases c348 : (x3 &&& 31) = 12
      · have h := ce_it c348 h
        refine lv_tableIn (off := 937) (tgt := 976) hx hb dL_law_39 (by rw [c348]; decide) (by rw [c348]; decide) (by rw [c348]; rfl) (by decide) ?_
        refine lv_aload_n hx hb dL_law_976 rfl (lv_at hl 1 rfl) ?_
        refine lv_aload_n hx hb dL_law_977 rfl (lv_at hl 0 rfl) ?_
        refine lv_iload hx hb dL_law_978 (lv_at hl 4 rfl) ?_
        refine lv_iconst (v := 1) hx hb dL_law_980 (by decide) ?_
        refine lv_iadd hx hb dL_law_981 ?_
        obtain ⟨i350, h⟩ := ce_gi_e h
        obtain ⟨x349, e351, h⟩ := ce_nm_e h
        refine va_sld hx hb hX hbl hbA (hbs ▸ hS) i350 dL_law_982 ?_
        refine ce_top e351 ?_
        refine lv_aload_n hx hb dL_law_983 rfl (lv_at hl 3 rfl) ?_
        obtain ⟨M352, x353, g354, h⟩ := ce_b2_e h
        refine ce_callWi (As := [.ref (b + 0), .int x349, .ref (b + 421)]) (rest := []) hx hb hml hown hB (c_L_whole l hfl X G b ce_k0 ce_k421 g354) ce_s_L_whole ce_w858 ⟨Nat.le_of_ble_eq_true rfl, Nat.le_of_ble_eq_true rfl⟩ hF hA hS hl rfl rfl (Nat.le_of_ble_eq_true rfl) dL_law_984 ⟨(by show _ ≤ 601024; omega), (by show _ ≤ 7293034; omega)⟩ (fun H locs hA hS => ?_)
        refine lv_istore (lv' := [(5, .int x353), (0, .ref sb), (1, .ref (b + 0)), (2, .ref (b + 414)), (3, .ref (b + 421)), (4, .int x1)]) hx hb dL_law_987 hl (by decide) rfl (fun ls hl => ?_)
        refine lv_aload_n hx hb dL_law_989 rfl (lv_at hl 3 rfl) ?_
        refine lv_aload_n hx hb dL_law_990 rfl (lv_at hl 1 rfl) ?_
        refine lv_iload hx hb dL_law_991 (lv_at hl 5 rfl) ?_
        refine lv_iconst (v := 1) hx hb dL_law_993 (by decide) ?_
        refine lv_iadd hx hb dL_law_994 ?_
        obtain ⟨i356, h⟩ := ce_gi_e h
        obtain ⟨x355, e357, h⟩ := ce_nm_e h
        refine va_sld hx hb hX hbl hbA (hbs ▸ hS) i356 dL_law_995 ?_
        refine ce_top e357 ?_
        obtain ⟨M358, x359, g360, h⟩ := ce_b2_e h
        refine ce_callVi (As := [.int x355]) (rest := []) hx hb hml hown hB (c_X8_whole l X G b ce_k414 g360) ce_v_X8_whole ce_w1191 ⟨Nat.le_of_ble_eq_true rfl, Nat.le_of_ble_eq_true rfl⟩ hF hA hS (ce_rc_8 hK hA ce_k414) hl rfl rfl (Nat.le_of_ble_eq_true rfl) dL_law_996 ⟨(by show _ ≤ 601024; omega), (by show _ ≤ 7293034; omega)⟩ (fun H locs hA hS => ?_)
        refine lv_istore (lv' := [(6, .int x359), (5, .int x353), (0, .ref sb), (1, .ref (b + 0)), (2, .ref (b + 414)), (3, .ref (b + 421)), (4, .int x1)]) hx hb dL_law_999 hl (by decide) rfl (fun ls hl => ?_)
        refine lv_aload_n hx hb dL_law_1001 rfl (lv_at hl 4 rfl) ?_
        obtain ⟨x361, g362, h⟩ := ce_b1_e h
        refine ce_callVi (As := []) (rest := []) hx hb hml hown hB (c_X8_thrown l X G b ce_k414 g362) ce_v_X8_thrown ce_w984 ⟨Nat.le_of_ble_eq_true rfl, Nat.le_of_ble_eq_true rfl⟩ hF hA hS (ce_rc_8 hK hA ce_k414) hl rfl rfl (Nat.le_of_ble_eq_true rfl) dL_law_1002 ⟨(by show _ ≤ 601024; omega), (by show _ ≤ 7293034; omega)⟩ (fun H locs hA hS => ?_)
        refine lv_iload hx hb dL_law_1005 (lv_at hl 1 rfl) ?_
        refine lv_icmp_eq (tgt := 1012) hx hb dL_law_1007 (by decide) (fun c363 => ?_) (fun c363 => ?_)
        · have h := ce_it c363 h
          refine lv_iload hx hb dL_law_1012 (lv_at hl 1 rfl) ?_
          refine lv_if_ne (tgt := 1029) hx hb dL_law_1014 (by decide) (fun c364 => ?_) (fun c364 => ?_)
          · have h := ce_ie c364 h
            refine lv_goto (tgt := 1513) hx hb dL_law_1029 (by decide) ?_
            obtain ⟨x365, e366, h⟩ := ce_nm_e h
            refine lv_iinc (v := x365) (lv' := [(4, .int x365), (6, .int x359), (5, .int x353), (0, .ref sb), (1, .ref (b + 0)), (2, .ref (b + 414)), (3, .ref (b + 421))]) hx hb dL_law_1513 hl (k := 6) rfl (by rw [← e366]; rfl) (by decide) rfl (fun ls hl => ?_)
            refine lv_goto (tgt := 23) hx hb dL_law_1516 (by decide) ?_
            exact ih M358 x365 h _ _ (by omega) (by omega) _ _ _ hA hS (lv_sub hl [3, 4, 5, 6, 0] rfl)
          · have h := ce_it c364 h
            refine lv_aload_n hx hb dL_law_1017 rfl (lv_at hl 5 rfl) ?_
            refine lv_iconst (v := 0) hx hb dL_law_1018 (by decide) ?_
            refine ce_lald hx hb hK hA ce_k421 dL_law_1019 ?_
            refine lv_iload hx hb dL_law_1020 (lv_at hl 0 rfl) ?_
            refine lv_i2l hx hb dL_law_1022 rfl ?_
            refine W.lcmp hx hb dL_law_1023 ?_
            refine lv_if_eq (tgt := 1029) hx hb dL_law_1024 (by decide) (fun c367 => ?_) (fun c367 => ?_)
            · have h := ce_it c367 h
              refine lv_goto (tgt := 1513) hx hb dL_law_1029 (by decide) ?_
              obtain ⟨x368, e369, h⟩ := ce_nm_e h
              refine lv_iinc (v := x368) (lv' := [(4, .int x368), (6, .int x359), (5, .int x353), (0, .ref sb), (1, .ref (b + 0)), (2, .ref (b + 414)), (3, .ref (b + 421))]) hx hb dL_law_1513 hl (k := 6) rfl (by rw [← e369]; rfl) (by decide) rfl (fun ls hl => ?_)
              refine lv_goto (tgt := 23) hx hb dL_law_1516 (by decide) ?_
              exact ih M358 x368 h _ _ (by omega) (by omega) _ _ _ hA hS (lv_sub hl [3, 4, 5, 6, 0] rfl)
            · have h := ce_ie c367 h
              refine lv_iconst (v := 0) hx hb dL_law_1027 (by decide) ?_
              cases h
        · have h := ce_ie c363 h
          refine lv_iconst (v := 0) hx hb dL_law_1010 (by decide) ?_
          cases h
      have h := ce_ie c348 h
      by_cases c370 : (x3 &&& 31) = 13
      · have h := ce_it c370 h
        refine lv_tableIn (off := 993) (tgt := 1032) hx hb dL_law_39 (by rw [c370]; decide) (by rw [c370]; decide) (by rw [c370]; rfl) (by decide) ?_
        refine lv_aload_n hx hb dL_law_1032 rfl (lv_at hl 1 rfl) ?_
        refine lv_aload_n hx hb dL_law_1033 rfl (lv_at hl 0 rfl) ?_
        refine lv_iload hx hb dL_law_1034 (lv_at hl 4 rfl) ?_
        refine lv_iconst (v := 1) hx hb dL_law_1036 (by decide) ?_
        refine lv_iadd hx hb dL_law_1037 ?_
        obtain ⟨i372, h⟩ := ce_gi_e h
        obtain ⟨x371, e373, h⟩ := ce_nm_e h
        refine va_sld hx hb hX hbl hbA (hbs ▸ hS) i372 dL_law_1038 ?_
        refine ce_top e373 ?_
        refine lv_aload_n hx hb dL_law_1039 rfl (lv_at hl 0 rfl) ?_
        refine lv_iload hx hb dL_law_1040 (lv_at hl 4 rfl) ?_
        refine lv_iconst (v := 2) hx hb dL_law_1042 (by decide) ?_
        refine lv_iadd hx hb dL_law_1043 ?_
        obtain ⟨i375, h⟩ := ce_gi_e h
        obtain ⟨x374, e376, h⟩ := ce_nm_e h
        refine va_sld hx hb hX hbl hbA (hbs ▸ hS) i375 dL_law_1044 ?_
        refine ce_top e376 ?_
        refine lv_aload_n hx hb dL_law_1045 rfl (lv_at hl 0 rfl) ?_
        refine lv_iload hx hb dL_law_1046 (lv_at hl 4 rfl) ?_
        refine lv_iconst (v := 3) hx hb dL_law_1048 (by decide) ?_
        refine lv_iadd hx hb dL_law_1049 ?_
        obtain ⟨i378, h⟩ := ce_gi_e h
        obtain ⟨x377, e379, h⟩ := ce_nm_e h
        refine va_sld hx hb hX hbl hbA (hbs ▸ hS) i378 dL_law_1050 ?_
        refine ce_top e379 ?_
        refine lv_aload_n hx hb dL_law_1051 rfl (lv_at hl 3 rfl) ?_
        obtain ⟨M380, x381, g382, h⟩ := ce_b2_e h
        refine ce_callWi (As := [.ref (b + 0), .int x371, .int x374, .int x377, .ref (b + 421)]) (rest := []) hx hb hml hown hB (c_L_wouldReach l hfl X G b ce_k0 ce_k421 g382) ce_s_L_wouldReach ce_w865 ⟨Nat.le_of_ble_eq_true rfl, Nat.le_of_ble_eq_true rfl⟩ hF hA hS hl rfl rfl (Nat.le_of_ble_eq_true rfl) dL_law_1052 ⟨(by show _ ≤ 601024; omega), (by show _ ≤ 7293034; omega)⟩ (fun H locs hA hS => ?_)
        refine lv_istore (lv' := [(5, .int x381), (0, .ref sb), (1, .ref (b + 0)), (2, .ref (b + 414)), (3, .ref (b + 421)), (4, .int x1)]) hx hb dL_law_1055 hl (by decide) rfl (fun ls hl => ?_)
        refine lv_aload_n hx hb dL_law_1057 rfl (lv_at hl 3 rfl) ?_
        refine lv_aload_n hx hb dL_law_1058 rfl (lv_at hl 1 rfl) ?_
        refine lv_iload hx hb dL_law_1059 (lv_at hl 5 rfl) ?_
        refine lv_iconst (v := 1) hx hb dL_law_1061 (by decide) ?_
        refine lv_iadd hx hb dL_law_1062 ?_
        obtain ⟨i384, h⟩ := ce_gi_e h
        obtain ⟨x383, e385, h⟩ := ce_nm_e h
        refine va_sld hx hb hX hbl hbA (hbs ▸ hS) i384 dL_law_1063 ?_
        refine ce_top e385 ?_
        refine lv_aload_n hx hb dL_law_1064 rfl (lv_at hl 1 rfl) ?_
        refine lv_iload hx hb dL_law_1065 (lv_at hl 5 rfl) ?_
        refine lv_iconst (v := 2) hx hb dL_law_1067 (by decide) ?_
        refine lv_iadd hx hb dL_law_1068 ?_
        obtain ⟨i387, h⟩ := ce_gi_e h
        obtain ⟨x386, e388, h⟩ := ce_nm_e h
        refine va_sld hx hb hX hbl hbA (hbs ▸ hS) i387 dL_law_1069 ?_
        refine ce_top e388 ?_
        refine lv_aload_n hx hb dL_law_1070 rfl (lv_at hl 1 rfl) ?_
        refine lv_iload hx hb dL_law_1071 (lv_at hl 5 rfl) ?_
        refine lv_iconst (v := 3) hx hb dL_law_1073 (by decide) ?_
        refine lv_iadd hx hb dL_law_1074 ?_
        obtain ⟨i390, h⟩ := ce_gi_e h
        obtain ⟨x389, e391, h⟩ := ce_nm_e h
        refine va_sld hx hb hX hbl hbA (hbs ▸ hS) i390 dL_law_1075 ?_
        refine ce_top e391 ?_
        obtain ⟨M392, x393, g394, h⟩ := ce_b2_e h
        refine ce_callVi (As := [.int x383, .int x386, .int x389]) (rest := []) hx hb hml hown hB (c_X8_wouldReach l X G b ce_k414 g394) ce_v_X8_wouldReach ce_w1203 ⟨Nat.le_of_ble_eq_true rfl, Nat.le_of_ble_eq_true rfl⟩ hF hA hS (ce_rc_8 hK hA ce_k414) hl rfl rfl (Nat.le_of_ble_eq_true rfl) dL_law_1076 ⟨(by show _ ≤ 601024; omega), (by show _ ≤ 7293034; omega)⟩ (fun H locs hA hS => ?_)
        refine lv_istore (lv' := [(6, .int x393), (5, .int x381), (0, .ref sb), (1, .ref (b + 0)), (2, .ref (b + 414)), (3, .ref (b + 421)), (4, .int x1)]) hx hb dL_law_1079 hl (by decide) rfl (fun ls hl => ?_)
        refine lv_aload_n hx hb dL_law_1081 rfl (lv_at hl 4 rfl) ?_
        obtain ⟨x395, g396, h⟩ := ce_b1_e h
        refine ce_callVi (As := []) (rest := []) hx hb hml hown hB (c_X8_thrown l X G b ce_k414 g396) ce_v_X8_thrown ce_w984 ⟨Nat.le_of_ble_eq_true rfl, Nat.le_of_ble_eq_true rfl⟩ hF hA hS (ce_rc_8 hK hA ce_k414) hl rfl rfl (Nat.le_of_ble_eq_true rfl) dL_law_1082 ⟨(by show _ ≤ 601024; omega), (by show _ ≤ 7293034; omega)⟩ (fun H locs hA hS => ?_)
        refine lv_iload hx hb dL_law_1085 (lv_at hl 1 rfl) ?_
        refine lv_icmp_eq (tgt := 1092) hx hb dL_law_1087 (by decide) (fun c397 => ?_) (fun c397 => ?_)
        · have h := ce_it c397 h
          refine lv_iload hx hb dL_law_1092 (lv_at hl 1 rfl) ?_
          refine lv_if_ne (tgt := 1109) hx hb dL_law_1094 (by decide) (fun c398 => ?_) (fun c398 => ?_)
          · have h := ce_ie c398 h
            refine lv_goto (tgt := 1513) hx hb dL_law_1109 (by decide) ?_
            obtain ⟨x399, e400, h⟩ := ce_nm_e h
            refine lv_iinc (v := x399) (lv' := [(4, .int x399), (6, .int x393), (5, .int x381), (0, .ref sb), (1, .ref (b + 0)), (2, .ref (b + 414)), (3, .ref (b + 421))]) hx hb dL_law_1513 hl (k := 6) rfl (by rw [← e400]; rfl) (by decide) rfl (fun ls hl => ?_)
            refine lv_goto (tgt := 23) hx hb dL_law_1516 (by decide) ?_
            exact ih M392 x399 h _ _ (by omega) (by omega) _ _ _ hA hS (lv_sub hl [3, 4, 5, 6, 0] rfl)
          · have h := ce_it c398 h
            refine lv_aload_n hx hb dL_law_1097 rfl (lv_at hl 5 rfl) ?_
            refine lv_iconst (v := 0) hx hb dL_law_1098 (by decide) ?_
            refine ce_lald hx hb hK hA ce_k421 dL_law_1099 ?_
            refine lv_iload hx hb dL_law_1100 (lv_at hl 0 rfl) ?_
            refine lv_i2l hx hb dL_law_1102 rfl ?_
            refine W.lcmp hx hb dL_law_1103 ?_
            refine lv_if_eq (tgt := 1109) hx hb dL_law_1104 (by decide) (fun c401 => ?_) (fun c401 => ?_)
            · have h := ce_it c401 h
              refine lv_goto (tgt := 1513) hx hb dL_law_1109 (by decide) ?_
              obtain ⟨x402, e403, h⟩ := ce_nm_e h
              refine lv_iinc (v := x402) (lv' := [(4, .int x402), (6, .int x393), (5, .int x381), (0, .ref sb), (1, .ref (b + 0)), (2, .ref (b + 414)), (3, .ref (b + 421))]) hx hb dL_law_1513 hl (k := 6) rfl (by rw [← e403]; rfl) (by decide) rfl (fun ls hl => ?_)
              refine lv_goto (tgt := 23) hx hb dL_law_1516 (by decide) ?_
              exact ih M392 x402 h _ _ (by omega) (by omega) _ _ _ hA hS (lv_sub hl [3, 4, 5, 6, 0] rfl)
            · have h := ce_ie c401 h
              refine lv_iconst (v := 0) hx hb dL_law_1107 (by decide) ?_
              cases h
        · have h := ce_ie c397 h
          refine lv_iconst (v := 0) hx hb dL_law_1090 (by decide) ?_
          cases h
      have h := ce_ie c370 h
      by_cases c404 : (x3 &&& 31) = 14
      · have h := ce_it c404 h
        refine lv_tableIn (off := 1073) (tgt := 1112) hx hb dL_law_39 (by rw [c404]; decide) (by rw [c404]; decide) (by rw [c404]; rfl) (by decide) ?_
        refine lv_aload_n hx hb dL_law_1112 rfl (lv_at hl 1 rfl) ?_
        refine lv_aload_n hx hb dL_law_1113 rfl (lv_at hl 0 rfl) ?_
        refine lv_iload hx hb dL_law_1114 (lv_at hl 4 rfl) ?_
        refine lv_iconst (v := 1) hx hb dL_law_1116 (by decide) ?_
        refine lv_iadd hx hb dL_law_1117 ?_
        obtain ⟨i406, h⟩ := ce_gi_e h
        obtain ⟨x405, e407, h⟩ := ce_nm_e h
        refine va_sld hx hb hX hbl hbA (hbs ▸ hS) i406 dL_law_1118 ?_
        refine ce_top e407 ?_
        refine lv_aload_n hx hb dL_law_1119 rfl (lv_at hl 0 rfl) ?_
        refine lv_iload hx hb dL_law_1120 (lv_at hl 4 rfl) ?_
        refine lv_iconst (v := 2) hx hb dL_law_1122 (by decide) ?_
        refine lv_iadd hx hb dL_law_1123 ?_
        obtain ⟨i409, h⟩ := ce_gi_e h
        obtain ⟨x408, e410, h⟩ := ce_nm_e h
        refine va_sld hx hb hX hbl hbA (hbs ▸ hS) i409 dL_law_1124 ?_
        refine ce_top e410 ?_
        refine lv_aload_n hx hb dL_law_1125 rfl (lv_at hl 0 rfl) ?_
        refine lv_iload hx hb dL_law_1126 (lv_at hl 4 rfl) ?_
        refine lv_iconst (v := 3) hx hb dL_law_1128 (by decide) ?_
        refine lv_iadd hx hb dL_law_1129 ?_
        obtain ⟨i412, h⟩ := ce_gi_e h
        obtain ⟨x411, e413, h⟩ := ce_nm_e h
        refine va_sld hx hb hX hbl hbA (hbs ▸ hS) i412 dL_law_1130 ?_
        refine ce_top e413 ?_
        refine lv_aload_n hx hb dL_law_1131 rfl (lv_at hl 3 rfl) ?_
        obtain ⟨M414, x415, g416, h⟩ := ce_b2_e h
        refine ce_callWi (As := [.ref (b + 0), .int x405, .int x408, .int x411, .ref (b + 421)]) (rest := []) hx hb hml hown hB (c_L_reason l hfl X G b ce_k0 ce_k421 g416) ce_s_L_reason ce_w874 ⟨Nat.le_of_ble_eq_true rfl, Nat.le_of_ble_eq_true rfl⟩ hF hA hS hl rfl rfl (Nat.le_of_ble_eq_true rfl) dL_law_1132 ⟨(by show _ ≤ 601024; omega), (by show _ ≤ 7293034; omega)⟩ (fun H locs hA hS => ?_)
        refine lv_istore (lv' := [(5, .int x415), (0, .ref sb), (1, .ref (b + 0)), (2, .ref (b + 414)), (3, .ref (b + 421)), (4, .int x1)]) hx hb dL_law_1135 hl (by decide) rfl (fun ls hl => ?_)
        refine lv_aload_n hx hb dL_law_1137 rfl (lv_at hl 3 rfl) ?_
        refine lv_aload_n hx hb dL_law_1138 rfl (lv_at hl 1 rfl) ?_
        refine lv_iload hx hb dL_law_1139 (lv_at hl 5 rfl) ?_
        refine lv_iconst (v := 1) hx hb dL_law_1141 (by decide) ?_
        refine lv_iadd hx hb dL_law_1142 ?_
        obtain ⟨i418, h⟩ := ce_gi_e h
        obtain ⟨x417, e419, h⟩ := ce_nm_e h
        refine va_sld hx hb hX hbl hbA (hbs ▸ hS) i418 dL_law_1143 ?_
        refine ce_top e419 ?_
        refine lv_aload_n hx hb dL_law_1144 rfl (lv_at hl 1 rfl) ?_
        refine lv_iload hx hb dL_law_1145 (lv_at hl 5 rfl) ?_
        refine lv_iconst (v := 2) hx hb dL_law_1147 (by decide) ?_
        refine lv_iadd hx hb dL_law_1148 ?_
        obtain ⟨i421, h⟩ := ce_gi_e h
        obtain ⟨x420, e422, h⟩ := ce_nm_e h
        refine va_sld hx hb hX hbl hbA (hbs ▸ hS) i421 dL_law_1149 ?_
        refine ce_top e422 ?_
        refine lv_aload_n hx hb dL_law_1150 rfl (lv_at hl 1 rfl) ?_
        refine lv_iload hx hb dL_law_1151 (lv_at hl 5 rfl) ?_
        refine lv_iconst (v := 3) hx hb dL_law_1153 (by decide) ?_
        refine lv_iadd hx hb dL_law_1154 ?_
        obtain ⟨i424, h⟩ := ce_gi_e h
        obtain ⟨x423, e425, h⟩ := ce_nm_e h
        refine va_sld hx hb hX hbl hbA (hbs ▸ hS) i424 dL_law_1155 ?_
        refine ce_top e425 ?_
        obtain ⟨M426, x427, g428, h⟩ := ce_b2_e h
        refine ce_callVi (As := [.int x417, .int x420, .int x423]) (rest := []) hx hb hml hown hB (c_X8_reason l X G b ce_k414 g428) ce_v_X8_reason ce_w1207 ⟨Nat.le_of_ble_eq_true rfl, Nat.le_of_ble_eq_true rfl⟩ hF hA hS (ce_rc_8 hK hA ce_k414) hl rfl rfl (Nat.le_of_ble_eq_true rfl) dL_law_1156 ⟨(by show _ ≤ 601024; omega), (by show _ ≤ 7293034; omega)⟩ (fun H locs hA hS => ?_)
        refine lv_istore (lv' := [(6, .int x427), (5, .int x415), (0, .ref sb), (1, .ref (b + 0)), (2, .ref (b + 414)), (3, .ref (b + 421)), (4, .int x1)]) hx hb dL_law_1159 hl (by decide) rfl (fun ls hl => ?_)
        refine lv_aload_n hx hb dL_law_1161 rfl (lv_at hl 4 rfl) ?_
        obtain ⟨x429, g430, h⟩ := ce_b1_e h
        refine ce_callVi (As := []) (rest := []) hx hb hml hown hB (c_X8_thrown l X G b ce_k414 g430) ce_v_X8_thrown ce_w984 ⟨Nat.le_of_ble_eq_true rfl, Nat.le_of_ble_eq_true rfl⟩ hF hA hS (ce_rc_8 hK hA ce_k414) hl rfl rfl (Nat.le_of_ble_eq_true rfl) dL_law_1162 ⟨(by show _ ≤ 601024; omega), (by show _ ≤ 7293034; omega)⟩ (fun H locs hA hS => ?_)
        refine lv_iload hx hb dL_law_1165 (lv_at hl 1 rfl) ?_
        refine lv_icmp_eq (tgt := 1172) hx hb dL_law_1167 (by decide) (fun c431 => ?_) (fun c431 => ?_)
        · have h := ce_it c431 h
          refine lv_iload hx hb dL_law_1172 (lv_at hl 1 rfl) ?_
          refine lv_if_ne (tgt := 1189) hx hb dL_law_1174 (by decide) (fun c432 => ?_) (fun c432 => ?_)
          · have h := ce_ie c432 h
            refine lv_goto (tgt := 1513) hx hb dL_law_1189 (by decide) ?_
            obtain ⟨x433, e434, h⟩ := ce_nm_e h
            refine lv_iinc (v := x433) (lv' := [(4, .int x433), (6, .int x427), (5, .int x415), (0, .ref sb), (1, .ref (b + 0)), (2, .ref (b + 414)), (3, .ref (b + 421))]) hx hb dL_law_1513 hl (k := 6) rfl (by rw [← e434]; rfl) (by decide) rfl (fun ls hl => ?_)
            refine lv_goto (tgt := 23) hx hb dL_law_1516 (by decide) ?_
            exact ih M426 x433 h _ _ (by omega) (by omega) _ _ _ hA hS (lv_sub hl [3, 4, 5, 6, 0] rfl)
          · have h := ce_it c432 h
            refine lv_aload_n hx hb dL_law_1177 rfl (lv_at hl 5 rfl) ?_
            refine lv_iconst (v := 0) hx hb dL_law_1178 (by decide) ?_
            refine ce_lald hx hb hK hA ce_k421 dL_law_1179 ?_
            refine lv_iload hx hb dL_law_1180 (lv_at hl 0 rfl) ?_
            refine lv_i2l hx hb dL_law_1182 rfl ?_
            refine W.lcmp hx hb dL_law_1183 ?_
            refine lv_if_eq (tgt := 1189) hx hb dL_law_1184 (by decide) (fun c435 => ?_) (fun c435 => ?_)
            · have h := ce_it c435 h
              refine lv_goto (tgt := 1513) hx hb dL_law_1189 (by decide) ?_
              obtain ⟨x436, e437, h⟩ := ce_nm_e h
              refine lv_iinc (v := x436) (lv' := [(4, .int x436), (6, .int x427), (5, .int x415), (0, .ref sb), (1, .ref (b + 0)), (2, .ref (b + 414)), (3, .ref (b + 421))]) hx hb dL_law_1513 hl (k := 6) rfl (by rw [← e437]; rfl) (by decide) rfl (fun ls hl => ?_)
              refine lv_goto (tgt := 23) hx hb dL_law_1516 (by decide) ?_
              exact ih M426 x436 h _ _ (by omega) (by omega) _ _ _ hA hS (lv_sub hl [3, 4, 5, 6, 0] rfl)
            · have h := ce_ie c435 h
              refine lv_iconst (v := 0) hx hb dL_law_1187 (by decide) ?_
              cases h
        · have h := ce_ie c431 h
          refine lv_iconst (v := 0) hx hb dL_law_1170 (by decide) ?_
          cases h
      have h := ce_ie c404 h
      by_cases c438 : (x3 &&& 31) = 15
      · have h := ce_it c438 h
        refine lv_tableIn (off := 1153) (tgt := 1192) hx hb dL_law_39 (by rw [c438]; decide) (by rw [c438]; decide) (by rw [c438]; rfl) (by decide) ?_
        refine lv_aload_n hx hb dL_law_1192 rfl (lv_at hl 1 rfl) ?_
        refine lv_aload_n hx hb dL_law_1193 rfl (lv_at hl 0 rfl) ?_
        refine lv_iload hx hb dL_law_1194 (lv_at hl 4 rfl) ?_
        refine lv_iconst (v := 1) hx hb dL_law_1196 (by decide) ?_
        refine lv_iadd hx hb dL_law_1197 ?_
        obtain ⟨i440, h⟩ := ce_gi_e h
        obtain ⟨x439, e441, h⟩ := ce_nm_e h
        refine va_sld hx hb hX hbl hbA (hbs ▸ hS) i440 dL_law_1198 ?_
        refine ce_top e441 ?_
        refine lv_aload_n hx hb dL_law_1199 rfl (lv_at hl 3 rfl) ?_
        obtain ⟨M442, x443, g444, h⟩ := ce_b2_e h
        refine ce_callWi (As := [.ref (b + 0), .int x439, .ref (b + 421)]) (rest := []) hx hb hml hown hB (c_L_servedIn l hfl X G b ce_k0 ce_k421 g444) ce_s_L_servedIn ce_w886 ⟨Nat.le_of_ble_eq_true rfl, Nat.le_of_ble_eq_true rfl⟩ hF hA hS hl rfl rfl (Nat.le_of_ble_eq_true rfl) dL_law_1200 ⟨(by show _ ≤ 601024; omega), (by show _ ≤ 7293034; omega)⟩ (fun H locs hA hS => ?_)
        refine lv_istore (lv' := [(5, .int x443), (0, .ref sb), (1, .ref (b + 0)), (2, .ref (b + 414)), (3, .ref (b + 421)), (4, .int x1)]) hx hb dL_law_1203 hl (by decide) rfl (fun ls hl => ?_)
        refine lv_aload_n hx hb dL_law_1205 rfl (lv_at hl 3 rfl) ?_
        refine lv_aload_n hx hb dL_law_1206 rfl (lv_at hl 1 rfl) ?_
        refine lv_iload hx hb dL_law_1207 (lv_at hl 5 rfl) ?_
        refine lv_iconst (v := 1) hx hb dL_law_1209 (by decide) ?_
        refine lv_iadd hx hb dL_law_1210 ?_
        obtain ⟨i446, h⟩ := ce_gi_e h
        obtain ⟨x445, e447, h⟩ := ce_nm_e h
        refine va_sld hx hb hX hbl hbA (hbs ▸ hS) i446 dL_law_1211 ?_
        refine ce_top e447 ?_
        obtain ⟨M448, x449, g450, h⟩ := ce_b2_e h
        refine ce_callVi (As := [.int x445]) (rest := []) hx hb hml hown hB (c_X8_servedIn l X G b ce_k414 g450) ce_v_X8_servedIn ce_w1215 ⟨Nat.le_of_ble_eq_true rfl, Nat.le_of_ble_eq_true rfl⟩ hF hA hS (ce_rc_8 hK hA ce_k414) hl rfl rfl (Nat.le_of_ble_eq_true rfl) dL_law_1212 ⟨(by show _ ≤ 601024; omega), (by show _ ≤ 7293034; omega)⟩ (fun H locs hA hS => ?_)
        refine lv_istore (lv' := [(6, .int x449), (5, .int x443), (0, .ref sb), (1, .ref (b + 0)), (2, .ref (b + 414)), (3, .ref (b + 421)), (4, .int x1)]) hx hb dL_law_1215 hl (by decide) rfl (fun ls hl => ?_)
        refine lv_aload_n hx hb dL_law_1217 rfl (lv_at hl 4 rfl) ?_
        obtain ⟨x451, g452, h⟩ := ce_b1_e h
        refine ce_callVi (As := []) (rest := []) hx hb hml hown hB (c_X8_thrown l X G b ce_k414 g452) ce_v_X8_thrown ce_w984 ⟨Nat.le_of_ble_eq_true rfl, Nat.le_of_ble_eq_true rfl⟩ hF hA hS (ce_rc_8 hK hA ce_k414) hl rfl rfl (Nat.le_of_ble_eq_true rfl) dL_law_1218 ⟨(by show _ ≤ 601024; omega), (by show _ ≤ 7293034; omega)⟩ (fun H locs hA hS => ?_)
        refine lv_iload hx hb dL_law_1221 (lv_at hl 1 rfl) ?_
        refine lv_icmp_eq (tgt := 1228) hx hb dL_law_1223 (by decide) (fun c453 => ?_) (fun c453 => ?_)
        · have h := ce_it c453 h
          refine lv_iload hx hb dL_law_1228 (lv_at hl 1 rfl) ?_
          refine lv_if_ne (tgt := 1245) hx hb dL_law_1230 (by decide) (fun c454 => ?_) (fun c454 => ?_)
          · have h := ce_ie c454 h
            refine lv_goto (tgt := 1513) hx hb dL_law_1245 (by decide) ?_
            obtain ⟨x455, e456, h⟩ := ce_nm_e h
            refine lv_iinc (v := x455) (lv' := [(4, .int x455), (6, .int x449), (5, .int x443), (0, .ref sb), (1, .ref (b + 0)), (2, .ref (b + 414)), (3, .ref (b + 421))]) hx hb dL_law_1513 hl (k := 6) rfl (by rw [← e456]; rfl) (by decide) rfl (fun ls hl => ?_)
            refine lv_goto (tgt := 23) hx hb dL_law_1516 (by decide) ?_
            exact ih M448 x455 h _ _ (by omega) (by omega) _ _ _ hA hS (lv_sub hl [3, 4, 5, 6, 0] rfl)
          · have h := ce_it c454 h
            refine lv_aload_n hx hb dL_law_1233 rfl (lv_at hl 5 rfl) ?_
            refine lv_iconst (v := 0) hx hb dL_law_1234 (by decide) ?_
            refine ce_lald hx hb hK hA ce_k421 dL_law_1235 ?_
            refine lv_iload hx hb dL_law_1236 (lv_at hl 0 rfl) ?_
            refine lv_i2l hx hb dL_law_1238 rfl ?_
            refine W.lcmp hx hb dL_law_1239 ?_
            refine lv_if_eq (tgt := 1245) hx hb dL_law_1240 (by decide) (fun c457 => ?_) (fun c457 => ?_)
            · have h := ce_it c457 h
              refine lv_goto (tgt := 1513) hx hb dL_law_1245 (by decide) ?_
              obtain ⟨x458, e459, h⟩ := ce_nm_e h
              refine lv_iinc (v := x458) (lv' := [(4, .int x458), (6, .int x449), (5, .int x443), (0, .ref sb), (1, .ref (b + 0)), (2, .ref (b + 414)), (3, .ref (b + 421))]) hx hb dL_law_1513 hl (k := 6) rfl (by rw [← e459]; rfl) (by decide) rfl (fun ls hl => ?_)
              refine lv_goto (tgt := 23) hx hb dL_law_1516 (by decide) ?_
              exact ih M448 x458 h _ _ (by omega) (by omega) _ _ _ hA hS (lv_sub hl [3, 4, 5, 6, 0] rfl)
            · have h := ce_ie c457 h
              refine lv_iconst (v := 0) hx hb dL_law_1243 (by decide) ?_
              cases h
        · have h := ce_ie c453 h
          refine lv_iconst (v := 0) hx hb dL_law_1226 (by decide) ?_
          cases h
      have h := ce_ie c438 h
      by_cases c460 : (x3 &&& 31) = 16
      · have h := ce_it c460 h
        refine lv_tableIn (off := 1209) (tgt := 1248) hx hb dL_law_39 (by rw [c460]; decide) (by rw [c460]; decide) (by rw [c460]; rfl) (by decide) ?_
        refine lv_aload_n hx hb dL_law_1248 rfl (lv_at hl 1 rfl) ?_
        refine lv_aload_n hx hb dL_law_1249 rfl (lv_at hl 0 rfl) ?_
        refine lv_iload hx hb dL_law_1250 (lv_at hl 4 rfl) ?_
        refine lv_iconst (v := 1) hx hb dL_law_1252 (by decide) ?_
        refine lv_iadd hx hb dL_law_1253 ?_
        obtain ⟨i462, h⟩ := ce_gi_e h
        obtain ⟨x461, e463, h⟩ := ce_nm_e h
        refine va_sld hx hb hX hbl hbA (hbs ▸ hS) i462 dL_law_1254 ?_
        refine ce_top e463 ?_
        refine lv_aload_n hx hb dL_law_1255 rfl (lv_at hl 3 rfl) ?_
        obtain ⟨M464, x465, g466, h⟩ := ce_b2_e h
        refine ce_callWi (As := [.ref (b + 0), .int x461, .ref (b + 421)]) (rest := []) hx hb hml hown hB (c_L_emptyIn l hfl X G b ce_k0 ce_k421 g466) ce_s_L_emptyIn ce_w893 ⟨Nat.le_of_ble_eq_true rfl, Nat.le_of_ble_eq_true rfl⟩ hF hA hS hl rfl rfl (Nat.le_of_ble_eq_true rfl) dL_law_1256 ⟨(by show _ ≤ 601024; omega), (by show _ ≤ 7293034; omega)⟩ (fun H locs hA hS => ?_)
        refine lv_istore (lv' := [(5, .int x465), (0, .ref sb), (1, .ref (b + 0)), (2, .ref (b + 414)), (3, .ref (b + 421)), (4, .int x1)]) hx hb dL_law_1259 hl (by decide) rfl (fun ls hl => ?_)
        refine lv_aload_n hx hb dL_law_1261 rfl (lv_at hl 3 rfl) ?_
        refine lv_aload_n hx hb dL_law_1262 rfl (lv_at hl 1 rfl) ?_
        refine lv_iload hx hb dL_law_1263 (lv_at hl 5 rfl) ?_
        refine lv_iconst (v := 1) hx hb dL_law_1265 (by decide) ?_
        refine lv_iadd hx hb dL_law_1266 ?_
        obtain ⟨i468, h⟩ := ce_gi_e h
        obtain ⟨x467, e469, h⟩ := ce_nm_e h
        refine va_sld hx hb hX hbl hbA (hbs ▸ hS) i468 dL_law_1267 ?_
        refine ce_top e469 ?_
        obtain ⟨M470, x471, g472, h⟩ := ce_b2_e h
        refine ce_callVi (As := [.int x467]) (rest := []) hx hb hml hown hB (c_X8_emptyIn l X G b ce_k414 g472) ce_v_X8_emptyIn ce_w1223 ⟨Nat.le_of_ble_eq_true rfl, Nat.le_of_ble_eq_true rfl⟩ hF hA hS (ce_rc_8 hK hA ce_k414) hl rfl rfl (Nat.le_of_ble_eq_true rfl) dL_law_1268 ⟨(by show _ ≤ 601024; omega), (by show _ ≤ 7293034; omega)⟩ (fun H locs hA hS => ?_)
        refine lv_istore (lv' := [(6, .int x471), (5, .int x465), (0, .ref sb), (1, .ref (b + 0)), (2, .ref (b + 414)), (3, .ref (b + 421)), (4, .int x1)]) hx hb dL_law_1271 hl (by decide) rfl (fun ls hl => ?_)
        refine lv_aload_n hx hb dL_law_1273 rfl (lv_at hl 4 rfl) ?_
        obtain ⟨x473, g474, h⟩ := ce_b1_e h
        refine ce_callVi (As := []) (rest := []) hx hb hml hown hB (c_X8_thrown l X G b ce_k414 g474) ce_v_X8_thrown ce_w984 ⟨Nat.le_of_ble_eq_true rfl, Nat.le_of_ble_eq_true rfl⟩ hF hA hS (ce_rc_8 hK hA ce_k414) hl rfl rfl (Nat.le_of_ble_eq_true rfl) dL_law_1274 ⟨(by show _ ≤ 601024; omega), (by show _ ≤ 7293034; omega)⟩ (fun H locs hA hS => ?_)
        refine lv_iload hx hb dL_law_1277 (lv_at hl 1 rfl) ?_
        refine lv_icmp_eq (tgt := 1284) hx hb dL_law_1279 (by decide) (fun c475 => ?_) (fun c475 => ?_)
        · have h := ce_it c475 h
          refine lv_iload hx hb dL_law_1284 (lv_at hl 1 rfl) ?_
          refine lv_if_ne (tgt := 1301) hx hb dL_law_1286 (by decide) (fun c476 => ?_) (fun c476 => ?_)
          · have h := ce_ie c476 h
            refine lv_goto (tgt := 1513) hx hb dL_law_1301 (by decide) ?_
            obtain ⟨x477, e478, h⟩ := ce_nm_e h
            refine lv_iinc (v := x477) (lv' := [(4, .int x477), (6, .int x471), (5, .int x465), (0, .ref sb), (1, .ref (b + 0)), (2, .ref (b + 414)), (3, .ref (b + 421))]) hx hb dL_law_1513 hl (k := 6) rfl (by rw [← e478]; rfl) (by decide) rfl (fun ls hl => ?_)
            refine lv_goto (tgt := 23) hx hb dL_law_1516 (by decide) ?_
            exact ih M470 x477 h _ _ (by omega) (by omega) _ _ _ hA hS (lv_sub hl [3, 4, 5, 6, 0] rfl)
          · have h := ce_it c476 h
            refine lv_aload_n hx hb dL_law_1289 rfl (lv_at hl 5 rfl) ?_
            refine lv_iconst (v := 0) hx hb dL_law_1290 (by decide) ?_
            refine ce_lald hx hb hK hA ce_k421 dL_law_1291 ?_
            refine lv_iload hx hb dL_law_1292 (lv_at hl 0 rfl) ?_
            refine lv_i2l hx hb dL_law_1294 rfl ?_
            refine W.lcmp hx hb dL_law_1295 ?_
            refine lv_if_eq (tgt := 1301) hx hb dL_law_1296 (by decide) (fun c479 => ?_) (fun c479 => ?_)
            · have h := ce_it c479 h
              refine lv_goto (tgt := 1513) hx hb dL_law_1301 (by decide) ?_
              obtain ⟨x480, e481, h⟩ := ce_nm_e h
              refine lv_iinc (v := x480) (lv' := [(4, .int x480), (6, .int x471), (5, .int x465), (0, .ref sb), (1, .ref (b + 0)), (2, .ref (b + 414)), (3, .ref (b + 421))]) hx hb dL_law_1513 hl (k := 6) rfl (by rw [← e481]; rfl) (by decide) rfl (fun ls hl => ?_)
              refine lv_goto (tgt := 23) hx hb dL_law_1516 (by decide) ?_
              exact ih M470 x480 h _ _ (by omega) (by omega) _ _ _ hA hS (lv_sub hl [3, 4, 5, 6, 0] rfl)
            · have h := ce_ie c479 h
              refine lv_iconst (v := 0) hx hb dL_law_1299 (by decide) ?_
              cases h
        · have h := ce_ie c475 h
          refine lv_iconst (v := 0) hx hb dL_law_1282 (by decide) ?_
          cases h
      have h := ce_ie c460 h
      by_cases c482 : (x3 &&& 31) = 17
      · have h := ce_it c482 h
        refine lv_tableIn (off := 1265) (tgt := 1304) hx hb dL_law_39 (by rw [c482]; decide) (by rw [c482]; decide) (by rw [c482]; rfl) (by decide) ?_
        refine lv_aload_n hx hb dL_law_1304 rfl (lv_at hl 1 rfl) ?_
        refine lv_aload_n hx hb dL_law_1305 rfl (lv_at hl 0 rfl) ?_
        refine lv_iload hx hb dL_law_1306 (lv_at hl 4 rfl) ?_
        refine lv_iconst (v := 1) hx hb dL_law_1308 (by decide) ?_
        refine lv_iadd hx hb dL_law_1309 ?_
        obtain ⟨i484, h⟩ := ce_gi_e h
        obtain ⟨x483, e485, h⟩ := ce_nm_e h
        refine va_sld hx hb hX hbl hbA (hbs ▸ hS) i484 dL_law_1310 ?_
        refine ce_top e485 ?_
        refine lv_aload_n hx hb dL_law_1311 rfl (lv_at hl 3 rfl) ?_
        obtain ⟨M486, x487, g488, h⟩ := ce_b2_e h
        refine ce_callWi (As := [.ref (b + 0), .int x483, .ref (b + 421)]) (rest := []) hx hb hml hown hB (c_L_covered l hfl X G b ce_k0 ce_k421 g488) ce_s_L_covered ce_w905 ⟨Nat.le_of_ble_eq_true rfl, Nat.le_of_ble_eq_true rfl⟩ hF hA hS hl rfl rfl (Nat.le_of_ble_eq_true rfl) dL_law_1312 ⟨(by show _ ≤ 601024; omega), (by show _ ≤ 7293034; omega)⟩ (fun H locs hA hS => ?_)
        refine lv_istore (lv' := [(5, .int x487), (0, .ref sb), (1, .ref (b + 0)), (2, .ref (b + 414)), (3, .ref (b + 421)), (4, .int x1)]) hx hb dL_law_1315 hl (by decide) rfl (fun ls hl => ?_)
        refine lv_aload_n hx hb dL_law_1317 rfl (lv_at hl 3 rfl) ?_
        refine lv_aload_n hx hb dL_law_1318 rfl (lv_at hl 1 rfl) ?_
        refine lv_iload hx hb dL_law_1319 (lv_at hl 5 rfl) ?_
        refine lv_iconst (v := 1) hx hb dL_law_1321 (by decide) ?_
        refine lv_iadd hx hb dL_law_1322 ?_
        obtain ⟨i490, h⟩ := ce_gi_e h
        obtain ⟨x489, e491, h⟩ := ce_nm_e h
        refine va_sld hx hb hX hbl hbA (hbs ▸ hS) i490 dL_law_1323 ?_
        refine ce_top e491 ?_
        obtain ⟨M492, x493, g494, h⟩ := ce_b2_e h
        refine ce_callVi (As := [.int x489]) (rest := []) hx hb hml hown hB (c_X8_covered l X G b ce_k414 g494) ce_v_X8_covered ce_w1227 ⟨Nat.le_of_ble_eq_true rfl, Nat.le_of_ble_eq_true rfl⟩ hF hA hS (ce_rc_8 hK hA ce_k414) hl rfl rfl (Nat.le_of_ble_eq_true rfl) dL_law_1324 ⟨(by show _ ≤ 601024; omega), (by show _ ≤ 7293034; omega)⟩ (fun H locs hA hS => ?_)
        refine lv_istore (lv' := [(6, .int x493), (5, .int x487), (0, .ref sb), (1, .ref (b + 0)), (2, .ref (b + 414)), (3, .ref (b + 421)), (4, .int x1)]) hx hb dL_law_1327 hl (by decide) rfl (fun ls hl => ?_)
        refine lv_aload_n hx hb dL_law_1329 rfl (lv_at hl 4 rfl) ?_
        obtain ⟨x495, g496, h⟩ := ce_b1_e h
        refine ce_callVi (As := []) (rest := []) hx hb hml hown hB (c_X8_thrown l X G b ce_k414 g496) ce_v_X8_thrown ce_w984 ⟨Nat.le_of_ble_eq_true rfl, Nat.le_of_ble_eq_true rfl⟩ hF hA hS (ce_rc_8 hK hA ce_k414) hl rfl rfl (Nat.le_of_ble_eq_true rfl) dL_law_1330 ⟨(by show _ ≤ 601024; omega), (by show _ ≤ 7293034; omega)⟩ (fun H locs hA hS => ?_)
        refine lv_iload hx hb dL_law_1333 (lv_at hl 1 rfl) ?_
        refine lv_icmp_eq (tgt := 1340) hx hb dL_law_1335 (by decide) (fun c497 => ?_) (fun c497 => ?_)
        · have h := ce_it c497 h
          refine lv_iload hx hb dL_law_1340 (lv_at hl 1 rfl) ?_
          refine lv_if_ne (tgt := 1357) hx hb dL_law_1342 (by decide) (fun c498 => ?_) (fun c498 => ?_)
          · have h := ce_ie c498 h
            refine lv_goto (tgt := 1513) hx hb dL_law_1357 (by decide) ?_
            obtain ⟨x499, e500, h⟩ := ce_nm_e h
            refine lv_iinc (v := x499) (lv' := [(4, .int x499), (6, .int x493), (5, .int x487), (0, .ref sb), (1, .ref (b + 0)), (2, .ref (b + 414)), (3, .ref (b + 421))]) hx hb dL_law_1513 hl (k := 6) rfl (by rw [← e500]; rfl) (by decide) rfl (fun ls hl => ?_)
            refine lv_goto (tgt := 23) hx hb dL_law_1516 (by decide) ?_
            exact ih M492 x499 h _ _ (by omega) (by omega) _ _ _ hA hS (lv_sub hl [3, 4, 5, 6, 0] rfl)
          · have h := ce_it c498 h
            refine lv_aload_n hx hb dL_law_1345 rfl (lv_at hl 5 rfl) ?_
            refine lv_iconst (v := 0) hx hb dL_law_1346 (by decide) ?_
            refine ce_lald hx hb hK hA ce_k421 dL_law_1347 ?_
            refine lv_iload hx hb dL_law_1348 (lv_at hl 0 rfl) ?_
            refine lv_i2l hx hb dL_law_1350 rfl ?_
            refine W.lcmp hx hb dL_law_1351 ?_
            refine lv_if_eq (tgt := 1357) hx hb dL_law_1352 (by decide) (fun c501 => ?_) (fun c501 => ?_)
            · have h := ce_it c501 h
              refine lv_goto (tgt := 1513) hx hb dL_law_1357 (by decide) ?_
              obtain ⟨x502, e503, h⟩ := ce_nm_e h
              refine lv_iinc (v := x502) (lv' := [(4, .int x502), (6, .int x493), (5, .int x487), (0, .ref sb), (1, .ref (b + 0)), (2, .ref (b + 414)), (3, .ref (b + 421))]) hx hb dL_law_1513 hl (k := 6) rfl (by rw [← e503]; rfl) (by decide) rfl (fun ls hl => ?_)
              refine lv_goto (tgt := 23) hx hb dL_law_1516 (by decide) ?_
              exact ih M492 x502 h _ _ (by omega) (by omega) _ _ _ hA hS (lv_sub hl [3, 4, 5, 6, 0] rfl)
            · have h := ce_ie c501 h
              refine lv_iconst (v := 0) hx hb dL_law_1355 (by decide) ?_
              cases h
        · have h := ce_ie c497 h
          refine lv_iconst (v := 0) hx hb dL_law_1338 (by decide) ?_
          cases h
      have h := ce_ie c482 h
      by_cases c504 : (x3 &&& 31) = 18
      · have h := ce_it c504 h
        refine lv_tableIn (off := 1321) (tgt := 1360) hx hb dL_law_39 (by rw [c504]; decide) (by rw [c504]; decide) (by rw [c504]; rfl) (by decide) ?_
        refine lv_aload_n hx hb dL_law_1360 rfl (lv_at hl 1 rfl) ?_
        obtain ⟨x505, g506, h⟩ := ce_b1_e h
        refine ce_callVi (As := []) (rest := []) hx hb hml hown hB (c_X7_busiest l X G b ce_k0 g506) ce_v_X7_busiest ce_w249 ⟨Nat.le_of_ble_eq_true rfl, Nat.le_of_ble_eq_true rfl⟩ hF hA hS (ce_rc_7 hK hA ce_k0) hl rfl rfl (Nat.le_of_ble_eq_true rfl) dL_law_1361 ⟨(by show _ ≤ 601024; omega), (by show _ ≤ 7293034; omega)⟩ (fun H locs hA hS => ?_)
        refine lv_aload_n hx hb dL_law_1364 rfl (lv_at hl 2 rfl) ?_
        obtain ⟨M507, x508, g509, h⟩ := ce_b2_e h
        refine ce_callVi (As := []) (rest := [.int x505]) hx hb hml hown hB (c_X8_busiest l X G b ce_k414 g509) ce_v_X8_busiest ce_w1235 ⟨Nat.le_of_ble_eq_true rfl, Nat.le_of_ble_eq_true rfl⟩ hF hA hS (ce_rc_8 hK hA ce_k414) hl rfl rfl (Nat.le_of_ble_eq_true rfl) dL_law_1365 ⟨(by show _ ≤ 601024; omega), (by show _ ≤ 7293034; omega)⟩ (fun H locs hA hS => ?_)
        refine lv_icmp_eq (tgt := 1513) hx hb dL_law_1368 (by decide) (fun c510 => ?_) (fun c510 => ?_)
        · have h := ce_it c510 h
          obtain ⟨x511, e512, h⟩ := ce_nm_e h
          refine lv_iinc (v := x511) (lv' := [(4, .int x511), (0, .ref sb), (1, .ref (b + 0)), (2, .ref (b + 414)), (3, .ref (b + 421))]) hx hb dL_law_1513 hl (k := 4) rfl (by rw [← e512]; rfl) (by decide) rfl (fun ls hl => ?_)
          refine lv_goto (tgt := 23) hx hb dL_law_1516 (by decide) ?_
          exact ih M507 x511 h _ _ (by omega) (by omega) _ _ _ hA hS (lv_sub hl [1, 2, 3, 4, 0] rfl)
        · have h := ce_ie c510 h
          refine lv_iconst (v := 0) hx hb dL_law_1371 (by decide) ?_
          cases h
      have h := ce_ie c504 h
      by_cases c513 : (x3 &&& 31) = 19
      · have h := ce_it c513 h
        refine lv_tableIn (off := 1334) (tgt := 1373) hx hb dL_law_39 (by rw [c513]; decide) (by rw [c513]; decide) (by rw [c513]; rfl) (by decide) ?_
        refine lv_aload_n hx hb dL_law_1373 rfl (lv_at hl 1 rfl) ?_
        refine lv_aload_n hx hb dL_law_1374 rfl (lv_at hl 0 rfl) ?_
        refine lv_iload hx hb dL_law_1375 (lv_at hl 4 rfl) ?_
        refine lv_iconst (v := 1) hx hb dL_law_1377 (by decide) ?_
        refine lv_iadd hx hb dL_law_1378 ?_
        obtain ⟨i515, h⟩ := ce_gi_e h
        obtain ⟨x514, e516, h⟩ := ce_nm_e h
        refine va_sld hx hb hX hbl hbA (hbs ▸ hS) i515 dL_law_1379 ?_
        refine ce_top e516 ?_
        refine lv_aload_n hx hb dL_law_1380 rfl (lv_at hl 3 rfl) ?_
        obtain ⟨M517, x518, g519, h⟩ := ce_b2_e h
        refine ce_callWi (As := [.ref (b + 0), .int x514, .ref (b + 421)]) (rest := []) hx hb hml hown hB (c_L_type l hfl X G b ce_k0 ce_k421 g519) ce_s_L_type ce_w912 ⟨Nat.le_of_ble_eq_true rfl, Nat.le_of_ble_eq_true rfl⟩ hF hA hS hl rfl rfl (Nat.le_of_ble_eq_true rfl) dL_law_1381 ⟨(by show _ ≤ 601024; omega), (by show _ ≤ 7293034; omega)⟩ (fun H locs hA hS => ?_)
        refine lv_istore (lv' := [(5, .int x518), (0, .ref sb), (1, .ref (b + 0)), (2, .ref (b + 414)), (3, .ref (b + 421)), (4, .int x1)]) hx hb dL_law_1384 hl (by decide) rfl (fun ls hl => ?_)
        refine lv_aload_n hx hb dL_law_1386 rfl (lv_at hl 3 rfl) ?_
        refine lv_aload_n hx hb dL_law_1387 rfl (lv_at hl 1 rfl) ?_
        refine lv_iload hx hb dL_law_1388 (lv_at hl 5 rfl) ?_
        refine lv_iconst (v := 1) hx hb dL_law_1390 (by decide) ?_
        refine lv_iadd hx hb dL_law_1391 ?_
        obtain ⟨i521, h⟩ := ce_gi_e h
        obtain ⟨x520, e522, h⟩ := ce_nm_e h
        refine va_sld hx hb hX hbl hbA (hbs ▸ hS) i521 dL_law_1392 ?_
        refine ce_top e522 ?_
        obtain ⟨M523, x524, g525, h⟩ := ce_b2_e h
        refine ce_callVi (As := [.int x520]) (rest := []) hx hb hml hown hB (c_X8_type l X G b ce_k414 g525) ce_v_X8_type ce_w1243 ⟨Nat.le_of_ble_eq_true rfl, Nat.le_of_ble_eq_true rfl⟩ hF hA hS (ce_rc_8 hK hA ce_k414) hl rfl rfl (Nat.le_of_ble_eq_true rfl) dL_law_1393 ⟨(by show _ ≤ 601024; omega), (by show _ ≤ 7293034; omega)⟩ (fun H locs hA hS => ?_)
        refine lv_istore (lv' := [(6, .int x524), (5, .int x518), (0, .ref sb), (1, .ref (b + 0)), (2, .ref (b + 414)), (3, .ref (b + 421)), (4, .int x1)]) hx hb dL_law_1396 hl (by decide) rfl (fun ls hl => ?_)
        refine lv_aload_n hx hb dL_law_1398 rfl (lv_at hl 4 rfl) ?_
        obtain ⟨x526, g527, h⟩ := ce_b1_e h
        refine ce_callVi (As := []) (rest := []) hx hb hml hown hB (c_X8_thrown l X G b ce_k414 g527) ce_v_X8_thrown ce_w984 ⟨Nat.le_of_ble_eq_true rfl, Nat.le_of_ble_eq_true rfl⟩ hF hA hS (ce_rc_8 hK hA ce_k414) hl rfl rfl (Nat.le_of_ble_eq_true rfl) dL_law_1399 ⟨(by show _ ≤ 601024; omega), (by show _ ≤ 7293034; omega)⟩ (fun H locs hA hS => ?_)
        refine lv_iload hx hb dL_law_1402 (lv_at hl 1 rfl) ?_
        refine lv_icmp_eq (tgt := 1409) hx hb dL_law_1404 (by decide) (fun c528 => ?_) (fun c528 => ?_)
        · have h := ce_it c528 h
          refine lv_iload hx hb dL_law_1409 (lv_at hl 1 rfl) ?_
          refine lv_if_ne (tgt := 1426) hx hb dL_law_1411 (by decide) (fun c529 => ?_) (fun c529 => ?_)
          · have h := ce_ie c529 h
            refine lv_goto (tgt := 1513) hx hb dL_law_1426 (by decide) ?_
            obtain ⟨x530, e531, h⟩ := ce_nm_e h
            refine lv_iinc (v := x530) (lv' := [(4, .int x530), (6, .int x524), (5, .int x518), (0, .ref sb), (1, .ref (b + 0)), (2, .ref (b + 414)), (3, .ref (b + 421))]) hx hb dL_law_1513 hl (k := 6) rfl (by rw [← e531]; rfl) (by decide) rfl (fun ls hl => ?_)
            refine lv_goto (tgt := 23) hx hb dL_law_1516 (by decide) ?_
            exact ih M523 x530 h _ _ (by omega) (by omega) _ _ _ hA hS (lv_sub hl [3, 4, 5, 6, 0] rfl)
          · have h := ce_it c529 h
            refine lv_aload_n hx hb dL_law_1414 rfl (lv_at hl 5 rfl) ?_
            refine lv_iconst (v := 0) hx hb dL_law_1415 (by decide) ?_
            refine ce_lald hx hb hK hA ce_k421 dL_law_1416 ?_
            refine lv_iload hx hb dL_law_1417 (lv_at hl 0 rfl) ?_
            refine lv_i2l hx hb dL_law_1419 rfl ?_
            refine W.lcmp hx hb dL_law_1420 ?_
            refine lv_if_eq (tgt := 1426) hx hb dL_law_1421 (by decide) (fun c532 => ?_) (fun c532 => ?_)
            · have h := ce_it c532 h
              refine lv_goto (tgt := 1513) hx hb dL_law_1426 (by decide) ?_
              obtain ⟨x533, e534, h⟩ := ce_nm_e h
              refine lv_iinc (v := x533) (lv' := [(4, .int x533), (6, .int x524), (5, .int x518), (0, .ref sb), (1, .ref (b + 0)), (2, .ref (b + 414)), (3, .ref (b + 421))]) hx hb dL_law_1513 hl (k := 6) rfl (by rw [← e534]; rfl) (by decide) rfl (fun ls hl => ?_)
              refine lv_goto (tgt := 23) hx hb dL_law_1516 (by decide) ?_
              exact ih M523 x533 h _ _ (by omega) (by omega) _ _ _ hA hS (lv_sub hl [3, 4, 5, 6, 0] rfl)
            · have h := ce_ie c532 h
              refine lv_iconst (v := 0) hx hb dL_law_1424 (by decide) ?_
              cases h
        · have h := ce_ie c528 h
          refine lv_iconst (v := 0) hx hb dL_law_1407 (by decide) ?_
          cases h
      have h := ce_ie c513 h
      by_cases c535 : (x3 &&& 31) = 20
      · have h := ce_it c535 h
        refine lv_tableIn (off := 1390) (tgt := 1429) hx hb dL_law_39 (by rw [c535]; decide) (by rw [c535]; decide) (by rw [c535]; rfl) (by decide) ?_
        refine lv_aload_n hx hb dL_law_1429 rfl (lv_at hl 1 rfl) ?_
        obtain ⟨M536, x537, g538, h⟩ := ce_b2_e h
        refine ce_callVi (As := []) (rest := []) hx hb hml hown hB (c_X7_clearCommands l X G b ce_k0 g538) ce_v_X7_clearCommands ce_w261 ⟨Nat.le_of_ble_eq_true rfl, Nat.le_of_ble_eq_true rfl⟩ hF hA hS (ce_rc_7 hK hA ce_k0) hl rfl rfl (Nat.le_of_ble_eq_true rfl) dL_law_1430 ⟨(by show _ ≤ 601024; omega), (by show _ ≤ 7293034; omega)⟩ (fun H locs hA hS => ?_)
        refine lv_aload_n hx hb dL_law_1433 rfl (lv_at hl 2 rfl) ?_
        obtain ⟨M539, x540, g541, h⟩ := ce_b2_e h
        refine ce_callVi (As := []) (rest := [.int x537]) hx hb hml hown hB (c_X8_clearCommands l X G b ce_k414 g541) ce_v_X8_clearCommands ce_w1247 ⟨Nat.le_of_ble_eq_true rfl, Nat.le_of_ble_eq_true rfl⟩ hF hA hS (ce_rc_8 hK hA ce_k414) hl rfl rfl (Nat.le_of_ble_eq_true rfl) dL_law_1434 ⟨(by show _ ≤ 601024; omega), (by show _ ≤ 7293034; omega)⟩ (fun H locs hA hS => ?_)
        refine lv_icmp_eq (tgt := 1513) hx hb dL_law_1437 (by decide) (fun c542 => ?_) (fun c542 => ?_)
        · have h := ce_it c542 h
          obtain ⟨x543, e544, h⟩ := ce_nm_e h
          refine lv_iinc (v := x543) (lv' := [(4, .int x543), (0, .ref sb), (1, .ref (b + 0)), (2, .ref (b + 414)), (3, .ref (b + 421))]) hx hb dL_law_1513 hl (k := 4) rfl (by rw [← e544]; rfl) (by decide) rfl (fun ls hl => ?_)
          refine lv_goto (tgt := 23) hx hb dL_law_1516 (by decide) ?_
          exact ih M539 x543 h _ _ (by omega) (by omega) _ _ _ hA hS (lv_sub hl [1, 2, 3, 4, 0] rfl)
        · have h := ce_ie c542 h
          refine lv_iconst (v := 0) hx hb dL_law_1440 (by decide) ?_
          cases h
      have h := ce_ie c535 h
      by_cases c545 : (x3 &&& 31) = 21
      · have h := ce_it c545 h
        refine lv_tableIn (off := 1403) (tgt := 1442) hx hb dL_law_39 (by rw [c545]; decide) (by rw [c545]; decide) (by rw [c545]; rfl) (by decide) ?_
        refine lv_aload_n hx hb dL_law_1442 rfl (lv_at hl 1 rfl) ?_
        obtain ⟨M546, x547, g548, h⟩ := ce_b2_e h
        refine ce_callVi (As := []) (rest := []) hx hb hml hown hB (c_X7_runCommands l X G b ce_k0 g548) ce_v_X7_runCommands ce_w269 ⟨Nat.le_of_ble_eq_true rfl, Nat.le_of_ble_eq_true rfl⟩ hF hA hS (ce_rc_7 hK hA ce_k0) hl rfl rfl (Nat.le_of_ble_eq_true rfl) dL_law_1443 ⟨(by show _ ≤ 601024; omega), (by show _ ≤ 7293034; omega)⟩ (fun H locs hA hS => ?_)
        refine lv_aload_n hx hb dL_law_1446 rfl (lv_at hl 2 rfl) ?_
        obtain ⟨M549, x550, g551, h⟩ := ce_b2_e h
        refine ce_callVi (As := []) (rest := [.int x547]) hx hb hml hown hB (c_X8_runCommands l X G b ce_k414 g551) ce_v_X8_runCommands ce_w1251 ⟨Nat.le_of_ble_eq_true rfl, Nat.le_of_ble_eq_true rfl⟩ hF hA hS (ce_rc_8 hK hA ce_k414) hl rfl rfl (Nat.le_of_ble_eq_true rfl) dL_law_1447 ⟨(by show _ ≤ 601024; omega), (by show _ ≤ 7293034; omega)⟩ (fun H locs hA hS => ?_)
        refine lv_icmp_eq (tgt := 1513) hx hb dL_law_1450 (by decide) (fun c552 => ?_) (fun c552 => ?_)
        · have h := ce_it c552 h
          obtain ⟨x553, e554, h⟩ := ce_nm_e h
          refine lv_iinc (v := x553) (lv' := [(4, .int x553), (0, .ref sb), (1, .ref (b + 0)), (2, .ref (b + 414)), (3, .ref (b + 421))]) hx hb dL_law_1513 hl (k := 4) rfl (by rw [← e554]; rfl) (by decide) rfl (fun ls hl => ?_)
          refine lv_goto (tgt := 23) hx hb dL_law_1516 (by decide) ?_
          exact ih M549 x553 h _ _ (by omega) (by omega) _ _ _ hA hS (lv_sub hl [1, 2, 3, 4, 0] rfl)
        · have h := ce_ie c552 h
          refine lv_iconst (v := 0) hx hb dL_law_1453 (by decide) ?_
          cases h
      have h := ce_ie c545 h
      by_cases c555 : (x3 &&& 31) = 22
      · have h := ce_it c555 h
        refine lv_tableIn (off := 1416) (tgt := 1455) hx hb dL_law_39 (by rw [c555]; decide) (by rw [c555]; decide) (by rw [c555]; rfl) (by decide) ?_
        refine lv_aload_n hx hb dL_law_1455 rfl (lv_at hl 1 rfl) ?_
        refine lv_aload_n hx hb dL_law_1456 rfl (lv_at hl 3 rfl) ?_
        obtain ⟨M556, x557, g558, h⟩ := ce_b2_e h
        refine ce_callWi (As := [.ref (b + 0), .ref (b + 421)]) (rest := []) hx hb hml hown hB (c_L_undo l hfl X G b ce_k0 ce_k421 g558) ce_s_L_undo ce_w927 ⟨Nat.le_of_ble_eq_true rfl, Nat.le_of_ble_eq_true rfl⟩ hF hA hS hl rfl rfl (Nat.le_of_ble_eq_true rfl) dL_law_1457 ⟨(by show _ ≤ 601024; omega), (by show _ ≤ 7293034; omega)⟩ (fun H locs hA hS => ?_)
        refine lv_istore (lv' := [(5, .int x557), (0, .ref sb), (1, .ref (b + 0)), (2, .ref (b + 414)), (3, .ref (b + 421)), (4, .int x1)]) hx hb dL_law_1460 hl (by decide) rfl (fun ls hl => ?_)
        refine lv_aload_n hx hb dL_law_1462 rfl (lv_at hl 3 rfl) ?_
        obtain ⟨M559, x560, g561, h⟩ := ce_b2_e h
        refine ce_callVi (As := []) (rest := []) hx hb hml hown hB (c_X8_undo l X G b ce_k414 g561) ce_v_X8_undo ce_w1279 ⟨Nat.le_of_ble_eq_true rfl, Nat.le_of_ble_eq_true rfl⟩ hF hA hS (ce_rc_8 hK hA ce_k414) hl rfl rfl (Nat.le_of_ble_eq_true rfl) dL_law_1463 ⟨(by show _ ≤ 601024; omega), (by show _ ≤ 7293034; omega)⟩ (fun H locs hA hS => ?_)
        refine lv_istore (lv' := [(6, .int x560), (5, .int x557), (0, .ref sb), (1, .ref (b + 0)), (2, .ref (b + 414)), (3, .ref (b + 421)), (4, .int x1)]) hx hb dL_law_1466 hl (by decide) rfl (fun ls hl => ?_)
        refine lv_aload_n hx hb dL_law_1468 rfl (lv_at hl 4 rfl) ?_
        obtain ⟨x562, g563, h⟩ := ce_b1_e h
        refine ce_callVi (As := []) (rest := []) hx hb hml hown hB (c_X8_thrown l X G b ce_k414 g563) ce_v_X8_thrown ce_w984 ⟨Nat.le_of_ble_eq_true rfl, Nat.le_of_ble_eq_true rfl⟩ hF hA hS (ce_rc_8 hK hA ce_k414) hl rfl rfl (Nat.le_of_ble_eq_true rfl) dL_law_1469 ⟨(by show _ ≤ 601024; omega), (by show _ ≤ 7293034; omega)⟩ (fun H locs hA hS => ?_)
        refine lv_iload hx hb dL_law_1472 (lv_at hl 1 rfl) ?_
        refine lv_icmp_eq (tgt := 1479) hx hb dL_law_1474 (by decide) (fun c564 => ?_) (fun c564 => ?_)
        · have h := ce_it c564 h
          refine lv_iload hx hb dL_law_1479 (lv_at hl 1 rfl) ?_
          refine lv_if_ne (tgt := 1496) hx hb dL_law_1481 (by decide) (fun c565 => ?_) (fun c565 => ?_)
          · have h := ce_ie c565 h
            refine lv_goto (tgt := 1513) hx hb dL_law_1496 (by decide) ?_
            obtain ⟨x566, e567, h⟩ := ce_nm_e h
            refine lv_iinc (v := x566) (lv' := [(4, .int x566), (6, .int x560), (5, .int x557), (0, .ref sb), (1, .ref (b + 0)), (2, .ref (b + 414)), (3, .ref (b + 421))]) hx hb dL_law_1513 hl (k := 6) rfl (by rw [← e567]; rfl) (by decide) rfl (fun ls hl => ?_)
            refine lv_goto (tgt := 23) hx hb dL_law_1516 (by decide) ?_
            exact ih M559 x566 h _ _ (by omega) (by omega) _ _ _ hA hS (lv_sub hl [3, 4, 5, 6, 0] rfl)
          · have h := ce_it c565 h
            refine lv_aload_n hx hb dL_law_1484 rfl (lv_at hl 5 rfl) ?_
            refine lv_iconst (v := 0) hx hb dL_law_1485 (by decide) ?_
            refine ce_lald hx hb hK hA ce_k421 dL_law_1486 ?_
            refine lv_iload hx hb dL_law_1487 (lv_at hl 0 rfl) ?_
            refine lv_i2l hx hb dL_law_1489 rfl ?_
            refine W.lcmp hx hb dL_law_1490 ?_
            refine lv_if_eq (tgt := 1496) hx hb dL_law_1491 (by decide) (fun c568 => ?_) (fun c568 => ?_)
            · have h := ce_it c568 h
              refine lv_goto (tgt := 1513) hx hb dL_law_1496 (by decide) ?_
              obtain ⟨x569, e570, h⟩ := ce_nm_e h
              refine lv_iinc (v := x569) (lv' := [(4, .int x569), (6, .int x560), (5, .int x557), (0, .ref sb), (1, .ref (b + 0)), (2, .ref (b + 414)), (3, .ref (b + 421))]) hx hb dL_law_1513 hl (k := 6) rfl (by rw [← e570]; rfl) (by decide) rfl (fun ls hl => ?_)
              refine lv_goto (tgt := 23) hx hb dL_law_1516 (by decide) ?_
              exact ih M559 x569 h _ _ (by omega) (by omega) _ _ _ hA hS (lv_sub hl [3, 4, 5, 6, 0] rfl)
            · have h := ce_ie c568 h
              refine lv_iconst (v := 0) hx hb dL_law_1494 (by decide) ?_
              cases h
        · have h := ce_ie c564 h
          refine lv_iconst (v := 0) hx hb dL_law_1477 (by decide) ?_
          cases h
      have h := ce_ie c555 h
      by_cases c571 : (x3 &&& 31) = 23
      · have h := ce_it c571 h
        refine lv_tableIn (off := 1460) (tgt := 1499) hx hb dL_law_39 (by rw [c571]; decide) (by rw [c571]; decide) (by rw [c571]; rfl) (by decide) ?_
        refine lv_aload_n hx hb dL_law_1499 rfl (lv_at hl 1 rfl) ?_
        obtain ⟨q572, g573, h⟩ := ce_b1_e h
        refine ce_callVl (As := []) (rest := []) hx hb hml hown hB (c_X7_digest l X G b ce_k0 g573) ce_v_X7_digest ce_w588 ⟨Nat.le_of_ble_eq_true rfl, Nat.le_of_ble_eq_true rfl⟩ hF hA hS (ce_rc_7 hK hA ce_k0) hl rfl rfl (Nat.le_of_ble_eq_true rfl) dL_law_1500 ⟨(by show _ ≤ 601024; omega), (by show _ ≤ 7293034; omega)⟩ (fun H locs hA hS => ?_)
        refine lv_aload_n hx hb dL_law_1503 rfl (lv_at hl 2 rfl) ?_
        obtain ⟨M574, q575, g576, h⟩ := ce_b2_e h
        refine ce_callVl (As := []) (rest := [.long q572]) hx hb hml hown hB (c_X8_digest l X G b ce_k414 g576) ce_v_X8_digest ce_w1283 ⟨Nat.le_of_ble_eq_true rfl, Nat.le_of_ble_eq_true rfl⟩ hF hA hS (ce_rc_8 hK hA ce_k414) hl rfl rfl (Nat.le_of_ble_eq_true rfl) dL_law_1504 ⟨(by show _ ≤ 601024; omega), (by show _ ≤ 7293034; omega)⟩ (fun H locs hA hS => ?_)
        refine W.lcmp hx hb dL_law_1507 ?_
        refine lv_if_eq (tgt := 1513) hx hb dL_law_1508 (by decide) (fun c577 => ?_) (fun c577 => ?_)
        · have h := ce_it c577 h
          obtain ⟨x578, e579, h⟩ := ce_nm_e h
          refine lv_iinc (v := x578) (lv' := [(4, .int x578), (0, .ref sb), (1, .ref (b + 0)), (2, .ref (b + 414)), (3, .ref (b + 421))]) hx hb dL_law_1513 hl (k := 4) rfl (by rw [← e579]; rfl) (by decide) rfl (fun ls hl => ?_)
          refine lv_goto (tgt := 23) hx hb dL_law_1516 (by decide) ?_
          exact ih M574 x578 h _ _ (by omega) (by omega) _ _ _ hA hS (lv_sub hl [1, 2, 3, 4, 0] rfl)
        · have h := ce_ie c577 h
          refine lv_iconst (v := 0) hx hb dL_law_1511 (by decide) ?_
          cases h
      have h := ce_ie c571 h
      have nc6 : ((x3 &&& 31)).toInt ≠ 0 := fun q => c6 (Int32.toInt_inj.mp (q.trans (by decide)))
      have nc40 : ((x3 &&& 31)).toInt ≠ 1 := fun q => c40 (Int32.toInt_inj.mp (q.trans (by decide)))
      have nc68 : ((x3 &&& 31)).toInt ≠ 2 := fun q => c68 (Int32.toInt_inj.mp (q.trans (by decide)))
      have nc90 : ((x3 &&& 31)).toInt ≠ 3 := fun q => c90 (Int32.toInt_inj.mp (q.trans (by decide)))
      have nc118 : ((x3 &&& 31)).toInt ≠ 4 := fun q => c118 (Int32.toInt_inj.mp (q.trans (by decide)))
      have nc146 : ((x3 &&& 31)).toInt ≠ 5 := fun q => c146 (Int32.toInt_inj.mp (q.trans (by decide)))
      have nc180 : ((x3 &&& 31)).toInt ≠ 6 := fun q => c180 (Int32.toInt_inj.mp (q.trans (by decide)))
      have nc202 : ((x3 &&& 31)).toInt ≠ 7 := fun q => c202 (Int32.toInt_inj.mp (q.trans (by decide)))
      have nc230 : ((x3 &&& 31)).toInt ≠ 8 := fun q => c230 (Int32.toInt_inj.mp (q.trans (by decide)))
      have nc264 : ((x3 &&& 31)).toInt ≠ 9 := fun q => c264 (Int32.toInt_inj.mp (q.trans (by decide)))
      have nc292 : ((x3 &&& 31)).toInt ≠ 10 := fun q => c292 (Int32.toInt_inj.mp (q.trans (by decide)))
      have nc320 : ((x3 &&& 31)).toInt ≠ 11 := fun q => c320 (Int32.toInt_inj.mp (q.trans (by decide)))
      have nc348 : ((x3 &&& 31)).toInt ≠ 12 := fun q => c348 (Int32.toInt_inj.mp (q.trans (by decide)))
      have nc370 : ((x3 &&& 31)).toInt ≠ 13 := fun q => c370 (Int32.toInt_inj.mp (q.trans (by decide)))
      have nc404 : ((x3 &&& 31)).toInt ≠ 14 := fun q => c404 (Int32.toInt_inj.mp (q.trans (by decide)))
      have nc438 : ((x3 &&& 31)).toInt ≠ 15 := fun q => c438 (Int32.toInt_inj.mp (q.trans (by decide)))
      have nc460 : ((x3 &&& 31)).toInt ≠ 16 := fun q => c460 (Int32.toInt_inj.mp (q.trans (by decide)))
      have nc482 : ((x3 &&& 31)).toInt ≠ 17 := fun q => c482 (Int32.toInt_inj.mp (q.trans (by decide)))
      have nc504 : ((x3 &&& 31)).toInt ≠ 18 := fun q => c504 (Int32.toInt_inj.mp (q.trans (by decide)))
      have nc513 : ((x3 &&& 31)).toInt ≠ 19 := fun q => c513 (Int32.toInt_inj.mp (q.trans (by decide)))
      have nc535 : ((x3 &&& 31)).toInt ≠ 20 := fun q => c535 (Int32.toInt_inj.mp (q.trans (by decide)))
      have nc545 : ((x3 &&& 31)).toInt ≠ 21 := fun q => c545 (Int32.toInt_inj.mp (q.trans (by decide)))
      have nc555 : ((x3 &&& 31)).toInt ≠ 22 := fun q => c555 (Int32.toInt_inj.mp (q.trans (by decide)))
      have nc571 : ((x3 &&& 31)).toInt ≠ 23 := fun q => c571 (Int32.toInt_inj.mp (q.trans (by decide)))
      refine lv_tableOut (tgt := 1513) hx hb dL_law_39 (by omega) (by decide) ?_
      obtain ⟨x580, e581, h⟩ := ce_nm_e h
      refine lv_iinc (v := x580) (lv' := [(4, .int x580), (0, .ref sb), (1, .ref (b + 0)), (2, .ref (b + 414)), (3, .ref (b + 421))]) hx hb dL_law_1513 hl (k := 4) rfl (by rw [← e581]; rfl) (by decide) rfl (fun ls hl => ?_)
      refine lv_goto (tgt := 23) hx hb dL_law_1516 (by decide) ?_
      exact ih M1 x580 h _ _ (by omega) (by omega) _ _ _ hA hS (lv_sub hl [1, 2, 3, 4, 0] rfl)
