/-! a second way to say what the calls do: functions over the row 415, which no cell has here (kept beside the arena as plain definitions) -/
def f_X8_in (M : ce_M) (a1 : Int32) (a2 : Int32) (a3 : Int32) : Option Int32 :=
  if a1 < a2 then
    some 0
  else
    if a3 < a1 then
      some 0
    else
      some 1
def f_X8_isLeaf (M : ce_M) (a1 : Int32) : Option Int32 :=
  ce_b1 (f_X8_in M a1 0 15) (fun (x1 : Int32) =>
  ce_gz x1 (
  some x1))
def f_X8_isLevel (M : ce_M) (a1 : Int32) : Option Int32 :=
  ce_b1 (f_X8_in M a1 0 2) (fun (x1 : Int32) =>
  ce_gz x1 (
  some x1))
def f_X8_isOne (k : Nat) (M : ce_M) (a1 : Int32) : Option Int32 :=
  ce_gi 1 816 (ce_nm (ce_rd M (k + 1) (Int32.toNatClampNeg 1)) (fun (x1 : Int32) =>
  ce_b1 (f_X8_in M a1 0 (x1 - 1)) (fun (x4 : Int32) =>
  ce_gz x4 (
  some x4))))
def f_X8_of (k : Nat) (M : ce_M) (a1 : Int32) (a2 : Int32) : Option Int32 :=
  ce_gi ((24 + (54 * a1)) + a2) 816 (ce_nm (ce_rd M (k + 1) (Int32.toNatClampNeg ((24 + (54 * a1)) + a2))) (fun (x1 : Int32) =>
  some x1))
def f_X8_put (k : Nat) (M : ce_M) (a1 : Int32) (a2 : Int32) (a3 : Int32) : Option ce_M :=
  ce_gi ((24 + (54 * a1)) + a2) 816 (ce_nm (ce_wr M (k + 1) (Int32.toNatClampNeg ((24 + (54 * a1)) + a2)) a3) (fun (M1 : ce_M) =>
  some M1))
def f_X8_adds (k : Nat) (M : ce_M) (a1 : Int32) (a2 : Int32) (a3 : Int32) : Option ce_M :=
  ce_gi ((24 + (54 * a1)) + a2) 816 (ce_nm (ce_rd M (k + 1) (Int32.toNatClampNeg ((24 + (54 * a1)) + a2))) (fun (x1 : Int32) =>
  ce_gi ((24 + (54 * a1)) + a2) 816 (ce_nm (ce_wr M (k + 1) (Int32.toNatClampNeg ((24 + (54 * a1)) + a2)) (x1 + a3)) (fun (M4 : ce_M) =>
  some M4))))
def f_X8_ofEvent (k : Nat) (M : ce_M) (a1 : Int32) (a2 : Int32) : Option Int32 :=
  ce_gi ((456 + (6 * a1)) + a2) 816 (ce_nm (ce_rd M (k + 1) (Int32.toNatClampNeg ((456 + (6 * a1)) + a2))) (fun (x1 : Int32) =>
  some x1))
def f_X8_setting (k : Nat) (M : ce_M) (a1 : Int32) : Option Int32 :=
  ce_gi (3 + a1) 816 (ce_nm (ce_rd M (k + 1) (Int32.toNatClampNeg (3 + a1))) (fun (x1 : Int32) =>
  some x1))
def f_X8_part (M : ce_M) (a1 : Int32) (a2 : Int32) : Option Int32 :=
  if a2 = 2 then
    some a1
  else
    if a2 = 1 then
      some (((a1 / 8) * 2) + ((a1 - a1 / 4 * 4) / 2))
    else
      some 0
def f_X8_overlap (M : ce_M) (a1 : Int32) (a2 : Int32) (a3 : Int32) (a4 : Int32) : Option Int32 :=
  ce_nm (fun (x1 : Int32) (x2 : Int32) (x3 : Int32) =>
      ce_b1 (f_X8_part M x1 x3) (fun (x5 : Int32) =>
      ce_b1 (f_X8_part M x2 x3) (fun (x7 : Int32) =>
      if x5 = x7 then
        some 1
      else
        some 0))) (fun (u4 : Int32 → Int32 → Int32 → Option Int32) =>
  if a4 ≤ a2 then
    u4 a1 a3 a4
  else
    u4 a1 a3 a2)
def f_X8_stayAt (k : Nat) (M : ce_M) (a1 : Int32) (a2 : Int32) (a3 : Int32) : Option Int32 :=
  ce_b1 (f_X8_of k M a1 ((24 + (3 * a2)) + a3)) (fun (x1 : Int32) =>
  some x1)
def f_X8_beginsStay_L15 (k : Nat) (a1 : Int32) (u29 : ce_M → Option ce_M) (rec26 : ce_M → Int32 → Option ce_M) (M24 : ce_M) (x25 : Int32) : Option ce_M :=
  if 51 ≤ x25 then
    u29 M24
  else
    ce_b1 (f_X8_of k M24 a1 (x25 + 3)) (fun (x34 : Int32) =>
    ce_b1 (f_X8_put k M24 a1 x25 x34) (fun (M36 : ce_M) =>
    ce_nm (x25 + 1) (fun (x38 : Int32) =>
    rec26 M36 x38)))
def f_X8_beginsStay (k : Nat) (M : ce_M) (a1 : Int32) (a2 : Int32) : Option ce_M :=
  ce_b1 (f_X8_of k M a1 11) (fun (x1 : Int32) =>
  ce_nm (fun (M3 : ce_M) =>
      ce_b1 (f_X8_of k M3 a1 11) (fun (x5 : Int32) =>
      ce_nm (24 + (3 * x5)) (fun (x7 : Int32) =>
      ce_b1 (f_X8_put k M3 a1 x7 a2) (fun (M9 : ce_M) =>
      ce_gi 0 816 (ce_nm (ce_rd M9 (k + 1) (Int32.toNatClampNeg 0)) (fun (x11 : Int32) =>
      ce_b1 (f_X8_put k M9 a1 (x7 + 1) x11) (fun (M14 : ce_M) =>
      ce_b1 (f_X8_put k M14 a1 (x7 + 2) (-1)) (fun (M16 : ce_M) =>
      ce_b1 (f_X8_put k M16 a1 4 a2) (fun (M18 : ce_M) =>
      ce_b1 (f_X8_adds k M18 a1 11 1) (fun (M20 : ce_M) =>
      some M20)))))))))) (fun (u4 : ce_M → Option ce_M) =>
  if x1 = 10 then
    ce_nm (fun (M28 : ce_M) =>
      ce_b1 (f_X8_adds k M28 a1 11 (-1)) (fun (M30 : ce_M) =>
      u4 M30)) (fun (u29 : ce_M → Option ce_M) =>
    ce_lp2 (f_X8_beginsStay_L15 k a1 u29) ce_FU M 24)
  else
    u4 M))
def f_X8_endsStay (k : Nat) (M : ce_M) (a1 : Int32) : Option ce_M :=
  ce_b1 (f_X8_of k M a1 11) (fun (x1 : Int32) =>
  ce_gi 0 816 (ce_nm (ce_rd M (k + 1) (Int32.toNatClampNeg 0)) (fun (x3 : Int32) =>
  ce_b1 (f_X8_put k M a1 ((24 + (3 * x1)) - 1) x3) (fun (M6 : ce_M) =>
  some M6))))
def f_X8_leafAt_L5 (k : Nat) (M : ce_M) (a1 : Int32) (a2 : Int32) (rec3 : Int32 → Int32 → Option Int32) (x1 : Int32) (x2 : Int32) : Option Int32 :=
  ce_b1 (f_X8_of k M a1 11) (fun (x5 : Int32) =>
  if x5 ≤ x2 then
    some x1
  else
    ce_b1 (f_X8_stayAt k M a1 x2 2) (fun (x8 : Int32) =>
    ce_b1 (f_X8_stayAt k M a1 x2 1) (fun (x10 : Int32) =>
    if a2 < x10 then
      ce_nm (x2 + 1) (fun (x13 : Int32) =>
      rec3 x1 x13)
    else
      ce_nm (fun (z16 : Unit) =>
      ce_b1 (f_X8_stayAt k M a1 x2 0) (fun (x17 : Int32) =>
      ce_nm (x2 + 1) (fun (x19 : Int32) =>
      rec3 x17 x19))) (fun (u15 : Unit → Option Int32) =>
      if x8 = (-1) then
        u15 ()
      else
        if x8 ≤ a2 then
          ce_nm (x2 + 1) (fun (x24 : Int32) =>
          rec3 x1 x24)
        else
          u15 ()))))
def f_X8_leafAt (k : Nat) (M : ce_M) (a1 : Int32) (a2 : Int32) : Option Int32 :=
  ce_lp2 (f_X8_leafAt_L5 k M a1 a2) ce_FU (-1) 0
def f_X8_reaches (k : Nat) (M : ce_M) (a1 : Int32) (a2 : Int32) (a3 : Int32) (a4 : Int32) : Option Int32 :=
  ce_b1 (f_X8_of k M a1 5) (fun (x1 : Int32) =>
  ce_nm (fun (x3 : Int32) (x4 : Int32) =>
      if x4 = (-1) then
        some 0
      else
        ce_b1 (f_X8_of k M a1 1) (fun (x7 : Int32) =>
        ce_b1 (f_X8_overlap M x4 x7 a2 x3) (fun (x9 : Int32) =>
        if x9 = 0 then
          some 0
        else
          some 1))) (fun (u5 : Int32 → Int32 → Option Int32) =>
  if x1 = 1 then
    ce_b1 (f_X8_leafAt k M a1 a4) (fun (x14 : Int32) =>
    u5 a3 x14)
  else
    u5 a3 (-1)))
def f_X8_reachedBy_L6 (M : ce_M) (k : Nat) (a1 : Int32) (a2 : Int32) (a3 : Int32) (rec3 : Int32 → Int32 → Option Int32) (x1 : Int32) (x2 : Int32) : Option Int32 :=
  ce_gi 1 816 (ce_nm (ce_rd M (k + 1) (Int32.toNatClampNeg 1)) (fun (x5 : Int32) =>
  if x5 ≤ x2 then
    some x1
  else
    ce_b1 (f_X8_reaches k M x2 a1 a2 a3) (fun (x9 : Int32) =>
    if x9 = 0 then
      ce_nm (x1 ||| 0) (fun (x12 : Int32) =>
      ce_nm (x2 + 1) (fun (x14 : Int32) =>
      rec3 x12 x14))
    else
      ce_nm (x1 ||| (1 <<< (x2 &&& 31))) (fun (x16 : Int32) =>
      ce_nm (x2 + 1) (fun (x18 : Int32) =>
      rec3 x16 x18)))))
def f_X8_reachedBy (k : Nat) (M : ce_M) (a1 : Int32) (a2 : Int32) (a3 : Int32) : Option Int32 :=
  ce_lp2 (f_X8_reachedBy_L6 M k a1 a2 a3) ce_FU 0 0
def f_X8_subscribes_L61 (k : Nat) (x14 : Int32) (u28 : ce_M → Option (ce_M × Int32)) (rec25 : ce_M → Int32 → Option (ce_M × Int32)) (M23 : ce_M) (x24 : Int32) : Option (ce_M × Int32) :=
  if 54 ≤ x24 then
    u28 M23
  else
    ce_b1 (f_X8_put k M23 x14 x24 0) (fun (M48 : ce_M) =>
    ce_nm (x24 + 1) (fun (x50 : Int32) =>
    rec25 M48 x50))
def f_X8_subscribes (k : Nat) (M : ce_M) (a1 : Int32) (a2 : Int32) (a3 : Int32) : Option (ce_M × Int32) :=
  ce_b1 (f_X8_isLeaf M a3) (fun (x1 : Int32) =>
  if x1 = 0 then
    some (M, 1)
  else
    ce_b1 (f_X8_in M a1 0 2) (fun (x4 : Int32) =>
    if x4 = 0 then
      some (M, 2)
    else
      ce_b1 (f_X8_isLevel M a2) (fun (x7 : Int32) =>
      if x7 = 0 then
        some (M, 2)
      else
        ce_gi 1 816 (ce_nm (ce_rd M (k + 1) (Int32.toNatClampNeg 1)) (fun (x10 : Int32) =>
        if x10 = 8 then
          some (M, 3)
        else
          ce_gi 1 816 (ce_nm (ce_rd M (k + 1) (Int32.toNatClampNeg 1)) (fun (x14 : Int32) =>
          ce_gi 1 816 (ce_nm (ce_rd M (k + 1) (Int32.toNatClampNeg 1)) (fun (x17 : Int32) =>
          ce_gi 1 816 (ce_nm (ce_wr M (k + 1) (Int32.toNatClampNeg 1) (x17 + 1)) (fun (M20 : ce_M) =>
          ce_nm (fun (M27 : ce_M) =>
      ce_b1 (f_X8_put k M27 x14 0 a1) (fun (M29 : ce_M) =>
      ce_b1 (f_X8_put k M29 x14 1 a2) (fun (M31 : ce_M) =>
      ce_b1 (f_X8_put k M31 x14 2 a3) (fun (M33 : ce_M) =>
      ce_gi 0 816 (ce_nm (ce_rd M33 (k + 1) (Int32.toNatClampNeg 0)) (fun (x35 : Int32) =>
      ce_b1 (f_X8_put k M33 x14 3 x35) (fun (M38 : ce_M) =>
      ce_b1 (f_X8_put k M38 x14 5 1) (fun (M40 : ce_M) =>
      ce_b1 (f_X8_beginsStay k M40 x14 a3) (fun (M42 : ce_M) =>
      ce_nm (ce_wr M42 k 5 x14) (fun (M44 : ce_M) =>
      some (M44, 0))))))))))) (fun (u28 : ce_M → Option (ce_M × Int32)) =>
          ce_lp2 (f_X8_subscribes_L61 k x14 u28) ce_FU M20 0))))))))))))
def f_X8_goes (k : Nat) (M : ce_M) (a1 : Int32) (a2 : Int32) : Option (ce_M × Int32) :=
  ce_b1 (f_X8_isOne k M a1) (fun (x1 : Int32) =>
  if x1 = 0 then
    some (M, 1)
  else
    ce_b1 (f_X8_isLeaf M a2) (fun (x4 : Int32) =>
    if x4 = 0 then
      some (M, 1)
    else
      ce_b1 (f_X8_of k M a1 5) (fun (x7 : Int32) =>
      if x7 = 0 then
        some (M, 2)
      else
        ce_b1 (f_X8_of k M a1 0) (fun (x10 : Int32) =>
        if x10 = 2 then
          some (M, 2)
        else
          ce_b1 (f_X8_of k M a1 2) (fun (x13 : Int32) =>
          if x13 = a2 then
            some (M, 2)
          else
            ce_b1 (f_X8_of k M a1 2) (fun (x16 : Int32) =>
            ce_nm (ce_wr M k 5 x16) (fun (M18 : ce_M) =>
            ce_b1 (f_X8_put k M18 a1 2 a2) (fun (M20 : ce_M) =>
            ce_gi 0 816 (ce_nm (ce_rd M20 (k + 1) (Int32.toNatClampNeg 0)) (fun (x22 : Int32) =>
            ce_b1 (f_X8_put k M20 a1 3 x22) (fun (M25 : ce_M) =>
            some (M25, 0))))))))))))
def f_X8_quits (k : Nat) (M : ce_M) (a1 : Int32) : Option (ce_M × Int32) :=
  ce_b1 (f_X8_isOne k M a1) (fun (x1 : Int32) =>
  if x1 = 0 then
    some (M, 1)
  else
    ce_b1 (f_X8_of k M a1 5) (fun (x4 : Int32) =>
    if x4 = 0 then
      some (M, 2)
    else
      ce_b1 (f_X8_of k M a1 6) (fun (x7 : Int32) =>
      ce_nm (ce_wr M k 5 x7) (fun (M9 : ce_M) =>
      ce_gi 7 816 (ce_nm (ce_rd M9 (k + 1) (Int32.toNatClampNeg 7)) (fun (x11 : Int32) =>
      ce_gi 7 816 (ce_nm (ce_wr M9 (k + 1) (Int32.toNatClampNeg 7) (x11 + (ce_rd M9 k 5))) (fun (M14 : ce_M) =>
      ce_b1 (f_X8_put k M14 a1 6 0) (fun (M17 : ce_M) =>
      ce_b1 (f_X8_put k M17 a1 5 0) (fun (M19 : ce_M) =>
      ce_b1 (f_X8_endsStay k M19 a1) (fun (M21 : ce_M) =>
      some (M21, 0))))))))))))
def f_X8_sets (k : Nat) (M : ce_M) (a1 : Int32) (a2 : Int32) : Option (ce_M × Int32) :=
  ce_b1 (f_X8_in M a1 0 3) (fun (x1 : Int32) =>
  if x1 = 0 then
    some (M, 1)
  else
    ce_nm (fun (x4 : Int32) =>
      ce_nm (fun (x6 : Int32) =>
          ce_b1 (f_X8_in M a2 x6 x4) (fun (x8 : Int32) =>
          if x8 = 0 then
            some (M, 1)
          else
            ce_b1 (f_X8_setting k M a1) (fun (x11 : Int32) =>
            ce_nm (ce_wr M k 5 x11) (fun (M13 : ce_M) =>
            ce_gi (3 + a1) 816 (ce_nm (ce_wr M13 (k + 1) (Int32.toNatClampNeg (3 + a1)) a2) (fun (M15 : ce_M) =>
            some (M15, 0))))))) (fun (u7 : Int32 → Option (ce_M × Int32)) =>
      if a1 = 1 then
        u7 1
      else
        u7 0)) (fun (u5 : Int32 → Option (ce_M × Int32)) =>
    if a1 = 3 then
      u5 20
    else
      u5 9))
def f_X8_isTooLate (k : Nat) (M : ce_M) (a1 : Int32) : Option Int32 :=
  ce_b1 (f_X8_setting k M 3) (fun (x1 : Int32) =>
  if x1 < a1 then
    some 1
  else
    ce_gi 0 816 (ce_nm (ce_rd M (k + 1) (Int32.toNatClampNeg 0)) (fun (x4 : Int32) =>
    if a1 ≤ x4 then
      some 0
    else
      some 1)))
def f_X8_arrives (k : Nat) (M : ce_M) (a1 : Int32) (a2 : Int32) : Option ce_M :=
  ce_b1 (f_X8_of k M a1 6) (fun (x1 : Int32) =>
  if x1 = 12 then
    ce_b1 (f_X8_adds k M a1 8 1) (fun (M10 : ce_M) =>
    some M10)
  else
    ce_b1 (f_X8_of k M a1 6) (fun (x4 : Int32) =>
    ce_b1 (f_X8_put k M a1 (12 + x4) a2) (fun (M6 : ce_M) =>
    ce_b1 (f_X8_adds k M6 a1 6 1) (fun (M8 : ce_M) =>
    some M8))))
def f_X8_publishes_L160 (k : Nat) (x18 : Int32) (x15 : Int32) (u60 : ce_M → Option (ce_M × Int32)) (rec57 : ce_M → Int32 → Option (ce_M × Int32)) (M55 : ce_M) (x56 : Int32) : Option (ce_M × Int32) :=
  ce_gi 1 816 (ce_nm (ce_rd M55 (k + 1) (Int32.toNatClampNeg 1)) (fun (x64 : Int32) =>
  if x64 ≤ x56 then
    u60 M55
  else
    ce_gi (x18 + 4) 816 (ce_nm (ce_rd M55 (k + 1) (Int32.toNatClampNeg (x18 + 4))) (fun (x68 : Int32) =>
    if ((x68 >>> (x56 &&& 31)) &&& 1) = 1 then
      ce_b1 (f_X8_arrives k M55 x56 x15) (fun (M74 : ce_M) =>
      ce_nm (x56 + 1) (fun (x76 : Int32) =>
      rec57 M74 x76))
    else
      ce_nm (x56 + 1) (fun (x72 : Int32) =>
      rec57 M55 x72)))))
def f_X8_publishes (k : Nat) (M : ce_M) (a1 : Int32) (a2 : Int32) (a3 : Int32) : Option (ce_M × Int32) :=
  ce_b1 (f_X8_isLeaf M a1) (fun (x1 : Int32) =>
  if x1 = 0 then
    some (M, 1)
  else
    ce_b1 (f_X8_isLevel M a2) (fun (x4 : Int32) =>
    if x4 = 0 then
      some (M, 2)
    else
      if 0 ≤ a3 then
        ce_gi 2 816 (ce_nm (ce_rd M (k + 1) (Int32.toNatClampNeg 2)) (fun (x8 : Int32) =>
        if x8 = 60 then
          some (M, 3)
        else
          ce_b1 (f_X8_isTooLate k M a3) (fun (x12 : Int32) =>
          if x12 = 0 then
            ce_gi 2 816 (ce_nm (ce_rd M (k + 1) (Int32.toNatClampNeg 2)) (fun (x15 : Int32) =>
            ce_nm (456 + (6 * x15)) (fun (x18 : Int32) =>
            ce_gi 2 816 (ce_nm (ce_rd M (k + 1) (Int32.toNatClampNeg 2)) (fun (x20 : Int32) =>
            ce_gi 2 816 (ce_nm (ce_wr M (k + 1) (Int32.toNatClampNeg 2) (x20 + 1)) (fun (M23 : ce_M) =>
            ce_gi (x18 + 0) 816 (ce_nm (ce_wr M23 (k + 1) (Int32.toNatClampNeg (x18 + 0)) a1) (fun (M26 : ce_M) =>
            ce_gi (x18 + 1) 816 (ce_nm (ce_wr M26 (k + 1) (Int32.toNatClampNeg (x18 + 1)) a2) (fun (M29 : ce_M) =>
            ce_gi 0 816 (ce_nm (ce_rd M29 (k + 1) (Int32.toNatClampNeg 0)) (fun (x32 : Int32) =>
            ce_gi (x18 + 2) 816 (ce_nm (ce_wr M29 (k + 1) (Int32.toNatClampNeg (x18 + 2)) (x32 - a3)) (fun (M35 : ce_M) =>
            ce_gi 0 816 (ce_nm (ce_rd M35 (k + 1) (Int32.toNatClampNeg 0)) (fun (x38 : Int32) =>
            ce_gi (x18 + 3) 816 (ce_nm (ce_wr M35 (k + 1) (Int32.toNatClampNeg (x18 + 3)) x38) (fun (M41 : ce_M) =>
            ce_gi 0 816 (ce_nm (ce_rd M41 (k + 1) (Int32.toNatClampNeg 0)) (fun (x44 : Int32) =>
            ce_b1 (f_X8_reachedBy k M41 a1 a2 (x44 - a3)) (fun (x47 : Int32) =>
            ce_gi (x18 + 4) 816 (ce_nm (ce_wr M41 (k + 1) (Int32.toNatClampNeg (x18 + 4)) x47) (fun (M49 : ce_M) =>
            ce_gi (x18 + 5) 816 (ce_nm (ce_wr M49 (k + 1) (Int32.toNatClampNeg (x18 + 5)) 0) (fun (M52 : ce_M) =>
            ce_nm (fun (M59 : ce_M) =>
      ce_nm (ce_wr M59 k 5 x15) (fun (M61 : ce_M) =>
      some (M61, 0))) (fun (u60 : ce_M → Option (ce_M × Int32)) =>
            ce_lp2 (f_X8_publishes_L160 k x18 x15 u60) ce_FU M52 0)))))))))))))))))))))))))))
          else
            some (M, 3))))
      else
        some (M, 2)))
def f_X8_dwellOf (k : Nat) (M : ce_M) (a1 : Int32) : Option Int32 :=
  ce_b1 (f_X8_of k M a1 0) (fun (x1 : Int32) =>
  if x1 = 1 then
    ce_b1 (f_X8_setting k M 0) (fun (x6 : Int32) =>
    some (x6 / 2))
  else
    ce_b1 (f_X8_setting k M 0) (fun (x4 : Int32) =>
    some x4))
def f_X8_mayChange (k : Nat) (M : ce_M) (a1 : Int32) : Option Int32 :=
  ce_b1 (f_X8_of k M a1 5) (fun (x1 : Int32) =>
  if x1 = 1 then
    ce_b1 (f_X8_of k M a1 2) (fun (x4 : Int32) =>
    ce_b1 (f_X8_of k M a1 4) (fun (x6 : Int32) =>
    if x4 = x6 then
      some 0
    else
      ce_gi 0 816 (ce_nm (ce_rd M (k + 1) (Int32.toNatClampNeg 0)) (fun (x9 : Int32) =>
      ce_b1 (f_X8_of k M a1 3) (fun (x12 : Int32) =>
      ce_b1 (f_X8_dwellOf k M a1) (fun (x14 : Int32) =>
      if (x9 - x12) < x14 then
        some 0
      else
        some 1))))))
  else
    some 0)
def f_X8_delivers_L11 (k : Nat) (a1 : Int32) (u8 : ce_M → Option ce_M) (rec5 : ce_M → Int32 → Option ce_M) (M3 : ce_M) (x4 : Int32) : Option ce_M :=
  ce_b1 (f_X8_of k M3 a1 6) (fun (x28 : Int32) =>
  if ((12 + x28) - 1) ≤ x4 then
    u8 M3
  else
    ce_b1 (f_X8_of k M3 a1 (x4 + 1)) (fun (x31 : Int32) =>
    ce_b1 (f_X8_put k M3 a1 x4 x31) (fun (M33 : ce_M) =>
    ce_nm (x4 + 1) (fun (x35 : Int32) =>
    rec5 M33 x35))))
def f_X8_delivers (k : Nat) (M : ce_M) (a1 : Int32) : Option ce_M :=
  ce_b1 (f_X8_of k M a1 12) (fun (x1 : Int32) =>
  ce_nm (fun (M7 : ce_M) =>
      ce_b1 (f_X8_adds k M7 a1 6 (-1)) (fun (M9 : ce_M) =>
      ce_b1 (f_X8_adds k M9 a1 7 1) (fun (M11 : ce_M) =>
      ce_b1 (f_X8_of k M11 a1 4) (fun (x13 : Int32) =>
      ce_gi (8 + x13) 816 (ce_nm (ce_rd M11 (k + 1) (Int32.toNatClampNeg (8 + x13))) (fun (x15 : Int32) =>
      ce_gi (8 + x13) 816 (ce_nm (ce_wr M11 (k + 1) (Int32.toNatClampNeg (8 + x13)) (x15 + 1)) (fun (M18 : ce_M) =>
      ce_gi ((456 + (6 * x1)) + 5) 816 (ce_nm (ce_rd M18 (k + 1) (Int32.toNatClampNeg ((456 + (6 * x1)) + 5))) (fun (x21 : Int32) =>
      ce_gi ((456 + (6 * x1)) + 5) 816 (ce_nm (ce_wr M18 (k + 1) (Int32.toNatClampNeg ((456 + (6 * x1)) + 5)) (x21 ||| (1 <<< (a1 &&& 31)))) (fun (M24 : ce_M) =>
      some M24)))))))))))) (fun (u8 : ce_M → Option ce_M) =>
  ce_lp2 (f_X8_delivers_L11 k a1 u8) ce_FU M 12))
def f_X8_ticks_L156 (x36 : Int32) (k : Nat) (x15 : Int32) (u44 : ce_M → Int32 → Option (ce_M × Int32)) (rec40 : ce_M → Int32 → Option (ce_M × Int32)) (M38 : ce_M) (x39 : Int32) : Option (ce_M × Int32) :=
  if x36 = 0 then
    u44 M38 x39
  else
    ce_b1 (f_X8_of k M38 x15 6) (fun (x49 : Int32) =>
    if x49 ≤ 0 then
      u44 M38 x39
    else
      ce_b1 (f_X8_of k M38 x15 4) (fun (x52 : Int32) =>
      ce_gi x52 16 (ce_nm (ce_rd M38 (k + 4) (Int32.toNatClampNeg x52)) (fun (x54 : Int32) =>
      ce_b1 (f_X8_setting k M38 1) (fun (x57 : Int32) =>
      if x57 ≤ x54 then
        u44 M38 x39
      else
        ce_b1 (f_X8_of k M38 x15 4) (fun (x60 : Int32) =>
        ce_gi x60 16 (ce_nm (ce_rd M38 (k + 4) (Int32.toNatClampNeg x60)) (fun (x62 : Int32) =>
        ce_gi x60 16 (ce_nm (ce_wr M38 (k + 4) (Int32.toNatClampNeg x60) (x62 + 1)) (fun (M65 : ce_M) =>
        ce_b1 (f_X8_delivers k M65 x15) (fun (M68 : ce_M) =>
        ce_nm (x39 + 1) (fun (x70 : Int32) =>
        rec40 M68 x70))))))))))))
def f_X8_ticks_L114 (k : Nat) (u20 : ce_M → Int32 → Option (ce_M × Int32)) (rec16 : ce_M → Int32 → Int32 → Option (ce_M × Int32)) (M13 : ce_M) (x14 : Int32) (x15 : Int32) : Option (ce_M × Int32) :=
  ce_gi 1 816 (ce_nm (ce_rd M13 (k + 1) (Int32.toNatClampNeg 1)) (fun (x28 : Int32) =>
  if x28 ≤ x15 then
    u20 M13 x14
  else
    ce_b1 (f_X8_of k M13 x15 5) (fun (x32 : Int32) =>
    ce_nm (fun (x36 : Int32) =>
      ce_nm (fun (M42 : ce_M) (x43 : Int32) =>
          ce_nm (x15 + 1) (fun (x45 : Int32) =>
          rec16 M42 x43 x45)) (fun (u44 : ce_M → Int32 → Option (ce_M × Int32)) =>
      ce_lp2 (f_X8_ticks_L156 x36 k x15 u44) ce_FU M13 x14)) (fun (u37 : Int32 → Option (ce_M × Int32)) =>
    ce_nm (fun (z35 : Unit) =>
      u37 0) (fun (u34 : Unit → Option (ce_M × Int32)) =>
    if x32 = 1 then
      ce_gi 0 816 (ce_nm (ce_rd M13 (k + 1) (Int32.toNatClampNeg 0)) (fun (x75 : Int32) =>
      ce_b1 (f_X8_of k M13 x15 10) (fun (x78 : Int32) =>
      if x75 < x78 then
        u34 ()
      else
        u37 1)))
    else
      u34 ())))))
def f_X8_ticks_L25 (k : Nat) (u12 : ce_M → Option (ce_M × Int32)) (rec9 : ce_M → Int32 → Option (ce_M × Int32)) (M7 : ce_M) (x8 : Int32) : Option (ce_M × Int32) :=
  ce_gi 1 816 (ce_nm (ce_rd M7 (k + 1) (Int32.toNatClampNeg 1)) (fun (x82 : Int32) =>
  if x82 ≤ x8 then
    u12 M7
  else
    ce_b1 (f_X8_mayChange k M7 x8) (fun (x86 : Int32) =>
    if x86 = 0 then
      ce_nm (x8 + 1) (fun (x89 : Int32) =>
      rec9 M7 x89)
    else
      ce_b1 (f_X8_endsStay k M7 x8) (fun (M91 : ce_M) =>
      ce_b1 (f_X8_of k M91 x8 2) (fun (x93 : Int32) =>
      ce_b1 (f_X8_beginsStay k M91 x8 x93) (fun (M95 : ce_M) =>
      ce_b1 (f_X8_adds k M95 x8 9 1) (fun (M97 : ce_M) =>
      ce_b1 (f_X8_of k M97 x8 6) (fun (x99 : Int32) =>
      ce_nm (fun (x101 : Int32) =>
      ce_b1 (f_X8_put k M97 x8 10 x101) (fun (M103 : ce_M) =>
      ce_nm (x8 + 1) (fun (x105 : Int32) =>
      rec9 M103 x105))) (fun (u102 : Int32 → Option (ce_M × Int32)) =>
      if x99 ≤ 0 then
        ce_b1 (f_X8_of k M97 x8 10) (fun (x109 : Int32) =>
        u102 x109)
      else
        ce_gi 0 816 (ce_nm (ce_rd M97 (k + 1) (Int32.toNatClampNeg 0)) (fun (x111 : Int32) =>
        ce_b1 (f_X8_setting k M97 2) (fun (x114 : Int32) =>
        u102 (x111 + x114)))))))))))))
def f_X8_ticks_L4 (k : Nat) (u6 : ce_M → Option (ce_M × Int32)) (rec3 : ce_M → Int32 → Option (ce_M × Int32)) (M1 : ce_M) (x2 : Int32) : Option (ce_M × Int32) :=
  if 16 ≤ x2 then
    u6 M1
  else
    ce_gi x2 16 (ce_nm (ce_wr M1 (k + 4) (Int32.toNatClampNeg x2) 0) (fun (M118 : ce_M) =>
    ce_nm (x2 + 1) (fun (x121 : Int32) =>
    rec3 M118 x121)))
def f_X8_ticks (k : Nat) (M : ce_M) : Option (ce_M × Int32) :=
  ce_nm (fun (M5 : ce_M) =>
      ce_nm (fun (M11 : ce_M) =>
          ce_nm (fun (M18 : ce_M) (x19 : Int32) =>
              ce_gi 0 816 (ce_nm (ce_rd M18 (k + 1) (Int32.toNatClampNeg 0)) (fun (x21 : Int32) =>
              ce_gi 0 816 (ce_nm (ce_wr M18 (k + 1) (Int32.toNatClampNeg 0) (x21 + 1)) (fun (M24 : ce_M) =>
              some (M24, x19)))))) (fun (u20 : ce_M → Int32 → Option (ce_M × Int32)) =>
          ce_lp3 (f_X8_ticks_L114 k u20) ce_FU M11 0 0)) (fun (u12 : ce_M → Option (ce_M × Int32)) =>
      ce_lp2 (f_X8_ticks_L25 k u12) ce_FU M5 0)) (fun (u6 : ce_M → Option (ce_M × Int32)) =>
  ce_lp2 (f_X8_ticks_L4 k u6) ce_FU M 0)
def f_X8_passes_L32 (a1 : Int32) (k : Nat) (u15 : ce_M → Int32 → Option (ce_M × Int32)) (rec11 : ce_M → Int32 → Int32 → Option (ce_M × Int32)) (M8 : ce_M) (x9 : Int32) (x10 : Int32) : Option (ce_M × Int32) :=
  if a1 ≤ x10 then
    u15 M8 x9
  else
    ce_b2 (f_X8_ticks k M8) (fun (M20 : ce_M) (x21 : Int32) =>
    ce_nm (x9 + x21) (fun (x23 : Int32) =>
    ce_nm (x10 + 1) (fun (x25 : Int32) =>
    rec11 M20 x23 x25)))
def f_X8_passes (k : Nat) (M : ce_M) (a1 : Int32) : Option (ce_M × Int32) :=
  ce_b1 (f_X8_in M a1 1 50) (fun (x1 : Int32) =>
  if x1 = 0 then
    some (M, 1)
  else
    ce_gi 0 816 (ce_nm (ce_rd M (k + 1) (Int32.toNatClampNeg 0)) (fun (x4 : Int32) =>
    if (x4 + a1) ≤ 9999 then
      ce_nm (fun (M13 : ce_M) (x14 : Int32) =>
      ce_nm (ce_wr M13 k 5 x14) (fun (M16 : ce_M) =>
      some (M16, 0))) (fun (u15 : ce_M → Int32 → Option (ce_M × Int32)) =>
      ce_lp3 (f_X8_passes_L32 a1 k u15) ce_FU M 0 0)
    else
      some (M, 2))))
def f_X8_routedTo_L4 (M : ce_M) (k : Nat) (a1 : Int32) (rec3 : Int32 → Int32 → Option Int32) (x1 : Int32) (x2 : Int32) : Option Int32 :=
  ce_gi 2 816 (ce_nm (ce_rd M (k + 1) (Int32.toNatClampNeg 2)) (fun (x5 : Int32) =>
  if x5 ≤ x2 then
    some x1
  else
    ce_b1 (f_X8_ofEvent k M x2 4) (fun (x9 : Int32) =>
    ce_nm (x1 + ((x9 >>> (a1 &&& 31)) &&& 1)) (fun (x11 : Int32) =>
    ce_nm (x2 + 1) (fun (x13 : Int32) =>
    rec3 x11 x13)))))
def f_X8_routedTo (k : Nat) (M : ce_M) (a1 : Int32) : Option Int32 :=
  ce_lp2 (f_X8_routedTo_L4 M k a1) ce_FU 0 0
def f_X8_told (k : Nat) (M : ce_M) (a1 : Int32) (a2 : Int32) : Option Int32 :=
  if 7 ≤ a2 then
    if a2 = 7 then
      ce_b1 (f_X8_routedTo k M a1) (fun (x5 : Int32) =>
      some x5)
    else
      ce_b1 (f_X8_of k M a1 (a2 - 1)) (fun (x3 : Int32) =>
      some x3)
  else
    ce_b1 (f_X8_of k M a1 a2) (fun (x7 : Int32) =>
    some x7)
def f_X8_inBoxes_L17 (k : Nat) (M : ce_M) (x2 : Int32) (a1 : Int32) (u14 : Int32 → Option Int32) (rec11 : Int32 → Int32 → Option Int32) (x9 : Int32) (x10 : Int32) : Option Int32 :=
  ce_b1 (f_X8_of k M x2 6) (fun (x18 : Int32) =>
  if x18 ≤ x10 then
    u14 x9
  else
    ce_b1 (f_X8_of k M x2 (12 + x10)) (fun (x21 : Int32) =>
    if x21 = a1 then
      ce_nm (x9 + 1) (fun (x28 : Int32) =>
      ce_nm (x10 + 1) (fun (x30 : Int32) =>
      rec11 x28 x30))
    else
      ce_nm (x9 + 0) (fun (x24 : Int32) =>
      ce_nm (x10 + 1) (fun (x26 : Int32) =>
      rec11 x24 x26))))
def f_X8_inBoxes_L4 (M : ce_M) (k : Nat) (a1 : Int32) (rec3 : Int32 → Int32 → Option Int32) (x1 : Int32) (x2 : Int32) : Option Int32 :=
  ce_gi 1 816 (ce_nm (ce_rd M (k + 1) (Int32.toNatClampNeg 1)) (fun (x5 : Int32) =>
  if x5 ≤ x2 then
    some x1
  else
    ce_nm (fun (x13 : Int32) =>
      ce_nm (x2 + 1) (fun (x15 : Int32) =>
      rec3 x13 x15)) (fun (u14 : Int32 → Option Int32) =>
    ce_lp2 (f_X8_inBoxes_L17 k M x2 a1 u14) ce_FU x1 0)))
def f_X8_inBoxes (k : Nat) (M : ce_M) (a1 : Int32) : Option Int32 :=
  ce_lp2 (f_X8_inBoxes_L4 M k a1) ce_FU 0 0
def f_X8_eventTold (k : Nat) (M : ce_M) (a1 : Int32) (a2 : Int32) : Option Int32 :=
  if a2 = 6 then
    ce_b1 (f_X8_inBoxes k M a1) (fun (x4 : Int32) =>
    some x4)
  else
    ce_b1 (f_X8_ofEvent k M a1 a2) (fun (x2 : Int32) =>
    some x2)
def f_X8_leafTold_L20 (M : ce_M) (k : Nat) (a2 : Int32) (a1 : Int32) (rec4 : Int32 → Int32 → Option Int32) (x2 : Int32) (x3 : Int32) : Option Int32 :=
  ce_gi 1 816 (ce_nm (ce_rd M (k + 1) (Int32.toNatClampNeg 1)) (fun (x6 : Int32) =>
  if x6 ≤ x3 then
    some x2
  else
    ce_b1 (f_X8_of k M x3 5) (fun (x10 : Int32) =>
    ce_nm (fun (x12 : Int32) =>
      ce_nm (fun (x16 : Int32) =>
          if x16 = 0 then
            ce_nm (x2 + 0) (fun (x30 : Int32) =>
            ce_nm (x3 + 1) (fun (x32 : Int32) =>
            rec4 x30 x32))
          else
            if a2 = 2 then
              ce_b1 (f_X8_of k M x3 6) (fun (x24 : Int32) =>
              ce_nm (x2 + x24) (fun (x26 : Int32) =>
              ce_nm (x3 + 1) (fun (x28 : Int32) =>
              rec4 x26 x28)))
            else
              ce_nm (x2 + 1) (fun (x20 : Int32) =>
              ce_nm (x3 + 1) (fun (x22 : Int32) =>
              rec4 x20 x22))) (fun (u17 : Int32 → Option Int32) =>
      ce_nm (fun (z15 : Unit) =>
          u17 0) (fun (u14 : Unit → Option Int32) =>
      if x12 = 0 then
        u14 ()
      else
        ce_nm (fun (x37 : Int32) =>
          ce_b1 (f_X8_of k M x3 x37) (fun (x39 : Int32) =>
          if x39 = a1 then
            u17 1
          else
            u14 ())) (fun (u38 : Int32 → Option Int32) =>
        if a2 = 3 then
          u38 2
        else
          u38 4)))) (fun (u13 : Int32 → Option Int32) =>
    if x10 = 1 then
      u13 1
    else
      u13 0))))
def f_X8_leafTold (k : Nat) (M : ce_M) (a1 : Int32) (a2 : Int32) : Option Int32 :=
  if a2 = 1 then
    ce_gi (8 + a1) 816 (ce_nm (ce_rd M (k + 1) (Int32.toNatClampNeg (8 + a1))) (fun (x46 : Int32) =>
    some x46))
  else
    ce_lp2 (f_X8_leafTold_L20 M k a2 a1) ce_FU 0 0
def f_X8_sumOf_L4 (M : ce_M) (k : Nat) (a1 : Int32) (rec3 : Int32 → Int32 → Option Int32) (x1 : Int32) (x2 : Int32) : Option Int32 :=
  ce_gi 1 816 (ce_nm (ce_rd M (k + 1) (Int32.toNatClampNeg 1)) (fun (x5 : Int32) =>
  if x5 ≤ x2 then
    some x1
  else
    ce_b1 (f_X8_of k M x2 a1) (fun (x9 : Int32) =>
    ce_nm (x1 + x9) (fun (x11 : Int32) =>
    ce_nm (x2 + 1) (fun (x13 : Int32) =>
    rec3 x11 x13)))))
def f_X8_sumOf (k : Nat) (M : ce_M) (a1 : Int32) : Option Int32 :=
  ce_lp2 (f_X8_sumOf_L4 M k a1) ce_FU 0 0
def f_X8_wholeTold (k : Nat) (M : ce_M) (a1 : Int32) : Option Int32 :=
  if a1 = 0 then
    ce_gi 1 816 (ce_nm (ce_rd M (k + 1) (Int32.toNatClampNeg 1)) (fun (x2 : Int32) =>
    some x2))
  else
  if a1 = 1 then
    ce_b1 (f_X8_sumOf k M 5) (fun (x6 : Int32) =>
    some x6)
  else
  if a1 = 2 then
    ce_gi 2 816 (ce_nm (ce_rd M (k + 1) (Int32.toNatClampNeg 2)) (fun (x9 : Int32) =>
    some x9))
  else
  if a1 = 3 then
    ce_gi 0 816 (ce_nm (ce_rd M (k + 1) (Int32.toNatClampNeg 0)) (fun (x13 : Int32) =>
    some x13))
  else
  if a1 = 4 then
    ce_b1 (f_X8_setting k M (a1 - 4)) (fun (x17 : Int32) =>
    some x17)
  else
  if a1 = 5 then
    ce_b1 (f_X8_setting k M (a1 - 4)) (fun (x20 : Int32) =>
    some x20)
  else
  if a1 = 6 then
    ce_b1 (f_X8_setting k M (a1 - 4)) (fun (x23 : Int32) =>
    some x23)
  else
  if a1 = 7 then
    ce_b1 (f_X8_setting k M (a1 - 4)) (fun (x26 : Int32) =>
    some x26)
  else
  if a1 = 8 then
    ce_b1 (f_X8_sumOf k M 6) (fun (x29 : Int32) =>
    some x29)
  else
  if a1 = 9 then
    ce_b1 (f_X8_sumOf k M 7) (fun (x32 : Int32) =>
    some x32)
  else
  if a1 = 10 then
    ce_b1 (f_X8_sumOf k M 8) (fun (x35 : Int32) =>
    some x35)
  else
  if a1 = 11 then
    ce_gi 7 816 (ce_nm (ce_rd M (k + 1) (Int32.toNatClampNeg 7)) (fun (x38 : Int32) =>
    some x38))
  else
  if a1 = 12 then
    ce_b1 (f_X8_sumOf k M 9) (fun (x42 : Int32) =>
    some x42)
  else
  if a1 = 13 then
    some (ce_rd M k 8)
  else
  ce_b1 (f_X8_setting k M (a1 - 4)) (fun (x45 : Int32) =>
  some x45)
def f_X8_why (k : Nat) (M : ce_M) (a1 : Int32) (a2 : Int32) (a3 : Int32) : Option Int32 :=
  ce_b1 (f_X8_of k M a1 5) (fun (x1 : Int32) =>
  if x1 = 0 then
    some 1
  else
    ce_b1 (f_X8_of k M a1 4) (fun (x4 : Int32) =>
    ce_b1 (f_X8_of k M a1 1) (fun (x6 : Int32) =>
    ce_b1 (f_X8_overlap M x4 x6 a2 a3) (fun (x8 : Int32) =>
    if x8 = 0 then
      ce_b1 (f_X8_of k M a1 2) (fun (x11 : Int32) =>
      ce_b1 (f_X8_of k M a1 1) (fun (x13 : Int32) =>
      ce_b1 (f_X8_overlap M x11 x13 a2 a3) (fun (x15 : Int32) =>
      if x15 = 0 then
        some 3
      else
        some 2)))
    else
      ce_b1 (f_X8_of k M a1 6) (fun (x18 : Int32) =>
      if x18 = 12 then
        some 4
      else
        some 0)))))
def f_X8_changesIn (k : Nat) (M : ce_M) (a1 : Int32) : Option Int32 :=
  ce_b1 (f_X8_of k M a1 5) (fun (x1 : Int32) =>
  if x1 = 0 then
    some (-1)
  else
    ce_b1 (f_X8_of k M a1 2) (fun (x4 : Int32) =>
    ce_b1 (f_X8_of k M a1 4) (fun (x6 : Int32) =>
    if x4 = x6 then
      some 0
    else
      ce_b1 (f_X8_of k M a1 3) (fun (x9 : Int32) =>
      ce_b1 (f_X8_dwellOf k M a1) (fun (x11 : Int32) =>
      ce_gi 0 816 (ce_nm (ce_rd M (k + 1) (Int32.toNatClampNeg 0)) (fun (x13 : Int32) =>
      ce_nm ((x9 + x11) - x13) (fun (x16 : Int32) =>
      if 0 ≤ x16 then
        some (x16 + 1)
      else
        some 1))))))))
def f_X8_coveredBy_L4 (k : Nat) (M : ce_M) (a1 : Int32) (rec3 : Int32 → Int32 → Option Int32) (x1 : Int32) (x2 : Int32) : Option Int32 :=
  if 16 ≤ x2 then
    some x1
  else
    ce_b1 (f_X8_of k M a1 5) (fun (x6 : Int32) =>
    if x6 = 1 then
      ce_b1 (f_X8_of k M a1 4) (fun (x13 : Int32) =>
      ce_b1 (f_X8_of k M a1 1) (fun (x15 : Int32) =>
      ce_b1 (f_X8_overlap M x13 x15 x2 2) (fun (x17 : Int32) =>
      if x17 = 0 then
        ce_nm (x1 ||| 0) (fun (x20 : Int32) =>
        ce_nm (x2 + 1) (fun (x22 : Int32) =>
        rec3 x20 x22))
      else
        ce_nm (x1 ||| (1 <<< (x2 &&& 31))) (fun (x24 : Int32) =>
        ce_nm (x2 + 1) (fun (x26 : Int32) =>
        rec3 x24 x26)))))
    else
      ce_nm (x1 ||| 0) (fun (x9 : Int32) =>
      ce_nm (x2 + 1) (fun (x11 : Int32) =>
      rec3 x9 x11)))
def f_X8_coveredBy (k : Nat) (M : ce_M) (a1 : Int32) : Option Int32 :=
  ce_lp2 (f_X8_coveredBy_L4 k M a1) ce_FU 0 0
def f_X8_busiestLeaf_L6 (k : Nat) (M : ce_M) (rec4 : Int32 → Int32 → Int32 → Option Int32) (x1 : Int32) (x2 : Int32) (x3 : Int32) : Option Int32 :=
  if 16 ≤ x3 then
    some x1
  else
    ce_b1 (f_X8_leafTold k M x3 2) (fun (x7 : Int32) =>
    ce_nm (fun (x9 : Int32) =>
      if x7 ≤ x2 then
        ce_nm (x3 + 1) (fun (x12 : Int32) =>
        rec4 x9 x2 x12)
      else
        ce_nm (x3 + 1) (fun (x14 : Int32) =>
        rec4 x9 x7 x14)) (fun (u10 : Int32 → Option Int32) =>
    if x7 ≤ x2 then
      u10 x1
    else
      u10 x3))
def f_X8_busiestLeaf (k : Nat) (M : ce_M) : Option Int32 :=
  ce_lp3 (f_X8_busiestLeaf_L6 k M) ce_FU (-1) 0 0
