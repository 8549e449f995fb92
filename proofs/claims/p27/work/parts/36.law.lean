theorem ce_k0 : ce_kd 0 = 7 := by decide +kernel
def f_L_law_L104 (L : Nat) (xs : Nat → Int32) (rec : ce_M → Int32 → Int32 → Option Unit) (M1 : ce_M) (x1 : Int32) (x2 : Int32) : Option Unit :=
  ce_nm (fun (z4 : Unit) =>
      if x1 = 0 then
        none
      else
        ce_b2 (f_L_refused M1 0) (fun (M6 : ce_M) (x7 : Int32) =>
        if x7 = 0 then
          none
        else
          some ())) (fun (u3 : Unit → Option Unit) =>
  if 40 ≤ x2 then
    u3 ()
  else
    if x1 = 0 then
      u3 ()
    else
      ce_b1 (f_L_cell M1 (2 * x2) L xs) (fun (x13 : Int32) =>
      ce_b1 (f_L_cell M1 ((2 * x2) + 1) L xs) (fun (x15 : Int32) =>
      ce_b1 (f_L_low M1 (x13 >>> (5 &&& 31)) 13) (fun (x17 : Int32) =>
      ce_b2 (f_L_acts M1 0 x17 (x13 >>> (9 &&& 31)) x15) (fun (M19 : ce_M) (x20 : Int32) =>
      ce_nm (fun (M24 : ce_M) (x25 : Int32) =>
      if x25 = 0 then
        ce_nm (x2 + 1) (fun (x28 : Int32) =>
        rec M24 x25 x28)
      else
        if (x2 - x2 / 5 * 5) = 4 then
          ce_b1 (f_L_sum M24 0) (fun (q33 : Int64) =>
          ce_b1 (f_L_low M24 x13 21) (fun (x35 : Int32) =>
          ce_b2 (f0_L_sets M24 0 3 x35) (fun (M37 : ce_M) (x38 : Int32) =>
          if x38 < 0 then
            ce_nm (x2 + 1) (fun (x41 : Int32) =>
            rec M37 0 x41)
          else
            ce_b1 (f_L_low M37 x15 9) (fun (x43 : Int32) =>
            ce_b2 (f0_L_passes M37 0 (1 + x43)) (fun (M45 : ce_M) (x46 : Int32) =>
            if x46 < 0 then
              ce_nm (x2 + 1) (fun (x49 : Int32) =>
              rec M45 0 x49)
            else
              ce_b2 (f_L_sends M45 0 0 0 0) (fun (M51 : ce_M) (x52 : Int32) =>
              if x52 < (-900000002) then
                ce_nm (x2 + 1) (fun (x55 : Int32) =>
                rec M51 0 x55)
              else
                ce_b2 (f0_L_back M51 0) (fun (M57 : ce_M) (x58 : Int32) =>
                if x58 < 0 then
                  ce_nm (x2 + 1) (fun (x61 : Int32) =>
                  rec M57 0 x61)
                else
                  ce_b2 (f0_L_back M57 0) (fun (M63 : ce_M) (x64 : Int32) =>
                  if x64 < 0 then
                    ce_nm (x2 + 1) (fun (x67 : Int32) =>
                    rec M63 0 x67)
                  else
                    ce_b1 (f0_L_whole M63 0 2) (fun (x69 : Int32) =>
                    ce_nm (fun (M71 : ce_M) =>
          ce_b1 (f_L_sum M71 0) (fun (q73 : Int64) =>
          if (lg_cmp q73 q33) = 0 then
            ce_nm (x2 + 1) (fun (x78 : Int32) =>
            rec M71 1 x78)
          else
            ce_nm (x2 + 1) (fun (x76 : Int32) =>
            rec M71 0 x76))) (fun (u72 : ce_M → Option Unit) =>
                    if x69 = 60 then
                      u72 M63
                    else
                      ce_b2 (f0_L_back M63 0) (fun (M82 : ce_M) (x83 : Int32) =>
                      if x83 < 0 then
                        ce_nm (x2 + 1) (fun (x86 : Int32) =>
                        rec M82 0 x86)
                      else
                        u72 M82)))))))))))
        else
          ce_nm (x2 + 1) (fun (x31 : Int32) =>
          rec M24 x25 x31)) (fun (u26 : ce_M → Int32 → Option Unit) =>
      ce_nm (fun (M22 : ce_M) =>
      u26 M22 0) (fun (u23 : ce_M → Option Unit) =>
      if x20 = 0 then
        u23 M19
      else
        ce_b1 (f_L_fits M19 0 (x13 ^^^ x15)) (fun (x91 : Int32) =>
        if x91 = 0 then
          u23 M19
        else
          ce_nm (fun (M94 : ce_M) =>
      if (x2 - x2 / 3 * 3) = 1 then
        ce_b1 (f0_L_whole M94 0 0) (fun (x97 : Int32) =>
        ce_b1 (f_L_low M94 (x15 >>> (5 &&& 31)) x97) (fun (x99 : Int32) =>
        ce_b2 (f_L_comesTrue M94 0 x99) (fun (M101 : ce_M) (x102 : Int32) =>
        if x102 = 0 then
          u23 M101
        else
          u26 M101 1)))
      else
        u26 M94 1) (fun (u95 : ce_M → Option Unit) =>
          if (x2 - x2 / 7 * 7) = 5 then
            ce_b2 (f_L_refused M19 0) (fun (M107 : ce_M) (x108 : Int32) =>
            if x108 = 0 then
              u23 M107
            else
              u95 M107)
          else
            u95 M19)))))))))
set_option maxRecDepth 100000 in
set_option maxHeartbeats 40000000 in
theorem law_t {p : Program} {e : Env} {s : State} {m : MethodId} {below : List Frame} {meth : Method} {c : Code} (l : Launch) (hfl : l.stackTraces = false) {sb : Nat} {X : ce_X} {G : ce_G} {b : Nat} (hx : p.tables.exec = Jvm.exec) (hb : c.code = code) (hr : meth.sig.returnType = ret) (hlocks : meth.locks = false) (hml : c.maxLocals = 8) (hown : s.vm.findClass RL = some m.cls) (hB : ∀ w ∈ ce_big, w.before #[Value.ref sb] s = true) (hF : ce_Fx X G b s) (hbs : b = s.heap.size) :
    ∀ (n : Nat) (M1 : ce_M) (x1 x2 : Int32), ce_lp3 (f_L_law_L104 G.2.2.2.1 G.2.2.2.2) n M1 x1 x2 = some () → ∀ (cl sl : Nat), cl + 80 * n + 100 ≤ 600130 → sl + 480 * n + 600 ≤ 7301080 → ce_Wg p l e room_1 s m #[Value.ref sb] below meth c cl sl (lw_Z below #[Value.ref sb] s) X b M1 8 [(0, .ref G.2.2.1), (1, .ref (b + 0)), (2, .int x1), (3, .int x2)] 104 [] := by
  have hK := hF.1
  intro n
  induction n with
  | zero => intro M1 x1 x2 h; cases h
  | succ n ih =>
    intro M1 x1 x2 h cl sl hcl hsl H locs ls hA hS hl
    have h : f_L_law_L104 G.2.2.2.1 G.2.2.2.2 (ce_lp3 (f_L_law_L104 G.2.2.2.1 G.2.2.2.2) n) M1 x1 x2 = some () := h
    unfold f_L_law_L104 at h
    refine lv_iload_n hx hb dL_law_104 rfl (lv_at hl 3 rfl) ?_
    refine lv_bipush (v := 40) hx hb dL_law_105 (by decide) ?_
    obtain ⟨u3, e10, h⟩ := ce_nm_e h
    have Ju3 : ∀ (z4 : Unit), u3 z4 = some () → ce_Wg p l e room_1 s m #[Value.ref sb] below meth c (cl + 0) (sl + 0) (lw_Z below #[Value.ref sb] s) X b M1 8 [(1, .ref (b + 0)), (2, .int x1)] 329 [] := by
      intro z4 h  H locs ls hA hS hl
      subst e10
      refine lv_iload_n hx hb dL_law_329 rfl (lv_at hl 1 rfl) ?_
      refine lv_if_eq (tgt := 344) hx hb dL_law_330 (by decide) (fun c5 => ?_) (fun c5 => ?_)
      · have h := ce_it c5 h
        refine lv_iconst (v := 0) hx hb dL_law_344 (by decide) ?_
        cases h
      · have h := ce_ie c5 h
        refine lv_aload_n hx hb dL_law_333 rfl (lv_at hl 0 rfl) ?_
        obtain ⟨M6, x7, g8, h⟩ := ce_b2_e h
        refine ce_callCi (As := [.ref (b + 0)]) (rest := []) hx hb hml hown hB (c_L_refused l hfl X G b ce_k0 g8) ce_s_L_refused ce_w693 ⟨Nat.le_of_ble_eq_true rfl, Nat.le_of_ble_eq_true rfl⟩ hF hA hS hl rfl rfl (Nat.le_of_ble_eq_true rfl) dL_law_334 ⟨(by show _ ≤ 600130; omega), (by show _ ≤ 7301080; omega)⟩ (fun H locs hA hS => ?_)
        refine lv_if_eq (tgt := 344) hx hb dL_law_337 (by decide) (fun c9 => ?_) (fun c9 => ?_)
        · have h := ce_it c9 h
          refine lv_iconst (v := 0) hx hb dL_law_344 (by decide) ?_
          cases h
        · have h := ce_ie c9 h
          refine lv_iconst (v := 1) hx hb dL_law_340 (by decide) ?_
          refine lv_goto (tgt := 345) hx hb dL_law_341 (by decide) ?_
          refine va_forget (fun q hq => hbs ▸ (hS.2.2 q hq).1) ?_
          exact W.widen (by omega) (by omega) (lw_ret hx hb hr hlocks dL_law_345)
    refine lv_icmp_ge (tgt := 329) hx hb dL_law_107 (by decide) (fun c11 => ?_) (fun c11 => ?_)
    · have h := ce_it c11 h
      exact Ju3 () h  _ _ _ hA hS (lv_sub hl [1, 2] rfl)
    · have h := ce_ie c11 h
      refine lv_iload_n hx hb dL_law_110 rfl (lv_at hl 2 rfl) ?_
      refine lv_if_eq (tgt := 329) hx hb dL_law_111 (by decide) (fun c12 => ?_) (fun c12 => ?_)
      · have h := ce_it c12 h
        exact Ju3 () h  _ _ _ hA hS (lv_sub hl [1, 2] rfl)
      · have h := ce_ie c12 h
        refine lv_aload_n hx hb dL_law_114 rfl (lv_at hl 0 rfl) ?_
        refine lv_iconst (v := 2) hx hb dL_law_115 (by decide) ?_
        refine lv_iload_n hx hb dL_law_116 rfl (lv_at hl 3 rfl) ?_
        refine lv_imul hx hb dL_law_117 ?_
        obtain ⟨x13, g14, h⟩ := ce_b1_e h
        refine ce_callSi (As := [.ref G.2.2.1, .int (2 * x2)]) (rest := []) hx hb hml hown hB (c_L_cell l X G b  g14) ce_s_L_cell ce_w236 ⟨Nat.le_of_ble_eq_true rfl, Nat.le_of_ble_eq_true rfl⟩ hF hA hS hl rfl rfl (Nat.le_of_ble_eq_true rfl) dL_law_118 ⟨(by show _ ≤ 600130; omega), (by show _ ≤ 7301080; omega)⟩ (fun H locs hA hS => ?_)
        refine lv_istore (lv' := [(4, .int x13), (0, .ref G.2.2.1), (1, .ref (b + 0)), (2, .int x1), (3, .int x2)]) hx hb dL_law_121 hl (by decide) rfl (fun ls hl => ?_)
        refine lv_aload_n hx hb dL_law_123 rfl (lv_at hl 1 rfl) ?_
        refine lv_iconst (v := 2) hx hb dL_law_124 (by decide) ?_
        refine lv_iload_n hx hb dL_law_125 rfl (lv_at hl 4 rfl) ?_
        refine lv_imul hx hb dL_law_126 ?_
        refine lv_iconst (v := 1) hx hb dL_law_127 (by decide) ?_
        refine lv_iadd hx hb dL_law_128 ?_
        obtain ⟨x15, g16, h⟩ := ce_b1_e h
        refine ce_callSi (As := [.ref G.2.2.1, .int ((2 * x2) + 1)]) (rest := []) hx hb hml hown hB (c_L_cell l X G b  g16) ce_s_L_cell ce_w236 ⟨Nat.le_of_ble_eq_true rfl, Nat.le_of_ble_eq_true rfl⟩ hF hA hS hl rfl rfl (Nat.le_of_ble_eq_true rfl) dL_law_129 ⟨(by show _ ≤ 600130; omega), (by show _ ≤ 7301080; omega)⟩ (fun H locs hA hS => ?_)
        refine lv_istore (lv' := [(5, .int x15), (4, .int x13), (0, .ref G.2.2.1), (1, .ref (b + 0)), (2, .int x1), (3, .int x2)]) hx hb dL_law_132 hl (by decide) rfl (fun ls hl => ?_)
        refine lv_aload_n hx hb dL_law_134 rfl (lv_at hl 3 rfl) ?_
        refine lv_iload hx hb dL_law_135 (lv_at hl 1 rfl) ?_
        refine lv_iconst (v := 5) hx hb dL_law_137 (by decide) ?_
        refine lv_ishr hx hb dL_law_138 ?_
        refine lv_bipush (v := 13) hx hb dL_law_139 (by decide) ?_
        obtain ⟨x17, g18, h⟩ := ce_b1_e h
        refine ce_callSi (As := [.int (x13 >>> (5 &&& 31)), .int 13]) (rest := [.ref (b + 0)]) hx hb hml hown hB (c_L_low l X G b  g18) ce_s_L_low ce_w240 ⟨Nat.le_of_ble_eq_true rfl, Nat.le_of_ble_eq_true rfl⟩ hF hA hS hl rfl rfl (Nat.le_of_ble_eq_true rfl) dL_law_141 ⟨(by show _ ≤ 600130; omega), (by show _ ≤ 7301080; omega)⟩ (fun H locs hA hS => ?_)
        refine lv_iload hx hb dL_law_144 (lv_at hl 1 rfl) ?_
        refine lv_bipush (v := 9) hx hb dL_law_146 (by decide) ?_
        refine lv_ishr hx hb dL_law_148 ?_
        refine lv_iload hx hb dL_law_149 (lv_at hl 0 rfl) ?_
        obtain ⟨M19, x20, g21, h⟩ := ce_b2_e h
        refine ce_callCi (As := [.ref (b + 0), .int x17, .int (x13 >>> (9 &&& 31)), .int x15]) (rest := []) hx hb hml hown hB (c_L_acts l hfl X G b ce_k0 g21) ce_s_L_acts ce_w809 ⟨Nat.le_of_ble_eq_true rfl, Nat.le_of_ble_eq_true rfl⟩ hF hA hS hl rfl rfl (Nat.le_of_ble_eq_true rfl) dL_law_151 ⟨(by show _ ≤ 600130; omega), (by show _ ≤ 7301080; omega)⟩ (fun H locs hA hS => ?_)
        obtain ⟨u26, e88, h⟩ := ce_nm_e h
        have Ju26 : ∀ (M24 : ce_M) (x25 : Int32), u26 M24 x25 = some () → ce_Wg p l e room_1 s m #[Value.ref sb] below meth c (cl + 74) (sl + 454) (lw_Z below #[Value.ref sb] s) X b M24 8 [(0, .ref G.2.2.1), (1, .ref (b + 0)), (3, .int x2), (4, .int x13), (5, .int x15)] 215 [.int x25] := by
          intro M24 x25 h  H locs ls hA hS hl
          subst e88
          refine lv_istore_n (lv' := [(2, .int x25), (0, .ref G.2.2.1), (1, .ref (b + 0)), (3, .int x2), (4, .int x13), (5, .int x15)]) hx hb dL_law_215 rfl hl (by decide) rfl (fun ls hl => ?_)
          refine lv_iload_n hx hb dL_law_216 rfl (lv_at hl 0 rfl) ?_
          refine lv_if_eq (tgt := 323) hx hb dL_law_217 (by decide) (fun c27 => ?_) (fun c27 => ?_)
          · have h := ce_it c27 h
            obtain ⟨x28, e29, h⟩ := ce_nm_e h
            refine lv_iinc (v := x28) (lv' := [(3, .int x28), (2, .int x25), (0, .ref G.2.2.1), (1, .ref (b + 0)), (4, .int x13), (5, .int x15)]) hx hb dL_law_323 hl (k := 3) rfl (by rw [← e29]; rfl) (by decide) rfl (fun ls hl => ?_)
            refine lv_goto (tgt := 104) hx hb dL_law_326 (by decide) ?_
            exact ih M24 x25 x28 h _ _ (by omega) (by omega) _ _ _ hA hS (lv_sub hl [2, 3, 1, 0] rfl)
          · have h := ce_ie c27 h
            refine lv_iload_n hx hb dL_law_220 rfl (lv_at hl 3 rfl) ?_
            refine lv_iconst (v := 5) hx hb dL_law_221 (by decide) ?_
            refine lv_irem hx hb dL_law_222 (by decide) ?_
            refine lv_iconst (v := 4) hx hb dL_law_223 (by decide) ?_
            refine lv_icmp_ne (tgt := 323) hx hb dL_law_224 (by decide) (fun c30 => ?_) (fun c30 => ?_)
            · have h := ce_ie c30 h
              obtain ⟨x31, e32, h⟩ := ce_nm_e h
              refine lv_iinc (v := x31) (lv' := [(3, .int x31), (2, .int x25), (0, .ref G.2.2.1), (1, .ref (b + 0)), (4, .int x13), (5, .int x15)]) hx hb dL_law_323 hl (k := 3) rfl (by rw [← e32]; rfl) (by decide) rfl (fun ls hl => ?_)
              refine lv_goto (tgt := 104) hx hb dL_law_326 (by decide) ?_
              exact ih M24 x25 x31 h _ _ (by omega) (by omega) _ _ _ hA hS (lv_sub hl [2, 3, 1, 0] rfl)
            · have h := ce_it c30 h
              refine lv_aload_n hx hb dL_law_227 rfl (lv_at hl 2 rfl) ?_
              obtain ⟨q33, g34, h⟩ := ce_b1_e h
              refine ce_callSl (As := [.ref (b + 0)]) (rest := []) hx hb hml hown hB (c_L_sum l hfl X G b ce_k0 g34) ce_s_L_sum ce_w614 ⟨Nat.le_of_ble_eq_true rfl, Nat.le_of_ble_eq_true rfl⟩ hF hA hS hl rfl rfl (Nat.le_of_ble_eq_true rfl) dL_law_228 ⟨(by show _ ≤ 600130; omega), (by show _ ≤ 7301080; omega)⟩ (fun H locs hA hS => ?_)
              refine lv_lstore (lv' := [(6, .long q33), (2, .int x25), (0, .ref G.2.2.1), (1, .ref (b + 0)), (3, .int x2), (4, .int x13), (5, .int x15)]) hx hb dL_law_231 hl (by decide) rfl (fun ls hl => ?_)
              refine lv_aload_n hx hb dL_law_233 rfl (lv_at hl 3 rfl) ?_
              refine lv_iconst (v := 3) hx hb dL_law_234 (by decide) ?_
              refine lv_iload hx hb dL_law_235 (lv_at hl 5 rfl) ?_
              refine lv_bipush (v := 21) hx hb dL_law_237 (by decide) ?_
              obtain ⟨x35, g36, h⟩ := ce_b1_e h
              refine ce_callSi (As := [.int x13, .int 21]) (rest := [.int 3, .ref (b + 0)]) hx hb hml hown hB (c_L_low l X G b  g36) ce_s_L_low ce_w240 ⟨Nat.le_of_ble_eq_true rfl, Nat.le_of_ble_eq_true rfl⟩ hF hA hS hl rfl rfl (Nat.le_of_ble_eq_true rfl) dL_law_239 ⟨(by show _ ≤ 600130; omega), (by show _ ≤ 7301080; omega)⟩ (fun H locs hA hS => ?_)
              obtain ⟨M37, x38, g39, h⟩ := ce_b2_e h
              refine ce_callWi (As := [.ref (b + 0), .int 3, .int x35]) (rest := []) hx hb hml hown hB (c0_L_sets l hfl X G b ce_k0 g39) ce_s_L_sets ce_w558 ⟨Nat.le_of_ble_eq_true rfl, Nat.le_of_ble_eq_true rfl⟩ hF hA hS hl rfl rfl (Nat.le_of_ble_eq_true rfl) dL_law_242 ⟨(by show _ ≤ 600130; omega), (by show _ ≤ 7301080; omega)⟩ (fun H locs hA hS => ?_)
              refine lv_if_lt (tgt := 321) hx hb dL_law_245 (by decide) (fun c40 => ?_) (fun c40 => ?_)
              · have h := ce_it c40 h
                refine lv_iconst (v := 0) hx hb dL_law_321 (by decide) ?_
                refine lv_istore_n (lv' := [(2, .int 0), (6, .long q33), (0, .ref G.2.2.1), (1, .ref (b + 0)), (3, .int x2), (4, .int x13), (5, .int x15)]) hx hb dL_law_322 rfl hl (by decide) rfl (fun ls hl => ?_)
                obtain ⟨x41, e42, h⟩ := ce_nm_e h
                refine lv_iinc (v := x41) (lv' := [(3, .int x41), (2, .int 0), (6, .long q33), (0, .ref G.2.2.1), (1, .ref (b + 0)), (4, .int x13), (5, .int x15)]) hx hb dL_law_323 hl (k := 4) rfl (by rw [← e42]; rfl) (by decide) rfl (fun ls hl => ?_)
                refine lv_goto (tgt := 104) hx hb dL_law_326 (by decide) ?_
                exact ih M37 0 x41 h _ _ (by omega) (by omega) _ _ _ hA hS (lv_sub hl [3, 4, 1, 0] rfl)
              · have h := ce_ie c40 h
                refine lv_aload_n hx hb dL_law_248 rfl (lv_at hl 3 rfl) ?_
                refine lv_iconst (v := 1) hx hb dL_law_249 (by decide) ?_
                refine lv_iload hx hb dL_law_250 (lv_at hl 6 rfl) ?_
                refine lv_bipush (v := 9) hx hb dL_law_252 (by decide) ?_
                obtain ⟨x43, g44, h⟩ := ce_b1_e h
                refine ce_callSi (As := [.int x15, .int 9]) (rest := [.int 1, .ref (b + 0)]) hx hb hml hown hB (c_L_low l X G b  g44) ce_s_L_low ce_w240 ⟨Nat.le_of_ble_eq_true rfl, Nat.le_of_ble_eq_true rfl⟩ hF hA hS hl rfl rfl (Nat.le_of_ble_eq_true rfl) dL_law_254 ⟨(by show _ ≤ 600130; omega), (by show _ ≤ 7301080; omega)⟩ (fun H locs hA hS => ?_)
                refine lv_iadd hx hb dL_law_257 ?_
                obtain ⟨M45, x46, g47, h⟩ := ce_b2_e h
                refine ce_callWi (As := [.ref (b + 0), .int (1 + x43)]) (rest := []) hx hb hml hown hB (c0_L_passes l hfl X G b ce_k0 g47) ce_s_L_passes ce_w572 ⟨Nat.le_of_ble_eq_true rfl, Nat.le_of_ble_eq_true rfl⟩ hF hA hS hl rfl rfl (Nat.le_of_ble_eq_true rfl) dL_law_258 ⟨(by show _ ≤ 600130; omega), (by show _ ≤ 7301080; omega)⟩ (fun H locs hA hS => ?_)
                refine lv_if_lt (tgt := 321) hx hb dL_law_261 (by decide) (fun c48 => ?_) (fun c48 => ?_)
                · have h := ce_it c48 h
                  refine lv_iconst (v := 0) hx hb dL_law_321 (by decide) ?_
                  refine lv_istore_n (lv' := [(2, .int 0), (6, .long q33), (0, .ref G.2.2.1), (1, .ref (b + 0)), (3, .int x2), (4, .int x13), (5, .int x15)]) hx hb dL_law_322 rfl hl (by decide) rfl (fun ls hl => ?_)
                  obtain ⟨x49, e50, h⟩ := ce_nm_e h
                  refine lv_iinc (v := x49) (lv' := [(3, .int x49), (2, .int 0), (6, .long q33), (0, .ref G.2.2.1), (1, .ref (b + 0)), (4, .int x13), (5, .int x15)]) hx hb dL_law_323 hl (k := 4) rfl (by rw [← e50]; rfl) (by decide) rfl (fun ls hl => ?_)
                  refine lv_goto (tgt := 104) hx hb dL_law_326 (by decide) ?_
                  exact ih M45 0 x49 h _ _ (by omega) (by omega) _ _ _ hA hS (lv_sub hl [3, 4, 1, 0] rfl)
                · have h := ce_ie c48 h
                  refine lv_aload_n hx hb dL_law_264 rfl (lv_at hl 3 rfl) ?_
                  refine lv_iconst (v := 0) hx hb dL_law_265 (by decide) ?_
                  refine lv_iconst (v := 0) hx hb dL_law_266 (by decide) ?_
                  refine lv_iconst (v := 0) hx hb dL_law_267 (by decide) ?_
                  obtain ⟨M51, x52, g53, h⟩ := ce_b2_e h
                  refine ce_callWi (As := [.ref (b + 0), .int 0, .int 0, .int 0]) (rest := []) hx hb hml hown hB (c_L_sends l hfl X G b ce_k0 g53) ce_s_L_sends ce_w565 ⟨Nat.le_of_ble_eq_true rfl, Nat.le_of_ble_eq_true rfl⟩ hF hA hS hl rfl rfl (Nat.le_of_ble_eq_true rfl) dL_law_268 ⟨(by show _ ≤ 600130; omega), (by show _ ≤ 7301080; omega)⟩ (fun H locs hA hS => ?_)
                  refine lv_ldc (v := (-900000002)) hx hb hown (hB _ ce_w557) dL_law_271 ?_
                  refine lv_icmp_lt (tgt := 321) hx hb dL_law_273 (by decide) (fun c54 => ?_) (fun c54 => ?_)
                  · have h := ce_it c54 h
                    refine lv_iconst (v := 0) hx hb dL_law_321 (by decide) ?_
                    refine lv_istore_n (lv' := [(2, .int 0), (6, .long q33), (0, .ref G.2.2.1), (1, .ref (b + 0)), (3, .int x2), (4, .int x13), (5, .int x15)]) hx hb dL_law_322 rfl hl (by decide) rfl (fun ls hl => ?_)
                    obtain ⟨x55, e56, h⟩ := ce_nm_e h
                    refine lv_iinc (v := x55) (lv' := [(3, .int x55), (2, .int 0), (6, .long q33), (0, .ref G.2.2.1), (1, .ref (b + 0)), (4, .int x13), (5, .int x15)]) hx hb dL_law_323 hl (k := 4) rfl (by rw [← e56]; rfl) (by decide) rfl (fun ls hl => ?_)
                    refine lv_goto (tgt := 104) hx hb dL_law_326 (by decide) ?_
                    exact ih M51 0 x55 h _ _ (by omega) (by omega) _ _ _ hA hS (lv_sub hl [3, 4, 1, 0] rfl)
                  · have h := ce_ie c54 h
                    refine lv_aload_n hx hb dL_law_276 rfl (lv_at hl 3 rfl) ?_
                    obtain ⟨M57, x58, g59, h⟩ := ce_b2_e h
                    refine ce_callWi (As := [.ref (b + 0)]) (rest := []) hx hb hml hown hB (c0_L_back l hfl X G b ce_k0 g59) ce_s_L_back ce_w603 ⟨Nat.le_of_ble_eq_true rfl, Nat.le_of_ble_eq_true rfl⟩ hF hA hS hl rfl rfl (Nat.le_of_ble_eq_true rfl) dL_law_277 ⟨(by show _ ≤ 600130; omega), (by show _ ≤ 7301080; omega)⟩ (fun H locs hA hS => ?_)
                    refine lv_if_lt (tgt := 321) hx hb dL_law_280 (by decide) (fun c60 => ?_) (fun c60 => ?_)
                    · have h := ce_it c60 h
                      refine lv_iconst (v := 0) hx hb dL_law_321 (by decide) ?_
                      refine lv_istore_n (lv' := [(2, .int 0), (6, .long q33), (0, .ref G.2.2.1), (1, .ref (b + 0)), (3, .int x2), (4, .int x13), (5, .int x15)]) hx hb dL_law_322 rfl hl (by decide) rfl (fun ls hl => ?_)
                      obtain ⟨x61, e62, h⟩ := ce_nm_e h
                      refine lv_iinc (v := x61) (lv' := [(3, .int x61), (2, .int 0), (6, .long q33), (0, .ref G.2.2.1), (1, .ref (b + 0)), (4, .int x13), (5, .int x15)]) hx hb dL_law_323 hl (k := 4) rfl (by rw [← e62]; rfl) (by decide) rfl (fun ls hl => ?_)
                      refine lv_goto (tgt := 104) hx hb dL_law_326 (by decide) ?_
                      exact ih M57 0 x61 h _ _ (by omega) (by omega) _ _ _ hA hS (lv_sub hl [3, 4, 1, 0] rfl)
                    · have h := ce_ie c60 h
                      refine lv_aload_n hx hb dL_law_283 rfl (lv_at hl 3 rfl) ?_
                      obtain ⟨M63, x64, g65, h⟩ := ce_b2_e h
                      refine ce_callWi (As := [.ref (b + 0)]) (rest := []) hx hb hml hown hB (c0_L_back l hfl X G b ce_k0 g65) ce_s_L_back ce_w603 ⟨Nat.le_of_ble_eq_true rfl, Nat.le_of_ble_eq_true rfl⟩ hF hA hS hl rfl rfl (Nat.le_of_ble_eq_true rfl) dL_law_284 ⟨(by show _ ≤ 600130; omega), (by show _ ≤ 7301080; omega)⟩ (fun H locs hA hS => ?_)
                      refine lv_if_lt (tgt := 321) hx hb dL_law_287 (by decide) (fun c66 => ?_) (fun c66 => ?_)
                      · have h := ce_it c66 h
                        refine lv_iconst (v := 0) hx hb dL_law_321 (by decide) ?_
                        refine lv_istore_n (lv' := [(2, .int 0), (6, .long q33), (0, .ref G.2.2.1), (1, .ref (b + 0)), (3, .int x2), (4, .int x13), (5, .int x15)]) hx hb dL_law_322 rfl hl (by decide) rfl (fun ls hl => ?_)
                        obtain ⟨x67, e68, h⟩ := ce_nm_e h
                        refine lv_iinc (v := x67) (lv' := [(3, .int x67), (2, .int 0), (6, .long q33), (0, .ref G.2.2.1), (1, .ref (b + 0)), (4, .int x13), (5, .int x15)]) hx hb dL_law_323 hl (k := 4) rfl (by rw [← e68]; rfl) (by decide) rfl (fun ls hl => ?_)
                        refine lv_goto (tgt := 104) hx hb dL_law_326 (by decide) ?_
                        exact ih M63 0 x67 h _ _ (by omega) (by omega) _ _ _ hA hS (lv_sub hl [3, 4, 1, 0] rfl)
                      · have h := ce_ie c66 h
                        refine lv_aload_n hx hb dL_law_290 rfl (lv_at hl 3 rfl) ?_
                        refine lv_iconst (v := 2) hx hb dL_law_291 (by decide) ?_
                        obtain ⟨x69, g70, h⟩ := ce_b1_e h
                        refine ce_callWi (As := [.ref (b + 0), .int 2]) (rest := []) hx hb hml hown hB (c0_L_whole l hfl X G b ce_k0 g70) ce_s_L_whole ce_w579 ⟨Nat.le_of_ble_eq_true rfl, Nat.le_of_ble_eq_true rfl⟩ hF hA hS hl rfl rfl (Nat.le_of_ble_eq_true rfl) dL_law_292 ⟨(by show _ ≤ 600130; omega), (by show _ ≤ 7301080; omega)⟩ (fun H locs hA hS => ?_)
                        refine lv_bipush (v := 60) hx hb dL_law_295 (by decide) ?_
                        obtain ⟨u72, e80, h⟩ := ce_nm_e h
                        have Ju72 : ∀ (M71 : ce_M), u72 M71 = some () → ce_Wg p l e room_1 s m #[Value.ref sb] below meth c (cl + 77) (sl + 472) (lw_Z below #[Value.ref sb] s) X b M71 8 [(0, .ref G.2.2.1), (1, .ref (b + 0)), (3, .int x2), (6, .long q33)] 307 [] := by
                          intro M71 h  H locs ls hA hS hl
                          subst e80
                          refine lv_aload_n hx hb dL_law_307 rfl (lv_at hl 1 rfl) ?_
                          obtain ⟨q73, g74, h⟩ := ce_b1_e h
                          refine ce_callSl (As := [.ref (b + 0)]) (rest := []) hx hb hml hown hB (c_L_sum l hfl X G b ce_k0 g74) ce_s_L_sum ce_w614 ⟨Nat.le_of_ble_eq_true rfl, Nat.le_of_ble_eq_true rfl⟩ hF hA hS hl rfl rfl (Nat.le_of_ble_eq_true rfl) dL_law_308 ⟨(by show _ ≤ 600130; omega), (by show _ ≤ 7301080; omega)⟩ (fun H locs hA hS => ?_)
                          refine lv_lload hx hb dL_law_311 (lv_at hl 3 rfl) ?_
                          refine W.lcmp hx hb dL_law_313 ?_
                          refine lv_if_ne (tgt := 321) hx hb dL_law_314 (by decide) (fun c75 => ?_) (fun c75 => ?_)
                          · have h := ce_ie c75 h
                            refine lv_iconst (v := 0) hx hb dL_law_321 (by decide) ?_
                            refine lv_istore_n (lv' := [(2, .int 0), (0, .ref G.2.2.1), (1, .ref (b + 0)), (3, .int x2), (6, .long q33)]) hx hb dL_law_322 rfl hl (by decide) rfl (fun ls hl => ?_)
                            obtain ⟨x76, e77, h⟩ := ce_nm_e h
                            refine lv_iinc (v := x76) (lv' := [(3, .int x76), (2, .int 0), (0, .ref G.2.2.1), (1, .ref (b + 0)), (6, .long q33)]) hx hb dL_law_323 hl (k := 3) rfl (by rw [← e77]; rfl) (by decide) rfl (fun ls hl => ?_)
                            refine lv_goto (tgt := 104) hx hb dL_law_326 (by decide) ?_
                            exact ih M71 0 x76 h _ _ (by omega) (by omega) _ _ _ hA hS (lv_sub hl [2, 3, 1, 0] rfl)
                          · have h := ce_it c75 h
                            refine lv_iconst (v := 1) hx hb dL_law_317 (by decide) ?_
                            refine lv_goto (tgt := 322) hx hb dL_law_318 (by decide) ?_
                            refine lv_istore_n (lv' := [(2, .int 1), (0, .ref G.2.2.1), (1, .ref (b + 0)), (3, .int x2), (6, .long q33)]) hx hb dL_law_322 rfl hl (by decide) rfl (fun ls hl => ?_)
                            obtain ⟨x78, e79, h⟩ := ce_nm_e h
                            refine lv_iinc (v := x78) (lv' := [(3, .int x78), (2, .int 1), (0, .ref G.2.2.1), (1, .ref (b + 0)), (6, .long q33)]) hx hb dL_law_323 hl (k := 3) rfl (by rw [← e79]; rfl) (by decide) rfl (fun ls hl => ?_)
                            refine lv_goto (tgt := 104) hx hb dL_law_326 (by decide) ?_
                            exact ih M71 1 x78 h _ _ (by omega) (by omega) _ _ _ hA hS (lv_sub hl [2, 3, 1, 0] rfl)
                        refine lv_icmp_eq (tgt := 307) hx hb dL_law_297 (by decide) (fun c81 => ?_) (fun c81 => ?_)
                        · have h := ce_it c81 h
                          exact Ju72 M63 h  _ _ _ hA hS (lv_sub hl [2, 3, 4, 0] rfl)
                        · have h := ce_ie c81 h
                          refine lv_aload_n hx hb dL_law_300 rfl (lv_at hl 3 rfl) ?_
                          obtain ⟨M82, x83, g84, h⟩ := ce_b2_e h
                          refine ce_callWi (As := [.ref (b + 0)]) (rest := []) hx hb hml hown hB (c0_L_back l hfl X G b ce_k0 g84) ce_s_L_back ce_w603 ⟨Nat.le_of_ble_eq_true rfl, Nat.le_of_ble_eq_true rfl⟩ hF hA hS hl rfl rfl (Nat.le_of_ble_eq_true rfl) dL_law_301 ⟨(by show _ ≤ 600130; omega), (by show _ ≤ 7301080; omega)⟩ (fun H locs hA hS => ?_)
                          refine lv_if_lt (tgt := 321) hx hb dL_law_304 (by decide) (fun c85 => ?_) (fun c85 => ?_)
                          · have h := ce_it c85 h
                            refine lv_iconst (v := 0) hx hb dL_law_321 (by decide) ?_
                            refine lv_istore_n (lv' := [(2, .int 0), (6, .long q33), (0, .ref G.2.2.1), (1, .ref (b + 0)), (3, .int x2), (4, .int x13), (5, .int x15)]) hx hb dL_law_322 rfl hl (by decide) rfl (fun ls hl => ?_)
                            obtain ⟨x86, e87, h⟩ := ce_nm_e h
                            refine lv_iinc (v := x86) (lv' := [(3, .int x86), (2, .int 0), (6, .long q33), (0, .ref G.2.2.1), (1, .ref (b + 0)), (4, .int x13), (5, .int x15)]) hx hb dL_law_323 hl (k := 4) rfl (by rw [← e87]; rfl) (by decide) rfl (fun ls hl => ?_)
                            refine lv_goto (tgt := 104) hx hb dL_law_326 (by decide) ?_
                            exact ih M82 0 x86 h _ _ (by omega) (by omega) _ _ _ hA hS (lv_sub hl [3, 4, 1, 0] rfl)
                          · have h := ce_ie c85 h
                            exact Ju72 M82 h  _ _ _ hA hS (lv_sub hl [2, 3, 4, 0] rfl)
        obtain ⟨u23, e89, h⟩ := ce_nm_e h
        have Ju23 : ∀ (M22 : ce_M), u23 M22 = some () → ce_Wg p l e room_1 s m #[Value.ref sb] below meth c (cl + 74) (sl + 454) (lw_Z below #[Value.ref sb] s) X b M22 8 [(0, .ref G.2.2.1), (1, .ref (b + 0)), (3, .int x2), (4, .int x13), (5, .int x15)] 214 [] := by
          intro M22 h  H locs ls hA hS hl
          subst e89
          refine lv_iconst (v := 0) hx hb dL_law_214 (by decide) ?_
          exact Ju26 M22 0 h  _ _ _ hA hS (lv_sub hl [0, 1, 2, 3, 4] rfl)
        refine lv_if_eq (tgt := 214) hx hb dL_law_154 (by decide) (fun c90 => ?_) (fun c90 => ?_)
        · have h := ce_it c90 h
          exact W.widen (k := cl + 74) (n := sl + 454) (by omega) (by omega) (Ju23 M19 h  _ _ _ hA hS (lv_sub hl [2, 3, 5, 1, 0] rfl))
        · have h := ce_ie c90 h
          refine lv_aload_n hx hb dL_law_157 rfl (lv_at hl 3 rfl) ?_
          refine lv_iload hx hb dL_law_158 (lv_at hl 1 rfl) ?_
          refine lv_iload hx hb dL_law_160 (lv_at hl 0 rfl) ?_
          refine lv_ixor hx hb dL_law_162 ?_
          obtain ⟨x91, g92, h⟩ := ce_b1_e h
          refine ce_callSi (As := [.ref (b + 0), .int (x13 ^^^ x15)]) (rest := []) hx hb hml hown hB (c_L_fits l hfl X G b ce_k0 g92) ce_s_L_fits ce_w791 ⟨Nat.le_of_ble_eq_true rfl, Nat.le_of_ble_eq_true rfl⟩ hF hA hS hl rfl rfl (Nat.le_of_ble_eq_true rfl) dL_law_163 ⟨(by show _ ≤ 600130; omega), (by show _ ≤ 7301080; omega)⟩ (fun H locs hA hS => ?_)
          refine lv_if_eq (tgt := 214) hx hb dL_law_166 (by decide) (fun c93 => ?_) (fun c93 => ?_)
          · have h := ce_it c93 h
            exact W.widen (k := cl + 74) (n := sl + 454) (by omega) (by omega) (Ju23 M19 h  _ _ _ hA hS (lv_sub hl [2, 3, 5, 1, 0] rfl))
          · have h := ce_ie c93 h
            refine lv_iload_n hx hb dL_law_169 rfl (lv_at hl 5 rfl) ?_
            refine lv_bipush (v := 7) hx hb dL_law_170 (by decide) ?_
            refine lv_irem hx hb dL_law_172 (by decide) ?_
            refine lv_iconst (v := 5) hx hb dL_law_173 (by decide) ?_
            obtain ⟨u95, e105, h⟩ := ce_nm_e h
            have Ju95 : ∀ (M94 : ce_M), u95 M94 = some () → ce_Wg p l e room_1 s m #[Value.ref sb] below meth c (cl + 74) (sl + 454) (lw_Z below #[Value.ref sb] s) X b M94 8 [(0, .ref G.2.2.1), (1, .ref (b + 0)), (3, .int x2), (4, .int x13), (5, .int x15)] 184 [] := by
              intro M94 h  H locs ls hA hS hl
              subst e105
              refine lv_iload_n hx hb dL_law_184 rfl (lv_at hl 2 rfl) ?_
              refine lv_iconst (v := 3) hx hb dL_law_185 (by decide) ?_
              refine lv_irem hx hb dL_law_186 (by decide) ?_
              refine lv_iconst (v := 1) hx hb dL_law_187 (by decide) ?_
              refine lv_icmp_ne (tgt := 210) hx hb dL_law_188 (by decide) (fun c96 => ?_) (fun c96 => ?_)
              · have h := ce_ie c96 h
                refine lv_iconst (v := 1) hx hb dL_law_210 (by decide) ?_
                refine lv_goto (tgt := 215) hx hb dL_law_211 (by decide) ?_
                exact Ju26 M94 1 h  _ _ _ hA hS (lv_sub hl [0, 1, 2, 3, 4] rfl)
              · have h := ce_it c96 h
                refine lv_aload_n hx hb dL_law_191 rfl (lv_at hl 1 rfl) ?_
                refine lv_iload hx hb dL_law_192 (lv_at hl 4 rfl) ?_
                refine lv_iconst (v := 5) hx hb dL_law_194 (by decide) ?_
                refine lv_ishr hx hb dL_law_195 ?_
                refine lv_aload_n hx hb dL_law_196 rfl (lv_at hl 1 rfl) ?_
                refine lv_iconst (v := 0) hx hb dL_law_197 (by decide) ?_
                obtain ⟨x97, g98, h⟩ := ce_b1_e h
                refine ce_callWi (As := [.ref (b + 0), .int 0]) (rest := [.int (x15 >>> (5 &&& 31)), .ref (b + 0)]) hx hb hml hown hB (c0_L_whole l hfl X G b ce_k0 g98) ce_s_L_whole ce_w579 ⟨Nat.le_of_ble_eq_true rfl, Nat.le_of_ble_eq_true rfl⟩ hF hA hS hl rfl rfl (Nat.le_of_ble_eq_true rfl) dL_law_198 ⟨(by show _ ≤ 600130; omega), (by show _ ≤ 7301080; omega)⟩ (fun H locs hA hS => ?_)
                obtain ⟨x99, g100, h⟩ := ce_b1_e h
                refine ce_callSi (As := [.int (x15 >>> (5 &&& 31)), .int x97]) (rest := [.ref (b + 0)]) hx hb hml hown hB (c_L_low l X G b  g100) ce_s_L_low ce_w240 ⟨Nat.le_of_ble_eq_true rfl, Nat.le_of_ble_eq_true rfl⟩ hF hA hS hl rfl rfl (Nat.le_of_ble_eq_true rfl) dL_law_201 ⟨(by show _ ≤ 600130; omega), (by show _ ≤ 7301080; omega)⟩ (fun H locs hA hS => ?_)
                obtain ⟨M101, x102, g103, h⟩ := ce_b2_e h
                refine ce_callSi (As := [.ref (b + 0), .int x99]) (rest := []) hx hb hml hown hB (c_L_comesTrue l hfl X G b ce_k0 g103) ce_s_L_comesTrue ce_w806 ⟨Nat.le_of_ble_eq_true rfl, Nat.le_of_ble_eq_true rfl⟩ hF hA hS hl rfl rfl (Nat.le_of_ble_eq_true rfl) dL_law_204 ⟨(by show _ ≤ 600130; omega), (by show _ ≤ 7301080; omega)⟩ (fun H locs hA hS => ?_)
                refine lv_if_eq (tgt := 214) hx hb dL_law_207 (by decide) (fun c104 => ?_) (fun c104 => ?_)
                · have h := ce_it c104 h
                  exact Ju23 M101 h  _ _ _ hA hS (lv_sub hl [0, 1, 2, 3, 4] rfl)
                · have h := ce_ie c104 h
                  refine lv_iconst (v := 1) hx hb dL_law_210 (by decide) ?_
                  refine lv_goto (tgt := 215) hx hb dL_law_211 (by decide) ?_
                  exact Ju26 M101 1 h  _ _ _ hA hS (lv_sub hl [0, 1, 2, 3, 4] rfl)
            refine lv_icmp_ne (tgt := 184) hx hb dL_law_174 (by decide) (fun c106 => ?_) (fun c106 => ?_)
            · have h := ce_ie c106 h
              exact W.widen (k := cl + 74) (n := sl + 454) (by omega) (by omega) (Ju95 M19 h  _ _ _ hA hS (lv_sub hl [2, 3, 5, 1, 0] rfl))
            · have h := ce_it c106 h
              refine lv_aload_n hx hb dL_law_177 rfl (lv_at hl 3 rfl) ?_
              obtain ⟨M107, x108, g109, h⟩ := ce_b2_e h
              refine ce_callCi (As := [.ref (b + 0)]) (rest := []) hx hb hml hown hB (c_L_refused l hfl X G b ce_k0 g109) ce_s_L_refused ce_w693 ⟨Nat.le_of_ble_eq_true rfl, Nat.le_of_ble_eq_true rfl⟩ hF hA hS hl rfl rfl (Nat.le_of_ble_eq_true rfl) dL_law_178 ⟨(by show _ ≤ 600130; omega), (by show _ ≤ 7301080; omega)⟩ (fun H locs hA hS => ?_)
              refine lv_if_eq (tgt := 214) hx hb dL_law_181 (by decide) (fun c110 => ?_) (fun c110 => ?_)
              · have h := ce_it c110 h
                exact Ju23 M107 h  _ _ _ hA hS (lv_sub hl [2, 3, 5, 1, 0] rfl)
              · have h := ce_ie c110 h
                exact Ju95 M107 h  _ _ _ hA hS (lv_sub hl [2, 3, 5, 1, 0] rfl)
def f_L_law_L40 (L : Nat) (xs : Nat → Int32) (rec : ce_M → Int32 → Int32 → Option Unit) (M1 : ce_M) (x1 : Int32) (x2 : Int32) : Option Unit :=
  if 3 ≤ x2 then
    ce_lp3 (f_L_law_L104 L xs) 60 M1 x1 0
  else
    if x1 = 0 then
      ce_lp3 (f_L_law_L104 L xs) 60 M1 x1 0
    else
      ce_b1 (f_L_cell M1 (80 + x2) L xs) (fun (x5 : Int32) =>
      ce_b1 (f_L_low M1 x5 2) (fun (x7 : Int32) =>
      ce_b1 (f_L_low M1 (x5 >>> (2 &&& 31)) 3) (fun (x9 : Int32) =>
      ce_b1 (f_L_low M1 (x5 >>> (4 &&& 31)) 16) (fun (x11 : Int32) =>
      ce_b2 (f0_L_joins M1 0 x7 x9 x11) (fun (M13 : ce_M) (x14 : Int32) =>
      if x14 = x2 then
        ce_nm (x2 + 1) (fun (x19 : Int32) =>
        rec M13 1 x19)
      else
        ce_nm (x2 + 1) (fun (x17 : Int32) =>
        rec M13 0 x17))))))
set_option maxRecDepth 100000 in
set_option maxHeartbeats 40000000 in
theorem law_k {p : Program} {e : Env} {s : State} {m : MethodId} {below : List Frame} {meth : Method} {c : Code} (l : Launch) (hfl : l.stackTraces = false) {sb : Nat} {X : ce_X} {G : ce_G} {b : Nat} (hx : p.tables.exec = Jvm.exec) (hb : c.code = code) (hr : meth.sig.returnType = ret) (hlocks : meth.locks = false) (hml : c.maxLocals = 8) (hown : s.vm.findClass RL = some m.cls) (hB : ∀ w ∈ ce_big, w.before #[Value.ref sb] s = true) (hF : ce_Fx X G b s) (hbs : b = s.heap.size) :
    ∀ (n : Nat) (M1 : ce_M) (x1 x2 : Int32), ce_lp3 (f_L_law_L40 G.2.2.2.1 G.2.2.2.2) n M1 x1 x2 = some () → ∀ (cl sl : Nat), cl + 80 * n + 4900 ≤ 600130 → sl + 480 * n + 29400 ≤ 7301080 → ce_Wg p l e room_1 s m #[Value.ref sb] below meth c cl sl (lw_Z below #[Value.ref sb] s) X b M1 8 [(0, .ref G.2.2.1), (1, .ref (b + 0)), (2, .int x1), (3, .int x2)] 40 [] := by
  have hK := hF.1
  intro n
  induction n with
  | zero => intro M1 x1 x2 h; cases h
  | succ n ih =>
    intro M1 x1 x2 h cl sl hcl hsl H locs ls hA hS hl
    have h : f_L_law_L40 G.2.2.2.1 G.2.2.2.2 (ce_lp3 (f_L_law_L40 G.2.2.2.1 G.2.2.2.2) n) M1 x1 x2 = some () := h
    unfold f_L_law_L40 at h
    refine lv_iload_n hx hb dL_law_40 rfl (lv_at hl 3 rfl) ?_
    refine lv_iconst (v := 3) hx hb dL_law_41 (by decide) ?_
    refine lv_icmp_ge (tgt := 102) hx hb dL_law_42 (by decide) (fun c3 => ?_) (fun c3 => ?_)
    · have h := ce_it c3 h
      refine lv_iconst (v := 0) hx hb dL_law_102 (by decide) ?_
      refine lv_istore_n (lv' := [(3, .int 0), (0, .ref G.2.2.1), (1, .ref (b + 0)), (2, .int x1)]) hx hb dL_law_103 rfl hl (by decide) rfl (fun ls hl => ?_)
      exact law_t l hfl hx hb hr hlocks hml hown hB hF hbs 60 M1 x1 0 h (cl + 0) (sl + 0) (by omega) (by omega) _ _ _ hA hS (lv_sub hl [1, 2, 3, 0] rfl)
    · have h := ce_ie c3 h
      refine lv_iload_n hx hb dL_law_45 rfl (lv_at hl 2 rfl) ?_
      refine lv_if_eq (tgt := 102) hx hb dL_law_46 (by decide) (fun c4 => ?_) (fun c4 => ?_)
      · have h := ce_it c4 h
        refine lv_iconst (v := 0) hx hb dL_law_102 (by decide) ?_
        refine lv_istore_n (lv' := [(3, .int 0), (0, .ref G.2.2.1), (1, .ref (b + 0)), (2, .int x1)]) hx hb dL_law_103 rfl hl (by decide) rfl (fun ls hl => ?_)
        exact law_t l hfl hx hb hr hlocks hml hown hB hF hbs 60 M1 x1 0 h (cl + 0) (sl + 0) (by omega) (by omega) _ _ _ hA hS (lv_sub hl [1, 2, 3, 0] rfl)
      · have h := ce_ie c4 h
        refine lv_aload_n hx hb dL_law_49 rfl (lv_at hl 0 rfl) ?_
        refine lv_bipush (v := 80) hx hb dL_law_50 (by decide) ?_
        refine lv_iload_n hx hb dL_law_52 rfl (lv_at hl 3 rfl) ?_
        refine lv_iadd hx hb dL_law_53 ?_
        obtain ⟨x5, g6, h⟩ := ce_b1_e h
        refine ce_callSi (As := [.ref G.2.2.1, .int (80 + x2)]) (rest := []) hx hb hml hown hB (c_L_cell l X G b  g6) ce_s_L_cell ce_w236 ⟨Nat.le_of_ble_eq_true rfl, Nat.le_of_ble_eq_true rfl⟩ hF hA hS hl rfl rfl (Nat.le_of_ble_eq_true rfl) dL_law_54 ⟨(by show _ ≤ 600130; omega), (by show _ ≤ 7301080; omega)⟩ (fun H locs hA hS => ?_)
        refine lv_istore (lv' := [(4, .int x5), (0, .ref G.2.2.1), (1, .ref (b + 0)), (2, .int x1), (3, .int x2)]) hx hb dL_law_57 hl (by decide) rfl (fun ls hl => ?_)
        refine lv_aload_n hx hb dL_law_59 rfl (lv_at hl 2 rfl) ?_
        refine lv_iload hx hb dL_law_60 (lv_at hl 0 rfl) ?_
        refine lv_iconst (v := 2) hx hb dL_law_62 (by decide) ?_
        obtain ⟨x7, g8, h⟩ := ce_b1_e h
        refine ce_callSi (As := [.int x5, .int 2]) (rest := [.ref (b + 0)]) hx hb hml hown hB (c_L_low l X G b  g8) ce_s_L_low ce_w240 ⟨Nat.le_of_ble_eq_true rfl, Nat.le_of_ble_eq_true rfl⟩ hF hA hS hl rfl rfl (Nat.le_of_ble_eq_true rfl) dL_law_63 ⟨(by show _ ≤ 600130; omega), (by show _ ≤ 7301080; omega)⟩ (fun H locs hA hS => ?_)
        refine lv_iload hx hb dL_law_66 (lv_at hl 0 rfl) ?_
        refine lv_iconst (v := 2) hx hb dL_law_68 (by decide) ?_
        refine lv_ishr hx hb dL_law_69 ?_
        refine lv_iconst (v := 3) hx hb dL_law_70 (by decide) ?_
        obtain ⟨x9, g10, h⟩ := ce_b1_e h
        refine ce_callSi (As := [.int (x5 >>> (2 &&& 31)), .int 3]) (rest := [.int x7, .ref (b + 0)]) hx hb hml hown hB (c_L_low l X G b  g10) ce_s_L_low ce_w240 ⟨Nat.le_of_ble_eq_true rfl, Nat.le_of_ble_eq_true rfl⟩ hF hA hS hl rfl rfl (Nat.le_of_ble_eq_true rfl) dL_law_71 ⟨(by show _ ≤ 600130; omega), (by show _ ≤ 7301080; omega)⟩ (fun H locs hA hS => ?_)
        refine lv_iload hx hb dL_law_74 (lv_at hl 0 rfl) ?_
        refine lv_iconst (v := 4) hx hb dL_law_76 (by decide) ?_
        refine lv_ishr hx hb dL_law_77 ?_
        refine lv_bipush (v := 16) hx hb dL_law_78 (by decide) ?_
        obtain ⟨x11, g12, h⟩ := ce_b1_e h
        refine ce_callSi (As := [.int (x5 >>> (4 &&& 31)), .int 16]) (rest := [.int x9, .int x7, .ref (b + 0)]) hx hb hml hown hB (c_L_low l X G b  g12) ce_s_L_low ce_w240 ⟨Nat.le_of_ble_eq_true rfl, Nat.le_of_ble_eq_true rfl⟩ hF hA hS hl rfl rfl (Nat.le_of_ble_eq_true rfl) dL_law_80 ⟨(by show _ ≤ 600130; omega), (by show _ ≤ 7301080; omega)⟩ (fun H locs hA hS => ?_)
        obtain ⟨M13, x14, g15, h⟩ := ce_b2_e h
        refine ce_callWi (As := [.ref (b + 0), .int x7, .int x9, .int x11]) (rest := []) hx hb hml hown hB (c0_L_joins l hfl X G b ce_k0 g15) ce_s_L_joins ce_w244 ⟨Nat.le_of_ble_eq_true rfl, Nat.le_of_ble_eq_true rfl⟩ hF hA hS hl rfl rfl (Nat.le_of_ble_eq_true rfl) dL_law_83 ⟨(by show _ ≤ 600130; omega), (by show _ ≤ 7301080; omega)⟩ (fun H locs hA hS => ?_)
        refine lv_iload_n hx hb dL_law_86 rfl (lv_at hl 4 rfl) ?_
        refine lv_icmp_ne (tgt := 94) hx hb dL_law_87 (by decide) (fun c16 => ?_) (fun c16 => ?_)
        · have h := ce_ie c16 h
          refine lv_iconst (v := 0) hx hb dL_law_94 (by decide) ?_
          refine lv_istore_n (lv' := [(2, .int 0), (4, .int x5), (0, .ref G.2.2.1), (1, .ref (b + 0)), (3, .int x2)]) hx hb dL_law_95 rfl hl (by decide) rfl (fun ls hl => ?_)
          obtain ⟨x17, e18, h⟩ := ce_nm_e h
          refine lv_iinc (v := x17) (lv' := [(3, .int x17), (2, .int 0), (4, .int x5), (0, .ref G.2.2.1), (1, .ref (b + 0))]) hx hb dL_law_96 hl (k := 4) rfl (by rw [← e18]; rfl) (by decide) rfl (fun ls hl => ?_)
          refine lv_goto (tgt := 40) hx hb dL_law_99 (by decide) ?_
          exact ih M13 0 x17 h _ _ (by omega) (by omega) _ _ _ hA hS (lv_sub hl [3, 4, 1, 0] rfl)
        · have h := ce_it c16 h
          refine lv_iconst (v := 1) hx hb dL_law_90 (by decide) ?_
          refine lv_goto (tgt := 95) hx hb dL_law_91 (by decide) ?_
          refine lv_istore_n (lv' := [(2, .int 1), (4, .int x5), (0, .ref G.2.2.1), (1, .ref (b + 0)), (3, .int x2)]) hx hb dL_law_95 rfl hl (by decide) rfl (fun ls hl => ?_)
          obtain ⟨x19, e20, h⟩ := ce_nm_e h
          refine lv_iinc (v := x19) (lv' := [(3, .int x19), (2, .int 1), (4, .int x5), (0, .ref G.2.2.1), (1, .ref (b + 0))]) hx hb dL_law_96 hl (k := 4) rfl (by rw [← e20]; rfl) (by decide) rfl (fun ls hl => ?_)
          refine lv_goto (tgt := 40) hx hb dL_law_99 (by decide) ?_
          exact ih M13 1 x19 h _ _ (by omega) (by omega) _ _ _ hA hS (lv_sub hl [3, 4, 1, 0] rfl)
def f_L_law_S (L : Nat) (xs : Nat → Int32) (M0 : ce_M) : Option Unit :=
  ce_b2 (f_L_back M0 0) (fun (M1 : ce_M) (x2 : Int32) =>
  if x2 = (-900000002) then
    ce_b2 (f_L_refused M1 0) (fun (M5 : ce_M) (x6 : Int32) =>
    if x6 = 0 then
      ce_lp3 (f_L_law_L40 L xs) 20 M5 0 0
    else
      ce_b1 (f_L_fits M5 0 3) (fun (x9 : Int32) =>
      if x9 = 0 then
        ce_lp3 (f_L_law_L40 L xs) 20 M5 0 0
      else
        ce_lp3 (f_L_law_L40 L xs) 20 M5 1 0))
  else
    ce_lp3 (f_L_law_L40 L xs) 20 M1 0 0)
set_option maxRecDepth 100000 in
set_option maxHeartbeats 40000000 in
theorem law_s {p : Program} {e : Env} {s : State} {m : MethodId} {below : List Frame} {meth : Method} {c : Code} (l : Launch) (hfl : l.stackTraces = false) {sb : Nat} {X : ce_X} {G : ce_G} {b : Nat} (hx : p.tables.exec = Jvm.exec) (hb : c.code = code) (hr : meth.sig.returnType = ret) (hlocks : meth.locks = false) (hml : c.maxLocals = 8) (hown : s.vm.findClass RL = some m.cls) (hB : ∀ w ∈ ce_big, w.before #[Value.ref sb] s = true) (hF : ce_Fx X G b s) (hbs : b = s.heap.size) (M0 : ce_M) (h : f_L_law_S G.2.2.2.1 G.2.2.2.2 M0 = some ()) (cl sl : Nat) (hcl : cl + 6700 ≤ 600130) (hsl : sl + 40200 ≤ 7301080) : ce_Wg p l e room_1 s m #[Value.ref sb] below meth c cl sl (lw_Z below #[Value.ref sb] s) X b M0 8 [(0, .ref G.2.2.1), (1, .ref (b + 0))] 8 [] := by
  have hK := hF.1
  intro H locs ls hA hS hl
  unfold f_L_law_S at h
  refine lv_aload_n hx hb dL_law_8 rfl (lv_at hl 1 rfl) ?_
  obtain ⟨M1, x2, g3, h⟩ := ce_b2_e h
  refine ce_callWi (As := [.ref (b + 0)]) (rest := []) hx hb hml hown hB (c_L_back l hfl X G b ce_k0 g3) ce_s_L_back ce_w603 ⟨Nat.le_of_ble_eq_true rfl, Nat.le_of_ble_eq_true rfl⟩ hF hA hS hl rfl rfl (Nat.le_of_ble_eq_true rfl) dL_law_9 ⟨(by show _ ≤ 600130; omega), (by show _ ≤ 7301080; omega)⟩ (fun H locs hA hS => ?_)
  refine lv_ldc (v := (-900000002)) hx hb hown (hB _ ce_w557) dL_law_12 ?_
  refine lv_icmp_ne (tgt := 36) hx hb dL_law_14 (by decide) (fun c4 => ?_) (fun c4 => ?_)
  · have h := ce_ie c4 h
    refine lv_iconst (v := 0) hx hb dL_law_36 (by decide) ?_
    refine lv_istore_n (lv' := [(2, .int 0), (0, .ref G.2.2.1), (1, .ref (b + 0))]) hx hb dL_law_37 rfl hl (by decide) rfl (fun ls hl => ?_)
    refine lv_iconst (v := 0) hx hb dL_law_38 (by decide) ?_
    refine lv_istore_n (lv' := [(3, .int 0), (2, .int 0), (0, .ref G.2.2.1), (1, .ref (b + 0))]) hx hb dL_law_39 rfl hl (by decide) rfl (fun ls hl => ?_)
    exact law_k l hfl hx hb hr hlocks hml hown hB hF hbs 20 M1 0 0 h (cl + 1) (sl + 6) (by omega) (by omega) _ _ _ hA hS (lv_sub hl [2, 3, 1, 0] rfl)
  · have h := ce_it c4 h
    refine lv_aload_n hx hb dL_law_17 rfl (lv_at hl 1 rfl) ?_
    obtain ⟨M5, x6, g7, h⟩ := ce_b2_e h
    refine ce_callCi (As := [.ref (b + 0)]) (rest := []) hx hb hml hown hB (c_L_refused l hfl X G b ce_k0 g7) ce_s_L_refused ce_w693 ⟨Nat.le_of_ble_eq_true rfl, Nat.le_of_ble_eq_true rfl⟩ hF hA hS hl rfl rfl (Nat.le_of_ble_eq_true rfl) dL_law_18 ⟨(by show _ ≤ 600130; omega), (by show _ ≤ 7301080; omega)⟩ (fun H locs hA hS => ?_)
    refine lv_if_eq (tgt := 36) hx hb dL_law_21 (by decide) (fun c8 => ?_) (fun c8 => ?_)
    · have h := ce_it c8 h
      refine lv_iconst (v := 0) hx hb dL_law_36 (by decide) ?_
      refine lv_istore_n (lv' := [(2, .int 0), (0, .ref G.2.2.1), (1, .ref (b + 0))]) hx hb dL_law_37 rfl hl (by decide) rfl (fun ls hl => ?_)
      refine lv_iconst (v := 0) hx hb dL_law_38 (by decide) ?_
      refine lv_istore_n (lv' := [(3, .int 0), (2, .int 0), (0, .ref G.2.2.1), (1, .ref (b + 0))]) hx hb dL_law_39 rfl hl (by decide) rfl (fun ls hl => ?_)
      exact law_k l hfl hx hb hr hlocks hml hown hB hF hbs 20 M5 0 0 h (cl + 62) (sl + 372) (by omega) (by omega) _ _ _ hA hS (lv_sub hl [2, 3, 1, 0] rfl)
    · have h := ce_ie c8 h
      refine lv_aload_n hx hb dL_law_24 rfl (lv_at hl 1 rfl) ?_
      refine lv_iconst (v := 3) hx hb dL_law_25 (by decide) ?_
      obtain ⟨x9, g10, h⟩ := ce_b1_e h
      refine ce_callSi (As := [.ref (b + 0), .int 3]) (rest := []) hx hb hml hown hB (c_L_fits l hfl X G b ce_k0 g10) ce_s_L_fits ce_w791 ⟨Nat.le_of_ble_eq_true rfl, Nat.le_of_ble_eq_true rfl⟩ hF hA hS hl rfl rfl (Nat.le_of_ble_eq_true rfl) dL_law_26 ⟨(by show _ ≤ 600130; omega), (by show _ ≤ 7301080; omega)⟩ (fun H locs hA hS => ?_)
      refine lv_if_eq (tgt := 36) hx hb dL_law_29 (by decide) (fun c11 => ?_) (fun c11 => ?_)
      · have h := ce_it c11 h
        refine lv_iconst (v := 0) hx hb dL_law_36 (by decide) ?_
        refine lv_istore_n (lv' := [(2, .int 0), (0, .ref G.2.2.1), (1, .ref (b + 0))]) hx hb dL_law_37 rfl hl (by decide) rfl (fun ls hl => ?_)
        refine lv_iconst (v := 0) hx hb dL_law_38 (by decide) ?_
        refine lv_istore_n (lv' := [(3, .int 0), (2, .int 0), (0, .ref G.2.2.1), (1, .ref (b + 0))]) hx hb dL_law_39 rfl hl (by decide) rfl (fun ls hl => ?_)
        exact law_k l hfl hx hb hr hlocks hml hown hB hF hbs 20 M5 0 0 h (cl + 62) (sl + 372) (by omega) (by omega) _ _ _ hA hS (lv_sub hl [2, 3, 1, 0] rfl)
      · have h := ce_ie c11 h
        refine lv_iconst (v := 1) hx hb dL_law_32 (by decide) ?_
        refine lv_goto (tgt := 37) hx hb dL_law_33 (by decide) ?_
        refine lv_istore_n (lv' := [(2, .int 1), (0, .ref G.2.2.1), (1, .ref (b + 0))]) hx hb dL_law_37 rfl hl (by decide) rfl (fun ls hl => ?_)
        refine lv_iconst (v := 0) hx hb dL_law_38 (by decide) ?_
        refine lv_istore_n (lv' := [(3, .int 0), (2, .int 1), (0, .ref G.2.2.1), (1, .ref (b + 0))]) hx hb dL_law_39 rfl hl (by decide) rfl (fun ls hl => ?_)
        exact law_k l hfl hx hb hr hlocks hml hown hB hF hbs 20 M5 1 0 h (cl + 62) (sl + 372) (by omega) (by omega) _ _ _ hA hS (lv_sub hl [2, 3, 1, 0] rfl)
