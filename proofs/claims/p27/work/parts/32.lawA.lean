def f_L_sum_L194 (M : ce_M) (a1 : Nat) (rec21 : Int64 → Int32 → Option Int64) (q19 : Int64) (x20 : Int32) : Option Int64 :=
  if 64 ≤ x20 then
    some q19
  else
    ce_b1 (f0_L_leaf M a1 (x20 / 4) (x20 - x20 / 4 * 4)) (fun (x24 : Int32) =>
    ce_nm ((31 * q19) + (Int32.toInt64 x24)) (fun (q26 : Int64) =>
    ce_nm (x20 + 1) (fun (x28 : Int32) =>
    rec21 q26 x28)))
def f_L_sum_L154 (M : ce_M) (a1 : Nat) (u18 : Int64 → Option Int64) (rec15 : Int64 → Int32 → Option Int64) (q13 : Int64) (x14 : Int32) : Option Int64 :=
  ce_b1 (f0_L_whole M a1 2) (fun (x31 : Int32) =>
  if (7 * x31) ≤ x14 then
    u18 q13
  else
    ce_b1 (f0_L_event M a1 (x14 / 7) (x14 - x14 / 7 * 7)) (fun (x34 : Int32) =>
    ce_nm ((31 * q13) + (Int32.toInt64 x34)) (fun (q36 : Int64) =>
    ce_nm (x14 + 1) (fun (x38 : Int32) =>
    rec15 q36 x38))))
def f_L_sum_L113 (M : ce_M) (a1 : Nat) (x8 : Int32) (u61 : Int64 → Option Int64) (rec58 : Int64 → Int32 → Option Int64) (q56 : Int64) (x57 : Int32) : Option Int64 :=
  ce_b1 (f0_L_one M a1 x8 6) (fun (x65 : Int32) =>
  if x65 ≤ x57 then
    u61 q56
  else
    ce_b1 (f0_L_box M a1 x8 x57) (fun (x68 : Int32) =>
    ce_nm ((31 * q56) + (Int32.toInt64 x68)) (fun (q70 : Int64) =>
    ce_nm (x57 + 1) (fun (x72 : Int32) =>
    rec58 q70 x72))))
def f_L_sum_L76 (M : ce_M) (a1 : Nat) (x8 : Int32) (u55 : Int64 → Option Int64) (rec52 : Int64 → Int32 → Option Int64) (q50 : Int64) (x51 : Int32) : Option Int64 :=
  if 30 ≤ x51 then
    u55 q50
  else
    ce_b1 (f0_L_stay M a1 x8 (x51 / 3) (x51 - x51 / 3 * 3)) (fun (x76 : Int32) =>
    ce_nm ((31 * q50) + (Int32.toInt64 x76)) (fun (q78 : Int64) =>
    ce_nm (x51 + 1) (fun (x80 : Int32) =>
    rec52 q78 x80)))
def f_L_sum_L45 (M : ce_M) (a1 : Nat) (x8 : Int32) (u49 : Int64 → Option Int64) (rec46 : Int64 → Int32 → Option Int64) (q44 : Int64) (x45 : Int32) : Option Int64 :=
  if 12 ≤ x45 then
    u49 q44
  else
    ce_b1 (f0_L_one M a1 x8 x45) (fun (x84 : Int32) =>
    ce_nm ((31 * q44) + (Int32.toInt64 x84)) (fun (q86 : Int64) =>
    ce_nm (x45 + 1) (fun (x88 : Int32) =>
    rec46 q86 x88)))
def f_L_sum_L33 (M : ce_M) (a1 : Nat) (u12 : Int64 → Option Int64) (rec9 : Int64 → Int32 → Option Int64) (q7 : Int64) (x8 : Int32) : Option Int64 :=
  ce_b1 (f0_L_whole M a1 0) (fun (x41 : Int32) =>
  if x41 ≤ x8 then
    u12 q7
  else
    ce_nm (fun (q48 : Int64) =>
      ce_nm (fun (q54 : Int64) =>
          ce_nm (fun (q60 : Int64) =>
              ce_nm (x8 + 1) (fun (x62 : Int32) =>
              rec9 q60 x62)) (fun (u61 : Int64 → Option Int64) =>
          ce_lp2 (f_L_sum_L113 M a1 x8 u61) ce_FU q54 0)) (fun (u55 : Int64 → Option Int64) =>
      ce_lp2 (f_L_sum_L76 M a1 x8 u55) ce_FU q48 0)) (fun (u49 : Int64 → Option Int64) =>
    ce_lp2 (f_L_sum_L45 M a1 x8 u49) ce_FU q7 0))
def f_L_sum_L6 (M : ce_M) (a1 : Nat) (u6 : Int64 → Option Int64) (rec3 : Int64 → Int32 → Option Int64) (q1 : Int64) (x2 : Int32) : Option Int64 :=
  if 14 ≤ x2 then
    u6 q1
  else
    ce_b1 (f0_L_whole M a1 x2) (fun (x92 : Int32) =>
    ce_nm ((31 * q1) + (Int32.toInt64 x92)) (fun (q94 : Int64) =>
    ce_nm (x2 + 1) (fun (x96 : Int32) =>
    rec3 q94 x96)))
def f_L_sum (M : ce_M) (a1 : Nat) : Option Int64 :=
  ce_nm (fun (q5 : Int64) =>
      ce_nm (fun (q11 : Int64) =>
          ce_nm (fun (q17 : Int64) =>
              ce_lp2 (f_L_sum_L194 M a1) ce_FU q17 0) (fun (u18 : Int64 → Option Int64) =>
          ce_lp2 (f_L_sum_L154 M a1 u18) ce_FU q11 0)) (fun (u12 : Int64 → Option Int64) =>
      ce_lp2 (f_L_sum_L33 M a1 u12) ce_FU q5 0)) (fun (u6 : Int64 → Option Int64) =>
  ce_lp2 (f_L_sum_L6 M a1 u6) ce_FU 17 0)
set_option maxRecDepth 100000 in
set_option maxHeartbeats 4000000 in
theorem c_L_sum (l : Launch) (hfl : l.stackTraces = false) (X : ce_X) (G : ce_G) (b : Nat) {a1 : Nat} {M : ce_M} (ha1 : ce_kd a1 = 7) {r : Int64} (h : f_L_sum M a1 = some r) : ce_Ct l yL_sum cL_sum 5 (some .long) 9 148 X G b [.ref (b + a1)] M (some (.long r)) M := by
  refine ce_ofW (own := RL) (by decide) rfl (Nat.le_of_ble_eq_true rfl) (fun p e s m below meth c ls hx hb hr hlocks hml hown hB hF hA hl hS => ?_)
  have hK := hF.1
  have hl : lv_has ls 5 [(0, .ref (b + a1))] := hl
  unfold f_L_sum at h
  refine lv_ldc2 (v := 17) hx hb hown (hB _ ce_w617) dL_sum_0 ?_
  refine lv_lstore_n (lv' := [(1, .long 17), (0, .ref (b + a1))]) hx hb dL_sum_3 rfl hl (by decide) rfl (fun ls hl => ?_)
  refine lv_iconst (v := 0) hx hb dL_sum_4 (by decide) ?_
  refine lv_istore_n (lv' := [(3, .int 0), (1, .long 17), (0, .ref (b + a1))]) hx hb dL_sum_5 rfl hl (by decide) rfl (fun ls hl => ?_)
  obtain ⟨u6, e90, h⟩ := ce_nm_e h
  have Ju6 : ∀ (q5 : Int64), u6 q5 = some r → ce_Wg p l e (ce_R 9 148 0 0) s m (([.ref (b + a1)] : List Value).toArray) below meth c 0 0 (MQ below (ce_Q X b M (some (.long r))) ([.ref (b + a1)] : List Value).toArray s 0 0 (ce_Ab b)) X b M 5 [(0, .ref (b + a1)), (1, .long q5)] 31 [] := by
    intro q5 h  H locs ls hA hS hl
    subst e90
    refine lv_iconst (v := 0) hx hb dL_sum_31 (by decide) ?_
    refine lv_istore_n (lv' := [(3, .int 0), (0, .ref (b + a1)), (1, .long q5)]) hx hb dL_sum_32 rfl hl (by decide) rfl (fun ls hl => ?_)
    obtain ⟨u12, e40, h⟩ := ce_nm_e h
    have Ju12 : ∀ (q11 : Int64), u12 q11 = some r → ce_Wg p l e (ce_R 9 148 0 0) s m (([.ref (b + a1)] : List Value).toArray) below meth c 0 0 (MQ below (ce_Q X b M (some (.long r))) ([.ref (b + a1)] : List Value).toArray s 0 0 (ce_Ab b)) X b M 5 [(0, .ref (b + a1)), (1, .long q11)] 152 [] := by
      intro q11 h  H locs ls hA hS hl
      subst e40
      refine lv_iconst (v := 0) hx hb dL_sum_152 (by decide) ?_
      refine lv_istore_n (lv' := [(3, .int 0), (0, .ref (b + a1)), (1, .long q11)]) hx hb dL_sum_153 rfl hl (by decide) rfl (fun ls hl => ?_)
      obtain ⟨u18, e30, h⟩ := ce_nm_e h
      have Ju18 : ∀ (q17 : Int64), u18 q17 = some r → ce_Wg p l e (ce_R 9 148 0 0) s m (([.ref (b + a1)] : List Value).toArray) below meth c 0 0 (MQ below (ce_Q X b M (some (.long r))) ([.ref (b + a1)] : List Value).toArray s 0 0 (ce_Ab b)) X b M 5 [(0, .ref (b + a1)), (1, .long q17)] 192 [] := by
        intro q17 h  H locs ls hA hS hl
        subst e30
        refine lv_iconst (v := 0) hx hb dL_sum_192 (by decide) ?_
        refine lv_istore_n (lv' := [(3, .int 0), (0, .ref (b + a1)), (1, .long q17)]) hx hb dL_sum_193 rfl hl (by decide) rfl (fun ls hl => ?_)
        refine ce_lp2_i (y := r) (P := fun (q19 : Int64) (x20 : Int32) => ce_Wg p l e (ce_R 9 148 0 0) s m (([.ref (b + a1)] : List Value).toArray) below meth c 0 0 (MQ below (ce_Q X b M (some (.long r))) ([.ref (b + a1)] : List Value).toArray s 0 0 (ce_Ab b)) X b M 5 [(0, .ref (b + a1)), (1, .long q19), (3, .int x20)] 194 []) (fun rec21 ih22 q19 x20 h => ?_) _ _ _ h _ _ _ hA hS (lv_sub hl [1, 2, 0] rfl)
        intro H locs ls hA hS hl
        unfold f_L_sum_L194 at h
        refine lv_iload_n hx hb dL_sum_194 rfl (lv_at hl 2 rfl) ?_
        refine lv_bipush (v := 64) hx hb dL_sum_195 (by decide) ?_
        refine lv_icmp_ge (tgt := 224) hx hb dL_sum_197 (by decide) (fun c23 => ?_) (fun c23 => ?_)
        · have h := ce_it c23 h
          refine lv_lload_n hx hb dL_sum_224 rfl (lv_at hl 1 rfl) ?_
          cases h
          exact ce_lret hx hb hr hlocks hA hS dL_sum_225
        · have h := ce_ie c23 h
          refine lv_ldc2 (v := 31) hx hb hown (hB _ ce_w618) dL_sum_200 ?_
          refine lv_lload_n hx hb dL_sum_203 rfl (lv_at hl 1 rfl) ?_
          refine lv_lmul hx hb dL_sum_204 ?_
          refine lv_aload_n hx hb dL_sum_205 rfl (lv_at hl 0 rfl) ?_
          refine lv_iload_n hx hb dL_sum_206 rfl (lv_at hl 2 rfl) ?_
          refine lv_iconst (v := 4) hx hb dL_sum_207 (by decide) ?_
          refine lv_idiv hx hb dL_sum_208 (by decide) ?_
          refine lv_iload_n hx hb dL_sum_209 rfl (lv_at hl 2 rfl) ?_
          refine lv_iconst (v := 4) hx hb dL_sum_210 (by decide) ?_
          refine lv_irem hx hb dL_sum_211 (by decide) ?_
          obtain ⟨x24, g25, h⟩ := ce_b1_e h
          refine ce_callWi (As := [.ref (b + a1), .int (x20 / 4), .int (x20 - x20 / 4 * 4)]) (rest := [.long (31 * q19)]) hx hb hml hown hB (c0_L_leaf l hfl X G b ha1 g25) ce_s_L_leaf ce_w670 ⟨Nat.le_of_ble_eq_true rfl, Nat.le_of_ble_eq_true rfl⟩ hF hA hS hl rfl rfl (Nat.le_of_ble_eq_true rfl) dL_sum_212 ⟨Nat.le_of_ble_eq_true rfl, Nat.le_of_ble_eq_true rfl⟩ (fun H locs hA hS => ?_)
          refine lv_i2l hx hb dL_sum_215 rfl ?_
          refine lv_ladd hx hb dL_sum_216 ?_
          obtain ⟨q26, e27, h⟩ := ce_nm_e h
          refine ce_topl e27 ?_
          refine lv_lstore_n (lv' := [(1, .long q26), (0, .ref (b + a1)), (3, .int x20)]) hx hb dL_sum_217 rfl hl (by decide) rfl (fun ls hl => ?_)
          obtain ⟨x28, e29, h⟩ := ce_nm_e h
          refine lv_iinc (v := x28) (lv' := [(3, .int x28), (1, .long q26), (0, .ref (b + a1))]) hx hb dL_sum_218 hl (k := 2) rfl (by rw [← e29]; rfl) (by decide) rfl (fun ls hl => ?_)
          refine lv_goto (tgt := 194) hx hb dL_sum_221 (by decide) ?_
          exact ih22 q26 x28 h  _ _ _ hA hS (lv_sub hl [2, 1, 0] rfl)
      refine ce_lp2_i (y := r) (P := fun (q13 : Int64) (x14 : Int32) => ce_Wg p l e (ce_R 9 148 0 0) s m (([.ref (b + a1)] : List Value).toArray) below meth c 0 0 (MQ below (ce_Q X b M (some (.long r))) ([.ref (b + a1)] : List Value).toArray s 0 0 (ce_Ab b)) X b M 5 [(0, .ref (b + a1)), (1, .long q13), (3, .int x14)] 154 []) (fun rec15 ih16 q13 x14 h => ?_) _ _ _ h _ _ _ hA hS (lv_sub hl [1, 2, 0] rfl)
      intro H locs ls hA hS hl
      unfold f_L_sum_L154 at h
      refine lv_iload_n hx hb dL_sum_154 rfl (lv_at hl 2 rfl) ?_
      refine lv_bipush (v := 7) hx hb dL_sum_155 (by decide) ?_
      refine lv_aload_n hx hb dL_sum_157 rfl (lv_at hl 0 rfl) ?_
      refine lv_iconst (v := 2) hx hb dL_sum_158 (by decide) ?_
      obtain ⟨x31, g32, h⟩ := ce_b1_e h
      refine ce_callWi (As := [.ref (b + a1), .int 2]) (rest := [.int 7, .int x14]) hx hb hml hown hB (c0_L_whole l hfl X G b ha1 g32) ce_s_L_whole ce_w579 ⟨Nat.le_of_ble_eq_true rfl, Nat.le_of_ble_eq_true rfl⟩ hF hA hS hl rfl rfl (Nat.le_of_ble_eq_true rfl) dL_sum_159 ⟨Nat.le_of_ble_eq_true rfl, Nat.le_of_ble_eq_true rfl⟩ (fun H locs hA hS => ?_)
      refine lv_imul hx hb dL_sum_162 ?_
      refine lv_icmp_ge (tgt := 192) hx hb dL_sum_163 (by decide) (fun c33 => ?_) (fun c33 => ?_)
      · have h := ce_it c33 h
        exact Ju18 q13 h  _ _ _ hA hS (lv_sub hl [0, 1] rfl)
      · have h := ce_ie c33 h
        refine lv_ldc2 (v := 31) hx hb hown (hB _ ce_w618) dL_sum_166 ?_
        refine lv_lload_n hx hb dL_sum_169 rfl (lv_at hl 1 rfl) ?_
        refine lv_lmul hx hb dL_sum_170 ?_
        refine lv_aload_n hx hb dL_sum_171 rfl (lv_at hl 0 rfl) ?_
        refine lv_iload_n hx hb dL_sum_172 rfl (lv_at hl 2 rfl) ?_
        refine lv_bipush (v := 7) hx hb dL_sum_173 (by decide) ?_
        refine lv_idiv hx hb dL_sum_175 (by decide) ?_
        refine lv_iload_n hx hb dL_sum_176 rfl (lv_at hl 2 rfl) ?_
        refine lv_bipush (v := 7) hx hb dL_sum_177 (by decide) ?_
        refine lv_irem hx hb dL_sum_179 (by decide) ?_
        obtain ⟨x34, g35, h⟩ := ce_b1_e h
        refine ce_callWi (As := [.ref (b + a1), .int (x14 / 7), .int (x14 - x14 / 7 * 7)]) (rest := [.long (31 * q13)]) hx hb hml hown hB (c0_L_event l hfl X G b ha1 g35) ce_s_L_event ce_w647 ⟨Nat.le_of_ble_eq_true rfl, Nat.le_of_ble_eq_true rfl⟩ hF hA hS hl rfl rfl (Nat.le_of_ble_eq_true rfl) dL_sum_180 ⟨Nat.le_of_ble_eq_true rfl, Nat.le_of_ble_eq_true rfl⟩ (fun H locs hA hS => ?_)
        refine lv_i2l hx hb dL_sum_183 rfl ?_
        refine lv_ladd hx hb dL_sum_184 ?_
        obtain ⟨q36, e37, h⟩ := ce_nm_e h
        refine ce_topl e37 ?_
        refine lv_lstore_n (lv' := [(1, .long q36), (0, .ref (b + a1)), (3, .int x14)]) hx hb dL_sum_185 rfl hl (by decide) rfl (fun ls hl => ?_)
        obtain ⟨x38, e39, h⟩ := ce_nm_e h
        refine lv_iinc (v := x38) (lv' := [(3, .int x38), (1, .long q36), (0, .ref (b + a1))]) hx hb dL_sum_186 hl (k := 2) rfl (by rw [← e39]; rfl) (by decide) rfl (fun ls hl => ?_)
        refine lv_goto (tgt := 154) hx hb dL_sum_189 (by decide) ?_
        exact ih16 q36 x38 h  _ _ _ hA hS (lv_sub hl [2, 1, 0] rfl)
    refine ce_lp2_i (y := r) (P := fun (q7 : Int64) (x8 : Int32) => ce_Wg p l e (ce_R 9 148 0 0) s m (([.ref (b + a1)] : List Value).toArray) below meth c 0 0 (MQ below (ce_Q X b M (some (.long r))) ([.ref (b + a1)] : List Value).toArray s 0 0 (ce_Ab b)) X b M 5 [(0, .ref (b + a1)), (1, .long q7), (3, .int x8)] 33 []) (fun rec9 ih10 q7 x8 h => ?_) _ _ _ h _ _ _ hA hS (lv_sub hl [1, 2, 0] rfl)
    intro H locs ls hA hS hl
    unfold f_L_sum_L33 at h
    refine lv_iload_n hx hb dL_sum_33 rfl (lv_at hl 2 rfl) ?_
    refine lv_aload_n hx hb dL_sum_34 rfl (lv_at hl 0 rfl) ?_
    refine lv_iconst (v := 0) hx hb dL_sum_35 (by decide) ?_
    obtain ⟨x41, g42, h⟩ := ce_b1_e h
    refine ce_callWi (As := [.ref (b + a1), .int 0]) (rest := [.int x8]) hx hb hml hown hB (c0_L_whole l hfl X G b ha1 g42) ce_s_L_whole ce_w579 ⟨Nat.le_of_ble_eq_true rfl, Nat.le_of_ble_eq_true rfl⟩ hF hA hS hl rfl rfl (Nat.le_of_ble_eq_true rfl) dL_sum_36 ⟨Nat.le_of_ble_eq_true rfl, Nat.le_of_ble_eq_true rfl⟩ (fun H locs hA hS => ?_)
    refine lv_icmp_ge (tgt := 152) hx hb dL_sum_39 (by decide) (fun c43 => ?_) (fun c43 => ?_)
    · have h := ce_it c43 h
      exact Ju12 q7 h  _ _ _ hA hS (lv_sub hl [0, 1] rfl)
    · have h := ce_ie c43 h
      refine lv_iconst (v := 0) hx hb dL_sum_42 (by decide) ?_
      refine lv_istore (lv' := [(4, .int 0), (0, .ref (b + a1)), (1, .long q7), (3, .int x8)]) hx hb dL_sum_43 hl (by decide) rfl (fun ls hl => ?_)
      obtain ⟨u49, e82, h⟩ := ce_nm_e h
      have Ju49 : ∀ (q48 : Int64), u49 q48 = some r → ce_Wg p l e (ce_R 9 148 0 0) s m (([.ref (b + a1)] : List Value).toArray) below meth c 0 0 (MQ below (ce_Q X b M (some (.long r))) ([.ref (b + a1)] : List Value).toArray s 0 0 (ce_Ab b)) X b M 5 [(0, .ref (b + a1)), (1, .long q48), (3, .int x8)] 73 [] := by
        intro q48 h  H locs ls hA hS hl
        subst e82
        refine lv_iconst (v := 0) hx hb dL_sum_73 (by decide) ?_
        refine lv_istore (lv' := [(4, .int 0), (0, .ref (b + a1)), (1, .long q48), (3, .int x8)]) hx hb dL_sum_74 hl (by decide) rfl (fun ls hl => ?_)
        obtain ⟨u55, e74, h⟩ := ce_nm_e h
        have Ju55 : ∀ (q54 : Int64), u55 q54 = some r → ce_Wg p l e (ce_R 9 148 0 0) s m (([.ref (b + a1)] : List Value).toArray) below meth c 0 0 (MQ below (ce_Q X b M (some (.long r))) ([.ref (b + a1)] : List Value).toArray s 0 0 (ce_Ab b)) X b M 5 [(0, .ref (b + a1)), (1, .long q54), (3, .int x8)] 110 [] := by
          intro q54 h  H locs ls hA hS hl
          subst e74
          refine lv_iconst (v := 0) hx hb dL_sum_110 (by decide) ?_
          refine lv_istore (lv' := [(4, .int 0), (0, .ref (b + a1)), (1, .long q54), (3, .int x8)]) hx hb dL_sum_111 hl (by decide) rfl (fun ls hl => ?_)
          obtain ⟨u61, e64, h⟩ := ce_nm_e h
          have Ju61 : ∀ (q60 : Int64), u61 q60 = some r → ce_Wg p l e (ce_R 9 148 0 0) s m (([.ref (b + a1)] : List Value).toArray) below meth c 0 0 (MQ below (ce_Q X b M (some (.long r))) ([.ref (b + a1)] : List Value).toArray s 0 0 (ce_Ab b)) X b M 5 [(0, .ref (b + a1)), (1, .long q60), (3, .int x8)] 146 [] := by
            intro q60 h  H locs ls hA hS hl
            subst e64
            obtain ⟨x62, e63, h⟩ := ce_nm_e h
            refine lv_iinc (v := x62) (lv' := [(3, .int x62), (0, .ref (b + a1)), (1, .long q60)]) hx hb dL_sum_146 hl (k := 2) rfl (by rw [← e63]; rfl) (by decide) rfl (fun ls hl => ?_)
            refine lv_goto (tgt := 33) hx hb dL_sum_149 (by decide) ?_
            exact ih10 q60 x62 h  _ _ _ hA hS (lv_sub hl [1, 2, 0] rfl)
          refine ce_lp2_i (y := r) (P := fun (q56 : Int64) (x57 : Int32) => ce_Wg p l e (ce_R 9 148 0 0) s m (([.ref (b + a1)] : List Value).toArray) below meth c 0 0 (MQ below (ce_Q X b M (some (.long r))) ([.ref (b + a1)] : List Value).toArray s 0 0 (ce_Ab b)) X b M 5 [(0, .ref (b + a1)), (1, .long q56), (3, .int x8), (4, .int x57)] 113 []) (fun rec58 ih59 q56 x57 h => ?_) _ _ _ h _ _ _ hA hS (lv_sub hl [1, 2, 3, 0] rfl)
          intro H locs ls hA hS hl
          unfold f_L_sum_L113 at h
          refine lv_iload hx hb dL_sum_113 (lv_at hl 3 rfl) ?_
          refine lv_aload_n hx hb dL_sum_115 rfl (lv_at hl 0 rfl) ?_
          refine lv_iload_n hx hb dL_sum_116 rfl (lv_at hl 2 rfl) ?_
          refine lv_bipush (v := 6) hx hb dL_sum_117 (by decide) ?_
          obtain ⟨x65, g66, h⟩ := ce_b1_e h
          refine ce_callWi (As := [.ref (b + a1), .int x8, .int 6]) (rest := [.int x57]) hx hb hml hown hB (c0_L_one l hfl X G b ha1 g66) ce_s_L_one ce_w619 ⟨Nat.le_of_ble_eq_true rfl, Nat.le_of_ble_eq_true rfl⟩ hF hA hS hl rfl rfl (Nat.le_of_ble_eq_true rfl) dL_sum_119 ⟨Nat.le_of_ble_eq_true rfl, Nat.le_of_ble_eq_true rfl⟩ (fun H locs hA hS => ?_)
          refine lv_icmp_ge (tgt := 146) hx hb dL_sum_122 (by decide) (fun c67 => ?_) (fun c67 => ?_)
          · have h := ce_it c67 h
            exact Ju61 q56 h  _ _ _ hA hS (lv_sub hl [0, 1, 2] rfl)
          · have h := ce_ie c67 h
            refine lv_ldc2 (v := 31) hx hb hown (hB _ ce_w618) dL_sum_125 ?_
            refine lv_lload_n hx hb dL_sum_128 rfl (lv_at hl 1 rfl) ?_
            refine lv_lmul hx hb dL_sum_129 ?_
            refine lv_aload_n hx hb dL_sum_130 rfl (lv_at hl 0 rfl) ?_
            refine lv_iload_n hx hb dL_sum_131 rfl (lv_at hl 2 rfl) ?_
            refine lv_iload hx hb dL_sum_132 (lv_at hl 3 rfl) ?_
            obtain ⟨x68, g69, h⟩ := ce_b1_e h
            refine ce_callWi (As := [.ref (b + a1), .int x8, .int x57]) (rest := [.long (31 * q56)]) hx hb hml hown hB (c0_L_box l hfl X G b ha1 g69) ce_s_L_box ce_w639 ⟨Nat.le_of_ble_eq_true rfl, Nat.le_of_ble_eq_true rfl⟩ hF hA hS hl rfl rfl (Nat.le_of_ble_eq_true rfl) dL_sum_134 ⟨Nat.le_of_ble_eq_true rfl, Nat.le_of_ble_eq_true rfl⟩ (fun H locs hA hS => ?_)
            refine lv_i2l hx hb dL_sum_137 rfl ?_
            refine lv_ladd hx hb dL_sum_138 ?_
            obtain ⟨q70, e71, h⟩ := ce_nm_e h
            refine ce_topl e71 ?_
            refine lv_lstore_n (lv' := [(1, .long q70), (0, .ref (b + a1)), (3, .int x8), (4, .int x57)]) hx hb dL_sum_139 rfl hl (by decide) rfl (fun ls hl => ?_)
            obtain ⟨x72, e73, h⟩ := ce_nm_e h
            refine lv_iinc (v := x72) (lv' := [(4, .int x72), (1, .long q70), (0, .ref (b + a1)), (3, .int x8)]) hx hb dL_sum_140 hl (k := 3) rfl (by rw [← e73]; rfl) (by decide) rfl (fun ls hl => ?_)
            refine lv_goto (tgt := 113) hx hb dL_sum_143 (by decide) ?_
            exact ih59 q70 x72 h  _ _ _ hA hS (lv_sub hl [2, 1, 3, 0] rfl)
        refine ce_lp2_i (y := r) (P := fun (q50 : Int64) (x51 : Int32) => ce_Wg p l e (ce_R 9 148 0 0) s m (([.ref (b + a1)] : List Value).toArray) below meth c 0 0 (MQ below (ce_Q X b M (some (.long r))) ([.ref (b + a1)] : List Value).toArray s 0 0 (ce_Ab b)) X b M 5 [(0, .ref (b + a1)), (1, .long q50), (3, .int x8), (4, .int x51)] 76 []) (fun rec52 ih53 q50 x51 h => ?_) _ _ _ h _ _ _ hA hS (lv_sub hl [1, 2, 3, 0] rfl)
        intro H locs ls hA hS hl
        unfold f_L_sum_L76 at h
        refine lv_iload hx hb dL_sum_76 (lv_at hl 3 rfl) ?_
        refine lv_bipush (v := 30) hx hb dL_sum_78 (by decide) ?_
        refine lv_icmp_ge (tgt := 110) hx hb dL_sum_80 (by decide) (fun c75 => ?_) (fun c75 => ?_)
        · have h := ce_it c75 h
          exact Ju55 q50 h  _ _ _ hA hS (lv_sub hl [0, 1, 2] rfl)
        · have h := ce_ie c75 h
          refine lv_ldc2 (v := 31) hx hb hown (hB _ ce_w618) dL_sum_83 ?_
          refine lv_lload_n hx hb dL_sum_86 rfl (lv_at hl 1 rfl) ?_
          refine lv_lmul hx hb dL_sum_87 ?_
          refine lv_aload_n hx hb dL_sum_88 rfl (lv_at hl 0 rfl) ?_
          refine lv_iload_n hx hb dL_sum_89 rfl (lv_at hl 2 rfl) ?_
          refine lv_iload hx hb dL_sum_90 (lv_at hl 3 rfl) ?_
          refine lv_iconst (v := 3) hx hb dL_sum_92 (by decide) ?_
          refine lv_idiv hx hb dL_sum_93 (by decide) ?_
          refine lv_iload hx hb dL_sum_94 (lv_at hl 3 rfl) ?_
          refine lv_iconst (v := 3) hx hb dL_sum_96 (by decide) ?_
          refine lv_irem hx hb dL_sum_97 (by decide) ?_
          obtain ⟨x76, g77, h⟩ := ce_b1_e h
          refine ce_callWi (As := [.ref (b + a1), .int x8, .int (x51 / 3), .int (x51 - x51 / 3 * 3)]) (rest := [.long (31 * q50)]) hx hb hml hown hB (c0_L_stay l hfl X G b ha1 g77) ce_s_L_stay ce_w628 ⟨Nat.le_of_ble_eq_true rfl, Nat.le_of_ble_eq_true rfl⟩ hF hA hS hl rfl rfl (Nat.le_of_ble_eq_true rfl) dL_sum_98 ⟨Nat.le_of_ble_eq_true rfl, Nat.le_of_ble_eq_true rfl⟩ (fun H locs hA hS => ?_)
          refine lv_i2l hx hb dL_sum_101 rfl ?_
          refine lv_ladd hx hb dL_sum_102 ?_
          obtain ⟨q78, e79, h⟩ := ce_nm_e h
          refine ce_topl e79 ?_
          refine lv_lstore_n (lv' := [(1, .long q78), (0, .ref (b + a1)), (3, .int x8), (4, .int x51)]) hx hb dL_sum_103 rfl hl (by decide) rfl (fun ls hl => ?_)
          obtain ⟨x80, e81, h⟩ := ce_nm_e h
          refine lv_iinc (v := x80) (lv' := [(4, .int x80), (1, .long q78), (0, .ref (b + a1)), (3, .int x8)]) hx hb dL_sum_104 hl (k := 3) rfl (by rw [← e81]; rfl) (by decide) rfl (fun ls hl => ?_)
          refine lv_goto (tgt := 76) hx hb dL_sum_107 (by decide) ?_
          exact ih53 q78 x80 h  _ _ _ hA hS (lv_sub hl [2, 1, 3, 0] rfl)
      refine ce_lp2_i (y := r) (P := fun (q44 : Int64) (x45 : Int32) => ce_Wg p l e (ce_R 9 148 0 0) s m (([.ref (b + a1)] : List Value).toArray) below meth c 0 0 (MQ below (ce_Q X b M (some (.long r))) ([.ref (b + a1)] : List Value).toArray s 0 0 (ce_Ab b)) X b M 5 [(0, .ref (b + a1)), (1, .long q44), (3, .int x8), (4, .int x45)] 45 []) (fun rec46 ih47 q44 x45 h => ?_) _ _ _ h _ _ _ hA hS (lv_sub hl [1, 2, 3, 0] rfl)
      intro H locs ls hA hS hl
      unfold f_L_sum_L45 at h
      refine lv_iload hx hb dL_sum_45 (lv_at hl 3 rfl) ?_
      refine lv_bipush (v := 12) hx hb dL_sum_47 (by decide) ?_
      refine lv_icmp_ge (tgt := 73) hx hb dL_sum_49 (by decide) (fun c83 => ?_) (fun c83 => ?_)
      · have h := ce_it c83 h
        exact Ju49 q44 h  _ _ _ hA hS (lv_sub hl [0, 1, 2] rfl)
      · have h := ce_ie c83 h
        refine lv_ldc2 (v := 31) hx hb hown (hB _ ce_w618) dL_sum_52 ?_
        refine lv_lload_n hx hb dL_sum_55 rfl (lv_at hl 1 rfl) ?_
        refine lv_lmul hx hb dL_sum_56 ?_
        refine lv_aload_n hx hb dL_sum_57 rfl (lv_at hl 0 rfl) ?_
        refine lv_iload_n hx hb dL_sum_58 rfl (lv_at hl 2 rfl) ?_
        refine lv_iload hx hb dL_sum_59 (lv_at hl 3 rfl) ?_
        obtain ⟨x84, g85, h⟩ := ce_b1_e h
        refine ce_callWi (As := [.ref (b + a1), .int x8, .int x45]) (rest := [.long (31 * q44)]) hx hb hml hown hB (c0_L_one l hfl X G b ha1 g85) ce_s_L_one ce_w619 ⟨Nat.le_of_ble_eq_true rfl, Nat.le_of_ble_eq_true rfl⟩ hF hA hS hl rfl rfl (Nat.le_of_ble_eq_true rfl) dL_sum_61 ⟨Nat.le_of_ble_eq_true rfl, Nat.le_of_ble_eq_true rfl⟩ (fun H locs hA hS => ?_)
        refine lv_i2l hx hb dL_sum_64 rfl ?_
        refine lv_ladd hx hb dL_sum_65 ?_
        obtain ⟨q86, e87, h⟩ := ce_nm_e h
        refine ce_topl e87 ?_
        refine lv_lstore_n (lv' := [(1, .long q86), (0, .ref (b + a1)), (3, .int x8), (4, .int x45)]) hx hb dL_sum_66 rfl hl (by decide) rfl (fun ls hl => ?_)
        obtain ⟨x88, e89, h⟩ := ce_nm_e h
        refine lv_iinc (v := x88) (lv' := [(4, .int x88), (1, .long q86), (0, .ref (b + a1)), (3, .int x8)]) hx hb dL_sum_67 hl (k := 3) rfl (by rw [← e89]; rfl) (by decide) rfl (fun ls hl => ?_)
        refine lv_goto (tgt := 45) hx hb dL_sum_70 (by decide) ?_
        exact ih47 q86 x88 h  _ _ _ hA hS (lv_sub hl [2, 1, 3, 0] rfl)
  refine ce_lp2_i (y := r) (P := fun (q1 : Int64) (x2 : Int32) => ce_Wg p l e (ce_R 9 148 0 0) s m (([.ref (b + a1)] : List Value).toArray) below meth c 0 0 (MQ below (ce_Q X b M (some (.long r))) ([.ref (b + a1)] : List Value).toArray s 0 0 (ce_Ab b)) X b M 5 [(0, .ref (b + a1)), (1, .long q1), (3, .int x2)] 6 []) (fun rec3 ih4 q1 x2 h => ?_) _ _ _ h _ _ _ hA hS (lv_sub hl [2, 1, 0] rfl)
  intro H locs ls hA hS hl
  unfold f_L_sum_L6 at h
  refine lv_iload_n hx hb dL_sum_6 rfl (lv_at hl 2 rfl) ?_
  refine lv_bipush (v := 14) hx hb dL_sum_7 (by decide) ?_
  refine lv_icmp_ge (tgt := 31) hx hb dL_sum_9 (by decide) (fun c91 => ?_) (fun c91 => ?_)
  · have h := ce_it c91 h
    exact Ju6 q1 h  _ _ _ hA hS (lv_sub hl [0, 1] rfl)
  · have h := ce_ie c91 h
    refine lv_ldc2 (v := 31) hx hb hown (hB _ ce_w618) dL_sum_12 ?_
    refine lv_lload_n hx hb dL_sum_15 rfl (lv_at hl 1 rfl) ?_
    refine lv_lmul hx hb dL_sum_16 ?_
    refine lv_aload_n hx hb dL_sum_17 rfl (lv_at hl 0 rfl) ?_
    refine lv_iload_n hx hb dL_sum_18 rfl (lv_at hl 2 rfl) ?_
    obtain ⟨x92, g93, h⟩ := ce_b1_e h
    refine ce_callWi (As := [.ref (b + a1), .int x2]) (rest := [.long (31 * q1)]) hx hb hml hown hB (c0_L_whole l hfl X G b ha1 g93) ce_s_L_whole ce_w579 ⟨Nat.le_of_ble_eq_true rfl, Nat.le_of_ble_eq_true rfl⟩ hF hA hS hl rfl rfl (Nat.le_of_ble_eq_true rfl) dL_sum_19 ⟨Nat.le_of_ble_eq_true rfl, Nat.le_of_ble_eq_true rfl⟩ (fun H locs hA hS => ?_)
    refine lv_i2l hx hb dL_sum_22 rfl ?_
    refine lv_ladd hx hb dL_sum_23 ?_
    obtain ⟨q94, e95, h⟩ := ce_nm_e h
    refine ce_topl e95 ?_
    refine lv_lstore_n (lv' := [(1, .long q94), (0, .ref (b + a1)), (3, .int x2)]) hx hb dL_sum_24 rfl hl (by decide) rfl (fun ls hl => ?_)
    obtain ⟨x96, e97, h⟩ := ce_nm_e h
    refine lv_iinc (v := x96) (lv' := [(3, .int x96), (1, .long q94), (0, .ref (b + a1))]) hx hb dL_sum_25 hl (k := 2) rfl (by rw [← e97]; rfl) (by decide) rfl (fun ls hl => ?_)
    refine lv_goto (tgt := 6) hx hb dL_sum_28 (by decide) ?_
    exact ih4 q94 x96 h  _ _ _ hA hS (lv_sub hl [2, 1, 0] rfl)
def f_L_isDone_L5 (M : ce_M) (a1 : Nat) (a2 : Int32) (a3 : Int32) (rec3 : Int32 → Int32 → Option Int32) (x1 : Int32) (x2 : Int32) : Option Int32 :=
  ce_b1 (f0_L_whole M a1 0) (fun (x5 : Int32) =>
  if x5 ≤ x2 then
    ce_gz x1 (
    some x1)
  else
    if x1 = 0 then
      ce_nm (x2 + 1) (fun (x10 : Int32) =>
      rec3 0 x10)
    else
      ce_b1 (f0_L_one M a1 x2 5) (fun (x12 : Int32) =>
      if x12 = 0 then
        ce_nm (x2 + 1) (fun (x15 : Int32) =>
        rec3 1 x15)
      else
        ce_b1 (f0_L_one M a1 x2 4) (fun (x17 : Int32) =>
        if x17 = a2 then
          ce_b1 (f0_L_one M a1 x2 11) (fun (x22 : Int32) =>
          if a3 < x22 then
            ce_nm (x2 + 1) (fun (x25 : Int32) =>
            rec3 1 x25)
          else
            ce_b1 (f0_L_one M a1 x2 6) (fun (x27 : Int32) =>
            if x27 = 0 then
              ce_nm (x2 + 1) (fun (x32 : Int32) =>
              rec3 1 x32)
            else
              ce_nm (x2 + 1) (fun (x30 : Int32) =>
              rec3 0 x30)))
        else
          ce_nm (x2 + 1) (fun (x20 : Int32) =>
          rec3 1 x20))))
def f_L_isDone (M : ce_M) (a1 : Nat) (a2 : Int32) (a3 : Int32) : Option Int32 :=
  ce_lp2 (f_L_isDone_L5 M a1 a2 a3) ce_FU 1 0
set_option maxRecDepth 100000 in
set_option maxHeartbeats 4000000 in
theorem c_L_isDone (l : Launch) (hfl : l.stackTraces = false) (X : ce_X) (G : ce_G) (b : Nat) {a1 : Nat} {a2 : Int32} {a3 : Int32} {M : ce_M} (ha1 : ce_kd a1 = 7) {r : Int32} (h : f_L_isDone M a1 a2 a3 = some r) : ce_Ct l yL_isDone cL_isDone 5 (some .boolean) 9 146 X G b [.ref (b + a1), .int a2, .int a3] M (some (.int r)) M := by
  refine ce_ofW (own := RL) (by decide) rfl (Nat.le_of_ble_eq_true rfl) (fun p e s m below meth c ls hx hb hr hlocks hml hown hB hF hA hl hS => ?_)
  have hK := hF.1
  have hl : lv_has ls 5 [(0, .ref (b + a1)), (1, .int a2), (2, .int a3)] := hl
  unfold f_L_isDone at h
  refine lv_iconst (v := 1) hx hb dL_isDone_0 (by decide) ?_
  refine lv_istore_n (lv' := [(3, .int 1), (0, .ref (b + a1)), (1, .int a2), (2, .int a3)]) hx hb dL_isDone_1 rfl hl (by decide) rfl (fun ls hl => ?_)
  refine lv_iconst (v := 0) hx hb dL_isDone_2 (by decide) ?_
  refine lv_istore (lv' := [(4, .int 0), (3, .int 1), (0, .ref (b + a1)), (1, .int a2), (2, .int a3)]) hx hb dL_isDone_3 hl (by decide) rfl (fun ls hl => ?_)
  refine ce_lp2_i (y := r) (P := fun (x1 : Int32) (x2 : Int32) => ce_Wg p l e (ce_R 9 146 0 0) s m (([.ref (b + a1), .int a2, .int a3] : List Value).toArray) below meth c 0 0 (MQ below (ce_Q X b M (some (.int r))) ([.ref (b + a1), .int a2, .int a3] : List Value).toArray s 0 0 (ce_Ab b)) X b M 5 [(0, .ref (b + a1)), (1, .int a2), (2, .int a3), (3, .int x1), (4, .int x2)] 5 []) (fun rec3 ih4 x1 x2 h => ?_) _ _ _ h _ _ _ hA hS (lv_sub hl [2, 3, 4, 1, 0] rfl)
  intro H locs ls hA hS hl
  unfold f_L_isDone_L5 at h
  refine lv_iload hx hb dL_isDone_5 (lv_at hl 4 rfl) ?_
  refine lv_aload_n hx hb dL_isDone_7 rfl (lv_at hl 0 rfl) ?_
  refine lv_iconst (v := 0) hx hb dL_isDone_8 (by decide) ?_
  obtain ⟨x5, g6, h⟩ := ce_b1_e h
  refine ce_callWi (As := [.ref (b + a1), .int 0]) (rest := [.int x2]) hx hb hml hown hB (c0_L_whole l hfl X G b ha1 g6) ce_s_L_whole ce_w579 ⟨Nat.le_of_ble_eq_true rfl, Nat.le_of_ble_eq_true rfl⟩ hF hA hS hl rfl rfl (Nat.le_of_ble_eq_true rfl) dL_isDone_9 ⟨Nat.le_of_ble_eq_true rfl, Nat.le_of_ble_eq_true rfl⟩ (fun H locs hA hS => ?_)
  refine lv_icmp_ge (tgt := 75) hx hb dL_isDone_12 (by decide) (fun c7 => ?_) (fun c7 => ?_)
  · have h := ce_it c7 h
    refine lv_iload_n hx hb dL_isDone_75 rfl (lv_at hl 3 rfl) ?_
    obtain ⟨z8, h⟩ := ce_gz_e h
    cases h
    exact ce_zret hx hb hr hlocks z8 hA hS dL_isDone_76
  · have h := ce_ie c7 h
    refine lv_iload_n hx hb dL_isDone_15 rfl (lv_at hl 3 rfl) ?_
    refine lv_if_eq (tgt := 67) hx hb dL_isDone_16 (by decide) (fun c9 => ?_) (fun c9 => ?_)
    · have h := ce_it c9 h
      refine lv_iconst (v := 0) hx hb dL_isDone_67 (by decide) ?_
      refine lv_istore_n (lv' := [(3, .int 0), (0, .ref (b + a1)), (1, .int a2), (2, .int a3), (4, .int x2)]) hx hb dL_isDone_68 rfl hl (by decide) rfl (fun ls hl => ?_)
      obtain ⟨x10, e11, h⟩ := ce_nm_e h
      refine lv_iinc (v := x10) (lv' := [(4, .int x10), (3, .int 0), (0, .ref (b + a1)), (1, .int a2), (2, .int a3)]) hx hb dL_isDone_69 hl (k := 4) rfl (by rw [← e11]; rfl) (by decide) rfl (fun ls hl => ?_)
      refine lv_goto (tgt := 5) hx hb dL_isDone_72 (by decide) ?_
      exact ih4 0 x10 h  _ _ _ hA hS (lv_sub hl [2, 3, 4, 1, 0] rfl)
    · have h := ce_ie c9 h
      refine lv_aload_n hx hb dL_isDone_19 rfl (lv_at hl 0 rfl) ?_
      refine lv_iload hx hb dL_isDone_20 (lv_at hl 4 rfl) ?_
      refine lv_iconst (v := 5) hx hb dL_isDone_22 (by decide) ?_
      obtain ⟨x12, g13, h⟩ := ce_b1_e h
      refine ce_callWi (As := [.ref (b + a1), .int x2, .int 5]) (rest := []) hx hb hml hown hB (c0_L_one l hfl X G b ha1 g13) ce_s_L_one ce_w619 ⟨Nat.le_of_ble_eq_true rfl, Nat.le_of_ble_eq_true rfl⟩ hF hA hS hl rfl rfl (Nat.le_of_ble_eq_true rfl) dL_isDone_23 ⟨Nat.le_of_ble_eq_true rfl, Nat.le_of_ble_eq_true rfl⟩ (fun H locs hA hS => ?_)
      refine lv_if_eq (tgt := 63) hx hb dL_isDone_26 (by decide) (fun c14 => ?_) (fun c14 => ?_)
      · have h := ce_it c14 h
        refine lv_iconst (v := 1) hx hb dL_isDone_63 (by decide) ?_
        refine lv_goto (tgt := 68) hx hb dL_isDone_64 (by decide) ?_
        refine lv_istore_n (lv' := [(3, .int 1), (0, .ref (b + a1)), (1, .int a2), (2, .int a3), (4, .int x2)]) hx hb dL_isDone_68 rfl hl (by decide) rfl (fun ls hl => ?_)
        obtain ⟨x15, e16, h⟩ := ce_nm_e h
        refine lv_iinc (v := x15) (lv' := [(4, .int x15), (3, .int 1), (0, .ref (b + a1)), (1, .int a2), (2, .int a3)]) hx hb dL_isDone_69 hl (k := 4) rfl (by rw [← e16]; rfl) (by decide) rfl (fun ls hl => ?_)
        refine lv_goto (tgt := 5) hx hb dL_isDone_72 (by decide) ?_
        exact ih4 1 x15 h  _ _ _ hA hS (lv_sub hl [2, 3, 4, 1, 0] rfl)
      · have h := ce_ie c14 h
        refine lv_aload_n hx hb dL_isDone_29 rfl (lv_at hl 0 rfl) ?_
        refine lv_iload hx hb dL_isDone_30 (lv_at hl 4 rfl) ?_
        refine lv_iconst (v := 4) hx hb dL_isDone_32 (by decide) ?_
        obtain ⟨x17, g18, h⟩ := ce_b1_e h
        refine ce_callWi (As := [.ref (b + a1), .int x2, .int 4]) (rest := []) hx hb hml hown hB (c0_L_one l hfl X G b ha1 g18) ce_s_L_one ce_w619 ⟨Nat.le_of_ble_eq_true rfl, Nat.le_of_ble_eq_true rfl⟩ hF hA hS hl rfl rfl (Nat.le_of_ble_eq_true rfl) dL_isDone_33 ⟨Nat.le_of_ble_eq_true rfl, Nat.le_of_ble_eq_true rfl⟩ (fun H locs hA hS => ?_)
        refine lv_iload_n hx hb dL_isDone_36 rfl (lv_at hl 1 rfl) ?_
        refine lv_icmp_ne (tgt := 63) hx hb dL_isDone_37 (by decide) (fun c19 => ?_) (fun c19 => ?_)
        · have h := ce_ie c19 h
          refine lv_iconst (v := 1) hx hb dL_isDone_63 (by decide) ?_
          refine lv_goto (tgt := 68) hx hb dL_isDone_64 (by decide) ?_
          refine lv_istore_n (lv' := [(3, .int 1), (0, .ref (b + a1)), (1, .int a2), (2, .int a3), (4, .int x2)]) hx hb dL_isDone_68 rfl hl (by decide) rfl (fun ls hl => ?_)
          obtain ⟨x20, e21, h⟩ := ce_nm_e h
          refine lv_iinc (v := x20) (lv' := [(4, .int x20), (3, .int 1), (0, .ref (b + a1)), (1, .int a2), (2, .int a3)]) hx hb dL_isDone_69 hl (k := 4) rfl (by rw [← e21]; rfl) (by decide) rfl (fun ls hl => ?_)
          refine lv_goto (tgt := 5) hx hb dL_isDone_72 (by decide) ?_
          exact ih4 1 x20 h  _ _ _ hA hS (lv_sub hl [2, 3, 4, 1, 0] rfl)
        · have h := ce_it c19 h
          refine lv_aload_n hx hb dL_isDone_40 rfl (lv_at hl 0 rfl) ?_
          refine lv_iload hx hb dL_isDone_41 (lv_at hl 4 rfl) ?_
          refine lv_bipush (v := 11) hx hb dL_isDone_43 (by decide) ?_
          obtain ⟨x22, g23, h⟩ := ce_b1_e h
          refine ce_callWi (As := [.ref (b + a1), .int x2, .int 11]) (rest := []) hx hb hml hown hB (c0_L_one l hfl X G b ha1 g23) ce_s_L_one ce_w619 ⟨Nat.le_of_ble_eq_true rfl, Nat.le_of_ble_eq_true rfl⟩ hF hA hS hl rfl rfl (Nat.le_of_ble_eq_true rfl) dL_isDone_45 ⟨Nat.le_of_ble_eq_true rfl, Nat.le_of_ble_eq_true rfl⟩ (fun H locs hA hS => ?_)
          refine lv_iload_n hx hb dL_isDone_48 rfl (lv_at hl 2 rfl) ?_
          refine lv_icmp_gt (tgt := 63) hx hb dL_isDone_49 (by decide) (fun c24 => ?_) (fun c24 => ?_)
          · have h := ce_it c24 h
            refine lv_iconst (v := 1) hx hb dL_isDone_63 (by decide) ?_
            refine lv_goto (tgt := 68) hx hb dL_isDone_64 (by decide) ?_
            refine lv_istore_n (lv' := [(3, .int 1), (0, .ref (b + a1)), (1, .int a2), (2, .int a3), (4, .int x2)]) hx hb dL_isDone_68 rfl hl (by decide) rfl (fun ls hl => ?_)
            obtain ⟨x25, e26, h⟩ := ce_nm_e h
            refine lv_iinc (v := x25) (lv' := [(4, .int x25), (3, .int 1), (0, .ref (b + a1)), (1, .int a2), (2, .int a3)]) hx hb dL_isDone_69 hl (k := 4) rfl (by rw [← e26]; rfl) (by decide) rfl (fun ls hl => ?_)
            refine lv_goto (tgt := 5) hx hb dL_isDone_72 (by decide) ?_
            exact ih4 1 x25 h  _ _ _ hA hS (lv_sub hl [2, 3, 4, 1, 0] rfl)
          · have h := ce_ie c24 h
            refine lv_aload_n hx hb dL_isDone_52 rfl (lv_at hl 0 rfl) ?_
            refine lv_iload hx hb dL_isDone_53 (lv_at hl 4 rfl) ?_
            refine lv_bipush (v := 6) hx hb dL_isDone_55 (by decide) ?_
            obtain ⟨x27, g28, h⟩ := ce_b1_e h
            refine ce_callWi (As := [.ref (b + a1), .int x2, .int 6]) (rest := []) hx hb hml hown hB (c0_L_one l hfl X G b ha1 g28) ce_s_L_one ce_w619 ⟨Nat.le_of_ble_eq_true rfl, Nat.le_of_ble_eq_true rfl⟩ hF hA hS hl rfl rfl (Nat.le_of_ble_eq_true rfl) dL_isDone_57 ⟨Nat.le_of_ble_eq_true rfl, Nat.le_of_ble_eq_true rfl⟩ (fun H locs hA hS => ?_)
            refine lv_if_ne (tgt := 67) hx hb dL_isDone_60 (by decide) (fun c29 => ?_) (fun c29 => ?_)
            · have h := ce_ie c29 h
              refine lv_iconst (v := 0) hx hb dL_isDone_67 (by decide) ?_
              refine lv_istore_n (lv' := [(3, .int 0), (0, .ref (b + a1)), (1, .int a2), (2, .int a3), (4, .int x2)]) hx hb dL_isDone_68 rfl hl (by decide) rfl (fun ls hl => ?_)
              obtain ⟨x30, e31, h⟩ := ce_nm_e h
              refine lv_iinc (v := x30) (lv' := [(4, .int x30), (3, .int 0), (0, .ref (b + a1)), (1, .int a2), (2, .int a3)]) hx hb dL_isDone_69 hl (k := 4) rfl (by rw [← e31]; rfl) (by decide) rfl (fun ls hl => ?_)
              refine lv_goto (tgt := 5) hx hb dL_isDone_72 (by decide) ?_
              exact ih4 0 x30 h  _ _ _ hA hS (lv_sub hl [2, 3, 4, 1, 0] rfl)
            · have h := ce_it c29 h
              refine lv_iconst (v := 1) hx hb dL_isDone_63 (by decide) ?_
              refine lv_goto (tgt := 68) hx hb dL_isDone_64 (by decide) ?_
              refine lv_istore_n (lv' := [(3, .int 1), (0, .ref (b + a1)), (1, .int a2), (2, .int a3), (4, .int x2)]) hx hb dL_isDone_68 rfl hl (by decide) rfl (fun ls hl => ?_)
              obtain ⟨x32, e33, h⟩ := ce_nm_e h
              refine lv_iinc (v := x32) (lv' := [(4, .int x32), (3, .int 1), (0, .ref (b + a1)), (1, .int a2), (2, .int a3)]) hx hb dL_isDone_69 hl (k := 4) rfl (by rw [← e33]; rfl) (by decide) rfl (fun ls hl => ?_)
              refine lv_goto (tgt := 5) hx hb dL_isDone_72 (by decide) ?_
              exact ih4 1 x32 h  _ _ _ hA hS (lv_sub hl [2, 3, 4, 1, 0] rfl)
def f_L_ticked_L82 (M16 : ce_M) (a1 : Nat) (x11 : Int32) (rec26 : Int32 → Int32 → Option (ce_M × Int32)) (x24 : Int32) (x25 : Int32) : Option (ce_M × Int32) :=
  if 16 ≤ x25 then
    ce_gz x24 (
    some (M16, x24))
  else
    if x24 = 0 then
      ce_gz x24 (
      some (M16, x24))
    else
      ce_b1 (f0_L_leaf M16 a1 x25 1) (fun (x32 : Int32) =>
      ce_gi x25 16 (ce_nm (ce_rd M16 450 (Int32.toNatClampNeg x25)) (fun (x34 : Int32) =>
      ce_b1 (f0_L_whole M16 a1 5) (fun (x37 : Int32) =>
      if x37 < (x32 - x34) then
        ce_nm (x25 + 1) (fun (x40 : Int32) =>
        rec26 0 x40)
      else
        ce_b1 (f0_L_leaf M16 a1 x25 1) (fun (x42 : Int32) =>
        ce_gi x25 16 (ce_nm (ce_rd M16 450 (Int32.toNatClampNeg x25)) (fun (x44 : Int32) =>
        ce_b1 (f0_L_whole M16 a1 5) (fun (x47 : Int32) =>
        if (x42 - x44) = x47 then
          ce_nm (x25 + 1) (fun (x50 : Int32) =>
          rec26 1 x50)
        else
          ce_b1 (f_L_isDone M16 a1 x25 x11) (fun (x52 : Int32) =>
          if x52 = 0 then
            ce_nm (x25 + 1) (fun (x55 : Int32) =>
            rec26 0 x55)
          else
            ce_nm (x25 + 1) (fun (x57 : Int32) =>
            rec26 1 x57))))))))))
def f_L_ticked_L7 (a1 : Nat) (u8 : ce_M → Option (ce_M × Int32)) (rec5 : ce_M → Int32 → Option (ce_M × Int32)) (M3 : ce_M) (x4 : Int32) : Option (ce_M × Int32) :=
  if 16 ≤ x4 then
    u8 M3
  else
    ce_b1 (f0_L_leaf M3 a1 x4 1) (fun (x67 : Int32) =>
    ce_gi x4 16 (ce_nm (ce_wr M3 450 (Int32.toNatClampNeg x4) x67) (fun (M69 : ce_M) =>
    ce_nm (x4 + 1) (fun (x72 : Int32) =>
    rec5 M69 x72))))
def f_L_ticked (M : ce_M) (a1 : Nat) : Option (ce_M × Int32) :=
  ce_nm (ce_zr M 450) (fun (M1 : ce_M) =>
  ce_nm (fun (M7 : ce_M) =>
      ce_b1 (f0_L_whole M7 a1 9) (fun (x9 : Int32) =>
      ce_b1 (f0_L_whole M7 a1 3) (fun (x11 : Int32) =>
      ce_b2 (f0_L_passes M7 a1 1) (fun (M13 : ce_M) (x14 : Int32) =>
      ce_nm (ce_cr M7 M13) (fun (M16 : ce_M) =>
      ce_b1 (f0_L_whole M16 a1 9) (fun (x18 : Int32) =>
      ce_nm (fun (x22 : Int32) =>
          ce_lp2 (f_L_ticked_L82 M16 a1 x11) ce_FU x22 0) (fun (u23 : Int32 → Option (ce_M × Int32)) =>
      ce_nm (fun (z21 : Unit) =>
          u23 0) (fun (u20 : Unit → Option (ce_M × Int32)) =>
      if x14 = (x18 - x9) then
        ce_b1 (f0_L_whole M16 a1 3) (fun (x62 : Int32) =>
        if x62 = (x11 + 1) then
          u23 1
        else
          u20 ())
      else
        u20 ())))))))) (fun (u8 : ce_M → Option (ce_M × Int32)) =>
  ce_lp2 (f_L_ticked_L7 a1 u8) ce_FU M1 0))
set_option maxRecDepth 100000 in
set_option maxHeartbeats 4000000 in
theorem c_L_ticked (l : Launch) (hfl : l.stackTraces = false) (X : ce_X) (G : ce_G) (b : Nat) {a1 : Nat} {M : ce_M} (ha1 : ce_kd a1 = 7) {M' : ce_M} {r : Int32} (h : f_L_ticked M a1 = some (M', r)) : ce_CtC l yL_ticked cL_ticked 7 (some .boolean) 10 202 1 16 X G b [.ref (b + a1)] M (some (.int r)) M' := by
  refine ce_ofWC (own := RL) (by decide) rfl (Nat.le_of_ble_eq_true rfl) (fun p e s m below meth c ls hx hb hr hlocks hml hown hB hF hA hl hS => ?_)
  have hK := hF.1
  have hl : lv_has ls 7 [(0, .ref (b + a1))] := hl
  unfold f_L_ticked at h
  refine lv_bipush (v := 16) hx hb dL_ticked_0 (by decide) ?_
  obtain ⟨M1, e2, h⟩ := ce_nm_e h
  refine ce_newT hx hb hB hK hA hS (Nat.le_of_ble_eq_true rfl) (Nat.le_of_ble_eq_true rfl) dL_ticked_2 e2 (fun qa H hA hS => ?_)
  refine lv_astore_n (lv' := [(1, .ref qa), (0, .ref (b + a1))]) hx hb dL_ticked_4 rfl hl (by decide) rfl (fun ls hl => ?_)
  refine lv_iconst (v := 0) hx hb dL_ticked_5 (by decide) ?_
  refine lv_istore_n (lv' := [(2, .int 0), (1, .ref qa), (0, .ref (b + a1))]) hx hb dL_ticked_6 rfl hl (by decide) rfl (fun ls hl => ?_)
  obtain ⟨u8, e65, h⟩ := ce_nm_e h
  have Ju8 : ∀ (M7 : ce_M), u8 M7 = some (M', r) → ce_WgT p l e (ce_R 10 202 1 16) s m (([.ref (b + a1)] : List Value).toArray) below meth c 1 16 (MQ below (ce_Q X b M' (some (.int r))) ([.ref (b + a1)] : List Value).toArray s 1 16 (ce_Ab b)) X b qa M7 7 [(0, .ref (b + a1)), (1, .ref qa)] 28 [] := by
    intro M7 h  H locs ls hA hS hl
    subst e65
    refine lv_aload_n hx hb dL_ticked_28 rfl (lv_at hl 0 rfl) ?_
    refine lv_bipush (v := 9) hx hb dL_ticked_29 (by decide) ?_
    obtain ⟨x9, g10, h⟩ := ce_b1_e h
    refine ce_callWiT (As := [.ref (b + a1), .int 9]) (rest := []) hx hb hml hown hB (c0_L_whole l hfl X G b ha1 g10) ce_s_L_whole ce_w579 ⟨Nat.le_of_ble_eq_true rfl, Nat.le_of_ble_eq_true rfl⟩ hF hA (ce_cr_self _) hS hl rfl rfl (Nat.le_of_ble_eq_true rfl) dL_ticked_31 ⟨Nat.le_of_ble_eq_true rfl, Nat.le_of_ble_eq_true rfl⟩ (fun H locs hA hS => ?_)
    refine lv_istore_n (lv' := [(2, .int x9), (0, .ref (b + a1)), (1, .ref qa)]) hx hb dL_ticked_34 rfl hl (by decide) rfl (fun ls hl => ?_)
    refine lv_aload_n hx hb dL_ticked_35 rfl (lv_at hl 1 rfl) ?_
    refine lv_iconst (v := 3) hx hb dL_ticked_36 (by decide) ?_
    obtain ⟨x11, g12, h⟩ := ce_b1_e h
    refine ce_callWiT (As := [.ref (b + a1), .int 3]) (rest := []) hx hb hml hown hB (c0_L_whole l hfl X G b ha1 g12) ce_s_L_whole ce_w579 ⟨Nat.le_of_ble_eq_true rfl, Nat.le_of_ble_eq_true rfl⟩ hF hA (ce_cr_self _) hS hl rfl rfl (Nat.le_of_ble_eq_true rfl) dL_ticked_37 ⟨Nat.le_of_ble_eq_true rfl, Nat.le_of_ble_eq_true rfl⟩ (fun H locs hA hS => ?_)
    refine lv_istore_n (lv' := [(3, .int x11), (2, .int x9), (0, .ref (b + a1)), (1, .ref qa)]) hx hb dL_ticked_40 rfl hl (by decide) rfl (fun ls hl => ?_)
    refine lv_aload_n hx hb dL_ticked_41 rfl (lv_at hl 2 rfl) ?_
    refine lv_iconst (v := 1) hx hb dL_ticked_42 (by decide) ?_
    obtain ⟨M13, x14, g15, h⟩ := ce_b2_e h
    obtain ⟨M16, e17, h⟩ := ce_nm_e h
    refine ce_callWiT (As := [.ref (b + a1), .int 1]) (rest := []) hx hb hml hown hB (c0_L_passes l hfl X G b ha1 g15) ce_s_L_passes ce_w572 ⟨Nat.le_of_ble_eq_true rfl, Nat.le_of_ble_eq_true rfl⟩ hF hA e17 hS hl rfl rfl (Nat.le_of_ble_eq_true rfl) dL_ticked_43 ⟨Nat.le_of_ble_eq_true rfl, Nat.le_of_ble_eq_true rfl⟩ (fun H locs hA hS => ?_)
    refine lv_istore (lv' := [(4, .int x14), (3, .int x11), (2, .int x9), (0, .ref (b + a1)), (1, .ref qa)]) hx hb dL_ticked_46 hl (by decide) rfl (fun ls hl => ?_)
    refine lv_iload hx hb dL_ticked_48 (lv_at hl 0 rfl) ?_
    refine lv_aload_n hx hb dL_ticked_50 rfl (lv_at hl 3 rfl) ?_
    refine lv_bipush (v := 9) hx hb dL_ticked_51 (by decide) ?_
    obtain ⟨x18, g19, h⟩ := ce_b1_e h
    refine ce_callWiT (As := [.ref (b + a1), .int 9]) (rest := [.int x14]) hx hb hml hown hB (c0_L_whole l hfl X G b ha1 g19) ce_s_L_whole ce_w579 ⟨Nat.le_of_ble_eq_true rfl, Nat.le_of_ble_eq_true rfl⟩ hF hA (ce_cr_self _) hS hl rfl rfl (Nat.le_of_ble_eq_true rfl) dL_ticked_53 ⟨Nat.le_of_ble_eq_true rfl, Nat.le_of_ble_eq_true rfl⟩ (fun H locs hA hS => ?_)
    refine lv_iload_n hx hb dL_ticked_56 rfl (lv_at hl 2 rfl) ?_
    refine lv_isub hx hb dL_ticked_57 ?_
    obtain ⟨u23, e59, h⟩ := ce_nm_e h
    have Ju23 : ∀ (x22 : Int32), u23 x22 = some (M', r) → ce_WgT p l e (ce_R 10 202 1 16) s m (([.ref (b + a1)] : List Value).toArray) below meth c 1 16 (MQ below (ce_Q X b M' (some (.int r))) ([.ref (b + a1)] : List Value).toArray s 1 16 (ce_Ab b)) X b qa M16 7 [(0, .ref (b + a1)), (1, .ref qa), (3, .int x11)] 77 [.int x22] := by
      intro x22 h  H locs ls hA hS hl
      subst e59
      refine lv_istore (lv' := [(5, .int x22), (0, .ref (b + a1)), (1, .ref qa), (3, .int x11)]) hx hb dL_ticked_77 hl (by decide) rfl (fun ls hl => ?_)
      refine lv_iconst (v := 0) hx hb dL_ticked_79 (by decide) ?_
      refine lv_istore (lv' := [(6, .int 0), (5, .int x22), (0, .ref (b + a1)), (1, .ref qa), (3, .int x11)]) hx hb dL_ticked_80 hl (by decide) rfl (fun ls hl => ?_)
      refine ce_lp2_i (y := (M', r)) (P := fun (x24 : Int32) (x25 : Int32) => ce_WgT p l e (ce_R 10 202 1 16) s m (([.ref (b + a1)] : List Value).toArray) below meth c 1 16 (MQ below (ce_Q X b M' (some (.int r))) ([.ref (b + a1)] : List Value).toArray s 1 16 (ce_Ab b)) X b qa M16 7 [(0, .ref (b + a1)), (1, .ref qa), (3, .int x11), (5, .int x24), (6, .int x25)] 82 []) (fun rec26 ih27 x24 x25 h => ?_) _ _ _ h _ _ _ hA hS (lv_sub hl [2, 3, 4, 1, 0] rfl)
      intro H locs ls hA hS hl
      unfold f_L_ticked_L82 at h
      refine lv_iload hx hb dL_ticked_82 (lv_at hl 4 rfl) ?_
      refine lv_bipush (v := 16) hx hb dL_ticked_84 (by decide) ?_
      refine lv_icmp_ge (tgt := 157) hx hb dL_ticked_86 (by decide) (fun c28 => ?_) (fun c28 => ?_)
      · have h := ce_it c28 h
        refine lv_iload hx hb dL_ticked_157 (lv_at hl 3 rfl) ?_
        obtain ⟨z29, h⟩ := ce_gz_e h
        cases h
        exact ce_zretC hx hb hr hlocks z29 hA.1 hS (Nat.le_of_ble_eq_true rfl) (Nat.le_of_ble_eq_true rfl) dL_ticked_159
      · have h := ce_ie c28 h
        refine lv_iload hx hb dL_ticked_89 (lv_at hl 3 rfl) ?_
        refine lv_if_eq (tgt := 157) hx hb dL_ticked_91 (by decide) (fun c30 => ?_) (fun c30 => ?_)
        · have h := ce_it c30 h
          refine lv_iload hx hb dL_ticked_157 (lv_at hl 3 rfl) ?_
          obtain ⟨z31, h⟩ := ce_gz_e h
          cases h
          exact ce_zretC hx hb hr hlocks z31 hA.1 hS (Nat.le_of_ble_eq_true rfl) (Nat.le_of_ble_eq_true rfl) dL_ticked_159
        · have h := ce_ie c30 h
          refine lv_aload_n hx hb dL_ticked_94 rfl (lv_at hl 0 rfl) ?_
          refine lv_iload hx hb dL_ticked_95 (lv_at hl 4 rfl) ?_
          refine lv_iconst (v := 1) hx hb dL_ticked_97 (by decide) ?_
          obtain ⟨x32, g33, h⟩ := ce_b1_e h
          refine ce_callWiT (As := [.ref (b + a1), .int x25, .int 1]) (rest := []) hx hb hml hown hB (c0_L_leaf l hfl X G b ha1 g33) ce_s_L_leaf ce_w670 ⟨Nat.le_of_ble_eq_true rfl, Nat.le_of_ble_eq_true rfl⟩ hF hA (ce_cr_self _) hS hl rfl rfl (Nat.le_of_ble_eq_true rfl) dL_ticked_98 ⟨Nat.le_of_ble_eq_true rfl, Nat.le_of_ble_eq_true rfl⟩ (fun H locs hA hS => ?_)
          refine lv_aload_n hx hb dL_ticked_101 rfl (lv_at hl 1 rfl) ?_
          refine lv_iload hx hb dL_ticked_102 (lv_at hl 4 rfl) ?_
          obtain ⟨i35, h⟩ := ce_gi_e h
          obtain ⟨x34, e36, h⟩ := ce_nm_e h
          refine ce_ialdT hx hb hK hA i35 e36 dL_ticked_104 ?_
          refine lv_isub hx hb dL_ticked_105 ?_
          refine lv_aload_n hx hb dL_ticked_106 rfl (lv_at hl 0 rfl) ?_
          refine lv_iconst (v := 5) hx hb dL_ticked_107 (by decide) ?_
          obtain ⟨x37, g38, h⟩ := ce_b1_e h
          refine ce_callWiT (As := [.ref (b + a1), .int 5]) (rest := [.int (x32 - x34)]) hx hb hml hown hB (c0_L_whole l hfl X G b ha1 g38) ce_s_L_whole ce_w579 ⟨Nat.le_of_ble_eq_true rfl, Nat.le_of_ble_eq_true rfl⟩ hF hA (ce_cr_self _) hS hl rfl rfl (Nat.le_of_ble_eq_true rfl) dL_ticked_108 ⟨Nat.le_of_ble_eq_true rfl, Nat.le_of_ble_eq_true rfl⟩ (fun H locs hA hS => ?_)
          refine lv_icmp_gt (tgt := 148) hx hb dL_ticked_111 (by decide) (fun c39 => ?_) (fun c39 => ?_)
          · have h := ce_it c39 h
            refine lv_iconst (v := 0) hx hb dL_ticked_148 (by decide) ?_
            refine lv_istore (lv' := [(5, .int 0), (0, .ref (b + a1)), (1, .ref qa), (3, .int x11), (6, .int x25)]) hx hb dL_ticked_149 hl (by decide) rfl (fun ls hl => ?_)
            obtain ⟨x40, e41, h⟩ := ce_nm_e h
            refine lv_iinc (v := x40) (lv' := [(6, .int x40), (5, .int 0), (0, .ref (b + a1)), (1, .ref qa), (3, .int x11)]) hx hb dL_ticked_151 hl (k := 4) rfl (by rw [← e41]; rfl) (by decide) rfl (fun ls hl => ?_)
            refine lv_goto (tgt := 82) hx hb dL_ticked_154 (by decide) ?_
            exact ih27 0 x40 h  _ _ _ hA hS (lv_sub hl [2, 3, 4, 1, 0] rfl)
          · have h := ce_ie c39 h
            refine lv_aload_n hx hb dL_ticked_114 rfl (lv_at hl 0 rfl) ?_
            refine lv_iload hx hb dL_ticked_115 (lv_at hl 4 rfl) ?_
            refine lv_iconst (v := 1) hx hb dL_ticked_117 (by decide) ?_
            obtain ⟨x42, g43, h⟩ := ce_b1_e h
            refine ce_callWiT (As := [.ref (b + a1), .int x25, .int 1]) (rest := []) hx hb hml hown hB (c0_L_leaf l hfl X G b ha1 g43) ce_s_L_leaf ce_w670 ⟨Nat.le_of_ble_eq_true rfl, Nat.le_of_ble_eq_true rfl⟩ hF hA (ce_cr_self _) hS hl rfl rfl (Nat.le_of_ble_eq_true rfl) dL_ticked_118 ⟨Nat.le_of_ble_eq_true rfl, Nat.le_of_ble_eq_true rfl⟩ (fun H locs hA hS => ?_)
            refine lv_aload_n hx hb dL_ticked_121 rfl (lv_at hl 1 rfl) ?_
            refine lv_iload hx hb dL_ticked_122 (lv_at hl 4 rfl) ?_
            obtain ⟨i45, h⟩ := ce_gi_e h
            obtain ⟨x44, e46, h⟩ := ce_nm_e h
            refine ce_ialdT hx hb hK hA i45 e46 dL_ticked_124 ?_
            refine lv_isub hx hb dL_ticked_125 ?_
            refine lv_aload_n hx hb dL_ticked_126 rfl (lv_at hl 0 rfl) ?_
            refine lv_iconst (v := 5) hx hb dL_ticked_127 (by decide) ?_
            obtain ⟨x47, g48, h⟩ := ce_b1_e h
            refine ce_callWiT (As := [.ref (b + a1), .int 5]) (rest := [.int (x42 - x44)]) hx hb hml hown hB (c0_L_whole l hfl X G b ha1 g48) ce_s_L_whole ce_w579 ⟨Nat.le_of_ble_eq_true rfl, Nat.le_of_ble_eq_true rfl⟩ hF hA (ce_cr_self _) hS hl rfl rfl (Nat.le_of_ble_eq_true rfl) dL_ticked_128 ⟨Nat.le_of_ble_eq_true rfl, Nat.le_of_ble_eq_true rfl⟩ (fun H locs hA hS => ?_)
            refine lv_icmp_eq (tgt := 144) hx hb dL_ticked_131 (by decide) (fun c49 => ?_) (fun c49 => ?_)
            · have h := ce_it c49 h
              refine lv_iconst (v := 1) hx hb dL_ticked_144 (by decide) ?_
              refine lv_goto (tgt := 149) hx hb dL_ticked_145 (by decide) ?_
              refine lv_istore (lv' := [(5, .int 1), (0, .ref (b + a1)), (1, .ref qa), (3, .int x11), (6, .int x25)]) hx hb dL_ticked_149 hl (by decide) rfl (fun ls hl => ?_)
              obtain ⟨x50, e51, h⟩ := ce_nm_e h
              refine lv_iinc (v := x50) (lv' := [(6, .int x50), (5, .int 1), (0, .ref (b + a1)), (1, .ref qa), (3, .int x11)]) hx hb dL_ticked_151 hl (k := 4) rfl (by rw [← e51]; rfl) (by decide) rfl (fun ls hl => ?_)
              refine lv_goto (tgt := 82) hx hb dL_ticked_154 (by decide) ?_
              exact ih27 1 x50 h  _ _ _ hA hS (lv_sub hl [2, 3, 4, 1, 0] rfl)
            · have h := ce_ie c49 h
              refine lv_aload_n hx hb dL_ticked_134 rfl (lv_at hl 0 rfl) ?_
              refine lv_iload hx hb dL_ticked_135 (lv_at hl 4 rfl) ?_
              refine lv_iload_n hx hb dL_ticked_137 rfl (lv_at hl 2 rfl) ?_
              obtain ⟨x52, g53, h⟩ := ce_b1_e h
              refine ce_callSiT (As := [.ref (b + a1), .int x25, .int x11]) (rest := []) hx hb hml hown hB (c_L_isDone l hfl X G b ha1 g53) ce_s_L_isDone ce_w818 ⟨Nat.le_of_ble_eq_true rfl, Nat.le_of_ble_eq_true rfl⟩ hF hA hS hl rfl rfl (Nat.le_of_ble_eq_true rfl) dL_ticked_138 ⟨Nat.le_of_ble_eq_true rfl, Nat.le_of_ble_eq_true rfl⟩ (fun H locs hA hS => ?_)
              refine lv_if_eq (tgt := 148) hx hb dL_ticked_141 (by decide) (fun c54 => ?_) (fun c54 => ?_)
              · have h := ce_it c54 h
                refine lv_iconst (v := 0) hx hb dL_ticked_148 (by decide) ?_
                refine lv_istore (lv' := [(5, .int 0), (0, .ref (b + a1)), (1, .ref qa), (3, .int x11), (6, .int x25)]) hx hb dL_ticked_149 hl (by decide) rfl (fun ls hl => ?_)
                obtain ⟨x55, e56, h⟩ := ce_nm_e h
                refine lv_iinc (v := x55) (lv' := [(6, .int x55), (5, .int 0), (0, .ref (b + a1)), (1, .ref qa), (3, .int x11)]) hx hb dL_ticked_151 hl (k := 4) rfl (by rw [← e56]; rfl) (by decide) rfl (fun ls hl => ?_)
                refine lv_goto (tgt := 82) hx hb dL_ticked_154 (by decide) ?_
                exact ih27 0 x55 h  _ _ _ hA hS (lv_sub hl [2, 3, 4, 1, 0] rfl)
              · have h := ce_ie c54 h
                refine lv_iconst (v := 1) hx hb dL_ticked_144 (by decide) ?_
                refine lv_goto (tgt := 149) hx hb dL_ticked_145 (by decide) ?_
                refine lv_istore (lv' := [(5, .int 1), (0, .ref (b + a1)), (1, .ref qa), (3, .int x11), (6, .int x25)]) hx hb dL_ticked_149 hl (by decide) rfl (fun ls hl => ?_)
                obtain ⟨x57, e58, h⟩ := ce_nm_e h
                refine lv_iinc (v := x57) (lv' := [(6, .int x57), (5, .int 1), (0, .ref (b + a1)), (1, .ref qa), (3, .int x11)]) hx hb dL_ticked_151 hl (k := 4) rfl (by rw [← e58]; rfl) (by decide) rfl (fun ls hl => ?_)
                refine lv_goto (tgt := 82) hx hb dL_ticked_154 (by decide) ?_
                exact ih27 1 x57 h  _ _ _ hA hS (lv_sub hl [2, 3, 4, 1, 0] rfl)
    obtain ⟨u20, e60, h⟩ := ce_nm_e h
    have Ju20 : ∀ (z21 : Unit), u20 z21 = some (M', r) → ce_WgT p l e (ce_R 10 202 1 16) s m (([.ref (b + a1)] : List Value).toArray) below meth c 1 16 (MQ below (ce_Q X b M' (some (.int r))) ([.ref (b + a1)] : List Value).toArray s 1 16 (ce_Ab b)) X b qa M16 7 [(0, .ref (b + a1)), (1, .ref qa), (3, .int x11)] 76 [] := by
      intro z21 h  H locs ls hA hS hl
      subst e60
      refine lv_iconst (v := 0) hx hb dL_ticked_76 (by decide) ?_
      exact Ju23 0 h  _ _ _ hA hS (lv_sub hl [0, 1, 2] rfl)
    refine lv_icmp_ne (tgt := 76) hx hb dL_ticked_58 (by decide) (fun c61 => ?_) (fun c61 => ?_)
    · have h := ce_ie c61 h
      exact Ju20 () h  _ _ _ hA hS (lv_sub hl [3, 4, 1] rfl)
    · have h := ce_it c61 h
      refine lv_aload_n hx hb dL_ticked_61 rfl (lv_at hl 3 rfl) ?_
      refine lv_iconst (v := 3) hx hb dL_ticked_62 (by decide) ?_
      obtain ⟨x62, g63, h⟩ := ce_b1_e h
      refine ce_callWiT (As := [.ref (b + a1), .int 3]) (rest := []) hx hb hml hown hB (c0_L_whole l hfl X G b ha1 g63) ce_s_L_whole ce_w579 ⟨Nat.le_of_ble_eq_true rfl, Nat.le_of_ble_eq_true rfl⟩ hF hA (ce_cr_self _) hS hl rfl rfl (Nat.le_of_ble_eq_true rfl) dL_ticked_63 ⟨Nat.le_of_ble_eq_true rfl, Nat.le_of_ble_eq_true rfl⟩ (fun H locs hA hS => ?_)
      refine lv_iload_n hx hb dL_ticked_66 rfl (lv_at hl 1 rfl) ?_
      refine lv_iconst (v := 1) hx hb dL_ticked_67 (by decide) ?_
      refine lv_iadd hx hb dL_ticked_68 ?_
      refine lv_icmp_ne (tgt := 76) hx hb dL_ticked_69 (by decide) (fun c64 => ?_) (fun c64 => ?_)
      · have h := ce_ie c64 h
        exact Ju20 () h  _ _ _ hA hS (lv_sub hl [3, 4, 1] rfl)
      · have h := ce_it c64 h
        refine lv_iconst (v := 1) hx hb dL_ticked_72 (by decide) ?_
        refine lv_goto (tgt := 77) hx hb dL_ticked_73 (by decide) ?_
        exact Ju23 1 h  _ _ _ hA hS (lv_sub hl [3, 4, 1] rfl)
  refine ce_lp2_i (y := (M', r)) (P := fun (M3 : ce_M) (x4 : Int32) => ce_WgT p l e (ce_R 10 202 1 16) s m (([.ref (b + a1)] : List Value).toArray) below meth c 1 16 (MQ below (ce_Q X b M' (some (.int r))) ([.ref (b + a1)] : List Value).toArray s 1 16 (ce_Ab b)) X b qa M3 7 [(0, .ref (b + a1)), (1, .ref qa), (2, .int x4)] 7 []) (fun rec5 ih6 M3 x4 h => ?_) _ _ _ h _ _ _ hA hS (lv_sub hl [2, 1, 0] rfl)
  intro H locs ls hA hS hl
  unfold f_L_ticked_L7 at h
  refine lv_iload_n hx hb dL_ticked_7 rfl (lv_at hl 2 rfl) ?_
  refine lv_bipush (v := 16) hx hb dL_ticked_8 (by decide) ?_
  refine lv_icmp_ge (tgt := 28) hx hb dL_ticked_10 (by decide) (fun c66 => ?_) (fun c66 => ?_)
  · have h := ce_it c66 h
    exact Ju8 M3 h  _ _ _ hA hS (lv_sub hl [0, 1] rfl)
  · have h := ce_ie c66 h
    refine lv_aload_n hx hb dL_ticked_13 rfl (lv_at hl 1 rfl) ?_
    refine lv_iload_n hx hb dL_ticked_14 rfl (lv_at hl 2 rfl) ?_
    refine lv_aload_n hx hb dL_ticked_15 rfl (lv_at hl 0 rfl) ?_
    refine lv_iload_n hx hb dL_ticked_16 rfl (lv_at hl 2 rfl) ?_
    refine lv_iconst (v := 1) hx hb dL_ticked_17 (by decide) ?_
    obtain ⟨x67, g68, h⟩ := ce_b1_e h
    refine ce_callWiT (As := [.ref (b + a1), .int x4, .int 1]) (rest := [.int x4, .ref qa]) hx hb hml hown hB (c0_L_leaf l hfl X G b ha1 g68) ce_s_L_leaf ce_w670 ⟨Nat.le_of_ble_eq_true rfl, Nat.le_of_ble_eq_true rfl⟩ hF hA (ce_cr_self _) hS hl rfl rfl (Nat.le_of_ble_eq_true rfl) dL_ticked_18 ⟨Nat.le_of_ble_eq_true rfl, Nat.le_of_ble_eq_true rfl⟩ (fun H locs hA hS => ?_)
    obtain ⟨i70, h⟩ := ce_gi_e h
    obtain ⟨M69, e71, h⟩ := ce_nm_e h
    refine ce_iastT hx hb hK hA hS i70 dL_ticked_21 e71 (fun H locs hA hS => ?_)
    obtain ⟨x72, e73, h⟩ := ce_nm_e h
    refine lv_iinc (v := x72) (lv' := [(2, .int x72), (0, .ref (b + a1)), (1, .ref qa)]) hx hb dL_ticked_22 hl (k := 2) rfl (by rw [← e73]; rfl) (by decide) rfl (fun ls hl => ?_)
    refine lv_goto (tgt := 7) hx hb dL_ticked_25 (by decide) ?_
    exact ih6 M69 x72 h  _ _ _ hA hS (lv_sub hl [1, 2, 0] rfl)
