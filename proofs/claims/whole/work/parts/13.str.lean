/-! TEXTS: the JDK methods that are reached with them -/
theorem ce_w18 : Cond.initialized RJ0 ∈ ce_big := ce_b1i 18 rfl rfl
theorem ce_w19 : Cond.initialized RJ1 ∈ ce_big := ce_b1i 19 rfl rfl
theorem ce_w20 : Cond.initialized RJ3 ∈ ce_big := ce_b1i 20 rfl rfl
theorem ce_w319 : Cond.methodLink RJ0 335 yJ0_coder_7d493 ∈ ce_big := ce_b2i 79 rfl rfl
theorem ce_w329 : Cond.methodLink RJ0 492 yJ0_isLatin1_aae02 ∈ ce_big := ce_b2i 89 rfl rfl
theorem ce_w333 : Cond.methodLink RJ0 495 yJ1_charAt_3b067 ∈ ce_big := ce_b2i 93 rfl rfl
theorem ce_w336 : Cond.methodLink RJ1 9 yJ0_checkIndex_df160 ∈ ce_big := ce_b2i 96 rfl rfl
theorem ce_w341 : Cond.methodLink RJ0 1059 yJ3_checkIndex_8e157 ∈ ce_big := ce_b2i 101 rfl rfl
theorem ce_w323 : Cond.fieldLink RJ0 38 RJ0 "COMPACT_STRINGS" "Z" ∈ ce_big := ce_b2i 83 rfl rfl
theorem ce_w339 : Cond.fieldLink RJ0 1053 RJ3 "SIOOBE_FORMATTER" "Ljava/util/function/BiFunction;" ∈ ce_big := ce_b2i 99 rfl rfl
theorem ce_w1299 : Cond.fieldLink RJ0 9 RJ0 "value" "[B" ∈ ce_big := ce_b6i 99 rfl rfl
theorem ce_w1300 : Cond.fieldLink RJ0 15 RJ0 "coder" "B" ∈ ce_big := ce_b6i 100 rfl rfl
theorem ce_w318 : Cond.code yJ0_length_8abf5 cJ0_length_8abf5 1 (some .int) ∈ ce_big := ce_b2i 78 rfl rfl
theorem ce_w316 : Cond.instanceMethod yJ0_length_8abf5 ∈ ce_big := ce_b2i 76 rfl rfl
theorem ce_w317 : Cond.selects RJ0 yJ0_length_8abf5 yJ0_length_8abf5 ∈ ce_big := ce_b2i 77 rfl rfl
theorem ce_v_J0_length_8abf5 : ce_yV RJ0 yJ0_length_8abf5 cJ0_length_8abf5 1 (some .int) 0 := ⟨rfl, by decide +kernel, ce_w318, ce_w316, ce_w317, ce_w18⟩
theorem ce_w328 : Cond.code yJ0_charAt_5068e cJ0_charAt_5068e 2 (some .char) ∈ ce_big := ce_b2i 88 rfl rfl
theorem ce_w326 : Cond.instanceMethod yJ0_charAt_5068e ∈ ce_big := ce_b2i 86 rfl rfl
theorem ce_w327 : Cond.selects RJ0 yJ0_charAt_5068e yJ0_charAt_5068e ∈ ce_big := ce_b2i 87 rfl rfl
theorem ce_v_J0_charAt_5068e : ce_yV RJ0 yJ0_charAt_5068e cJ0_charAt_5068e 2 (some .char) 1 := ⟨rfl, by decide +kernel, ce_w328, ce_w326, ce_w327, ce_w18⟩
theorem ce_w322 : Cond.code yJ0_coder_7d493 cJ0_coder_7d493 1 (some .byte) ∈ ce_big := ce_b2i 82 rfl rfl
theorem ce_w320 : Cond.instanceMethod yJ0_coder_7d493 ∈ ce_big := ce_b2i 80 rfl rfl
theorem ce_w321 : Cond.selects RJ0 yJ0_coder_7d493 yJ0_coder_7d493 ∈ ce_big := ce_b2i 81 rfl rfl
theorem ce_v_J0_coder_7d493 : ce_yV RJ0 yJ0_coder_7d493 cJ0_coder_7d493 1 (some .byte) 0 := ⟨rfl, by decide +kernel, ce_w322, ce_w320, ce_w321, ce_w18⟩
theorem ce_w332 : Cond.code yJ0_isLatin1_aae02 cJ0_isLatin1_aae02 1 (some .boolean) ∈ ce_big := ce_b2i 92 rfl rfl
theorem ce_w330 : Cond.instanceMethod yJ0_isLatin1_aae02 ∈ ce_big := ce_b2i 90 rfl rfl
theorem ce_w331 : Cond.selects RJ0 yJ0_isLatin1_aae02 yJ0_isLatin1_aae02 ∈ ce_big := ce_b2i 91 rfl rfl
theorem ce_v_J0_isLatin1_aae02 : ce_yV RJ0 yJ0_isLatin1_aae02 cJ0_isLatin1_aae02 1 (some .boolean) 0 := ⟨rfl, by decide +kernel, ce_w332, ce_w330, ce_w331, ce_w18⟩
theorem ce_w338 : Cond.code yJ0_checkIndex_df160 cJ0_checkIndex_df160 2 none ∈ ce_big := ce_b2i 98 rfl rfl
theorem ce_w337 : Cond.static yJ0_checkIndex_df160 ∈ ce_big := ce_b2i 97 rfl rfl
theorem ce_s_J0_checkIndex_df160 : ce_yS RJ0 yJ0_checkIndex_df160 cJ0_checkIndex_df160 2 none 2 := ⟨rfl, by decide +kernel, ce_w338, ce_w337, ce_w18⟩
theorem ce_w335 : Cond.code yJ1_charAt_3b067 cJ1_charAt_3b067 2 (some .char) ∈ ce_big := ce_b2i 95 rfl rfl
theorem ce_w334 : Cond.static yJ1_charAt_3b067 ∈ ce_big := ce_b2i 94 rfl rfl
theorem ce_s_J1_charAt_3b067 : ce_yS RJ1 yJ1_charAt_3b067 cJ1_charAt_3b067 2 (some .char) 2 := ⟨rfl, by decide +kernel, ce_w335, ce_w334, ce_w19⟩
theorem ce_w343 : Cond.code yJ3_checkIndex_8e157 cJ3_checkIndex_8e157 3 (some .int) ∈ ce_big := ce_b2i 103 rfl rfl
theorem ce_w342 : Cond.static yJ3_checkIndex_8e157 ∈ ce_big := ce_b2i 102 rfl rfl
theorem ce_s_J3_checkIndex_8e157 : ce_yS RJ3 yJ3_checkIndex_8e157 cJ3_checkIndex_8e157 3 (some .int) 3 := ⟨rfl, by decide +kernel, ce_w343, ce_w342, ce_w20⟩
def ce_slenF (i : Nat) : Int32 := nI (ce_slen.getD i 0)
def ce_schr (i j : Nat) : Int32 := (ce_sbyt.getD i []).getD j 0
theorem ce_sbytes : ∀ i, i < 7 → ∀ j, j < ce_slen.getD i 0 → ((ce_schr i j &&& 255).toUInt32 % 65536).toInt32 = ce_schr i j ∧ narrow .char (.int (ce_schr i j)) = .int (ce_schr i j) := by decide +kernel
theorem ce_slens : ∀ i, i < 7 → ce_slen.getD i 0 < 6 ∧ nI (ce_slen.getD i 0) >>> ((0 : Int32) &&& 31) = nI (ce_slen.getD i 0) := by decide +kernel
section CESTR
variable {p : Program} {l : Launch} {e : Env} {R : Room} {s : State} {m : MethodId} {args : Array Value} {below : List Frame} {meth : Method} {c : Code} {H : Heap} {locs : List Loc} {cells slots : Nat} {Q : State → Prop}
variable {cc : ByteArray} {pc : Nat} {ls : Array Slot} {rest : List Value} {X : ce_X} {G : ce_G} {b : Nat} {M M' : ce_M}
variable {y : MethodName} {bytes : ByteArray} {maxL nL n index fr lo : Nat} {ret : Option FieldType} {own C : String} {As : List Value} {rv : Option Value} {st0 st1 : List Value} {lv : List (Nat × Value)} {a : Nat}
theorem ce_callA (hx : p.tables.exec = Jvm.exec) (hb : c.code = cc) (hml : c.maxLocals = nL) (hown : s.vm.findClass own = some m.cls) (hB : ∀ w ∈ ce_big, w.before args s = true) (hM : ce_Ct l y bytes maxL ret fr lo X G b (.ref a :: As) M rv M') (hy : ce_yV C y bytes maxL ret n) (hlk : Cond.methodLink own index y ∈ ce_big) (hR : fr + 1 ≤ R.frames ∧ 8 + (maxL + 11) + lo ≤ R.locals) (hF : ce_Fx X G b s) (hA : ce_Ar X b M H) (hS : va_S (ce_Ab b) s.heap H locs) (hrc : ∃ cell : Cell, H[a]? = some cell ∧ cell.vm.isStatics = false ∧ s.vm.findClass C = some cell.cls) (hl : lv_has ls nL lv)
    (hn : As.length = n) (hstk : st0 = As.reverse ++ .ref a :: rest) (hst : rv.toList ++ rest = st1) (hW : (rest.map fun v => v.category).sum ≤ 8) (hdg : decode cc pc = .ok (.invokevirtual index, 3)) (hf : cells ≤ R.cells ∧ slots ≤ R.slots)
    (kk : ∀ (H1 : Heap) (locs1 : List Loc), ce_Ar X b M' H1 → va_S (ce_Ab b) s.heap H1 locs1 → W p l e R s m args below meth c H1 locs1 cells slots Q (F0 m (pc + 3) ls st1)) : W p l e R s m args below meth c H locs cells slots Q (F0 m pc ls st0) :=
  ce_after (va_runV (Ts := ce_big) ⟨hx, hb, hml, hown, hB⟩ hM (cwV n hB (ce_goodV hy hlk) rfl rfl rfl ⟨hy.1, hy.2.1⟩ hR) ⟨ce_blind, hrc, fun U hU hWm => ⟨rfl, hF.next hS hU hWm, by rw [hU]; exact hA⟩⟩ rfl hn hl.1 hstk (lv_room hW) hdg hf) hst hS kk
theorem ce_goodT {own C : String} {index : Nat} {y : MethodName} {bytes : ByteArray} {maxL : Nat} {ret : Option FieldType} {n : Nat} (hy : ce_yS C y bytes maxL ret n) (hlk : Cond.methodLink own index y ∈ ce_big) : GoodIn ce_big (va_wsS own index y (Cond.code y bytes maxL ret :: ce_big)) := ce_bigGood _ (fun w hw => by
  obtain ⟨h0, -, h1, h2, h3⟩ := hy
  unfold va_wsS at hw
  rcases List.mem_append.mp hw with hw | hw
  · simp only [List.mem_cons, List.not_mem_nil, or_false] at hw
    rcases hw with rfl | rfl | rfl
    · exact hlk
    · exact h2
    · rw [h0]; exact h3
  · rcases List.mem_cons.mp hw with rfl | hw
    · exact h1
    · exact hw)
/-- a static method of another class -/
theorem ce_callT (hx : p.tables.exec = Jvm.exec) (hb : c.code = cc) (hml : c.maxLocals = nL) (hown : s.vm.findClass own = some m.cls) (hB : ∀ w ∈ ce_big, w.before args s = true) (hM : ce_Ct l y bytes maxL ret fr lo X G b As M rv M') (hy : ce_yS C y bytes maxL ret n) (hlk : Cond.methodLink own index y ∈ ce_big) (hR : fr + 1 ≤ R.frames ∧ 8 + (maxL + 11) + lo ≤ R.locals) (hF : ce_Fx X G b s) (hA : ce_Ar X b M H) (hS : va_S (ce_Ab b) s.heap H locs) (hl : lv_has ls nL lv)
    (hn : As.length = n) (hstk : st0 = As.reverse ++ rest) (hst : rv.toList ++ rest = st1) (hW : (rest.map fun v => v.category).sum ≤ 8) (hdg : decode cc pc = .ok (.invokestatic index, 3)) (hf : cells ≤ R.cells ∧ slots ≤ R.slots)
    (kk : ∀ (H1 : Heap) (locs1 : List Loc), ce_Ar X b M' H1 → va_S (ce_Ab b) s.heap H1 locs1 → W p l e R s m args below meth c H1 locs1 cells slots Q (F0 m (pc + 3) ls st1)) : W p l e R s m args below meth c H locs cells slots Q (F0 m pc ls st0) :=
  ce_after (va_runS (Ts := ce_big) ⟨hx, hb, hml, hown, hB⟩ hM (va_cwS n hB (ce_goodT hy hlk) rfl rfl rfl hy.2.1 hR) ⟨ce_blind, fun U hU hWm => ⟨rfl, hF.next hS hU hWm, by rw [hU]; exact hA⟩⟩ rfl hn hl.1 hstk (lv_room hW) hdg hf) hst hS kk
theorem ce_ldcs {q : Nat} {tx : String} (hx : p.tables.exec = Jvm.exec) (hb : c.code = cc) (hown : s.vm.findClass own = some m.cls) (hZ : vk_R own index tx q s) (hd : decode cc pc = .ok (.ldc index, 2)) (kk : W p l e R s m args below meth c H locs cells slots Q (F0 m (pc + 2) ls (.ref q :: rest))) : W p l e R s m args below meth c H locs cells slots Q (F0 m pc ls rest) := va_ldcS hx hb hown hZ hd kk
end CESTR
theorem c_J3_checkIndex_8e157 (l : Launch) (X : ce_X) (G : ce_G) (b : Nat) {M : ce_M} (r : Option Nat) {i n : Int32} (h1 : ¬ i < 0) (h2 : i < n) : ce_Ct l yJ3_checkIndex_8e157 cJ3_checkIndex_8e157 3 (some .int) 0 0 X G b [.int i, .int n, va_rf r] M (some (.int i)) M := by
  refine ce_ofW (own := RJ3) (by decide) rfl (by cases r <;> exact Nat.le_of_ble_eq_true rfl) (fun p e s m below meth c ls hx hb hr hlocks hml hown hB hF hA hl hS => ?_)
  have hl : lv_has ls 3 [(0, .int i), (1, .int n), (2, va_rf r)] := hl
  refine lv_iload_n hx hb dJ3_checkIndex_8e157_0 rfl (lv_at hl 0 rfl) ?_
  refine lv_if_lt (tgt := 9) hx hb dJ3_checkIndex_8e157_1 (by decide) (fun c1 => absurd c1 h1) (fun _ => ?_)
  refine lv_iload_n hx hb dJ3_checkIndex_8e157_4 rfl (lv_at hl 0 rfl) ?_
  refine lv_iload_n hx hb dJ3_checkIndex_8e157_5 rfl (lv_at hl 1 rfl) ?_
  refine lv_icmp_lt (tgt := 16) hx hb dJ3_checkIndex_8e157_6 (by decide) (fun _ => ?_) (fun c1 => absurd h2 c1)
  refine lv_iload_n hx hb dJ3_checkIndex_8e157_16 rfl (lv_at hl 0 rfl) ?_
  exact ce_iret hx hb hr hlocks hA hS dJ3_checkIndex_8e157_17
theorem c_J0_checkIndex_df160 (l : Launch) (X : ce_X) (G : ce_G) (b : Nat) {M : ce_M} {i n : Int32} (h1 : ¬ i < 0) (h2 : i < n) : ce_Ct l yJ0_checkIndex_df160 cJ0_checkIndex_df160 2 none 1 22 X G b [.int i, .int n] M none M := by
  refine ce_ofW (own := RJ0) (by decide) rfl (Nat.le_of_ble_eq_true rfl) (fun p e s m below meth c ls hx hb hr hlocks hml hown hB hF hA hl hS => ?_)
  have hl : lv_has ls 2 [(0, .int i), (1, .int n)] := hl
  obtain ⟨r, hZ⟩ : ∃ r : Option Nat, va_Z "jdk/internal/util/Preconditions" "SIOOBE_FORMATTER" "Ljava/util/function/BiFunction;" (va_rf r) (ce_Ab b) s s.heap := by
    rcases hF.2.2.2.1.2.2.2 with h | ⟨t, h⟩
    · exact ⟨none, h⟩
    · exact ⟨some t, h⟩
  refine lv_iload_n hx hb dJ0_checkIndex_df160_0 rfl (lv_at hl 0 rfl) ?_
  refine lv_iload_n hx hb dJ0_checkIndex_df160_1 rfl (lv_at hl 1 rfl) ?_
  refine va_gets hx hb hZ hS hown (hB _ ce_w339) (fun _ h9 => h9) dJ0_checkIndex_df160_2 ?_
  refine ce_callT (As := [.int i, .int n, va_rf r]) (rest := []) (rv := some (.int i)) hx hb hml hown hB (c_J3_checkIndex_8e157 l X G b r h1 h2) ce_s_J3_checkIndex_8e157 ce_w341 ⟨Nat.le_of_ble_eq_true rfl, Nat.le_of_ble_eq_true rfl⟩ hF hA hS hl rfl rfl rfl (Nat.le_of_ble_eq_true rfl) dJ0_checkIndex_df160_5 ⟨Nat.le_refl _, Nat.le_refl _⟩ (fun H locs hA hS => ?_)
  refine lv_pop hx hb dJ0_checkIndex_df160_8 (va := .int i) rfl ?_
  exact ce_vret hx hb hr hlocks hA hS dJ0_checkIndex_df160_9
theorem c_J1_charAt_3b067 (l : Launch) (X : ce_X) (G : ce_G) (b : Nat) {M : ce_M} {i j : Nat} (hi : i < 7) (hj : j < ce_slen.getD i 0) : ce_Ct l yJ1_charAt_3b067 cJ1_charAt_3b067 2 (some .char) 2 43 X G b [.ref (G.2.2.2 i), .int (nI j)] M (some (.int (ce_schr i j))) M := by
  refine ce_ofW (own := RJ1) (by decide) rfl (Nat.le_of_ble_eq_true rfl) (fun p e s m below meth c ls hx hb hr hlocks hml hown hB hF hA hl hS => ?_)
  have hl : lv_has ls 2 [(0, .ref (G.2.2.2 i)), (1, .int (nI j))] := hl
  obtain ⟨-, -, -, hT⟩ := hF.2.2.2.1.1.1 i hi
  have hL := (ce_slens i hi).1
  refine lv_iload_n hx hb dJ1_charAt_3b067_0 rfl (lv_at hl 1 rfl) ?_
  refine lv_aload_n hx hb dJ1_charAt_3b067_1 rfl (lv_at hl 0 rfl) ?_
  refine va_tlen hx hb hT hS rfl dJ1_charAt_3b067_2 ?_
  refine ce_callT (As := [.int (nI j), .int (nI (ce_slen.getD i 0))]) (rest := []) (rv := none) hx hb hml hown hB (c_J0_checkIndex_df160 l X G b (nI_pos (by omega)) (nI_lt hj (by omega))) ce_s_J0_checkIndex_df160 ce_w336 ⟨Nat.le_of_ble_eq_true rfl, Nat.le_of_ble_eq_true rfl⟩ hF hA hS hl rfl rfl rfl (Nat.le_of_ble_eq_true rfl) dJ1_charAt_3b067_3 ⟨Nat.le_refl _, Nat.le_refl _⟩ (fun H locs hA hS => ?_)
  refine lv_aload_n hx hb dJ1_charAt_3b067_6 rfl (lv_at hl 0 rfl) ?_
  refine lv_iload_n hx hb dJ1_charAt_3b067_7 rfl (lv_at hl 1 rfl) ?_
  refine va_tb hx hb hT hS (vp_in_nI hj (by omega)) (v := .int (ce_schr i j)) (by rw [nI_clamp (by omega)]; rfl) dJ1_charAt_3b067_8 ?_
  refine lv_sipush (v := 255) hx hb dJ1_charAt_3b067_9 (by decide) ?_
  refine lv_iand hx hb dJ1_charAt_3b067_12 ?_
  refine lv_i2c (v := ce_schr i j) hx hb dJ1_charAt_3b067_13 (ce_sbytes i hi j hj).1 ?_
  exact W.zret hx hb hr (ce_sbytes i hi j hj).2 (fun t ht hW => ⟨rfl, by rw [ht]; exact hA, hS.F ht⟩) hS.2.2 dJ1_charAt_3b067_14 hlocks
theorem c_J0_coder_7d493 (l : Launch) (X : ce_X) (G : ce_G) (b : Nat) {M : ce_M} {i : Nat} (hi : i < 7) : ce_Ct l yJ0_coder_7d493 cJ0_coder_7d493 1 (some .byte) 0 0 X G b [.ref (G.2.2.1 i)] M (some (.int 0)) M := by
  refine ce_ofW (own := RJ0) (by decide) rfl (Nat.le_of_ble_eq_true rfl) (fun p e s m below meth c ls hx hb hr hlocks hml hown hB hF hA hl hS => ?_)
  have hl : lv_has ls 1 [(0, .ref (G.2.2.1 i))] := hl
  obtain ⟨-, hC, -, -⟩ := hF.2.2.2.1.1.1 i hi
  refine va_gets hx hb hF.2.2.2.1.2.2.1 hS hown (hB _ ce_w323) (fun _ h9 => h9) dJ0_coder_7d493_0 ?_
  refine lv_if_eq (tgt := 13) hx hb dJ0_coder_7d493_3 (by decide) (fun c1 => absurd c1 (by decide)) (fun _ => ?_)
  refine lv_aload_n hx hb dJ0_coder_7d493_6 rfl (lv_at hl 0 rfl) ?_
  refine vk_getf hx hb hC hS hown (hB _ ce_w1300) (fun _ h9 => h9) dJ0_coder_7d493_7 ?_
  refine lv_goto (tgt := 14) hx hb dJ0_coder_7d493_10 (by decide) ?_
  exact W.zret hx hb hr (by decide) (fun t ht hW => ⟨rfl, by rw [ht]; exact hA, hS.F ht⟩) hS.2.2 dJ0_coder_7d493_14 hlocks
theorem c_J0_isLatin1_aae02 (l : Launch) (X : ce_X) (G : ce_G) (b : Nat) {M : ce_M} {i : Nat} (hi : i < 7) : ce_Ct l yJ0_isLatin1_aae02 cJ0_isLatin1_aae02 1 (some .boolean) 0 0 X G b [.ref (G.2.2.1 i)] M (some (.int 1)) M := by
  refine ce_ofW (own := RJ0) (by decide) rfl (Nat.le_of_ble_eq_true rfl) (fun p e s m below meth c ls hx hb hr hlocks hml hown hB hF hA hl hS => ?_)
  have hl : lv_has ls 1 [(0, .ref (G.2.2.1 i))] := hl
  obtain ⟨-, hC, -, -⟩ := hF.2.2.2.1.1.1 i hi
  refine va_gets hx hb hF.2.2.2.1.2.2.1 hS hown (hB _ ce_w323) (fun _ h9 => h9) dJ0_isLatin1_aae02_0 ?_
  refine lv_if_eq (tgt := 17) hx hb dJ0_isLatin1_aae02_3 (by decide) (fun c1 => absurd c1 (by decide)) (fun _ => ?_)
  refine lv_aload_n hx hb dJ0_isLatin1_aae02_6 rfl (lv_at hl 0 rfl) ?_
  refine vk_getf hx hb hC hS hown (hB _ ce_w1300) (fun _ h9 => h9) dJ0_isLatin1_aae02_7 ?_
  refine lv_if_ne (tgt := 17) hx hb dJ0_isLatin1_aae02_10 (by decide) (fun c1 => absurd rfl c1) (fun _ => ?_)
  refine lv_iconst (v := 1) hx hb dJ0_isLatin1_aae02_13 (by decide) ?_
  refine lv_goto (tgt := 18) hx hb dJ0_isLatin1_aae02_14 (by decide) ?_
  exact ce_zret hx hb hr hlocks (Or.inr rfl) hA hS dJ0_isLatin1_aae02_18
theorem c_J0_length_8abf5 (l : Launch) (X : ce_X) (G : ce_G) (b : Nat) {M : ce_M} {i : Nat} (hi : i < 7) : ce_Ct l yJ0_length_8abf5 cJ0_length_8abf5 1 (some .int) 1 20 X G b [.ref (G.2.2.1 i)] M (some (.int (ce_slenF i))) M := by
  refine ce_ofW (own := RJ0) (by decide) rfl (Nat.le_of_ble_eq_true rfl) (fun p e s m below meth c ls hx hb hr hlocks hml hown hB hF hA hl hS => ?_)
  have hl : lv_has ls 1 [(0, .ref (G.2.2.1 i))] := hl
  obtain ⟨-, -, hV, hT⟩ := hF.2.2.2.1.1.1 i hi
  refine lv_aload_n hx hb dJ0_length_8abf5_0 rfl (lv_at hl 0 rfl) ?_
  refine vk_getf hx hb hV hS hown (hB _ ce_w1299) (fun _ h9 => h9) dJ0_length_8abf5_1 ?_
  refine va_tlen hx hb hT hS rfl dJ0_length_8abf5_4 ?_
  refine lv_aload_n hx hb dJ0_length_8abf5_5 rfl (lv_at hl 0 rfl) ?_
  refine ce_callA (As := []) (rest := [.int (nI (ce_slen.getD i 0))]) (rv := some (.int 0)) hx hb hml hown hB (c_J0_coder_7d493 l X G b hi) ce_v_J0_coder_7d493 ce_w319 ⟨Nat.le_of_ble_eq_true rfl, Nat.le_of_ble_eq_true rfl⟩ hF hA hS (vk_recv hF.2.2.2.1.1 hi hS) hl rfl rfl rfl (Nat.le_of_ble_eq_true rfl) dJ0_length_8abf5_6 ⟨Nat.le_refl _, Nat.le_refl _⟩ (fun H locs hA hS => ?_)
  refine lv_ishr (y := 0) (x := nI (ce_slen.getD i 0)) (rest := []) hx hb dJ0_length_8abf5_9 ?_
  rw [(ce_slens i hi).2]
  exact ce_iret hx hb hr hlocks hA hS dJ0_length_8abf5_10
theorem c_J0_charAt_5068e (l : Launch) (X : ce_X) (G : ce_G) (b : Nat) {M : ce_M} {i j : Nat} (hi : i < 7) (hj : j < ce_slen.getD i 0) : ce_Ct l yJ0_charAt_5068e cJ0_charAt_5068e 2 (some .char) 3 64 X G b [.ref (G.2.2.1 i), .int (nI j)] M (some (.int (ce_schr i j))) M := by
  refine ce_ofW (own := RJ0) (by decide) rfl (Nat.le_of_ble_eq_true rfl) (fun p e s m below meth c ls hx hb hr hlocks hml hown hB hF hA hl hS => ?_)
  have hl : lv_has ls 2 [(0, .ref (G.2.2.1 i)), (1, .int (nI j))] := hl
  obtain ⟨-, -, hV, hT⟩ := hF.2.2.2.1.1.1 i hi
  refine lv_aload_n hx hb dJ0_charAt_5068e_0 rfl (lv_at hl 0 rfl) ?_
  refine ce_callA (As := []) (rest := []) (rv := some (.int 1)) hx hb hml hown hB (c_J0_isLatin1_aae02 l X G b hi) ce_v_J0_isLatin1_aae02 ce_w329 ⟨Nat.le_of_ble_eq_true rfl, Nat.le_of_ble_eq_true rfl⟩ hF hA hS (vk_recv hF.2.2.2.1.1 hi hS) hl rfl rfl rfl (Nat.le_of_ble_eq_true rfl) dJ0_charAt_5068e_1 ⟨Nat.le_refl _, Nat.le_refl _⟩ (fun H locs hA hS => ?_)
  refine lv_if_eq (x := 1) (rest := []) (tgt := 16) hx hb dJ0_charAt_5068e_4 (by decide) (fun c1 => absurd c1 (by decide)) (fun _ => ?_)
  refine lv_aload_n hx hb dJ0_charAt_5068e_7 rfl (lv_at hl 0 rfl) ?_
  refine vk_getf hx hb hV hS hown (hB _ ce_w1299) (fun _ h9 => h9) dJ0_charAt_5068e_8 ?_
  refine lv_iload_n hx hb dJ0_charAt_5068e_11 rfl (lv_at hl 1 rfl) ?_
  refine ce_callT (As := [.ref (G.2.2.2 i), .int (nI j)]) (rest := []) (rv := some (.int (ce_schr i j))) hx hb hml hown hB (c_J1_charAt_3b067 l X G b hi hj) ce_s_J1_charAt_3b067 ce_w333 ⟨Nat.le_of_ble_eq_true rfl, Nat.le_of_ble_eq_true rfl⟩ hF hA hS hl rfl rfl rfl (Nat.le_of_ble_eq_true rfl) dJ0_charAt_5068e_12 ⟨Nat.le_refl _, Nat.le_refl _⟩ (fun H locs hA hS => ?_)
  exact W.zret (v := ce_schr i j) hx hb hr (ce_sbytes i hi j hj).2 (fun t ht hW => ⟨rfl, by rw [ht]; exact hA, hS.F ht⟩) hS.2.2 dJ0_charAt_5068e_15 hlocks
section CESTR2
variable {p : Program} {l : Launch} {e : Env} {R : Room} {s : State} {m : MethodId} {args : Array Value} {below : List Frame} {meth : Method} {c : Code} {H : Heap} {locs : List Loc} {cells slots : Nat} {Q : State → Prop}
variable {cc : ByteArray} {pc : Nat} {ls : Array Slot} {rest : List Value} {X : ce_X} {G : ce_G} {b : Nat} {M M' : ce_M} {nL index : Nat} {own : String} {lv : List (Nat × Value)}
theorem ce_slength {i : Nat} {x : Int32} (hx : p.tables.exec = Jvm.exec) (hb : c.code = cc) (hml : c.maxLocals = nL) (hl : lv_has ls nL lv) (hown : s.vm.findClass own = some m.cls) (hB : ∀ w ∈ ce_big, w.before args s = true) (hlk : Cond.methodLink own index yJ0_length_8abf5 ∈ ce_big) (hF : ce_Fx X G b s) (hA : ce_Ar X b M H) (hS : va_S (ce_Ab b) s.heap H locs) (hi : i < 7) (hv : ce_slenF i = x) (hR : 2 ≤ R.frames ∧ 40 ≤ R.locals) (hW : (rest.map fun v => v.category).sum ≤ 8) (hd : decode cc pc = .ok (.invokevirtual index, 3)) (hf : cells ≤ R.cells ∧ slots ≤ R.slots)
    (kk : ∀ (H1 : Heap) (locs1 : List Loc), ce_Ar X b M H1 → va_S (ce_Ab b) s.heap H1 locs1 → W p l e R s m args below meth c H1 locs1 cells slots Q (F0 m (pc + 3) ls (.int x :: rest))) : W p l e R s m args below meth c H locs cells slots Q (F0 m pc ls (.ref (G.2.2.1 i) :: rest)) := by
  subst hv
  exact ce_callA (As := []) (rest := rest) (rv := some (.int (ce_slenF i))) hx hb hml hown hB (c_J0_length_8abf5 l X G b hi) ce_v_J0_length_8abf5 hlk ⟨hR.1, hR.2⟩ hF hA hS (vk_recv hF.2.2.2.1.1 hi hS) hl rfl rfl rfl hW hd hf kk
theorem ce_scharAt {i : Nat} {j x : Int32} (hx : p.tables.exec = Jvm.exec) (hb : c.code = cc) (hml : c.maxLocals = nL) (hl : lv_has ls nL lv) (hown : s.vm.findClass own = some m.cls) (hB : ∀ w ∈ ce_big, w.before args s = true) (hlk : Cond.methodLink own index yJ0_charAt_5068e ∈ ce_big) (hF : ce_Fx X G b s) (hA : ce_Ar X b M H) (hS : va_S (ce_Ab b) s.heap H locs) (hi : i < 7) (hj : vp_in j (ce_slen.getD i 0)) (hv : ce_schr i (Int32.toNatClampNeg j) = x) (hR : 4 ≤ R.frames ∧ 85 ≤ R.locals) (hW : (rest.map fun v => v.category).sum ≤ 8) (hd : decode cc pc = .ok (.invokevirtual index, 3)) (hf : cells ≤ R.cells ∧ slots ≤ R.slots)
    (kk : ∀ (H1 : Heap) (locs1 : List Loc), ce_Ar X b M H1 → va_S (ce_Ab b) s.heap H1 locs1 → W p l e R s m args below meth c H1 locs1 cells slots Q (F0 m (pc + 3) ls (.int x :: rest))) : W p l e R s m args below meth c H locs cells slots Q (F0 m pc ls (.int j :: .ref (G.2.2.1 i) :: rest)) := by
  subst hv
  obtain ⟨q, hq, rfl⟩ := vp_in_of hj (by have := (ce_slens i hi).1; omega)
  have hq2 : q < 2 ^ 31 := by have := (ce_slens i hi).1; omega
  rw [nI_clamp hq2] at kk
  exact ce_callA (As := [.int (nI q)]) (rest := rest) (rv := some (.int (ce_schr i q))) hx hb hml hown hB (c_J0_charAt_5068e l X G b hi hq) ce_v_J0_charAt_5068e hlk ⟨hR.1, hR.2⟩ hF hA hS (vk_recv hF.2.2.2.1.1 hi hS) hl rfl rfl rfl hW hd hf kk
end CESTR2
