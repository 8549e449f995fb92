/-! THE LAW FROM ITS ENTRY: what the Statement gives, the three makings, the loop -/
set_option maxRecDepth 100000 in
set_option maxHeartbeats 4000000 in
theorem ce_known {s : State} {args : Array Value} (hB : ∀ w ∈ ce_big, w.before args s = true) (hts : ∀ w ∈ lw_tbl, w.before args s = true) : ∃ X : ce_X, va_K X.1 vwCl (ce_tys X) s ∧ va_AO "CellEvents$Subscriber" s ∧ va_AO "CellEvents$World" s := by
  obtain ⟨c0, iS0, hKn0⟩ := u_known (C := RX0) (T := TX0) (N := 6) (n := 6) hB ce_l0 (hB _ ce_w209)
  obtain ⟨c1, iS1, hKn1⟩ := u_known (C := RX1) (T := TX1) (N := 7) (n := 7) hB ce_l1 (hB _ ce_w39)
  obtain ⟨c2, iS2, hKn2⟩ := u_known (C := RX2) (T := TX2) (N := 2) (n := 2) hB ce_l2 (hB _ ce_w95)
  obtain ⟨c3, iS3, hKn3⟩ := u_known (C := RX3) (T := TX3) (N := 4) (n := 4) hB ce_l3 (hB _ ce_w75)
  obtain ⟨c4, iS4, hKn4⟩ := u_known (C := RX4) (T := TX4) (N := 14) (n := 14) hB ce_l4 (hB _ ce_w69)
  obtain ⟨c5, iS5, hKn5⟩ := u_known (C := RX5) (T := TX5) (N := 3) (n := 3) hB ce_l5 (hB _ ce_w189)
  obtain ⟨c6, iS6, hKn6⟩ := u_known (C := RX6) (T := TX6) (N := 7) (n := 7) hB ce_l6 (hB _ ce_w31)
  obtain ⟨c7, iS7, hKn7⟩ := u_known (C := RX7) (T := TX7) (N := 4) (n := 4) hB ce_l7 (hB _ ce_w23)
  obtain ⟨c8, iS8, hKn8⟩ := u_known (C := RX8) (T := TX8) (N := 13) (n := 13) hB ce_l8 (hB _ ce_w939)
  have hO1 : (Cond.arrayOver (.object "CellEvents$Subscriber")).before args s = true := hts _ (List.mem_append_right _ (List.mem_of_getElem? (i := 37) (by decide +kernel)))
  have hO2 : (Cond.arrayOver (.object "CellEvents$World")).before args s = true := hts _ (List.mem_append_right _ (List.mem_of_getElem? (i := 195) (by decide +kernel)))
  obtain ⟨aI, kI, pI, i1, i2, i3⟩ := Cond.arrayClass_spec (hB _ ce_w68)
  obtain ⟨aJ, kJ, pJ, j1, j2, j3⟩ := Cond.arrayClass_spec (hB _ ce_w1297)
  obtain ⟨pS, aS, kS, s1, -, s2, s3, s4⟩ := Cond.arrayOver_spec hO1
  obtain ⟨pW, aW, kW, w1, -, w2, w3, w4⟩ := Cond.arrayOver_spec hO2
  refine ⟨((fun k => match k with | 0 => c0 | 1 => c1 | 2 => c2 | 3 => c3 | 4 => c4 | 5 => c5 | 6 => c6 | 7 => c7 | _ => c8, fun k => match k with | 0 => iS0 | 1 => iS1 | 2 => iS2 | 3 => iS3 | 4 => iS4 | 5 => iS5 | 6 => iS6 | 7 => iS7 | _ => iS8), (aI, aS, aW, aJ)), ⟨fun c q hq => ?_, fun k q hq => ?_⟩, va_AO.of hO1, va_AO.of hO2⟩
  · match c, hq with
    | 0, hq => cases hq; exact hKn0
    | 1, hq => cases hq; exact hKn1
    | 2, hq => cases hq; exact hKn2
    | 3, hq => cases hq; exact hKn3
    | 4, hq => cases hq; exact hKn4
    | 5, hq => cases hq; exact hKn5
    | 6, hq => cases hq; exact hKn6
    | 7, hq => cases hq; exact hKn7
    | 8, hq => cases hq; exact hKn8
    | c + 9, hq => simp [vwCl] at hq
  · match k, hq with
    | 0, hq => cases hq; exact ⟨fun n z => ⟨fun k h => (by cases h), kI, i2, pI, i3⟩, i1⟩
    | 1, hq => cases hq; exact ⟨fun n z => ⟨fun k h => (by cases h), kS, s2, pS, s3⟩, kS, pS, s2, s3, s1, s4⟩
    | 2, hq => cases hq; exact ⟨fun n z => ⟨fun k h => (by cases h), kW, w2, pW, w3⟩, kW, pW, w2, w3, w1, w4⟩
    | 3, hq => cases hq; exact ⟨fun n z => ⟨fun k h => (by cases h), kJ, j2, pJ, j3⟩, j1⟩
    | k + 4, hq => simp [ce_tys] at hq
abbrev ce_stm (i : Nat) : Term := .string "CellEvents$CommandText" (ce_sidx i)
set_option maxRecDepth 100000 in
set_option maxHeartbeats 4000000 in
theorem ce_given {s : State} {sb : Nat} (hts : ∀ w ∈ lw_tbl, w.before #[Value.ref sb] s = true) (hgv : (Jvm.Cond.and given_1 narrow_1).before #[Value.ref sb] s = true) {X : ce_X} (hK : va_K X.1 vwCl (ce_tys X) s) : ∃ G : ce_G, ce_Fx X G s.heap.size s := by
  have hs := flat_of_before _ hgv
  have hA : ∀ a : Nat, a < s.heap.size → ¬ ce_Ab s.heap.size a := fun a h1 h2 => by
    have h2 : s.heap.size ≤ a := h2
    omega
  have tb : ∀ (i : Nat) {w : Cond}, tables_1[i]? = some w → w.before #[Value.ref sb] s = true := fun i w h => hts w (List.mem_append_right _ (List.mem_of_getElem? h))
  obtain ⟨t1, e1, hT1⟩ := va_Tof (tm := .static RX7 "SMALLEST_SETTING" "[I") (ty := .int) (N := 4) (f := fun j => .int (ce_small j)) (A := ce_Ab s.heap.size) (by decide) (hs _ (by decide +kernel)) (va_eqt (hs (Cond.eq (.length (.static RX7 "SMALLEST_SETTING" "[I")) (.int 4)) (by decide +kernel))) (fun j hj => va_eqt (hs _ ((by decide +kernel : ∀ j, j < 4 → Cond.eq (.elem (.static RX7 "SMALLEST_SETTING" "[I") (.int (Int32.ofNat j))) (.int (ce_small j)) ∈ flatC (Jvm.Cond.and given_1 narrow_1)) j hj))) hA
  obtain ⟨t2, e2, hT2⟩ := va_Tof (tm := .static RX7 "LARGEST_SETTING" "[I") (ty := .int) (N := 4) (f := fun j => .int (ce_large j)) (A := ce_Ab s.heap.size) (by decide) (hs _ (by decide +kernel)) (va_eqt (hs (Cond.eq (.length (.static RX7 "LARGEST_SETTING" "[I")) (.int 4)) (by decide +kernel))) (fun j hj => va_eqt (hs _ ((by decide +kernel : ∀ j, j < 4 → Cond.eq (.elem (.static RX7 "LARGEST_SETTING" "[I") (.int (Int32.ofNat j))) (.int (ce_large j)) ∈ flatC (Jvm.Cond.and given_1 narrow_1)) j hj))) hA
  obtain ⟨adK, adV, hSt, hSe⟩ := vk_Sof (N := 7) (tm := ce_stm) (len := ce_slen) (byt := ce_sbyt) (A := ce_Ab s.heap.size) (by decide +kernel) (fun i hi => hs _ ((by decide +kernel : ∀ i, i < 7 → Cond.exactly (ce_stm i) "java/lang/String" ∈ flatC (Jvm.Cond.and given_1 narrow_1)) i hi)) (fun i hi => hs _ ((by decide +kernel : ∀ i, i < 7 → Cond.eq (.field (ce_stm i) "java/lang/String" "coder" "B") (.int 0) ∈ flatC (Jvm.Cond.and given_1 narrow_1)) i hi)) (fun i hi => hs _ ((by decide +kernel : ∀ i, i < 7 → Cond.arrayOf (.field (ce_stm i) "java/lang/String" "value" "[B") .byte ∈ flatC (Jvm.Cond.and given_1 narrow_1)) i hi)) (fun i hi => hs _ ((by decide +kernel : ∀ i, i < 7 → Cond.eq (.length (.field (ce_stm i) "java/lang/String" "value" "[B")) (.int (Int32.ofNat (ce_slen.getD i 0))) ∈ flatC (Jvm.Cond.and given_1 narrow_1)) i hi)) (fun i hi j hj => hs _ ((by decide +kernel : ∀ i, i < 7 → ∀ j, j < ce_slen.getD i 0 → Cond.eq (.elem (.field (ce_stm i) "java/lang/String" "value" "[B") (.int (Int32.ofNat j))) (.int ((ce_sbyt.getD i []).getD j 0)) ∈ flatC (Jvm.Cond.and given_1 narrow_1)) i hi j hj)) (fun i j hi hj hn => by
      have := (by decide +kernel : ∀ i, i < 7 → ∀ j, j < 7 → i ≠ j → (Cond.not (Cond.eq (ce_stm i) (ce_stm j)) ∈ flatC (Jvm.Cond.and given_1 narrow_1) ∨ Cond.not (Cond.eq (ce_stm j) (ce_stm i)) ∈ flatC (Jvm.Cond.and given_1 narrow_1))) i hi j hj hn
      exact this.imp (hs _) (hs _)) hA
  refine ⟨(t1, t2, adK, adV), hK, ⟨fun w hw => ?_, fun w hw => ?_⟩, ⟨⟨va_Zof (tb 465 (by decide +kernel)) (tb 1 (by decide +kernel)) e1 hA, hT1⟩, va_Zof (tb 467 (by decide +kernel)) (tb 1 (by decide +kernel)) e2 hA, hT2⟩, ⟨hSt, fun i hi => vk_R.of (tb (304 + i) ((by decide +kernel : ∀ i, i < 7 → tables_1[304 + i]? = some (Cond.stringRef RX0 (ce_sidx i) (ce_stxt i))) i hi)) (hSe i hi), va_Zof (tb 324 (by decide +kernel)) (tb 18 (by decide +kernel)) (va_eqi (hs _ (by decide +kernel))) hA, va_Zqof (tb 340 (by decide +kernel)) (tb 20 (by decide +kernel)) (hs _ (by decide +kernel)) hA⟩, ⟨vx_Zqof (tb 707 (by decide +kernel)) (tb 10 (by decide +kernel)) (hs _ (by decide +kernel)) hA, vx_Zqof (tb 709 (by decide +kernel)) (tb 10 (by decide +kernel)) (hs _ (by decide +kernel)) hA⟩, ⟨va_Nw.of rfl (tb 682 (by decide +kernel)), va_Nw.of rfl (tb 748 (by decide +kernel)), va_Nw.of rfl (tb 766 (by decide +kernel))⟩, ⟨va_Nw.of rfl (tb 683 (by decide +kernel)), va_Nw.of rfl (tb 685 (by decide +kernel)), va_Nw.of rfl (tb 687 (by decide +kernel))⟩, va_Nc.of (hs _ (by decide +kernel)), va_Nc.of (hs _ (by decide +kernel)), va_Nc.of (hs _ (by decide +kernel))⟩
  · have hm := (by decide +kernel : ∀ w ∈ ce_nest, w ∈ tables_1) w hw
    have hb := hts w (List.mem_append_right _ hm)
    simp only [ce_nest, List.mem_cons, List.not_mem_nil, or_false] at hw
    rcases hw with rfl | rfl | rfl | rfl | rfl | rfl | rfl | rfl <;> exact va_Nw.of rfl hb
  · have hm := (by decide +kernel : ∀ w ∈ ce_nestF, w ∈ tables_1) w hw
    have hb := hts w (List.mem_append_right _ hm)
    simp only [ce_nestF, List.mem_cons, List.not_mem_nil, or_false] at hw
    rcases hw with rfl | rfl <;> exact va_Nw.of rfl hb
set_option maxRecDepth 100000 in
set_option maxHeartbeats 4000000 in
/-- the whole walk, out of what the functions give -/
theorem whole_open (hp : ∀ (xs : Nat → Int32) (L : Nat), L ≤ 2048 → ce_lp2 (f_L_law_L23 xs L) 600 ce_M0 0 = some ()) {p : Program} {e : Env} {s : State} {m : MethodId} {below : List Frame} {meth : Method} {c : Code} (l : Launch) (hflags : l.flags = flags0) {b L : Nat} {xs : Nat → Int32} (hL : L ≤ 2048) (C0 : lw_At p s m meth c b L xs) : W p l e room_1 s m #[Value.ref b] below meth c s.heap [] 0 0 (lw_Z below #[Value.ref b] s) (entryFrame m ([Value.ref b] : List Value).toArray 7) := by
  obtain ⟨hx, hb, hr, hml, hown, hts, hX, hbl, hlocks, hgv⟩ := id C0
  have hB : ∀ w ∈ ce_big, w.before #[Value.ref b] s = true := fun w hw => hts w (ce_bigTbl w hw)
  have hfl : l.stackTraces = false := by unfold Launch.stackTraces; rw [hflags]; decide +kernel
  obtain ⟨X, hK, hO1, hO2⟩ := ce_known hB hts
  obtain ⟨G, hFx⟩ := ce_given hts hgv hK
  have hF : ce_FI X G s.heap.size s := ⟨hFx, hO1, hO2⟩
  obtain ⟨B, hBe⟩ : ∃ B : Nat, B = s.heap.size := ⟨_, rfl⟩
  rw [← hBe] at hF hFx
  have hl := lv_entry ([.ref b]) (n := 7) (Nat.le_of_ble_eq_true rfl)
  rw [lg_entry_eq]
  generalize (lg_sl ([.ref b]) ++ List.replicate (7 - (lg_sl ([.ref b])).length) Slot.unset).toArray = ls at hl ⊢
  have hl : lv_has ls 7 [(0, .ref b)] := hl
  have hS : va_S (ce_Ab (B + 0)) s.heap s.heap [] := va_S.rf
  have hC : ce_Cr X B 0 0 (fun _ => .inr (0, [])) s.heap := ⟨hBe.symm, fun j h1 h2 => absurd h2 (Nat.not_lt_zero j)⟩
  refine ce_newI (C := RX7) (T := TX7) (N := 4) (ci := 7) hx hb hB ce_l7 tyX7 tyX7_ok hown ce_w22 ce_w23 ce_w1 hK rfl ce_rawok7 hC hS (Nat.le_of_ble_eq_true rfl) (Nat.le_of_ble_eq_true rfl) dL_law_0 (fun H hC hS => ?_)
  refine lv_dup hx hb dL_law_3 rfl ?_
  refine ce_callI (v := 0) (sz := 414) (rest := [.ref (B + 0)]) hx hb hml hown hB (c_X7_init l X G B ce_k0) ce_i_X7_init ce_w26 ce_w1 ce_w24 ce_w25 ⟨(Nat.le_of_ble_eq_true rfl), (Nat.le_of_ble_eq_true rfl)⟩ hF hC (Nat.le_refl 0) ce_ups hS hl (Nat.le_of_ble_eq_true rfl) dL_law_4 ⟨(Nat.le_of_ble_eq_true rfl), (Nat.le_of_ble_eq_true rfl)⟩ (fun H locs hC hS => ?_)
  refine lv_astore_n (lv' := [(1, .ref (B + 0)), (0, .ref b)]) hx hb dL_law_7 rfl hl (by decide) rfl (fun ls hl => ?_)
  refine ce_newI (C := RX8) (T := TX8) (N := 13) (ci := 8) (n := 414) hx hb hB ce_l8 tyX8 tyX8_ok hown ce_w938 ce_w939 ce_w9 hK rfl ce_rawok8 hC hS (Nat.le_of_ble_eq_true rfl) (Nat.le_of_ble_eq_true rfl) dL_law_8 (fun H hC hS => ?_)
  refine lv_dup hx hb dL_law_11 rfl ?_
  refine ce_callI (v := 414) (sz := 7) (rest := [.ref (B + 414)]) hx hb hml hown hB (c_X8_init l X G B ce_k414) ce_i_X8_init ce_w942 ce_w9 ce_w940 ce_w941 ⟨(Nat.le_of_ble_eq_true rfl), (Nat.le_of_ble_eq_true rfl)⟩ hF hC (by decide) ce_ups hS hl (Nat.le_of_ble_eq_true rfl) dL_law_12 ⟨(Nat.le_of_ble_eq_true rfl), (Nat.le_of_ble_eq_true rfl)⟩ (fun H locs hC hS => ?_)
  refine lv_astore_n (lv' := [(2, .ref (B + 414)), (1, .ref (B + 0)), (0, .ref b)]) hx hb dL_law_15 rfl hl (by decide) rfl (fun ls hl => ?_)
  refine lv_iconst (v := 1) hx hb dL_law_16 (by decide) ?_
  refine ce_newaJ (n := 421) 1 hx hb hB ce_w1297 hK hC hS (by decide) (by decide) (Nat.le_of_ble_eq_true rfl) (Nat.le_of_ble_eq_true rfl) (Nat.le_of_ble_eq_true rfl) dL_law_17 (fun H hC hS => ?_)
  refine lv_astore_n (lv' := [(3, .ref (B + 421)), (2, .ref (B + 414)), (1, .ref (B + 0)), (0, .ref b)]) hx hb dL_law_19 rfl hl (by decide) rfl (fun ls hl => ?_)
  refine lv_iconst (v := 0) hx hb dL_law_20 (by decide) ?_
  refine lv_istore (lv' := [(4, .int 0), (3, .ref (B + 421)), (2, .ref (B + 414)), (1, .ref (B + 0)), (0, .ref b)]) hx hb dL_law_21 hl (by decide) rfl (fun ls hl => ?_)
  have hA : ce_Ar X B ce_M0 H := fun k hk => by
    have ha := hC.2 k (Nat.zero_le k) hk
    by_cases h1 : k = 421
    · subst h1
      rw [ce_ups] at ha
      rw [ce_k421]
      exact ha
    · rw [ce_upn h1] at ha
      by_cases h2 : k < 414
      · rw [if_pos h2, ce_upn (by omega), if_neg (Nat.not_lt_zero k)] at ha
        exact ha
      · rw [if_neg h2] at ha
        exact ha
  refine W.widen (k := 422) (n := 20000) (by decide) (by decide) ?_
  exact law_loop l hfl hBe hx hb hr hlocks hml hown hB hFx hX hbl 600 ce_M0 0 (hp xs L hL) 422 20000 (by decide) (by decide) H locs ls hA hS (lv_sub hl [4, 3, 2, 1, 0] rfl)
