/-! THE LAW FROM ITS ENTRY: what the Statement gives, the making, the loops -/
theorem ce_w17 : Cond.classLink RL 10 RX7 ∈ ce_big := ce_b1i 17 rfl rfl
set_option maxRecDepth 100000 in
set_option maxHeartbeats 4000000 in
theorem ce_known {s : State} {args : Array Value} (hB : ∀ w ∈ ce_big, w.before args s = true) (hts : ∀ w ∈ lw_tbl, w.before args s = true) : ∃ X : ce_X, va_K X.1 vwCl (ce_tys X) s ∧ va_AO "CellEvents$Subscriber" s ∧ va_AO "CellEvents$World" s := by
  obtain ⟨c0, iS0, hKn0⟩ := u_known (C := RX0) (T := TX0) (N := 6) (n := 6) hB ce_l0 (hB _ ce_w201)
  obtain ⟨c1, iS1, hKn1⟩ := u_known (C := RX1) (T := TX1) (N := 7) (n := 7) hB ce_l1 (hB _ ce_w34)
  obtain ⟨c2, iS2, hKn2⟩ := u_known (C := RX2) (T := TX2) (N := 2) (n := 2) hB ce_l2 (hB _ ce_w89)
  obtain ⟨c3, iS3, hKn3⟩ := u_known (C := RX3) (T := TX3) (N := 4) (n := 4) hB ce_l3 (hB _ ce_w70)
  obtain ⟨c4, iS4, hKn4⟩ := u_known (C := RX4) (T := TX4) (N := 14) (n := 14) hB ce_l4 (hB _ ce_w64)
  obtain ⟨c5, iS5, hKn5⟩ := u_known (C := RX5) (T := TX5) (N := 3) (n := 3) hB ce_l5 (hB _ ce_w181)
  obtain ⟨c6, iS6, hKn6⟩ := u_known (C := RX6) (T := TX6) (N := 7) (n := 7) hB ce_l6 (hB _ ce_w26)
  obtain ⟨c7, iS7, hKn7⟩ := u_known (C := RX7) (T := TX7) (N := 4) (n := 4) hB ce_l7 (hB _ ce_w18)
  have hO1 : (Cond.arrayOver (.object "CellEvents$Subscriber")).before args s = true := hts _ (List.mem_append_right _ (List.mem_of_getElem? (i := 32) (by decide +kernel)))
  have hO2 : (Cond.arrayOver (.object "CellEvents$World")).before args s = true := hts _ (List.mem_append_right _ (List.mem_of_getElem? (i := 187) (by decide +kernel)))
  obtain ⟨aI, kI, pI, i1, i2, i3⟩ := Cond.arrayClass_spec (hB _ ce_w63)
  obtain ⟨pS, aS, kS, s1, -, s2, s3, s4⟩ := Cond.arrayOver_spec hO1
  obtain ⟨pW, aW, kW, w1, -, w2, w3, w4⟩ := Cond.arrayOver_spec hO2
  refine ⟨((fun k => match k with | 0 => c0 | 1 => c1 | 2 => c2 | 3 => c3 | 4 => c4 | 5 => c5 | 6 => c6 | _ => c7, fun k => match k with | 0 => iS0 | 1 => iS1 | 2 => iS2 | 3 => iS3 | 4 => iS4 | 5 => iS5 | 6 => iS6 | _ => iS7), (aI, aS, aW, aI)), ⟨fun c q hq => ?_, fun k q hq => ?_⟩, va_AO.of hO1, va_AO.of hO2⟩
  · match c, hq with
    | 0, hq => cases hq; exact hKn0
    | 1, hq => cases hq; exact hKn1
    | 2, hq => cases hq; exact hKn2
    | 3, hq => cases hq; exact hKn3
    | 4, hq => cases hq; exact hKn4
    | 5, hq => cases hq; exact hKn5
    | 6, hq => cases hq; exact hKn6
    | 7, hq => cases hq; exact hKn7
    | c + 8, hq => simp [vwCl] at hq
  · match k, hq with
    | 0, hq => cases hq; exact ⟨fun n z => ⟨fun k h => (by cases h), kI, i2, pI, i3⟩, i1⟩
    | 1, hq => cases hq; exact ⟨fun n z => ⟨fun k h => (by cases h), kS, s2, pS, s3⟩, kS, pS, s2, s3, s1, s4⟩
    | 2, hq => cases hq; exact ⟨fun n z => ⟨fun k h => (by cases h), kW, w2, pW, w3⟩, kW, pW, w2, w3, w1, w4⟩
    | k + 3, hq => simp [ce_tys] at hq
set_option maxRecDepth 100000 in
set_option maxHeartbeats 4000000 in
theorem ce_given {s : State} {sb L : Nat} {xs : Nat → Int32} (hts : ∀ w ∈ lw_tbl, w.before #[Value.ref sb] s = true) (hgv : (Jvm.Cond.and given_1 narrow_1).before #[Value.ref sb] s = true) (hX : va_X sb L xs s s.heap) (hbl : sb < s.heap.size) {X : ce_X} (hK : va_K X.1 vwCl (ce_tys X) s) : ∃ t1 t2 : Nat, ce_Fx X (t1, t2, sb, L, xs) s.heap.size s := by
  have hs := flat_of_before _ hgv
  have hA : ∀ a : Nat, a < s.heap.size → ¬ ce_Au s.heap.size a := fun a h1 h2 => by
    have h2 : s.heap.size ≤ a := h2
    omega
  have tb : ∀ (i : Nat) {w : Cond}, tables_1[i]? = some w → w.before #[Value.ref sb] s = true := fun i w h => hts w (List.mem_append_right _ (List.mem_of_getElem? h))
  obtain ⟨t1, e1, hT1⟩ := va_Tof (tm := .static RX7 "SMALLEST_SETTING" "[I") (ty := .int) (N := 4) (f := fun j => .int (ce_small j)) (A := ce_Au s.heap.size) (by decide) (hs _ (by decide +kernel)) (va_eqt (hs (Cond.eq (.length (.static RX7 "SMALLEST_SETTING" "[I")) (.int 4)) (by decide +kernel))) (fun j hj => va_eqt (hs _ ((by decide +kernel : ∀ j, j < 4 → Cond.eq (.elem (.static RX7 "SMALLEST_SETTING" "[I") (.int (Int32.ofNat j))) (.int (ce_small j)) ∈ flatC (Jvm.Cond.and given_1 narrow_1)) j hj))) hA
  obtain ⟨t2, e2, hT2⟩ := va_Tof (tm := .static RX7 "LARGEST_SETTING" "[I") (ty := .int) (N := 4) (f := fun j => .int (ce_large j)) (A := ce_Au s.heap.size) (by decide) (hs _ (by decide +kernel)) (va_eqt (hs (Cond.eq (.length (.static RX7 "LARGEST_SETTING" "[I")) (.int 4)) (by decide +kernel))) (fun j hj => va_eqt (hs _ ((by decide +kernel : ∀ j, j < 4 → Cond.eq (.elem (.static RX7 "LARGEST_SETTING" "[I") (.int (Int32.ofNat j))) (.int (ce_large j)) ∈ flatC (Jvm.Cond.and given_1 narrow_1)) j hj))) hA
  have hT3 : va_T .int sb L (fun j => .int (xs j)) (ce_Au s.heap.size) s s.heap := by
    obtain ⟨scr, h1, h2, h3, h4, h5⟩ := hX
    exact ⟨scr, h1, h2, h3, by omega, by rw [h4], h5, hA sb hbl⟩
  refine ⟨t1, t2, hK, ⟨fun w hw => ?_, fun w hw => ?_⟩, ⟨⟨va_Zof (tb 298 (by decide +kernel)) (tb 1 (by decide +kernel)) e1 hA, hT1⟩, va_Zof (tb 300 (by decide +kernel)) (tb 1 (by decide +kernel)) e2 hA, hT2⟩, hT3, ⟨vx_Zqof (tb 339 (by decide +kernel)) (tb 9 (by decide +kernel)) (hs _ (by decide +kernel)) hA, vx_Zqof (tb 341 (by decide +kernel)) (tb 9 (by decide +kernel)) (hs _ (by decide +kernel)) hA⟩, ⟨va_Nw.of rfl (tb 314 (by decide +kernel)), va_Nw.of rfl (tb 380 (by decide +kernel)), va_Nw.of rfl (tb 398 (by decide +kernel))⟩, ⟨va_Nw.of rfl (tb 315 (by decide +kernel)), va_Nw.of rfl (tb 317 (by decide +kernel)), va_Nw.of rfl (tb 319 (by decide +kernel))⟩, va_Nc.of (hs _ (by decide +kernel)), va_Nc.of (hs _ (by decide +kernel)), va_Nc.of (hs _ (by decide +kernel))⟩
  · have hm := (by decide +kernel : ∀ w ∈ ce_nest, w ∈ tables_1) w hw
    have hb := hts w (List.mem_append_right _ hm)
    simp only [ce_nest, List.mem_cons, List.not_mem_nil, or_false] at hw
    rcases hw with rfl | rfl | rfl | rfl | rfl | rfl | rfl | rfl <;> exact va_Nw.of rfl hb
  · have hm := (by decide +kernel : ∀ w ∈ ce_nestF, w ∈ tables_1) w hw
    have hb := hts w (List.mem_append_right _ hm)
    simp only [ce_nestF, List.mem_cons, List.not_mem_nil, or_false] at hw
    rcases hw with rfl | rfl <;> exact va_Nw.of rfl hb
set_option maxRecDepth 100000 in
set_option maxHeartbeats 4000000 in
/-- the whole walk, out of what the functions give -/
theorem whole_open (hp : ∀ (xs : Nat → Int32) (L : Nat), L ≤ 260 → f_L_law_S L xs ce_M0 = some ()) {p : Program} {e : Env} {s : State} {m : MethodId} {below : List Frame} {meth : Method} {c : Code} (l : Launch) (hflags : l.flags = flags0) {b L : Nat} {xs : Nat → Int32} (hL : L ≤ 260) (C0 : lw_At p s m meth c b L xs) : W p l e room_1 s m #[Value.ref b] below meth c s.heap [] 0 0 (lw_Z below #[Value.ref b] s) (entryFrame m ([Value.ref b] : List Value).toArray 8) := by
  obtain ⟨hx, hb, hr, hml, hown, hts, hX, hbl, hlocks, hgv⟩ := id C0
  have hB : ∀ w ∈ ce_big, w.before #[Value.ref b] s = true := fun w hw => hts w (ce_bigTbl w hw)
  have hfl : l.stackTraces = false := by unfold Launch.stackTraces; rw [hflags]; decide +kernel
  obtain ⟨X, hK, hO1, hO2⟩ := ce_known hB hts
  obtain ⟨t1, t2, hFx⟩ := ce_given hts hgv hX hbl hK
  obtain ⟨G, hG⟩ : ∃ G : ce_G, G = (t1, t2, b, L, xs) := ⟨_, rfl⟩
  have hG1 : G.2.2.1 = b := by rw [hG]
  have hG2 : G.2.2.2.1 = L := by rw [hG]
  have hG3 : G.2.2.2.2 = xs := by rw [hG]
  rw [← hG] at hFx
  have hF : ce_FI X G s.heap.size s := ⟨hFx, hO1, hO2⟩
  obtain ⟨B, hBe⟩ : ∃ B : Nat, B = s.heap.size := ⟨_, rfl⟩
  rw [← hBe] at hF hFx
  have hl := lv_entry ([.ref b]) (n := 8) (Nat.le_of_ble_eq_true rfl)
  rw [lg_entry_eq]
  generalize (lg_sl ([.ref b]) ++ List.replicate (8 - (lg_sl ([.ref b])).length) Slot.unset).toArray = ls at hl ⊢
  have hl : lv_has ls 8 [(0, .ref b)] := hl
  have hS : va_S (ce_Au (B + 0)) s.heap s.heap [] := va_S.rf
  have hC : ce_Cr X B 0 0 (fun _ => .inr (0, [])) s.heap := ⟨hBe.symm, fun j h1 h2 => absurd h2 (Nat.not_lt_zero j)⟩
  refine ce_newI (C := RX7) (T := TX7) (N := 4) (ci := 7) hx hb hB ce_l7 tyX7 tyX7_ok hown ce_w17 ce_w18 ce_w1 hK rfl ce_rawok7 hC hS (Nat.le_of_ble_eq_true rfl) (Nat.le_of_ble_eq_true rfl) dL_law_0 (fun H hC hS => ?_)
  refine lv_dup hx hb dL_law_3 rfl ?_
  refine ce_callI (v := 0) (sz := 414) (rest := [.ref (B + 0)]) hx hb hml hown hB (c_X7_init l X G B ce_k0) ce_i_X7_init ce_w21 ce_w1 ce_w19 ce_w20 ⟨ (Nat.le_of_ble_eq_true rfl), (Nat.le_of_ble_eq_true rfl)⟩ hF hC (Nat.le_refl 0) ce_ups hS hl (Nat.le_of_ble_eq_true rfl) dL_law_4 ⟨(Nat.le_of_ble_eq_true rfl), (Nat.le_of_ble_eq_true rfl)⟩ (fun H locs hC hS => ?_)
  refine lv_astore_n (lv' := [(1, .ref (B + 0)), (0, .ref b)]) hx hb dL_law_7 rfl hl (by decide) rfl (fun ls hl => ?_)
  have hA : ce_Ar X B ce_M0 H := fun k hk => by
    have ha := hC.2 k (Nat.zero_le k) hk
    dsimp only at ha
    rw [if_neg (Nat.not_lt_zero k)] at ha
    exact ha
  have hS2 : va_S (ce_Ab B) s.heap H [] := ⟨hS.1, fun q h1 h2 => hS.2.1 q h1 (fun h3 => by
    have h3 : B + 0 ≤ q := h3
    omega), fun _ h => nomatch h⟩
  refine va_forget (fun q hq => by
    have h3 : B + 0 ≤ q.base := hS.2.2 q hq
    omega) ?_
  refine W.widen (k := 414) (n := 20000) (by decide) (by decide) ?_
  refine law_s l hfl hx hb hr hlocks hml hown hB hFx hBe ce_M0 (by rw [hG2, hG3]; exact hp xs L hL) 414 20000 (by decide) (by decide) H [] ls hA hS2 ?_
  rw [hG1]
  exact lv_sub hl [1, 0] rfl
