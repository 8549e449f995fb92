theorem ce_ups {f : Nat → va_E} {j : Nat} {e : va_E} : va_up f j e j = e := if_pos rfl
theorem ce_upn {f : Nat → va_E} {j i : Nat} {e : va_E} (h : i ≠ j) : va_up f j e i = f i := if_neg h
theorem ce_kd415 : ce_kd 415 = 832 := by decide +kernel
theorem ce_M0z {k j : Nat} (h : ce_kd k ≠ 20) (h2 : ce_kd k ≠ 832) : ce_rd ce_M0 k j = 0 := by
  rw [ce_rd_M0, if_neg h, if_neg (fun q => h2 (by rw [q]; exact ce_kd415))]
theorem ce_M0s {k : Nat} (h : ce_kd k = 20) : ce_rd ce_M0 k = upd (upd (upd (upd (fun _ => 0) (Int32.toNatClampNeg 0) 3) (Int32.toNatClampNeg 1) 2) (Int32.toNatClampNeg 2) 2) (Int32.toNatClampNeg 3) 8 := by
  funext j
  rw [ce_rd_M0, if_pos h]
  have e0 : (0 : Int32).toNatClampNeg = 0 := by decide
  have e1 : (1 : Int32).toNatClampNeg = 1 := by decide
  have e2 : (2 : Int32).toNatClampNeg = 2 := by decide
  have e3 : (3 : Int32).toNatClampNeg = 3 := by decide
  rw [e0, e1, e2, e3]
  match j with
  | 0 => rfl
  | 1 => rfl
  | 2 => rfl
  | 3 => rfl
  | j + 4 => simp [upd]
theorem ce_M0m : ce_rd ce_M0 415 = upd (upd (upd (upd (fun _ => 0) (Int32.toNatClampNeg 3) 3) (Int32.toNatClampNeg 4) 2) (Int32.toNatClampNeg 5) 2) (Int32.toNatClampNeg 6) 8 := by
  funext j
  have e0 : (3 : Int32).toNatClampNeg = 3 := by decide
  have e1 : (4 : Int32).toNatClampNeg = 4 := by decide
  have e2 : (5 : Int32).toNatClampNeg = 5 := by decide
  have e3 : (6 : Int32).toNatClampNeg = 6 := by decide
  rw [e0, e1, e2, e3]
  rw [ce_rd_M0, if_neg (by rw [ce_kd415]; decide), if_pos rfl]
  unfold upd
  by_cases h6 : j = 6
  · subst h6; rfl
  · by_cases h5 : j = 5
    · subst h5; rfl
    · by_cases h4 : j = 4
      · subst h4; rfl
      · by_cases h3 : j = 3
        · subst h3; rfl
        · simp [h3, h4, h5, h6]
theorem ce_refs {D : va_G} {cl : List vw_C} {a N : Nat} {cQ : ClassId} {g g' : Nat → Option Nat} {H : Heap} (h : va_at D cl (a, .inl (cQ, N, .inr (.inr (.inr (.inr g))))) H) (e : ∀ i, i < N → g i = g' i) : va_at D cl (a, .inl (cQ, N, .inr (.inr (.inr (.inr g'))))) H := by
  have h1 : H[a]? = some (arrV cQ N (fun j => va_rf (g j))) := h
  show H[a]? = some (arrV cQ N (fun j => va_rf (g' j)))
  rw [h1]
  congr 1
  unfold arrV
  congr 1
  apply Array.ext
  · simp
  · intro i h2 h3
    simp at h2
    simp [e i h2]
theorem ce_iendV {p : Program} {l : Launch} {e : Env} {R : Room} {s : State} {m : MethodId} {args : Array Value} {below : List Frame} {meth : Method} {c : Code} {H : Heap} {locs : List Loc} {cells slots : Nat} {cc : ByteArray} {pc : Nat} {ls : Array Slot} {X : ce_X} {b k : Nat} {mc ms sz : Nat} (hx : p.tables.exec = Jvm.exec) (hb : c.code = cc) (hr : meth.sig.returnType = none) (hlocks : meth.locks = false) (hz : H.size = b + (k + sz)) (hat : ∀ j, k ≤ j → j < k + sz → va_at X.1 vwCl (b + j, ce_ent X b (ce_kd j) j ce_M0) H) (hS : va_S (ce_Ab (b + k)) s.heap H locs) (hc : cells ≤ mc) (hs : slots ≤ ms) (hd : decode cc pc = .ok (.return_, 1)) : W p l e R s m args below meth c H locs cells slots (MQ below (ce_QI X b k sz) args s mc ms (ce_Ab (b + k))) (F0 m pc ls []) :=
  W.widen hc hs (W.vret hx hb hr (fun t ht hW => ⟨rfl, by rw [ht]; exact hz, fun j h1 h2 => by rw [ht]; exact hat j h1 h2, hS.F ht⟩) hS.2.2 hd hlocks)
set_option maxRecDepth 100000 in
set_option maxHeartbeats 4000000 in
theorem c_X2_init (l : Launch) (X : ce_X) (G : ce_G) (b : Nat) {k : Nat} (hk : ce_kd k = 2) : ce_CtI l yX2_init cX2_init 1 1 12 1 12 X G b k 2 (.inr (2, ce_raw2)) := by
  refine ce_ofWI (own := RX2) (by decide) rfl rfl (by decide) (fun p e s m below meth c ls hx hb hr hlocks hname hml hown hB hF hC hl hS => ?_)
  have hK := hF.1.1
  obtain ⟨f0, ef⟩ : ∃ g : Nat → va_E, g = fun _ => .inr (2, ce_raw2) := ⟨_, rfl⟩
  rw [← ef] at hC
  have h0_0 : f0 k = .inr (2, ce_raw2) := by rw [ef]
  clear ef
  refine lv_aload_n hx hb dX2_init_0 rfl (lv_at hl 0 rfl) ?_
  refine ce_objI hx hb hml hl hown hB ce_w99 ce_w28 ce_w29 dX2_init_1 ⟨(Nat.le_of_ble_eq_true rfl), (Nat.le_of_ble_eq_true rfl)⟩ ?_
  refine lv_aload_n hx hb dX2_init_4 rfl (lv_at hl 0 rfl) ?_
  refine lv_bipush (v := 12) hx hb dX2_init_5 (by decide) ?_
  refine ce_newaI 12 hx hb hB ce_w68 hK hC hS (by decide) (by decide) (Nat.le_of_ble_eq_true rfl) (Nat.le_of_ble_eq_true rfl) (Nat.le_of_ble_eq_true rfl) dX2_init_7 (fun H hC hS => ?_)
  obtain ⟨f1, ef⟩ : ∃ g : Nat → va_E, g = va_up f0 (k + 1) (.inl (X.2.1, 12, .inl (fun _ => 0))) := ⟨_, rfl⟩
  have hC : ce_Cr X b k (k + 2) f1 H := by rw [ef]; exact hC
  have h1_0 : f1 k = .inr (2, [.null, .int 0]) := by rw [ef]; exact (ce_upn (by omega)).trans h0_0
  have h1_1 : f1 (k + 1) = .inl (X.2.1, 12, .inl (fun _ => 0)) := by rw [ef]; exact ce_ups
  clear ef
  refine ce_putI (own := RX2) (T := TX2) (N := 2) (ci := 2) hx hb hB ce_l2 tyX2 tyX2_ok nmX2 hown hname hK hC hS k (by omega) (by omega) h1_0 rfl 0 (by decide) rfl ce_w100 rfl (ty := tyX2 0) (by decide +kernel) rfl rfl (Nat.le_of_ble_eq_true rfl) dX2_init_9 (fun H locs hC hS => ?_)
  obtain ⟨f2, ef⟩ : ∃ g : Nat → va_E, g = va_up f1 k (.inr (2, [.ref (b + (k + 1)), .int 0])) := ⟨_, rfl⟩
  have hC : ce_Cr X b k (k + 2) f2 H := by rw [ef]; exact hC
  have h2_0 : f2 k = .inr (2, [.ref (b + (k + 1)), .int 0]) := by rw [ef]; exact ce_ups
  have h2_1 : f2 (k + 1) = .inl (X.2.1, 12, .inl (fun _ => 0)) := by rw [ef]; exact (ce_upn (by omega)).trans h1_1
  clear ef
  refine ce_iendV hx hb hr hlocks hC.1 (fun j hj1 hj2 => ?_) hS (Nat.le_of_ble_eq_true rfl) (Nat.le_of_ble_eq_true rfl) dX2_init_12
  have ha := hC.2 j hj1 (by omega)
  rcases (show j = k ∨ j = (k + 1) by omega) with rfl | rfl
  · rw [h2_0] at ha
    rw [hk]
    simpa only [ce_ent, ce_M0z (by rw [hk]; decide) (by rw [hk]; decide)] using ha
  · rw [h2_1] at ha
    rw [(show ce_kd (k + 1) = 28 from (ce_kf_2_0 hk))]
    have e9 : ce_ent X b 28 (k + 1) ce_M0 = .inl (X.2.1, 12, .inl (fun _ => 0)) := by
      show (Sum.inl (X.2.1, 12, Sum.inl (ce_rd ce_M0 (k + 1))) : va_E) = _
      rw [show ce_rd ce_M0 (k + 1) = fun _ => 0 from funext fun j => ce_M0z (by rw [(show ce_kd (k + 1) = 28 from (ce_kf_2_0 hk))]; decide) (by rw [(show ce_kd (k + 1) = 28 from (ce_kf_2_0 hk))]; decide)]
    rw [e9]
    exact ha
set_option maxRecDepth 100000 in
set_option maxHeartbeats 4000000 in
theorem c_X3_init (l : Launch) (X : ce_X) (G : ce_G) (b : Nat) {k : Nat} (hk : ce_kd k = 3) : ce_CtI l yX3_init cX3_init 1 1 12 3 30 X G b k 4 (.inr (3, ce_raw3)) := by
  refine ce_ofWI (own := RX3) (by decide) rfl rfl (by decide) (fun p e s m below meth c ls hx hb hr hlocks hname hml hown hB hF hC hl hS => ?_)
  have hK := hF.1.1
  obtain ⟨f0, ef⟩ : ∃ g : Nat → va_E, g = fun _ => .inr (3, ce_raw3) := ⟨_, rfl⟩
  rw [← ef] at hC
  have h0_0 : f0 k = .inr (3, ce_raw3) := by rw [ef]
  clear ef
  refine lv_aload_n hx hb dX3_init_0 rfl (lv_at hl 0 rfl) ?_
  refine ce_objI hx hb hml hl hown hB ce_w79 ce_w28 ce_w29 dX3_init_1 ⟨(Nat.le_of_ble_eq_true rfl), (Nat.le_of_ble_eq_true rfl)⟩ ?_
  refine lv_aload_n hx hb dX3_init_4 rfl (lv_at hl 0 rfl) ?_
  refine lv_bipush (v := 10) hx hb dX3_init_5 (by decide) ?_
  refine ce_newaI 10 hx hb hB ce_w68 hK hC hS (by decide) (by decide) (Nat.le_of_ble_eq_true rfl) (Nat.le_of_ble_eq_true rfl) (Nat.le_of_ble_eq_true rfl) dX3_init_7 (fun H hC hS => ?_)
  obtain ⟨f1, ef⟩ : ∃ g : Nat → va_E, g = va_up f0 (k + 1) (.inl (X.2.1, 10, .inl (fun _ => 0))) := ⟨_, rfl⟩
  have hC : ce_Cr X b k (k + 2) f1 H := by rw [ef]; exact hC
  have h1_0 : f1 k = .inr (3, [.null, .null, .null, .int 0]) := by rw [ef]; exact (ce_upn (by omega)).trans h0_0
  have h1_1 : f1 (k + 1) = .inl (X.2.1, 10, .inl (fun _ => 0)) := by rw [ef]; exact ce_ups
  clear ef
  refine ce_putI (own := RX3) (T := TX3) (N := 4) (ci := 3) hx hb hB ce_l3 tyX3 tyX3_ok nmX3 hown hname hK hC hS k (by omega) (by omega) h1_0 rfl 0 (by decide) rfl ce_w80 rfl (ty := tyX3 0) (by decide +kernel) rfl rfl (Nat.le_of_ble_eq_true rfl) dX3_init_9 (fun H locs hC hS => ?_)
  obtain ⟨f2, ef⟩ : ∃ g : Nat → va_E, g = va_up f1 k (.inr (3, [.ref (b + (k + 1)), .null, .null, .int 0])) := ⟨_, rfl⟩
  have hC : ce_Cr X b k (k + 2) f2 H := by rw [ef]; exact hC
  have h2_0 : f2 k = .inr (3, [.ref (b + (k + 1)), .null, .null, .int 0]) := by rw [ef]; exact ce_ups
  have h2_1 : f2 (k + 1) = .inl (X.2.1, 10, .inl (fun _ => 0)) := by rw [ef]; exact (ce_upn (by omega)).trans h1_1
  clear ef
  refine lv_aload_n hx hb dX3_init_12 rfl (lv_at hl 0 rfl) ?_
  refine lv_bipush (v := 10) hx hb dX3_init_13 (by decide) ?_
  refine ce_newaI 10 hx hb hB ce_w68 hK hC hS (by decide) (by decide) (Nat.le_of_ble_eq_true rfl) (Nat.le_of_ble_eq_true rfl) (Nat.le_of_ble_eq_true rfl) dX3_init_15 (fun H hC hS => ?_)
  obtain ⟨f3, ef⟩ : ∃ g : Nat → va_E, g = va_up f2 (k + 2) (.inl (X.2.1, 10, .inl (fun _ => 0))) := ⟨_, rfl⟩
  have hC : ce_Cr X b k (k + 3) f3 H := by rw [ef]; exact hC
  have h3_0 : f3 k = .inr (3, [.ref (b + (k + 1)), .null, .null, .int 0]) := by rw [ef]; exact (ce_upn (by omega)).trans h2_0
  have h3_1 : f3 (k + 1) = .inl (X.2.1, 10, .inl (fun _ => 0)) := by rw [ef]; exact (ce_upn (by omega)).trans h2_1
  have h3_2 : f3 (k + 2) = .inl (X.2.1, 10, .inl (fun _ => 0)) := by rw [ef]; exact ce_ups
  clear ef
  refine ce_putI (own := RX3) (T := TX3) (N := 4) (ci := 3) hx hb hB ce_l3 tyX3 tyX3_ok nmX3 hown hname hK hC hS k (by omega) (by omega) h3_0 rfl 1 (by decide) rfl ce_w81 rfl (ty := tyX3 1) (by decide +kernel) rfl rfl (Nat.le_of_ble_eq_true rfl) dX3_init_17 (fun H locs hC hS => ?_)
  obtain ⟨f4, ef⟩ : ∃ g : Nat → va_E, g = va_up f3 k (.inr (3, [.ref (b + (k + 1)), .ref (b + (k + 2)), .null, .int 0])) := ⟨_, rfl⟩
  have hC : ce_Cr X b k (k + 3) f4 H := by rw [ef]; exact hC
  have h4_0 : f4 k = .inr (3, [.ref (b + (k + 1)), .ref (b + (k + 2)), .null, .int 0]) := by rw [ef]; exact ce_ups
  have h4_1 : f4 (k + 1) = .inl (X.2.1, 10, .inl (fun _ => 0)) := by rw [ef]; exact (ce_upn (by omega)).trans h3_1
  have h4_2 : f4 (k + 2) = .inl (X.2.1, 10, .inl (fun _ => 0)) := by rw [ef]; exact (ce_upn (by omega)).trans h3_2
  clear ef
  refine lv_aload_n hx hb dX3_init_20 rfl (lv_at hl 0 rfl) ?_
  refine lv_bipush (v := 10) hx hb dX3_init_21 (by decide) ?_
  refine ce_newaI 10 hx hb hB ce_w68 hK hC hS (by decide) (by decide) (Nat.le_of_ble_eq_true rfl) (Nat.le_of_ble_eq_true rfl) (Nat.le_of_ble_eq_true rfl) dX3_init_23 (fun H hC hS => ?_)
  obtain ⟨f5, ef⟩ : ∃ g : Nat → va_E, g = va_up f4 (k + 3) (.inl (X.2.1, 10, .inl (fun _ => 0))) := ⟨_, rfl⟩
  have hC : ce_Cr X b k (k + 4) f5 H := by rw [ef]; exact hC
  have h5_0 : f5 k = .inr (3, [.ref (b + (k + 1)), .ref (b + (k + 2)), .null, .int 0]) := by rw [ef]; exact (ce_upn (by omega)).trans h4_0
  have h5_1 : f5 (k + 1) = .inl (X.2.1, 10, .inl (fun _ => 0)) := by rw [ef]; exact (ce_upn (by omega)).trans h4_1
  have h5_2 : f5 (k + 2) = .inl (X.2.1, 10, .inl (fun _ => 0)) := by rw [ef]; exact (ce_upn (by omega)).trans h4_2
  have h5_3 : f5 (k + 3) = .inl (X.2.1, 10, .inl (fun _ => 0)) := by rw [ef]; exact ce_ups
  clear ef
  refine ce_putI (own := RX3) (T := TX3) (N := 4) (ci := 3) hx hb hB ce_l3 tyX3 tyX3_ok nmX3 hown hname hK hC hS k (by omega) (by omega) h5_0 rfl 2 (by decide) rfl ce_w82 rfl (ty := tyX3 2) (by decide +kernel) rfl rfl (Nat.le_of_ble_eq_true rfl) dX3_init_25 (fun H locs hC hS => ?_)
  obtain ⟨f6, ef⟩ : ∃ g : Nat → va_E, g = va_up f5 k (.inr (3, [.ref (b + (k + 1)), .ref (b + (k + 2)), .ref (b + (k + 3)), .int 0])) := ⟨_, rfl⟩
  have hC : ce_Cr X b k (k + 4) f6 H := by rw [ef]; exact hC
  have h6_0 : f6 k = .inr (3, [.ref (b + (k + 1)), .ref (b + (k + 2)), .ref (b + (k + 3)), .int 0]) := by rw [ef]; exact ce_ups
  have h6_1 : f6 (k + 1) = .inl (X.2.1, 10, .inl (fun _ => 0)) := by rw [ef]; exact (ce_upn (by omega)).trans h5_1
  have h6_2 : f6 (k + 2) = .inl (X.2.1, 10, .inl (fun _ => 0)) := by rw [ef]; exact (ce_upn (by omega)).trans h5_2
  have h6_3 : f6 (k + 3) = .inl (X.2.1, 10, .inl (fun _ => 0)) := by rw [ef]; exact (ce_upn (by omega)).trans h5_3
  clear ef
  refine ce_iendV hx hb hr hlocks hC.1 (fun j hj1 hj2 => ?_) hS (Nat.le_of_ble_eq_true rfl) (Nat.le_of_ble_eq_true rfl) dX3_init_28
  have ha := hC.2 j hj1 (by omega)
  rcases (show j = k ∨ j = (k + 1) ∨ j = (k + 2) ∨ j = (k + 3) by omega) with rfl | rfl | rfl | rfl
  · rw [h6_0] at ha
    rw [hk]
    simpa only [ce_ent, ce_M0z (by rw [hk]; decide) (by rw [hk]; decide)] using ha
  · rw [h6_1] at ha
    rw [(show ce_kd (k + 1) = 26 from (ce_kf_3_0 hk))]
    have e9 : ce_ent X b 26 (k + 1) ce_M0 = .inl (X.2.1, 10, .inl (fun _ => 0)) := by
      show (Sum.inl (X.2.1, 10, Sum.inl (ce_rd ce_M0 (k + 1))) : va_E) = _
      rw [show ce_rd ce_M0 (k + 1) = fun _ => 0 from funext fun j => ce_M0z (by rw [(show ce_kd (k + 1) = 26 from (ce_kf_3_0 hk))]; decide) (by rw [(show ce_kd (k + 1) = 26 from (ce_kf_3_0 hk))]; decide)]
    rw [e9]
    exact ha
  · rw [h6_2] at ha
    rw [(show ce_kd (k + 2) = 26 from (ce_kf_3_1 hk))]
    have e9 : ce_ent X b 26 (k + 2) ce_M0 = .inl (X.2.1, 10, .inl (fun _ => 0)) := by
      show (Sum.inl (X.2.1, 10, Sum.inl (ce_rd ce_M0 (k + 2))) : va_E) = _
      rw [show ce_rd ce_M0 (k + 2) = fun _ => 0 from funext fun j => ce_M0z (by rw [(show ce_kd (k + 2) = 26 from (ce_kf_3_1 hk))]; decide) (by rw [(show ce_kd (k + 2) = 26 from (ce_kf_3_1 hk))]; decide)]
    rw [e9]
    exact ha
  · rw [h6_3] at ha
    rw [(show ce_kd (k + 3) = 26 from (ce_kf_3_2 hk))]
    have e9 : ce_ent X b 26 (k + 3) ce_M0 = .inl (X.2.1, 10, .inl (fun _ => 0)) := by
      show (Sum.inl (X.2.1, 10, Sum.inl (ce_rd ce_M0 (k + 3))) : va_E) = _
      rw [show ce_rd ce_M0 (k + 3) = fun _ => 0 from funext fun j => ce_M0z (by rw [(show ce_kd (k + 3) = 26 from (ce_kf_3_2 hk))]; decide) (by rw [(show ce_kd (k + 3) = 26 from (ce_kf_3_2 hk))]; decide)]
    rw [e9]
    exact ha
set_option maxRecDepth 100000 in
set_option maxHeartbeats 4000000 in
theorem c_X1_init (l : Launch) (X : ce_X) (G : ce_G) (b : Nat) {k : Nat} (hk : ce_kd k = 1) : ce_CtI l yX1_init cX1_init 1 1 12 6 360 X G b k 7 (.inr (1, ce_raw1)) := by
  refine ce_ofWI (own := RX1) (by decide) rfl rfl (by decide) (fun p e s m below meth c ls hx hb hr hlocks hname hml hown hB hF hC hl hS => ?_)
  have hK := hF.1.1
  obtain ⟨f0, ef⟩ : ∃ g : Nat → va_E, g = fun _ => .inr (1, ce_raw1) := ⟨_, rfl⟩
  rw [← ef] at hC
  have h0_0 : f0 k = .inr (1, ce_raw1) := by rw [ef]
  clear ef
  refine lv_aload_n hx hb dX1_init_0 rfl (lv_at hl 0 rfl) ?_
  refine ce_objI hx hb hml hl hown hB ce_w43 ce_w28 ce_w29 dX1_init_1 ⟨(Nat.le_of_ble_eq_true rfl), (Nat.le_of_ble_eq_true rfl)⟩ ?_
  refine lv_aload_n hx hb dX1_init_4 rfl (lv_at hl 0 rfl) ?_
  refine lv_bipush (v := 60) hx hb dX1_init_5 (by decide) ?_
  refine ce_newaI 60 hx hb hB ce_w68 hK hC hS (by decide) (by decide) (Nat.le_of_ble_eq_true rfl) (Nat.le_of_ble_eq_true rfl) (Nat.le_of_ble_eq_true rfl) dX1_init_7 (fun H hC hS => ?_)
  obtain ⟨f1, ef⟩ : ∃ g : Nat → va_E, g = va_up f0 (k + 1) (.inl (X.2.1, 60, .inl (fun _ => 0))) := ⟨_, rfl⟩
  have hC : ce_Cr X b k (k + 2) f1 H := by rw [ef]; exact hC
  have h1_0 : f1 k = .inr (1, [.null, .null, .null, .null, .null, .null, .int 0]) := by rw [ef]; exact (ce_upn (by omega)).trans h0_0
  have h1_1 : f1 (k + 1) = .inl (X.2.1, 60, .inl (fun _ => 0)) := by rw [ef]; exact ce_ups
  clear ef
  refine ce_putI (own := RX1) (T := TX1) (N := 7) (ci := 1) hx hb hB ce_l1 tyX1 tyX1_ok nmX1 hown hname hK hC hS k (by omega) (by omega) h1_0 rfl 0 (by decide) rfl ce_w44 rfl (ty := tyX1 0) (by decide +kernel) rfl rfl (Nat.le_of_ble_eq_true rfl) dX1_init_9 (fun H locs hC hS => ?_)
  obtain ⟨f2, ef⟩ : ∃ g : Nat → va_E, g = va_up f1 k (.inr (1, [.ref (b + (k + 1)), .null, .null, .null, .null, .null, .int 0])) := ⟨_, rfl⟩
  have hC : ce_Cr X b k (k + 2) f2 H := by rw [ef]; exact hC
  have h2_0 : f2 k = .inr (1, [.ref (b + (k + 1)), .null, .null, .null, .null, .null, .int 0]) := by rw [ef]; exact ce_ups
  have h2_1 : f2 (k + 1) = .inl (X.2.1, 60, .inl (fun _ => 0)) := by rw [ef]; exact (ce_upn (by omega)).trans h1_1
  clear ef
  refine lv_aload_n hx hb dX1_init_12 rfl (lv_at hl 0 rfl) ?_
  refine lv_bipush (v := 60) hx hb dX1_init_13 (by decide) ?_
  refine ce_newaI 60 hx hb hB ce_w68 hK hC hS (by decide) (by decide) (Nat.le_of_ble_eq_true rfl) (Nat.le_of_ble_eq_true rfl) (Nat.le_of_ble_eq_true rfl) dX1_init_15 (fun H hC hS => ?_)
  obtain ⟨f3, ef⟩ : ∃ g : Nat → va_E, g = va_up f2 (k + 2) (.inl (X.2.1, 60, .inl (fun _ => 0))) := ⟨_, rfl⟩
  have hC : ce_Cr X b k (k + 3) f3 H := by rw [ef]; exact hC
  have h3_0 : f3 k = .inr (1, [.ref (b + (k + 1)), .null, .null, .null, .null, .null, .int 0]) := by rw [ef]; exact (ce_upn (by omega)).trans h2_0
  have h3_1 : f3 (k + 1) = .inl (X.2.1, 60, .inl (fun _ => 0)) := by rw [ef]; exact (ce_upn (by omega)).trans h2_1
  have h3_2 : f3 (k + 2) = .inl (X.2.1, 60, .inl (fun _ => 0)) := by rw [ef]; exact ce_ups
  clear ef
  refine ce_putI (own := RX1) (T := TX1) (N := 7) (ci := 1) hx hb hB ce_l1 tyX1 tyX1_ok nmX1 hown hname hK hC hS k (by omega) (by omega) h3_0 rfl 1 (by decide) rfl ce_w45 rfl (ty := tyX1 1) (by decide +kernel) rfl rfl (Nat.le_of_ble_eq_true rfl) dX1_init_17 (fun H locs hC hS => ?_)
  obtain ⟨f4, ef⟩ : ∃ g : Nat → va_E, g = va_up f3 k (.inr (1, [.ref (b + (k + 1)), .ref (b + (k + 2)), .null, .null, .null, .null, .int 0])) := ⟨_, rfl⟩
  have hC : ce_Cr X b k (k + 3) f4 H := by rw [ef]; exact hC
  have h4_0 : f4 k = .inr (1, [.ref (b + (k + 1)), .ref (b + (k + 2)), .null, .null, .null, .null, .int 0]) := by rw [ef]; exact ce_ups
  have h4_1 : f4 (k + 1) = .inl (X.2.1, 60, .inl (fun _ => 0)) := by rw [ef]; exact (ce_upn (by omega)).trans h3_1
  have h4_2 : f4 (k + 2) = .inl (X.2.1, 60, .inl (fun _ => 0)) := by rw [ef]; exact (ce_upn (by omega)).trans h3_2
  clear ef
  refine lv_aload_n hx hb dX1_init_20 rfl (lv_at hl 0 rfl) ?_
  refine lv_bipush (v := 60) hx hb dX1_init_21 (by decide) ?_
  refine ce_newaI 60 hx hb hB ce_w68 hK hC hS (by decide) (by decide) (Nat.le_of_ble_eq_true rfl) (Nat.le_of_ble_eq_true rfl) (Nat.le_of_ble_eq_true rfl) dX1_init_23 (fun H hC hS => ?_)
  obtain ⟨f5, ef⟩ : ∃ g : Nat → va_E, g = va_up f4 (k + 3) (.inl (X.2.1, 60, .inl (fun _ => 0))) := ⟨_, rfl⟩
  have hC : ce_Cr X b k (k + 4) f5 H := by rw [ef]; exact hC
  have h5_0 : f5 k = .inr (1, [.ref (b + (k + 1)), .ref (b + (k + 2)), .null, .null, .null, .null, .int 0]) := by rw [ef]; exact (ce_upn (by omega)).trans h4_0
  have h5_1 : f5 (k + 1) = .inl (X.2.1, 60, .inl (fun _ => 0)) := by rw [ef]; exact (ce_upn (by omega)).trans h4_1
  have h5_2 : f5 (k + 2) = .inl (X.2.1, 60, .inl (fun _ => 0)) := by rw [ef]; exact (ce_upn (by omega)).trans h4_2
  have h5_3 : f5 (k + 3) = .inl (X.2.1, 60, .inl (fun _ => 0)) := by rw [ef]; exact ce_ups
  clear ef
  refine ce_putI (own := RX1) (T := TX1) (N := 7) (ci := 1) hx hb hB ce_l1 tyX1 tyX1_ok nmX1 hown hname hK hC hS k (by omega) (by omega) h5_0 rfl 2 (by decide) rfl ce_w46 rfl (ty := tyX1 2) (by decide +kernel) rfl rfl (Nat.le_of_ble_eq_true rfl) dX1_init_25 (fun H locs hC hS => ?_)
  obtain ⟨f6, ef⟩ : ∃ g : Nat → va_E, g = va_up f5 k (.inr (1, [.ref (b + (k + 1)), .ref (b + (k + 2)), .ref (b + (k + 3)), .null, .null, .null, .int 0])) := ⟨_, rfl⟩
  have hC : ce_Cr X b k (k + 4) f6 H := by rw [ef]; exact hC
  have h6_0 : f6 k = .inr (1, [.ref (b + (k + 1)), .ref (b + (k + 2)), .ref (b + (k + 3)), .null, .null, .null, .int 0]) := by rw [ef]; exact ce_ups
  have h6_1 : f6 (k + 1) = .inl (X.2.1, 60, .inl (fun _ => 0)) := by rw [ef]; exact (ce_upn (by omega)).trans h5_1
  have h6_2 : f6 (k + 2) = .inl (X.2.1, 60, .inl (fun _ => 0)) := by rw [ef]; exact (ce_upn (by omega)).trans h5_2
  have h6_3 : f6 (k + 3) = .inl (X.2.1, 60, .inl (fun _ => 0)) := by rw [ef]; exact (ce_upn (by omega)).trans h5_3
  clear ef
  refine lv_aload_n hx hb dX1_init_28 rfl (lv_at hl 0 rfl) ?_
  refine lv_bipush (v := 60) hx hb dX1_init_29 (by decide) ?_
  refine ce_newaI 60 hx hb hB ce_w68 hK hC hS (by decide) (by decide) (Nat.le_of_ble_eq_true rfl) (Nat.le_of_ble_eq_true rfl) (Nat.le_of_ble_eq_true rfl) dX1_init_31 (fun H hC hS => ?_)
  obtain ⟨f7, ef⟩ : ∃ g : Nat → va_E, g = va_up f6 (k + 4) (.inl (X.2.1, 60, .inl (fun _ => 0))) := ⟨_, rfl⟩
  have hC : ce_Cr X b k (k + 5) f7 H := by rw [ef]; exact hC
  have h7_0 : f7 k = .inr (1, [.ref (b + (k + 1)), .ref (b + (k + 2)), .ref (b + (k + 3)), .null, .null, .null, .int 0]) := by rw [ef]; exact (ce_upn (by omega)).trans h6_0
  have h7_1 : f7 (k + 1) = .inl (X.2.1, 60, .inl (fun _ => 0)) := by rw [ef]; exact (ce_upn (by omega)).trans h6_1
  have h7_2 : f7 (k + 2) = .inl (X.2.1, 60, .inl (fun _ => 0)) := by rw [ef]; exact (ce_upn (by omega)).trans h6_2
  have h7_3 : f7 (k + 3) = .inl (X.2.1, 60, .inl (fun _ => 0)) := by rw [ef]; exact (ce_upn (by omega)).trans h6_3
  have h7_4 : f7 (k + 4) = .inl (X.2.1, 60, .inl (fun _ => 0)) := by rw [ef]; exact ce_ups
  clear ef
  refine ce_putI (own := RX1) (T := TX1) (N := 7) (ci := 1) hx hb hB ce_l1 tyX1 tyX1_ok nmX1 hown hname hK hC hS k (by omega) (by omega) h7_0 rfl 3 (by decide) rfl ce_w47 rfl (ty := tyX1 3) (by decide +kernel) rfl rfl (Nat.le_of_ble_eq_true rfl) dX1_init_33 (fun H locs hC hS => ?_)
  obtain ⟨f8, ef⟩ : ∃ g : Nat → va_E, g = va_up f7 k (.inr (1, [.ref (b + (k + 1)), .ref (b + (k + 2)), .ref (b + (k + 3)), .ref (b + (k + 4)), .null, .null, .int 0])) := ⟨_, rfl⟩
  have hC : ce_Cr X b k (k + 5) f8 H := by rw [ef]; exact hC
  have h8_0 : f8 k = .inr (1, [.ref (b + (k + 1)), .ref (b + (k + 2)), .ref (b + (k + 3)), .ref (b + (k + 4)), .null, .null, .int 0]) := by rw [ef]; exact ce_ups
  have h8_1 : f8 (k + 1) = .inl (X.2.1, 60, .inl (fun _ => 0)) := by rw [ef]; exact (ce_upn (by omega)).trans h7_1
  have h8_2 : f8 (k + 2) = .inl (X.2.1, 60, .inl (fun _ => 0)) := by rw [ef]; exact (ce_upn (by omega)).trans h7_2
  have h8_3 : f8 (k + 3) = .inl (X.2.1, 60, .inl (fun _ => 0)) := by rw [ef]; exact (ce_upn (by omega)).trans h7_3
  have h8_4 : f8 (k + 4) = .inl (X.2.1, 60, .inl (fun _ => 0)) := by rw [ef]; exact (ce_upn (by omega)).trans h7_4
  clear ef
  refine lv_aload_n hx hb dX1_init_36 rfl (lv_at hl 0 rfl) ?_
  refine lv_bipush (v := 60) hx hb dX1_init_37 (by decide) ?_
  refine ce_newaI 60 hx hb hB ce_w68 hK hC hS (by decide) (by decide) (Nat.le_of_ble_eq_true rfl) (Nat.le_of_ble_eq_true rfl) (Nat.le_of_ble_eq_true rfl) dX1_init_39 (fun H hC hS => ?_)
  obtain ⟨f9, ef⟩ : ∃ g : Nat → va_E, g = va_up f8 (k + 5) (.inl (X.2.1, 60, .inl (fun _ => 0))) := ⟨_, rfl⟩
  have hC : ce_Cr X b k (k + 6) f9 H := by rw [ef]; exact hC
  have h9_0 : f9 k = .inr (1, [.ref (b + (k + 1)), .ref (b + (k + 2)), .ref (b + (k + 3)), .ref (b + (k + 4)), .null, .null, .int 0]) := by rw [ef]; exact (ce_upn (by omega)).trans h8_0
  have h9_1 : f9 (k + 1) = .inl (X.2.1, 60, .inl (fun _ => 0)) := by rw [ef]; exact (ce_upn (by omega)).trans h8_1
  have h9_2 : f9 (k + 2) = .inl (X.2.1, 60, .inl (fun _ => 0)) := by rw [ef]; exact (ce_upn (by omega)).trans h8_2
  have h9_3 : f9 (k + 3) = .inl (X.2.1, 60, .inl (fun _ => 0)) := by rw [ef]; exact (ce_upn (by omega)).trans h8_3
  have h9_4 : f9 (k + 4) = .inl (X.2.1, 60, .inl (fun _ => 0)) := by rw [ef]; exact (ce_upn (by omega)).trans h8_4
  have h9_5 : f9 (k + 5) = .inl (X.2.1, 60, .inl (fun _ => 0)) := by rw [ef]; exact ce_ups
  clear ef
  refine ce_putI (own := RX1) (T := TX1) (N := 7) (ci := 1) hx hb hB ce_l1 tyX1 tyX1_ok nmX1 hown hname hK hC hS k (by omega) (by omega) h9_0 rfl 4 (by decide) rfl ce_w48 rfl (ty := tyX1 4) (by decide +kernel) rfl rfl (Nat.le_of_ble_eq_true rfl) dX1_init_41 (fun H locs hC hS => ?_)
  obtain ⟨f10, ef⟩ : ∃ g : Nat → va_E, g = va_up f9 k (.inr (1, [.ref (b + (k + 1)), .ref (b + (k + 2)), .ref (b + (k + 3)), .ref (b + (k + 4)), .ref (b + (k + 5)), .null, .int 0])) := ⟨_, rfl⟩
  have hC : ce_Cr X b k (k + 6) f10 H := by rw [ef]; exact hC
  have h10_0 : f10 k = .inr (1, [.ref (b + (k + 1)), .ref (b + (k + 2)), .ref (b + (k + 3)), .ref (b + (k + 4)), .ref (b + (k + 5)), .null, .int 0]) := by rw [ef]; exact ce_ups
  have h10_1 : f10 (k + 1) = .inl (X.2.1, 60, .inl (fun _ => 0)) := by rw [ef]; exact (ce_upn (by omega)).trans h9_1
  have h10_2 : f10 (k + 2) = .inl (X.2.1, 60, .inl (fun _ => 0)) := by rw [ef]; exact (ce_upn (by omega)).trans h9_2
  have h10_3 : f10 (k + 3) = .inl (X.2.1, 60, .inl (fun _ => 0)) := by rw [ef]; exact (ce_upn (by omega)).trans h9_3
  have h10_4 : f10 (k + 4) = .inl (X.2.1, 60, .inl (fun _ => 0)) := by rw [ef]; exact (ce_upn (by omega)).trans h9_4
  have h10_5 : f10 (k + 5) = .inl (X.2.1, 60, .inl (fun _ => 0)) := by rw [ef]; exact (ce_upn (by omega)).trans h9_5
  clear ef
  refine lv_aload_n hx hb dX1_init_44 rfl (lv_at hl 0 rfl) ?_
  refine lv_bipush (v := 60) hx hb dX1_init_45 (by decide) ?_
  refine ce_newaI 60 hx hb hB ce_w68 hK hC hS (by decide) (by decide) (Nat.le_of_ble_eq_true rfl) (Nat.le_of_ble_eq_true rfl) (Nat.le_of_ble_eq_true rfl) dX1_init_47 (fun H hC hS => ?_)
  obtain ⟨f11, ef⟩ : ∃ g : Nat → va_E, g = va_up f10 (k + 6) (.inl (X.2.1, 60, .inl (fun _ => 0))) := ⟨_, rfl⟩
  have hC : ce_Cr X b k (k + 7) f11 H := by rw [ef]; exact hC
  have h11_0 : f11 k = .inr (1, [.ref (b + (k + 1)), .ref (b + (k + 2)), .ref (b + (k + 3)), .ref (b + (k + 4)), .ref (b + (k + 5)), .null, .int 0]) := by rw [ef]; exact (ce_upn (by omega)).trans h10_0
  have h11_1 : f11 (k + 1) = .inl (X.2.1, 60, .inl (fun _ => 0)) := by rw [ef]; exact (ce_upn (by omega)).trans h10_1
  have h11_2 : f11 (k + 2) = .inl (X.2.1, 60, .inl (fun _ => 0)) := by rw [ef]; exact (ce_upn (by omega)).trans h10_2
  have h11_3 : f11 (k + 3) = .inl (X.2.1, 60, .inl (fun _ => 0)) := by rw [ef]; exact (ce_upn (by omega)).trans h10_3
  have h11_4 : f11 (k + 4) = .inl (X.2.1, 60, .inl (fun _ => 0)) := by rw [ef]; exact (ce_upn (by omega)).trans h10_4
  have h11_5 : f11 (k + 5) = .inl (X.2.1, 60, .inl (fun _ => 0)) := by rw [ef]; exact (ce_upn (by omega)).trans h10_5
  have h11_6 : f11 (k + 6) = .inl (X.2.1, 60, .inl (fun _ => 0)) := by rw [ef]; exact ce_ups
  clear ef
  refine ce_putI (own := RX1) (T := TX1) (N := 7) (ci := 1) hx hb hB ce_l1 tyX1 tyX1_ok nmX1 hown hname hK hC hS k (by omega) (by omega) h11_0 rfl 5 (by decide) rfl ce_w49 rfl (ty := tyX1 5) (by decide +kernel) rfl rfl (Nat.le_of_ble_eq_true rfl) dX1_init_49 (fun H locs hC hS => ?_)
  obtain ⟨f12, ef⟩ : ∃ g : Nat → va_E, g = va_up f11 k (.inr (1, [.ref (b + (k + 1)), .ref (b + (k + 2)), .ref (b + (k + 3)), .ref (b + (k + 4)), .ref (b + (k + 5)), .ref (b + (k + 6)), .int 0])) := ⟨_, rfl⟩
  have hC : ce_Cr X b k (k + 7) f12 H := by rw [ef]; exact hC
  have h12_0 : f12 k = .inr (1, [.ref (b + (k + 1)), .ref (b + (k + 2)), .ref (b + (k + 3)), .ref (b + (k + 4)), .ref (b + (k + 5)), .ref (b + (k + 6)), .int 0]) := by rw [ef]; exact ce_ups
  have h12_1 : f12 (k + 1) = .inl (X.2.1, 60, .inl (fun _ => 0)) := by rw [ef]; exact (ce_upn (by omega)).trans h11_1
  have h12_2 : f12 (k + 2) = .inl (X.2.1, 60, .inl (fun _ => 0)) := by rw [ef]; exact (ce_upn (by omega)).trans h11_2
  have h12_3 : f12 (k + 3) = .inl (X.2.1, 60, .inl (fun _ => 0)) := by rw [ef]; exact (ce_upn (by omega)).trans h11_3
  have h12_4 : f12 (k + 4) = .inl (X.2.1, 60, .inl (fun _ => 0)) := by rw [ef]; exact (ce_upn (by omega)).trans h11_4
  have h12_5 : f12 (k + 5) = .inl (X.2.1, 60, .inl (fun _ => 0)) := by rw [ef]; exact (ce_upn (by omega)).trans h11_5
  have h12_6 : f12 (k + 6) = .inl (X.2.1, 60, .inl (fun _ => 0)) := by rw [ef]; exact (ce_upn (by omega)).trans h11_6
  clear ef
  refine ce_iendV hx hb hr hlocks hC.1 (fun j hj1 hj2 => ?_) hS (Nat.le_of_ble_eq_true rfl) (Nat.le_of_ble_eq_true rfl) dX1_init_52
  have ha := hC.2 j hj1 (by omega)
  rcases (show j = k ∨ j = (k + 1) ∨ j = (k + 2) ∨ j = (k + 3) ∨ j = (k + 4) ∨ j = (k + 5) ∨ j = (k + 6) by omega) with rfl | rfl | rfl | rfl | rfl | rfl | rfl
  · rw [h12_0] at ha
    rw [hk]
    simpa only [ce_ent, ce_M0z (by rw [hk]; decide) (by rw [hk]; decide)] using ha
  · rw [h12_1] at ha
    rw [(show ce_kd (k + 1) = 76 from (ce_kf_1_0 hk))]
    have e9 : ce_ent X b 76 (k + 1) ce_M0 = .inl (X.2.1, 60, .inl (fun _ => 0)) := by
      show (Sum.inl (X.2.1, 60, Sum.inl (ce_rd ce_M0 (k + 1))) : va_E) = _
      rw [show ce_rd ce_M0 (k + 1) = fun _ => 0 from funext fun j => ce_M0z (by rw [(show ce_kd (k + 1) = 76 from (ce_kf_1_0 hk))]; decide) (by rw [(show ce_kd (k + 1) = 76 from (ce_kf_1_0 hk))]; decide)]
    rw [e9]
    exact ha
  · rw [h12_2] at ha
    rw [(show ce_kd (k + 2) = 76 from (ce_kf_1_1 hk))]
    have e9 : ce_ent X b 76 (k + 2) ce_M0 = .inl (X.2.1, 60, .inl (fun _ => 0)) := by
      show (Sum.inl (X.2.1, 60, Sum.inl (ce_rd ce_M0 (k + 2))) : va_E) = _
      rw [show ce_rd ce_M0 (k + 2) = fun _ => 0 from funext fun j => ce_M0z (by rw [(show ce_kd (k + 2) = 76 from (ce_kf_1_1 hk))]; decide) (by rw [(show ce_kd (k + 2) = 76 from (ce_kf_1_1 hk))]; decide)]
    rw [e9]
    exact ha
  · rw [h12_3] at ha
    rw [(show ce_kd (k + 3) = 76 from (ce_kf_1_2 hk))]
    have e9 : ce_ent X b 76 (k + 3) ce_M0 = .inl (X.2.1, 60, .inl (fun _ => 0)) := by
      show (Sum.inl (X.2.1, 60, Sum.inl (ce_rd ce_M0 (k + 3))) : va_E) = _
      rw [show ce_rd ce_M0 (k + 3) = fun _ => 0 from funext fun j => ce_M0z (by rw [(show ce_kd (k + 3) = 76 from (ce_kf_1_2 hk))]; decide) (by rw [(show ce_kd (k + 3) = 76 from (ce_kf_1_2 hk))]; decide)]
    rw [e9]
    exact ha
  · rw [h12_4] at ha
    rw [(show ce_kd (k + 4) = 76 from (ce_kf_1_3 hk))]
    have e9 : ce_ent X b 76 (k + 4) ce_M0 = .inl (X.2.1, 60, .inl (fun _ => 0)) := by
      show (Sum.inl (X.2.1, 60, Sum.inl (ce_rd ce_M0 (k + 4))) : va_E) = _
      rw [show ce_rd ce_M0 (k + 4) = fun _ => 0 from funext fun j => ce_M0z (by rw [(show ce_kd (k + 4) = 76 from (ce_kf_1_3 hk))]; decide) (by rw [(show ce_kd (k + 4) = 76 from (ce_kf_1_3 hk))]; decide)]
    rw [e9]
    exact ha
  · rw [h12_5] at ha
    rw [(show ce_kd (k + 5) = 76 from (ce_kf_1_4 hk))]
    have e9 : ce_ent X b 76 (k + 5) ce_M0 = .inl (X.2.1, 60, .inl (fun _ => 0)) := by
      show (Sum.inl (X.2.1, 60, Sum.inl (ce_rd ce_M0 (k + 5))) : va_E) = _
      rw [show ce_rd ce_M0 (k + 5) = fun _ => 0 from funext fun j => ce_M0z (by rw [(show ce_kd (k + 5) = 76 from (ce_kf_1_4 hk))]; decide) (by rw [(show ce_kd (k + 5) = 76 from (ce_kf_1_4 hk))]; decide)]
    rw [e9]
    exact ha
  · rw [h12_6] at ha
    rw [(show ce_kd (k + 6) = 76 from (ce_kf_1_5 hk))]
    have e9 : ce_ent X b 76 (k + 6) ce_M0 = .inl (X.2.1, 60, .inl (fun _ => 0)) := by
      show (Sum.inl (X.2.1, 60, Sum.inl (ce_rd ce_M0 (k + 6))) : va_E) = _
      rw [show ce_rd ce_M0 (k + 6) = fun _ => 0 from funext fun j => ce_M0z (by rw [(show ce_kd (k + 6) = 76 from (ce_kf_1_5 hk))]; decide) (by rw [(show ce_kd (k + 6) = 76 from (ce_kf_1_5 hk))]; decide)]
    rw [e9]
    exact ha
set_option maxRecDepth 100000 in
set_option maxHeartbeats 4000000 in
theorem c_X0_init (l : Launch) (X : ce_X) (G : ce_G) (b : Nat) {k : Nat} (hk : ce_kd k = 0) : ce_CtI l yX0_init cX0_init 1 1 12 2 153 X G b k 3 (.inr (0, ce_raw0)) := by
  refine ce_ofWI (own := RX0) (by decide) rfl rfl (by decide) (fun p e s m below meth c ls hx hb hr hlocks hname hml hown hB hF hC hl hS => ?_)
  have hK := hF.1.1
  obtain ⟨f0, ef⟩ : ∃ g : Nat → va_E, g = fun _ => .inr (0, ce_raw0) := ⟨_, rfl⟩
  rw [← ef] at hC
  have h0_0 : f0 k = .inr (0, ce_raw0) := by rw [ef]
  clear ef
  refine lv_aload_n hx hb dX0_init_0 rfl (lv_at hl 0 rfl) ?_
  refine ce_objI hx hb hml hl hown hB ce_w213 ce_w28 ce_w29 dX0_init_1 ⟨(Nat.le_of_ble_eq_true rfl), (Nat.le_of_ble_eq_true rfl)⟩ ?_
  refine lv_aload_n hx hb dX0_init_4 rfl (lv_at hl 0 rfl) ?_
  refine lv_sipush (v := 150) hx hb dX0_init_5 (by decide) ?_
  refine ce_newaI 150 hx hb hB ce_w68 hK hC hS (by decide) (by decide) (Nat.le_of_ble_eq_true rfl) (Nat.le_of_ble_eq_true rfl) (Nat.le_of_ble_eq_true rfl) dX0_init_8 (fun H hC hS => ?_)
  obtain ⟨f1, ef⟩ : ∃ g : Nat → va_E, g = va_up f0 (k + 1) (.inl (X.2.1, 150, .inl (fun _ => 0))) := ⟨_, rfl⟩
  have hC : ce_Cr X b k (k + 2) f1 H := by rw [ef]; exact hC
  have h1_0 : f1 k = .inr (0, [.null, .int 0, .int 0, .int 0, .null, .int 0]) := by rw [ef]; exact (ce_upn (by omega)).trans h0_0
  have h1_1 : f1 (k + 1) = .inl (X.2.1, 150, .inl (fun _ => 0)) := by rw [ef]; exact ce_ups
  clear ef
  refine ce_putI (own := RX0) (T := TX0) (N := 6) (ci := 0) hx hb hB ce_l0 tyX0 tyX0_ok nmX0 hown hname hK hC hS k (by omega) (by omega) h1_0 rfl 0 (by decide) rfl ce_w214 rfl (ty := tyX0 0) (by decide +kernel) rfl rfl (Nat.le_of_ble_eq_true rfl) dX0_init_10 (fun H locs hC hS => ?_)
  obtain ⟨f2, ef⟩ : ∃ g : Nat → va_E, g = va_up f1 k (.inr (0, [.ref (b + (k + 1)), .int 0, .int 0, .int 0, .null, .int 0])) := ⟨_, rfl⟩
  have hC : ce_Cr X b k (k + 2) f2 H := by rw [ef]; exact hC
  have h2_0 : f2 k = .inr (0, [.ref (b + (k + 1)), .int 0, .int 0, .int 0, .null, .int 0]) := by rw [ef]; exact ce_ups
  have h2_1 : f2 (k + 1) = .inl (X.2.1, 150, .inl (fun _ => 0)) := by rw [ef]; exact (ce_upn (by omega)).trans h1_1
  clear ef
  refine lv_aload_n hx hb dX0_init_13 rfl (lv_at hl 0 rfl) ?_
  refine lv_iconst (v := 3) hx hb dX0_init_14 (by decide) ?_
  refine ce_newaI 3 hx hb hB ce_w68 hK hC hS (by decide) (by decide) (Nat.le_of_ble_eq_true rfl) (Nat.le_of_ble_eq_true rfl) (Nat.le_of_ble_eq_true rfl) dX0_init_15 (fun H hC hS => ?_)
  obtain ⟨f3, ef⟩ : ∃ g : Nat → va_E, g = va_up f2 (k + 2) (.inl (X.2.1, 3, .inl (fun _ => 0))) := ⟨_, rfl⟩
  have hC : ce_Cr X b k (k + 3) f3 H := by rw [ef]; exact hC
  have h3_0 : f3 k = .inr (0, [.ref (b + (k + 1)), .int 0, .int 0, .int 0, .null, .int 0]) := by rw [ef]; exact (ce_upn (by omega)).trans h2_0
  have h3_1 : f3 (k + 1) = .inl (X.2.1, 150, .inl (fun _ => 0)) := by rw [ef]; exact (ce_upn (by omega)).trans h2_1
  have h3_2 : f3 (k + 2) = .inl (X.2.1, 3, .inl (fun _ => 0)) := by rw [ef]; exact ce_ups
  clear ef
  refine ce_putI (own := RX0) (T := TX0) (N := 6) (ci := 0) hx hb hB ce_l0 tyX0 tyX0_ok nmX0 hown hname hK hC hS k (by omega) (by omega) h3_0 rfl 4 (by decide) rfl ce_w220 rfl (ty := tyX0 4) (by decide +kernel) rfl rfl (Nat.le_of_ble_eq_true rfl) dX0_init_17 (fun H locs hC hS => ?_)
  obtain ⟨f4, ef⟩ : ∃ g : Nat → va_E, g = va_up f3 k (.inr (0, [.ref (b + (k + 1)), .int 0, .int 0, .int 0, .ref (b + (k + 2)), .int 0])) := ⟨_, rfl⟩
  have hC : ce_Cr X b k (k + 3) f4 H := by rw [ef]; exact hC
  have h4_0 : f4 k = .inr (0, [.ref (b + (k + 1)), .int 0, .int 0, .int 0, .ref (b + (k + 2)), .int 0]) := by rw [ef]; exact ce_ups
  have h4_1 : f4 (k + 1) = .inl (X.2.1, 150, .inl (fun _ => 0)) := by rw [ef]; exact (ce_upn (by omega)).trans h3_1
  have h4_2 : f4 (k + 2) = .inl (X.2.1, 3, .inl (fun _ => 0)) := by rw [ef]; exact (ce_upn (by omega)).trans h3_2
  clear ef
  refine ce_iendV hx hb hr hlocks hC.1 (fun j hj1 hj2 => ?_) hS (Nat.le_of_ble_eq_true rfl) (Nat.le_of_ble_eq_true rfl) dX0_init_20
  have ha := hC.2 j hj1 (by omega)
  rcases (show j = k ∨ j = (k + 1) ∨ j = (k + 2) by omega) with rfl | rfl | rfl
  · rw [h4_0] at ha
    rw [hk]
    simpa only [ce_ent, ce_M0z (by rw [hk]; decide) (by rw [hk]; decide)] using ha
  · rw [h4_1] at ha
    rw [(show ce_kd (k + 1) = 166 from (ce_kf_0_0 hk))]
    have e9 : ce_ent X b 166 (k + 1) ce_M0 = .inl (X.2.1, 150, .inl (fun _ => 0)) := by
      show (Sum.inl (X.2.1, 150, Sum.inl (ce_rd ce_M0 (k + 1))) : va_E) = _
      rw [show ce_rd ce_M0 (k + 1) = fun _ => 0 from funext fun j => ce_M0z (by rw [(show ce_kd (k + 1) = 166 from (ce_kf_0_0 hk))]; decide) (by rw [(show ce_kd (k + 1) = 166 from (ce_kf_0_0 hk))]; decide)]
    rw [e9]
    exact ha
  · rw [h4_2] at ha
    rw [(show ce_kd (k + 2) = 19 from (ce_kf_0_4 hk))]
    have e9 : ce_ent X b 19 (k + 2) ce_M0 = .inl (X.2.1, 3, .inl (fun _ => 0)) := by
      show (Sum.inl (X.2.1, 3, Sum.inl (ce_rd ce_M0 (k + 2))) : va_E) = _
      rw [show ce_rd ce_M0 (k + 2) = fun _ => 0 from funext fun j => ce_M0z (by rw [(show ce_kd (k + 2) = 19 from (ce_kf_0_4 hk))]; decide) (by rw [(show ce_kd (k + 2) = 19 from (ce_kf_0_4 hk))]; decide)]
    rw [e9]
    exact ha
set_option maxRecDepth 100000 in
set_option maxHeartbeats 4000000 in
theorem c_X4_init (l : Launch) (X : ce_X) (G : ce_G) (b : Nat) {k : Nat} (hk : ce_kd k = 4) : ce_CtI l yX4_init cX4_init 1 2 32 6 48 X G b k 7 (.inr (4, ce_raw4)) := by
  refine ce_ofWI (own := RX4) (by decide) rfl rfl (by decide) (fun p e s m below meth c ls hx hb hr hlocks hname hml hown hB hF hC hl hS => ?_)
  have hK := hF.1.1
  obtain ⟨f0, ef⟩ : ∃ g : Nat → va_E, g = fun _ => .inr (4, ce_raw4) := ⟨_, rfl⟩
  rw [← ef] at hC
  have h0_0 : f0 k = .inr (4, ce_raw4) := by rw [ef]
  clear ef
  refine lv_aload_n hx hb dX4_init_0 rfl (lv_at hl 0 rfl) ?_
  refine ce_objI hx hb hml hl hown hB ce_w73 ce_w28 ce_w29 dX4_init_1 ⟨(Nat.le_of_ble_eq_true rfl), (Nat.le_of_ble_eq_true rfl)⟩ ?_
  refine lv_aload_n hx hb dX4_init_4 rfl (lv_at hl 0 rfl) ?_
  refine ce_newI (C := RX3) (T := TX3) (N := 4) (ci := 3) hx hb hB ce_l3 tyX3 tyX3_ok hown ce_w74 ce_w75 ce_w5 hK rfl ce_rawok3 hC hS (Nat.le_of_ble_eq_true rfl) (Nat.le_of_ble_eq_true rfl) dX4_init_5 (fun H hC hS => ?_)
  obtain ⟨f1, ef⟩ : ∃ g : Nat → va_E, g = va_up f0 (k + 1) (.inr (3, [.null, .null, .null, .int 0])) := ⟨_, rfl⟩
  have hC : ce_Cr X b k (k + 2) f1 H := by rw [ef]; exact hC
  have h1_0 : f1 k = .inr (4, [.null, .null, .int 0, .int 0, .int 0, .int 0, .int 0, .int 0, .int 0, .int 0, .int 0, .int 0, .int 0, .int 0]) := by rw [ef]; exact (ce_upn (by omega)).trans h0_0
  have h1_1 : f1 (k + 1) = .inr (3, [.null, .null, .null, .int 0]) := by rw [ef]; exact ce_ups
  clear ef
  refine lv_dup hx hb dX4_init_8 rfl ?_
  refine ce_callIN (v := (k + 1)) (sz := 4) (rest := [.ref (b + (k + 1)), .ref (b + k)]) hx hb hml hown hB (c_X3_init l X G b (ce_kf_4_0 hk)) ce_i_X3_init ce_w78 ce_w5 (List.mem_of_getElem? (i := 2) rfl) ce_w77 ⟨(Nat.le_of_ble_eq_true rfl), (Nat.le_of_ble_eq_true rfl)⟩ hF hC (by omega) h1_1 hS hl (Nat.le_of_ble_eq_true rfl) dX4_init_9 ⟨(Nat.le_of_ble_eq_true rfl), (Nat.le_of_ble_eq_true rfl)⟩ (fun H locs hC hS => ?_)
  obtain ⟨f2, ef⟩ : ∃ g : Nat → va_E, g = fun j => if j < (k + 1) then f1 j else ce_ent X b (ce_kd j) j ce_M0 := ⟨_, rfl⟩
  have hC : ce_Cr X b k (k + 5) f2 H := by rw [ef]; exact hC
  have h2_0 : f2 k = .inr (4, [.null, .null, .int 0, .int 0, .int 0, .int 0, .int 0, .int 0, .int 0, .int 0, .int 0, .int 0, .int 0, .int 0]) := by rw [ef]; exact (if_pos (by omega)).trans h1_0
  have r2_0 : ∀ j, k + 1 ≤ j → j < k + 5 → f2 j = ce_ent X b (ce_kd j) j ce_M0 := fun j h1 h2 => by rw [ef]; exact if_neg (by omega)
  clear ef
  refine ce_putI (own := RX4) (T := TX4) (N := 14) (ci := 4) hx hb hB ce_l4 tyX4 tyX4_ok nmX4 hown hname hK hC hS k (by omega) (by omega) h2_0 rfl 0 (by decide) rfl ce_w110 rfl (ty := tyX4 0) (by decide +kernel) rfl rfl (Nat.le_of_ble_eq_true rfl) dX4_init_12 (fun H locs hC hS => ?_)
  obtain ⟨f3, ef⟩ : ∃ g : Nat → va_E, g = va_up f2 k (.inr (4, [.ref (b + (k + 1)), .null, .int 0, .int 0, .int 0, .int 0, .int 0, .int 0, .int 0, .int 0, .int 0, .int 0, .int 0, .int 0])) := ⟨_, rfl⟩
  have hC : ce_Cr X b k (k + 5) f3 H := by rw [ef]; exact hC
  have h3_0 : f3 k = .inr (4, [.ref (b + (k + 1)), .null, .int 0, .int 0, .int 0, .int 0, .int 0, .int 0, .int 0, .int 0, .int 0, .int 0, .int 0, .int 0]) := by rw [ef]; exact ce_ups
  have r3_0 : ∀ j, k + 1 ≤ j → j < k + 5 → f3 j = ce_ent X b (ce_kd j) j ce_M0 := fun j h1 h2 => by rw [ef]; exact (ce_upn (by omega)).trans (r2_0 j h1 h2)
  clear ef
  refine lv_aload_n hx hb dX4_init_15 rfl (lv_at hl 0 rfl) ?_
  refine ce_newI (C := RX2) (T := TX2) (N := 2) (ci := 2) hx hb hB ce_l2 tyX2 tyX2_ok hown ce_w94 ce_w95 ce_w6 hK rfl ce_rawok2 hC hS (Nat.le_of_ble_eq_true rfl) (Nat.le_of_ble_eq_true rfl) dX4_init_16 (fun H hC hS => ?_)
  obtain ⟨f4, ef⟩ : ∃ g : Nat → va_E, g = va_up f3 (k + 5) (.inr (2, [.null, .int 0])) := ⟨_, rfl⟩
  have hC : ce_Cr X b k (k + 6) f4 H := by rw [ef]; exact hC
  have h4_0 : f4 k = .inr (4, [.ref (b + (k + 1)), .null, .int 0, .int 0, .int 0, .int 0, .int 0, .int 0, .int 0, .int 0, .int 0, .int 0, .int 0, .int 0]) := by rw [ef]; exact (ce_upn (by omega)).trans h3_0
  have h4_5 : f4 (k + 5) = .inr (2, [.null, .int 0]) := by rw [ef]; exact ce_ups
  have r4_0 : ∀ j, k + 1 ≤ j → j < k + 5 → f4 j = ce_ent X b (ce_kd j) j ce_M0 := fun j h1 h2 => by rw [ef]; exact (ce_upn (by omega)).trans (r3_0 j h1 h2)
  clear ef
  refine lv_dup hx hb dX4_init_19 rfl ?_
  refine ce_callIN (v := (k + 5)) (sz := 2) (rest := [.ref (b + (k + 5)), .ref (b + k)]) hx hb hml hown hB (c_X2_init l X G b (ce_kf_4_1 hk)) ce_i_X2_init ce_w98 ce_w6 (List.mem_of_getElem? (i := 3) rfl) ce_w97 ⟨(Nat.le_of_ble_eq_true rfl), (Nat.le_of_ble_eq_true rfl)⟩ hF hC (by omega) h4_5 hS hl (Nat.le_of_ble_eq_true rfl) dX4_init_20 ⟨(Nat.le_of_ble_eq_true rfl), (Nat.le_of_ble_eq_true rfl)⟩ (fun H locs hC hS => ?_)
  obtain ⟨f5, ef⟩ : ∃ g : Nat → va_E, g = fun j => if j < (k + 5) then f4 j else ce_ent X b (ce_kd j) j ce_M0 := ⟨_, rfl⟩
  have hC : ce_Cr X b k (k + 7) f5 H := by rw [ef]; exact hC
  have h5_0 : f5 k = .inr (4, [.ref (b + (k + 1)), .null, .int 0, .int 0, .int 0, .int 0, .int 0, .int 0, .int 0, .int 0, .int 0, .int 0, .int 0, .int 0]) := by rw [ef]; exact (if_pos (by omega)).trans h4_0
  have r5_0 : ∀ j, k + 1 ≤ j → j < k + 5 → f5 j = ce_ent X b (ce_kd j) j ce_M0 := fun j h1 h2 => by rw [ef]; exact (if_pos (by omega)).trans (r4_0 j h1 h2)
  have r5_1 : ∀ j, k + 5 ≤ j → j < k + 7 → f5 j = ce_ent X b (ce_kd j) j ce_M0 := fun j h1 h2 => by rw [ef]; exact if_neg (by omega)
  clear ef
  refine ce_putI (own := RX4) (T := TX4) (N := 14) (ci := 4) hx hb hB ce_l4 tyX4 tyX4_ok nmX4 hown hname hK hC hS k (by omega) (by omega) h5_0 rfl 1 (by decide) rfl ce_w112 rfl (ty := tyX4 1) (by decide +kernel) rfl rfl (Nat.le_of_ble_eq_true rfl) dX4_init_23 (fun H locs hC hS => ?_)
  obtain ⟨f6, ef⟩ : ∃ g : Nat → va_E, g = va_up f5 k (.inr (4, [.ref (b + (k + 1)), .ref (b + (k + 5)), .int 0, .int 0, .int 0, .int 0, .int 0, .int 0, .int 0, .int 0, .int 0, .int 0, .int 0, .int 0])) := ⟨_, rfl⟩
  have hC : ce_Cr X b k (k + 7) f6 H := by rw [ef]; exact hC
  have h6_0 : f6 k = .inr (4, [.ref (b + (k + 1)), .ref (b + (k + 5)), .int 0, .int 0, .int 0, .int 0, .int 0, .int 0, .int 0, .int 0, .int 0, .int 0, .int 0, .int 0]) := by rw [ef]; exact ce_ups
  have r6_0 : ∀ j, k + 1 ≤ j → j < k + 5 → f6 j = ce_ent X b (ce_kd j) j ce_M0 := fun j h1 h2 => by rw [ef]; exact (ce_upn (by omega)).trans (r5_0 j h1 h2)
  have r6_1 : ∀ j, k + 5 ≤ j → j < k + 7 → f6 j = ce_ent X b (ce_kd j) j ce_M0 := fun j h1 h2 => by rw [ef]; exact (ce_upn (by omega)).trans (r5_1 j h1 h2)
  clear ef
  refine ce_iendV hx hb hr hlocks hC.1 (fun j hj1 hj2 => ?_) hS (Nat.le_of_ble_eq_true rfl) (Nat.le_of_ble_eq_true rfl) dX4_init_26
  have ha := hC.2 j hj1 (by omega)
  rcases (show j = k ∨ (k + 1 ≤ j ∧ j < k + 5) ∨ (k + 5 ≤ j ∧ j < k + 7) by omega) with rfl | hr9 | hr9
  · rw [h6_0] at ha
    rw [hk]
    simpa only [ce_ent, ce_M0z (by rw [hk]; decide) (by rw [hk]; decide)] using ha
  · rw [r6_0 j hr9.1 hr9.2] at ha
    exact ha
  · rw [r6_1 j hr9.1 hr9.2] at ha
    exact ha
