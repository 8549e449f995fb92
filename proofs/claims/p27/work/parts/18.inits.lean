theorem ce_ups {f : Nat → va_E} {j : Nat} {e : va_E} : va_up f j e j = e := if_pos rfl
theorem ce_upn {f : Nat → va_E} {j i : Nat} {e : va_E} (h : i ≠ j) : va_up f j e i = f i := if_neg h
theorem ce_M0z {k j : Nat} (h : ce_kd k ≠ 20) (h2 : ce_kd k ≠ 832) : ce_rd ce_M0 k j = 0 := by
  rw [ce_rd_M0, if_neg h]
theorem ce_M0s {k : Nat} (h : ce_kd k = 20) : ce_rd ce_M0 k = upd (upd (upd (upd (fun _ => 0) (Int32.toNatClampNeg 0) 3) (Int32.toNatClampNeg 1) 2) (Int32.toNatClampNeg 2) 2) (Int32.toNatClampNeg 3) 8 := by
  funext j
  rw [ce_rd_M0, if_pos h]
  have e0 : (0 : Int32).toNatClampNeg = 0 := by decide
  have e1 : (1 : Int32).toNatClampNeg = 1 := by decide
  have e2 : (2 : Int32).toNatClampNeg = 2 := by decide
  have e3 : (3 : Int32).toNatClampNeg = 3 := by decide
  rw [e0, e1, e2, e3]
  match j with
  | 0 => rfl
  | 1 => rfl
  | 2 => rfl
  | 3 => rfl
  | j + 4 => simp [upd]
theorem ce_refs {D : va_G} {cl : List vw_C} {a N : Nat} {cQ : ClassId} {g g' : Nat → Option Nat} {H : Heap} (h : va_at D cl (a, .inl (cQ, N, .inr (.inr (.inr (.inr g))))) H) (e : ∀ i, i < N → g i = g' i) : va_at D cl (a, .inl (cQ, N, .inr (.inr (.inr (.inr g'))))) H := by
  have h1 : H[a]? = some (arrV cQ N (fun j => va_rf (g j))) := h
  show H[a]? = some (arrV cQ N (fun j => va_rf (g' j)))
  rw [h1]
  congr 1
  unfold arrV
  congr 1
  apply Array.ext
  · simp
  · intro i h2 h3
    simp at h2
    simp [e i h2]
theorem ce_iendV {p : Program} {l : Launch} {e : Env} {R : Room} {s : State} {m : MethodId} {args : Array Value} {below : List Frame} {meth : Method} {c : Code} {H : Heap} {locs : List Loc} {cells slots : Nat} {cc : ByteArray} {pc : Nat} {ls : Array Slot} {X : ce_X} {b k : Nat} {mc ms sz : Nat} (hx : p.tables.exec = Jvm.exec) (hb : c.code = cc) (hr : meth.sig.returnType = none) (hlocks : meth.locks = false) (hz : H.size = b + (k + sz)) (hat : ∀ j, k ≤ j → j < k + sz → va_at X.1 vwCl (b + j, ce_ent X b (ce_kd j) j ce_M0) H) (hS : va_S (ce_Au (b + k)) s.heap H locs) (hc : cells ≤ mc) (hs : slots ≤ ms) (hd : decode cc pc = .ok (.return_, 1)) : W p l e R s m args below meth c H locs cells slots (MQ below (ce_QI X b k sz) args s mc ms (ce_Au (b + k))) (F0 m pc ls []) :=
  W.widen hc hs (W.vret hx hb hr (fun t ht hW => ⟨rfl, by rw [ht]; exact hz, fun j h1 h2 => by rw [ht]; exact hat j h1 h2, hS.F ht⟩) hS.2.2 hd hlocks)
set_option maxRecDepth 100000 in
set_option maxHeartbeats 4000000 in
theorem c_X2_init (l : Launch) (X : ce_X) (G : ce_G) (b : Nat) {k : Nat} (hk : ce_kd k = 2) : ce_CtI l yX2_init cX2_init 1 1 12 1 12 X G b k 2 (.inr (2, ce_raw2)) := by
  refine ce_ofWI (own := RX2) (by decide) rfl rfl (by decide) (fun p e s m below meth c ls hx hb hr hlocks hname hml hown hB hF hC hl hS => ?_)
  have hK := hF.1.1
  obtain ⟨f0, ef⟩ : ∃ g : Nat → va_E, g = fun _ => .inr (2, ce_raw2) := ⟨_, rfl⟩
  rw [← ef] at hC
  have h0_0 : f0 k = .inr (2, ce_raw2) := by rw [ef]
  clear ef
  refine lv_aload_n hx hb dX2_init_0 rfl (lv_at hl 0 rfl) ?_
  refine ce_objI hx hb hml hl hown hB ce_w93 ce_w23 ce_w24 dX2_init_1 ⟨(Nat.le_of_ble_eq_true rfl), (Nat.le_of_ble_eq_true rfl)⟩ ?_
  refine lv_aload_n hx hb dX2_init_4 rfl (lv_at hl 0 rfl) ?_
  refine lv_bipush (v := 12) hx hb dX2_init_5 (by decide) ?_
  refine ce_newaI 12 hx hb hB ce_w63 hK hC hS (by decide) (by decide) (Nat.le_of_ble_eq_true rfl) (Nat.le_of_ble_eq_true rfl) (Nat.le_of_ble_eq_true rfl) dX2_init_7 (fun H hC hS => ?_)
  obtain ⟨f1, ef⟩ : ∃ g : Nat → va_E, g = va_up f0 (k + 1) (.inl (X.2.1, 12, .inl (fun _ => 0))) := ⟨_, rfl⟩
  have hC : ce_Cr X b k (k + 2) f1 H := by rw [ef]; exact hC
  have h1_0 : f1 k = .inr (2, [.null, .int 0]) := by rw [ef]; exact (ce_upn (by omega)).trans h0_0
  have h1_1 : f1 (k + 1) = .inl (X.2.1, 12, .inl (fun _ => 0)) := by rw [ef]; exact ce_ups
  clear ef
  refine ce_putI (own := RX2) (T := TX2) (N := 2) (ci := 2) hx hb hB ce_l2 tyX2 tyX2_ok nmX2 hown hname hK hC hS k (by omega) (by omega) h1_0 rfl 0 (by decide) rfl ce_w94 rfl (ty := tyX2 0) (by decide +kernel) rfl rfl (Nat.le_of_ble_eq_true rfl) dX2_init_9 (fun H locs hC hS => ?_)
  obtain ⟨f2, ef⟩ : ∃ g : Nat → va_E, g = va_up f1 k (.inr (2, [.ref (b + (k + 1)), .int 0])) := ⟨_, rfl⟩
  have hC : ce_Cr X b k (k + 2) f2 H := by rw [ef]; exact hC
  have h2_0 : f2 k = .inr (2, [.ref (b + (k + 1)), .int 0]) := by rw [ef]; exact ce_ups
  have h2_1 : f2 (k + 1) = .inl (X.2.1, 12, .inl (fun _ => 0)) := by rw [ef]; exact (ce_upn (by omega)).trans h1_1
  clear ef
  refine ce_iendV hx hb hr hlocks hC.1 (fun j hj1 hj2 => ?_) hS (Nat.le_of_ble_eq_true rfl) (Nat.le_of_ble_eq_true rfl) dX2_init_12
  have ha := hC.2 j hj1 (by omega)
  rcases (show j = k ∨ j = (k + 1) by omega) with rfl | rfl
  · rw [h2_0] at ha
    rw [hk]
    simpa only [ce_ent, ce_rl_M0, ce_M0z (by rw [hk]; decide) (by rw [hk]; decide)] using ha
  · rw [h2_1] at ha
    rw [(show ce_kd (k + 1) = 28 from (ce_kf_2_0 hk))]
    have e9 : ce_ent X b 28 (k + 1) ce_M0 = .inl (X.2.1, 12, .inl (fun _ => 0)) := by
      show (Sum.inl (X.2.1, 12, Sum.inl (ce_rd ce_M0 (k + 1))) : va_E) = _
      rw [show ce_rd ce_M0 (k + 1) = fun _ => 0 from funext fun j => ce_M0z (by rw [(show ce_kd (k + 1) = 28 from (ce_kf_2_0 hk))]; decide) (by rw [(show ce_kd (k + 1) = 28 from (ce_kf_2_0 hk))]; decide)]
    rw [e9]
    exact ha
set_option maxRecDepth 100000 in
set_option maxHeartbeats 4000000 in
theorem c_X3_init (l : Launch) (X : ce_X) (G : ce_G) (b : Nat) {k : Nat} (hk : ce_kd k = 3) : ce_CtI l yX3_init cX3_init 1 1 12 3 30 X G b k 4 (.inr (3, ce_raw3)) := by
  refine ce_ofWI (own := RX3) (by decide) rfl rfl (by decide) (fun p e s m below meth c ls hx hb hr hlocks hname hml hown hB hF hC hl hS => ?_)
  have hK := hF.1.1
  obtain ⟨f0, ef⟩ : ∃ g : Nat → va_E, g = fun _ => .inr (3, ce_raw3) := ⟨_, rfl⟩
  rw [← ef] at hC
  have h0_0 : f0 k = .inr (3, ce_raw3) := by rw [ef]
  clear ef
  refine lv_aload_n hx hb dX3_init_0 rfl (lv_at hl 0 rfl) ?_
  refine ce_objI hx hb hml hl hown hB ce_w74 ce_w23 ce_w24 dX3_init_1 ⟨(Nat.le_of_ble_eq_true rfl), (Nat.le_of_ble_eq_true rfl)⟩ ?_
  refine lv_aload_n hx hb dX3_init_4 rfl (lv_at hl 0 rfl) ?_
  refine lv_bipush (v := 10) hx hb dX3_init_5 (by decide) ?_
  refine ce_newaI 10 hx hb hB ce_w63 hK hC hS (by decide) (by decide) (Nat.le_of_ble_eq_true rfl) (Nat.le_of_ble_eq_true rfl) (Nat.le_of_ble_eq_true rfl) dX3_init_7 (fun H hC hS => ?_)
  obtain ⟨f1, ef⟩ : ∃ g : Nat → va_E, g = va_up f0 (k + 1) (.inl (X.2.1, 10, .inl (fun _ => 0))) := ⟨_, rfl⟩
  have hC : ce_Cr X b k (k + 2) f1 H := by rw [ef]; exact hC
  have h1_0 : f1 k = .inr (3, [.null, .null, .null, .int 0]) := by rw [ef]; exact (ce_upn (by omega)).trans h0_0
  have h1_1 : f1 (k + 1) = .inl (X.2.1, 10, .inl (fun _ => 0)) := by rw [ef]; exact ce_ups
  clear ef
  refine ce_putI (own := RX3) (T := TX3) (N := 4) (ci := 3) hx hb hB ce_l3 tyX3 tyX3_ok nmX3 hown hname hK hC hS k (by omega) (by omega) h1_0 rfl 0 (by decide) rfl ce_w75 rfl (ty := tyX3 0) (by decide +kernel) rfl rfl (Nat.le_of_ble_eq_true rfl) dX3_init_9 (fun H locs hC hS => ?_)
  obtain ⟨f2, ef⟩ : ∃ g : Nat → va_E, g = va_up f1 k (.inr (3, [.ref (b + (k + 1)), .null, .null, .int 0])) := ⟨_, rfl⟩
  have hC : ce_Cr X b k (k + 2) f2 H := by rw [ef]; exact hC
  have h2_0 : f2 k = .inr (3, [.ref (b + (k + 1)), .null, .null, .int 0]) := by rw [ef]; exact ce_ups
  have h2_1 : f2 (k + 1) = .inl (X.2.1, 10, .inl (fun _ => 0)) := by rw [ef]; exact (ce_upn (by omega)).trans h1_1
  clear ef
  refine lv_aload_n hx hb dX3_init_12 rfl (lv_at hl 0 rfl) ?_
  refine lv_bipush (v := 10) hx hb dX3_init_13 (by decide) ?_
  refine ce_newaI 10 hx hb hB ce_w63 hK hC hS (by decide) (by decide) (Nat.le_of_ble_eq_true rfl) (Nat.le_of_ble_eq_true rfl) (Nat.le_of_ble_eq_true rfl) dX3_init_15 (fun H hC hS => ?_)
  obtain ⟨f3, ef⟩ : ∃ g : Nat → va_E, g = va_up f2 (k + 2) (.inl (X.2.1, 10, .inl (fun _ => 0))) := ⟨_, rfl⟩
  have hC : ce_Cr X b k (k + 3) f3 H := by rw [ef]; exact hC
  have h3_0 : f3 k = .inr (3, [.ref (b + (k + 1)), .null, .null, .int 0]) := by rw [ef]; exact (ce_upn (by omega)).trans h2_0
  have h3_1 : f3 (k + 1) = .inl (X.2.1, 10, .inl (fun _ => 0)) := by rw [ef]; exact (ce_upn (by omega)).trans h2_1
  have h3_2 : f3 (k + 2) = .inl (X.2.1, 10, .inl (fun _ => 0)) := by rw [ef]; exact ce_ups
  clear ef
  refine ce_putI (own := RX3) (T := TX3) (N := 4) (ci := 3) hx hb hB ce_l3 tyX3 tyX3_ok nmX3 hown hname hK hC hS k (by omega) (by omega) h3_0 rfl 1 (by decide) rfl ce_w76 rfl (ty := tyX3 1) (by decide +kernel) rfl rfl (Nat.le_of_ble_eq_true rfl) dX3_init_17 (fun H locs hC hS => ?_)
  obtain ⟨f4, ef⟩ : ∃ g : Nat → va_E, g = va_up f3 k (.inr (3, [.ref (b + (k + 1)), .ref (b + (k + 2)), .null, .int 0])) := ⟨_, rfl⟩
  have hC : ce_Cr X b k (k + 3) f4 H := by rw [ef]; exact hC
  have h4_0 : f4 k = .inr (3, [.ref (b + (k + 1)), .ref (b + (k + 2)), .null, .int 0]) := by rw [ef]; exact ce_ups
  have h4_1 : f4 (k + 1) = .inl (X.2.1, 10, .inl (fun _ => 0)) := by rw [ef]; exact (ce_upn (by omega)).trans h3_1
  have h4_2 : f4 (k + 2) = .inl (X.2.1, 10, .inl (fun _ => 0)) := by rw [ef]; exact (ce_upn (by omega)).trans h3_2
  clear ef
  refine lv_aload_n hx hb dX3_init_20 rfl (lv_at hl 0 rfl) ?_
  refine lv_bipush (v := 10) hx hb dX3_init_21 (by decide) ?_
  refine ce_newaI 10 hx hb hB ce_w63 hK hC hS (by decide) (by decide) (Nat.le_of_ble_eq_true rfl) (Nat.le_of_ble_eq_true rfl) (Nat.le_of_ble_eq_true rfl) dX3_init_23 (fun H hC hS => ?_)
  obtain ⟨f5, ef⟩ : ∃ g : Nat → va_E, g = va_up f4 (k + 3) (.inl (X.2.1, 10, .inl (fun _ => 0))) := ⟨_, rfl⟩
  have hC : ce_Cr X b k (k + 4) f5 H := by rw [ef]; exact hC
  have h5_0 : f5 k = .inr (3, [.ref (b + (k + 1)), .ref (b + (k + 2)), .null, .int 0]) := by rw [ef]; exact (ce_upn (by omega)).trans h4_0
  have h5_1 : f5 (k + 1) = .inl (X.2.1, 10, .inl (fun _ => 0)) := by rw [ef]; exact (ce_upn (by omega)).trans h4_1
  have h5_2 : f5 (k + 2) = .inl (X.2.1, 10, .inl (fun _ => 0)) := by rw [ef]; exact (ce_upn (by omega)).trans h4_2
  have h5_3 : f5 (k + 3) = .inl (X.2.1, 10, .inl (fun _ => 0)) := by rw [ef]; exact ce_ups
  clear ef
  refine ce_putI (own := RX3) (T := TX3) (N := 4) (ci := 3) hx hb hB ce_l3 tyX3 tyX3_ok nmX3 hown hname hK hC hS k (by omega) (by omega) h5_0 rfl 2 (by decide) rfl ce_w77 rfl (ty := tyX3 2) (by decide +kernel) rfl rfl (Nat.le_of_ble_eq_true rfl) dX3_init_25 (fun H locs hC hS => ?_)
  obtain ⟨f6, ef⟩ : ∃ g : Nat → va_E, g = va_up f5 k (.inr (3, [.ref (b + (k + 1)), .ref (b + (k + 2)), .ref (b + (k + 3)), .int 0])) := ⟨_, rfl⟩
  have hC : ce_Cr X b k (k + 4) f6 H := by rw [ef]; exact hC
  have h6_0 : f6 k = .inr (3, [.ref (b + (k + 1)), .ref (b + (k + 2)), .ref (b + (k + 3)), .int 0]) := by rw [ef]; exact ce_ups
  have h6_1 : f6 (k + 1) = .inl (X.2.1, 10, .inl (fun _ => 0)) := by rw [ef]; exact (ce_upn (by omega)).trans h5_1
  have h6_2 : f6 (k + 2) = .inl (X.2.1, 10, .inl (fun _ => 0)) := by rw [ef]; exact (ce_upn (by omega)).trans h5_2
  have h6_3 : f6 (k + 3) = .inl (X.2.1, 10, .inl (fun _ => 0)) := by rw [ef]; exact (ce_upn (by omega)).trans h5_3
  clear ef
  refine ce_iendV hx hb hr hlocks hC.1 (fun j hj1 hj2 => ?_) hS (Nat.le_of_ble_eq_true rfl) (Nat.le_of_ble_eq_true rfl) dX3_init_28
  have ha := hC.2 j hj1 (by omega)
  rcases (show j = k ∨ j = (k + 1) ∨ j = (k + 2) ∨ j = (k + 3) by omega) with rfl | rfl | rfl | rfl
  · rw [h6_0] at ha
    rw [hk]
    simpa only [ce_ent, ce_rl_M0, ce_M0z (by rw [hk]; decide) (by rw [hk]; decide)] using ha
  · rw [h6_1] at ha
    rw [(show ce_kd (k + 1) = 26 from (ce_kf_3_0 hk))]
    have e9 : ce_ent X b 26 (k + 1) ce_M0 = .inl (X.2.1, 10, .inl (fun _ => 0)) := by
      show (Sum.inl (X.2.1, 10, Sum.inl (ce_rd ce_M0 (k + 1))) : va_E) = _
      rw [show ce_rd ce_M0 (k + 1) = fun _ => 0 from funext fun j => ce_M0z (by rw [(show ce_kd (k + 1) = 26 from (ce_kf_3_0 hk))]; decide) (by rw [(show ce_kd (k + 1) = 26 from (ce_kf_3_0 hk))]; decide)]
    rw [e9]
    exact ha
  · rw [h6_2] at ha
    rw [(show ce_kd (k + 2) = 26 from (ce_kf_3_1 hk))]
    have e9 : ce_ent X b 26 (k + 2) ce_M0 = .inl (X.2.1, 10, .inl (fun _ => 0)) := by
      show (Sum.inl (X.2.1, 10, Sum.inl (ce_rd ce_M0 (k + 2))) : va_E) = _
      rw [show ce_rd ce_M0 (k + 2) = fun _ => 0 from funext fun j => ce_M0z (by rw [(show ce_kd (k + 2) = 26 from (ce_kf_3_1 hk))]; decide) (by rw [(show ce_kd (k + 2) = 26 from (ce_kf_3_1 hk))]; decide)]
    rw [e9]
    exact ha
  · rw [h6_3] at ha
    rw [(show ce_kd (k + 3) = 26 from (ce_kf_3_2 hk))]
    have e9 : ce_ent X b 26 (k + 3) ce_M0 = .inl (X.2.1, 10, .inl (fun _ => 0)) := by
      show (Sum.inl (X.2.1, 10, Sum.inl (ce_rd ce_M0 (k + 3))) : va_E) = _
      rw [show ce_rd ce_M0 (k + 3) = fun _ => 0 from funext fun j => ce_M0z (by rw [(show ce_kd (k + 3) = 26 from (ce_kf_3_2 hk))]; decide) (by rw [(show ce_kd (k + 3) = 26 from (ce_kf_3_2 hk))]; decide)]
    rw [e9]
    exact ha
set_option maxRecDepth 100000 in
set_option maxHeartbeats 4000000 in
theorem c_X1_init (l : Launch) (X : ce_X) (G : ce_G) (b : Nat) {k : Nat} (hk : ce_kd k = 1) : ce_CtI l yX1_init cX1_init 1 1 12 6 360 X G b k 7 (.inr (1, ce_raw1)) := by
  refine ce_ofWI (own := RX1) (by decide) rfl rfl (by decide) (fun p e s m below meth c ls hx hb hr hlocks hname hml hown hB hF hC hl hS => ?_)
  have hK := hF.1.1
  obtain ⟨f0, ef⟩ : ∃ g : Nat → va_E, g = fun _ => .inr (1, ce_raw1) := ⟨_, rfl⟩
  rw [← ef] at hC
  have h0_0 : f0 k = .inr (1, ce_raw1) := by rw [ef]
  clear ef
  refine lv_aload_n hx hb dX1_init_0 rfl (lv_at hl 0 rfl) ?_
  refine ce_objI hx hb hml hl hown hB ce_w38 ce_w23 ce_w24 dX1_init_1 ⟨(Nat.le_of_ble_eq_true rfl), (Nat.le_of_ble_eq_true rfl)⟩ ?_
  refine lv_aload_n hx hb dX1_init_4 rfl (lv_at hl 0 rfl) ?_
  refine lv_bipush (v := 60) hx hb dX1_init_5 (by decide) ?_
  refine ce_newaI 60 hx hb hB ce_w63 hK hC hS (by decide) (by decide) (Nat.le_of_ble_eq_true rfl) (Nat.le_of_ble_eq_true rfl) (Nat.le_of_ble_eq_true rfl) dX1_init_7 (fun H hC hS => ?_)
  obtain ⟨f1, ef⟩ : ∃ g : Nat → va_E, g = va_up f0 (k + 1) (.inl (X.2.1, 60, .inl (fun _ => 0))) := ⟨_, rfl⟩
  have hC : ce_Cr X b k (k + 2) f1 H := by rw [ef]; exact hC
  have h1_0 : f1 k = .inr (1, [.null, .null, .null, .null, .null, .null, .int 0]) := by rw [ef]; exact (ce_upn (by omega)).trans h0_0
  have h1_1 : f1 (k + 1) = .inl (X.2.1, 60, .inl (fun _ => 0)) := by rw [ef]; exact ce_ups
  clear ef
  refine ce_putI (own := RX1) (T := TX1) (N := 7) (ci := 1) hx hb hB ce_l1 tyX1 tyX1_ok nmX1 hown hname hK hC hS k (by omega) (by omega) h1_0 rfl 0 (by decide) rfl ce_w39 rfl (ty := tyX1 0) (by decide +kernel) rfl rfl (Nat.le_of_ble_eq_true rfl) dX1_init_9 (fun H locs hC hS => ?_)
  obtain ⟨f2, ef⟩ : ∃ g : Nat → va_E, g = va_up f1 k (.inr (1, [.ref (b + (k + 1)), .null, .null, .null, .null, .null, .int 0])) := ⟨_, rfl⟩
  have hC : ce_Cr X b k (k + 2) f2 H := by rw [ef]; exact hC
  have h2_0 : f2 k = .inr (1, [.ref (b + (k + 1)), .null, .null, .null, .null, .null, .int 0]) := by rw [ef]; exact ce_ups
  have h2_1 : f2 (k + 1) = .inl (X.2.1, 60, .inl (fun _ => 0)) := by rw [ef]; exact (ce_upn (by omega)).trans h1_1
  clear ef
  refine lv_aload_n hx hb dX1_init_12 rfl (lv_at hl 0 rfl) ?_
  refine lv_bipush (v := 60) hx hb dX1_init_13 (by decide) ?_
  refine ce_newaI 60 hx hb hB ce_w63 hK hC hS (by decide) (by decide) (Nat.le_of_ble_eq_true rfl) (Nat.le_of_ble_eq_true rfl) (Nat.le_of_ble_eq_true rfl) dX1_init_15 (fun H hC hS => ?_)
  obtain ⟨f3, ef⟩ : ∃ g : Nat → va_E, g = va_up f2 (k + 2) (.inl (X.2.1, 60, .inl (fun _ => 0))) := ⟨_, rfl⟩
  have hC : ce_Cr X b k (k + 3) f3 H := by rw [ef]; exact hC
  have h3_0 : f3 k = .inr (1, [.ref (b + (k + 1)), .null, .null, .null, .null, .null, .int 0]) := by rw [ef]; exact (ce_upn (by omega)).trans h2_0
  have h3_1 : f3 (k + 1) = .inl (X.2.1, 60, .inl (fun _ => 0)) := by rw [ef]; exact (ce_upn (by omega)).trans h2_1
  have h3_2 : f3 (k + 2) = .inl (X.2.1, 60, .inl (fun _ => 0)) := by rw [ef]; exact ce_ups
  clear ef
  refine ce_putI (own := RX1) (T := TX1) (N := 7) (ci := 1) hx hb hB ce_l1 tyX1 tyX1_ok nmX1 hown hname hK hC hS k (by omega) (by omega) h3_0 rfl 1 (by decide) rfl ce_w40 rfl (ty := tyX1 1) (by decide +kernel) rfl rfl (Nat.le_of_ble_eq_true rfl) dX1_init_17 (fun H locs hC hS => ?_)
  obtain ⟨f4, ef⟩ : ∃ g : Nat → va_E, g = va_up f3 k (.inr (1, [.ref (b + (k + 1)), .ref (b + (k + 2)), .null, .null, .null, .null, .int 0])) := ⟨_, rfl⟩
  have hC : ce_Cr X b k (k + 3) f4 H := by rw [ef]; exact hC
  have h4_0 : f4 k = .inr (1, [.ref (b + (k + 1)), .ref (b + (k + 2)), .null, .null, .null, .null, .int 0]) := by rw [ef]; exact ce_ups
  have h4_1 : f4 (k + 1) = .inl (X.2.1, 60, .inl (fun _ => 0)) := by rw [ef]; exact (ce_upn (by omega)).trans h3_1
  have h4_2 : f4 (k + 2) = .inl (X.2.1, 60, .inl (fun _ => 0)) := by rw [ef]; exact (ce_upn (by omega)).trans h3_2
  clear ef
  refine lv_aload_n hx hb dX1_init_20 rfl (lv_at hl 0 rfl) ?_
  refine lv_bipush (v := 60) hx hb dX1_init_21 (by decide) ?_
  refine ce_newaI 60 hx hb hB ce_w63 hK hC hS (by decide) (by decide) (Nat.le_of_ble_eq_true rfl) (Nat.le_of_ble_eq_true rfl) (Nat.le_of_ble_eq_true rfl) dX1_init_23 (fun H hC hS => ?_)
  obtain ⟨f5, ef⟩ : ∃ g : Nat → va_E, g = va_up f4 (k + 3) (.inl (X.2.1, 60, .inl (fun _ => 0))) := ⟨_, rfl⟩
  have hC : ce_Cr X b k (k + 4) f5 H := by rw [ef]; exact hC
  have h5_0 : f5 k = .inr (1, [.ref (b + (k + 1)), .ref (b + (k + 2)), .null, .null, .null, .null, .int 0]) := by rw [ef]; exact (ce_upn (by omega)).trans h4_0
  have h5_1 : f5 (k + 1) = .inl (X.2.1, 60, .inl (fun _ => 0)) := by rw [ef]; exact (ce_upn (by omega)).trans h4_1
  have h5_2 : f5 (k + 2) = .inl (X.2.1, 60, .inl (fun _ => 0)) := by rw [ef]; exact (ce_upn (by omega)).trans h4_2
  have h5_3 : f5 (k + 3) = .inl (X.2.1, 60, .inl (fun _ => 0)) := by rw [ef]; exact ce_ups
  clear ef
  refine ce_putI (own := RX1) (T := TX1) (N := 7) (ci := 1) hx hb hB ce_l1 tyX1 tyX1_ok nmX1 hown hname hK hC hS k (by omega) (by omega) h5_0 rfl 2 (by decide) rfl ce_w41 rfl (ty := tyX1 2) (by decide +kernel) rfl rfl (Nat.le_of_ble_eq_true rfl) dX1_init_25 (fun H locs hC hS => ?_)
  obtain ⟨f6, ef⟩ : ∃ g : Nat → va_E, g = va_up f5 k (.inr (1, [.ref (b + (k + 1)), .ref (b + (k + 2)), .ref (b + (k + 3)), .null, .null, .null, .int 0])) := ⟨_, rfl⟩
  have hC : ce_Cr X b k (k + 4) f6 H := by rw [ef]; exact hC
  have h6_0 : f6 k = .inr (1, [.ref (b + (k + 1)), .ref (b + (k + 2)), .ref (b + (k + 3)), .null, .null, .null, .int 0]) := by rw [ef]; exact ce_ups
  have h6_1 : f6 (k + 1) = .inl (X.2.1, 60, .inl (fun _ => 0)) := by rw [ef]; exact (ce_upn (by omega)).trans h5_1
  have h6_2 : f6 (k + 2) = .inl (X.2.1, 60, .inl (fun _ => 0)) := by rw [ef]; exact (ce_upn (by omega)).trans h5_2
  have h6_3 : f6 (k + 3) = .inl (X.2.1, 60, .inl (fun _ => 0)) := by rw [ef]; exact (ce_upn (by omega)).trans h5_3
  clear ef
  refine lv_aload_n hx hb dX1_init_28 rfl (lv_at hl 0 rfl) ?_
  refine lv_bipush (v := 60) hx hb dX1_init_29 (by decide) ?_
  refine ce_newaI 60 hx hb hB ce_w63 hK hC hS (by decide) (by decide) (Nat.le_of_ble_eq_true rfl) (Nat.le_of_ble_eq_true rfl) (Nat.le_of_ble_eq_true rfl) dX1_init_31 (fun H hC hS => ?_)
  obtain ⟨f7, ef⟩ : ∃ g : Nat → va_E, g = va_up f6 (k + 4) (.inl (X.2.1, 60, .inl (fun _ => 0))) := ⟨_, rfl⟩
  have hC : ce_Cr X b k (k + 5) f7 H := by rw [ef]; exact hC
  have h7_0 : f7 k = .inr (1, [.ref (b + (k + 1)), .ref (b + (k + 2)), .ref (b + (k + 3)), .null, .null, .null, .int 0]) := by rw [ef]; exact (ce_upn (by omega)).trans h6_0
  have h7_1 : f7 (k + 1) = .inl (X.2.1, 60, .inl (fun _ => 0)) := by rw [ef]; exact (ce_upn (by omega)).trans h6_1
  have h7_2 : f7 (k + 2) = .inl (X.2.1, 60, .inl (fun _ => 0)) := by rw [ef]; exact (ce_upn (by omega)).trans h6_2
  have h7_3 : f7 (k + 3) = .inl (X.2.1, 60, .inl (fun _ => 0)) := by rw [ef]; exact (ce_upn (by omega)).trans h6_3
  have h7_4 : f7 (k + 4) = .inl (X.2.1, 60, .inl (fun _ => 0)) := by rw [ef]; exact ce_ups
  clear ef
  refine ce_putI (own := RX1) (T := TX1) (N := 7) (ci := 1) hx hb hB ce_l1 tyX1 tyX1_ok nmX1 hown hname hK hC hS k (by omega) (by omega) h7_0 rfl 3 (by decide) rfl ce_w42 rfl (ty := tyX1 3) (by decide +kernel) rfl rfl (Nat.le_of_ble_eq_true rfl) dX1_init_33 (fun H locs hC hS => ?_)
  obtain ⟨f8, ef⟩ : ∃ g : Nat → va_E, g = va_up f7 k (.inr (1, [.ref (b + (k + 1)), .ref (b + (k + 2)), .ref (b + (k + 3)), .ref (b + (k + 4)), .null, .null, .int 0])) := ⟨_, rfl⟩
  have hC : ce_Cr X b k (k + 5) f8 H := by rw [ef]; exact hC
  have h8_0 : f8 k = .inr (1, [.ref (b + (k + 1)), .ref (b + (k + 2)), .ref (b + (k + 3)), .ref (b + (k + 4)), .null, .null, .int 0]) := by rw [ef]; exact ce_ups
  have h8_1 : f8 (k + 1) = .inl (X.2.1, 60, .inl (fun _ => 0)) := by rw [ef]; exact (ce_upn (by omega)).trans h7_1
  have h8_2 : f8 (k + 2) = .inl (X.2.1, 60, .inl (fun _ => 0)) := by rw [ef]; exact (ce_upn (by omega)).trans h7_2
  have h8_3 : f8 (k + 3) = .inl (X.2.1, 60, .inl (fun _ => 0)) := by rw [ef]; exact (ce_upn (by omega)).trans h7_3
  have h8_4 : f8 (k + 4) = .inl (X.2.1, 60, .inl (fun _ => 0)) := by rw [ef]; exact (ce_upn (by omega)).trans h7_4
  clear ef
  refine lv_aload_n hx hb dX1_init_36 rfl (lv_at hl 0 rfl) ?_
  refine lv_bipush (v := 60) hx hb dX1_init_37 (by decide) ?_
  refine ce_newaI 60 hx hb hB ce_w63 hK hC hS (by decide) (by decide) (Nat.le_of_ble_eq_true rfl) (Nat.le_of_ble_eq_true rfl) (Nat.le_of_ble_eq_true rfl) dX1_init_39 (fun H hC hS => ?_)
  obtain ⟨f9, ef⟩ : ∃ g : Nat → va_E, g = va_up f8 (k + 5) (.inl (X.2.1, 60, .inl (fun _ => 0))) := ⟨_, rfl⟩
  have hC : ce_Cr X b k (k + 6) f9 H := by rw [ef]; exact hC
  have h9_0 : f9 k = .inr (1, [.ref (b + (k + 1)), .ref (b + (k + 2)), .ref (b + (k + 3)), .ref (b + (k + 4)), .null, .null, .int 0]) := by rw [ef]; exact (ce_upn (by omega)).trans h8_0
  have h9_1 : f9 (k + 1) = .inl (X.2.1, 60, .inl (fun _ => 0)) := by rw [ef]; exact (ce_upn (by omega)).trans h8_1
  have h9_2 : f9 (k + 2) = .inl (X.2.1, 60, .inl (fun _ => 0)) := by rw [ef]; exact (ce_upn (by omega)).trans h8_2
  have h9_3 : f9 (k + 3) = .inl (X.2.1, 60, .inl (fun _ => 0)) := by rw [ef]; exact (ce_upn (by omega)).trans h8_3
  have h9_4 : f9 (k + 4) = .inl (X.2.1, 60, .inl (fun _ => 0)) := by rw [ef]; exact (ce_upn (by omega)).trans h8_4
  have h9_5 : f9 (k + 5) = .inl (X.2.1, 60, .inl (fun _ => 0)) := by rw [ef]; exact ce_ups
  clear ef
  refine ce_putI (own := RX1) (T := TX1) (N := 7) (ci := 1) hx hb hB ce_l1 tyX1 tyX1_ok nmX1 hown hname hK hC hS k (by omega) (by omega) h9_0 rfl 4 (by decide) rfl ce_w43 rfl (ty := tyX1 4) (by decide +kernel) rfl rfl (Nat.le_of_ble_eq_true rfl) dX1_init_41 (fun H locs hC hS => ?_)
  obtain ⟨f10, ef⟩ : ∃ g : Nat → va_E, g = va_up f9 k (.inr (1, [.ref (b + (k + 1)), .ref (b + (k + 2)), .ref (b + (k + 3)), .ref (b + (k + 4)), .ref (b + (k + 5)), .null, .int 0])) := ⟨_, rfl⟩
  have hC : ce_Cr X b k (k + 6) f10 H := by rw [ef]; exact hC
  have h10_0 : f10 k = .inr (1, [.ref (b + (k + 1)), .ref (b + (k + 2)), .ref (b + (k + 3)), .ref (b + (k + 4)), .ref (b + (k + 5)), .null, .int 0]) := by rw [ef]; exact ce_ups
  have h10_1 : f10 (k + 1) = .inl (X.2.1, 60, .inl (fun _ => 0)) := by rw [ef]; exact (ce_upn (by omega)).trans h9_1
  have h10_2 : f10 (k + 2) = .inl (X.2.1, 60, .inl (fun _ => 0)) := by rw [ef]; exact (ce_upn (by omega)).trans h9_2
  have h10_3 : f10 (k + 3) = .inl (X.2.1, 60, .inl (fun _ => 0)) := by rw [ef]; exact (ce_upn (by omega)).trans h9_3
  have h10_4 : f10 (k + 4) = .inl (X.2.1, 60, .inl (fun _ => 0)) := by rw [ef]; exact (ce_upn (by omega)).trans h9_4
  have h10_5 : f10 (k + 5) = .inl (X.2.1, 60, .inl (fun _ => 0)) := by rw [ef]; exact (ce_upn (by omega)).trans h9_5
  clear ef
  refine lv_aload_n hx hb dX1_init_44 rfl (lv_at hl 0 rfl) ?_
  refine lv_bipush (v := 60) hx hb dX1_init_45 (by decide) ?_
  refine ce_newaI 60 hx hb hB ce_w63 hK hC hS (by decide) (by decide) (Nat.le_of_ble_eq_true rfl) (Nat.le_of_ble_eq_true rfl) (Nat.le_of_ble_eq_true rfl) dX1_init_47 (fun H hC hS => ?_)
  obtain ⟨f11, ef⟩ : ∃ g : Nat → va_E, g = va_up f10 (k + 6) (.inl (X.2.1, 60, .inl (fun _ => 0))) := ⟨_, rfl⟩
  have hC : ce_Cr X b k (k + 7) f11 H := by rw [ef]; exact hC
  have h11_0 : f11 k = .inr (1, [.ref (b + (k + 1)), .ref (b + (k + 2)), .ref (b + (k + 3)), .ref (b + (k + 4)), .ref (b + (k + 5)), .null, .int 0]) := by rw [ef]; exact (ce_upn (by omega)).trans h10_0
  have h11_1 : f11 (k + 1) = .inl (X.2.1, 60, .inl (fun _ => 0)) := by rw [ef]; exact (ce_upn (by omega)).trans h10_1
  have h11_2 : f11 (k + 2) = .inl (X.2.1, 60, .inl (fun _ => 0)) := by rw [ef]; exact (ce_upn (by omega)).trans h10_2
  have h11_3 : f11 (k + 3) = .inl (X.2.1, 60, .inl (fun _ => 0)) := by rw [ef]; exact (ce_upn (by omega)).trans h10_3
  have h11_4 : f11 (k + 4) = .inl (X.2.1, 60, .inl (fun _ => 0)) := by rw [ef]; exact (ce_upn (by omega)).trans h10_4
  have h11_5 : f11 (k + 5) = .inl (X.2.1, 60, .inl (fun _ => 0)) := by rw [ef]; exact (ce_upn (by omega)).trans h10_5
  have h11_6 : f11 (k + 6) = .inl (X.2.1, 60, .inl (fun _ => 0)) := by rw [ef]; exact ce_ups
  clear ef
  refine ce_putI (own := RX1) (T := TX1) (N := 7) (ci := 1) hx hb hB ce_l1 tyX1 tyX1_ok nmX1 hown hname hK hC hS k (by omega) (by omega) h11_0 rfl 5 (by decide) rfl ce_w44 rfl (ty := tyX1 5) (by decide +kernel) rfl rfl (Nat.le_of_ble_eq_true rfl) dX1_init_49 (fun H locs hC hS => ?_)
  obtain ⟨f12, ef⟩ : ∃ g : Nat → va_E, g = va_up f11 k (.inr (1, [.ref (b + (k + 1)), .ref (b + (k + 2)), .ref (b + (k + 3)), .ref (b + (k + 4)), .ref (b + (k + 5)), .ref (b + (k + 6)), .int 0])) := ⟨_, rfl⟩
  have hC : ce_Cr X b k (k + 7) f12 H := by rw [ef]; exact hC
  have h12_0 : f12 k = .inr (1, [.ref (b + (k + 1)), .ref (b + (k + 2)), .ref (b + (k + 3)), .ref (b + (k + 4)), .ref (b + (k + 5)), .ref (b + (k + 6)), .int 0]) := by rw [ef]; exact ce_ups
  have h12_1 : f12 (k + 1) = .inl (X.2.1, 60, .inl (fun _ => 0)) := by rw [ef]; exact (ce_upn (by omega)).trans h11_1
  have h12_2 : f12 (k + 2) = .inl (X.2.1, 60, .inl (fun _ => 0)) := by rw [ef]; exact (ce_upn (by omega)).trans h11_2
  have h12_3 : f12 (k + 3) = .inl (X.2.1, 60, .inl (fun _ => 0)) := by rw [ef]; exact (ce_upn (by omega)).trans h11_3
  have h12_4 : f12 (k + 4) = .inl (X.2.1, 60, .inl (fun _ => 0)) := by rw [ef]; exact (ce_upn (by omega)).trans h11_4
  have h12_5 : f12 (k + 5) = .inl (X.2.1, 60, .inl (fun _ => 0)) := by rw [ef]; exact (ce_upn (by omega)).trans h11_5
  have h12_6 : f12 (k + 6) = .inl (X.2.1, 60, .inl (fun _ => 0)) := by rw [ef]; exact (ce_upn (by omega)).trans h11_6
  clear ef
  refine ce_iendV hx hb hr hlocks hC.1 (fun j hj1 hj2 => ?_) hS (Nat.le_of_ble_eq_true rfl) (Nat.le_of_ble_eq_true rfl) dX1_init_52
  have ha := hC.2 j hj1 (by omega)
  rcases (show j = k ∨ j = (k + 1) ∨ j = (k + 2) ∨ j = (k + 3) ∨ j = (k + 4) ∨ j = (k + 5) ∨ j = (k + 6) by omega) with rfl | rfl | rfl | rfl | rfl | rfl | rfl
  · rw [h12_0] at ha
    rw [hk]
    simpa only [ce_ent, ce_rl_M0, ce_M0z (by rw [hk]; decide) (by rw [hk]; decide)] using ha
  · rw [h12_1] at ha
    rw [(show ce_kd (k + 1) = 76 from (ce_kf_1_0 hk))]
    have e9 : ce_ent X b 76 (k + 1) ce_M0 = .inl (X.2.1, 60, .inl (fun _ => 0)) := by
      show (Sum.inl (X.2.1, 60, Sum.inl (ce_rd ce_M0 (k + 1))) : va_E) = _
      rw [show ce_rd ce_M0 (k + 1) = fun _ => 0 from funext fun j => ce_M0z (by rw [(show ce_kd (k + 1) = 76 from (ce_kf_1_0 hk))]; decide) (by rw [(show ce_kd (k + 1) = 76 from (ce_kf_1_0 hk))]; decide)]
    rw [e9]
    exact ha
  · rw [h12_2] at ha
    rw [(show ce_kd (k + 2) = 76 from (ce_kf_1_1 hk))]
    have e9 : ce_ent X b 76 (k + 2) ce_M0 = .inl (X.2.1, 60, .inl (fun _ => 0)) := by
      show (Sum.inl (X.2.1, 60, Sum.inl (ce_rd ce_M0 (k + 2))) : va_E) = _
      rw [show ce_rd ce_M0 (k + 2) = fun _ => 0 from funext fun j => ce_M0z (by rw [(show ce_kd (k + 2) = 76 from (ce_kf_1_1 hk))]; decide) (by rw [(show ce_kd (k + 2) = 76 from (ce_kf_1_1 hk))]; decide)]
    rw [e9]
    exact ha
  · rw [h12_3] at ha
    rw [(show ce_kd (k + 3) = 76 from (ce_kf_1_2 hk))]
    have e9 : ce_ent X b 76 (k + 3) ce_M0 = .inl (X.2.1, 60, .inl (fun _ => 0)) := by
      show (Sum.inl (X.2.1, 60, Sum.inl (ce_rd ce_M0 (k + 3))) : va_E) = _
      rw [show ce_rd ce_M0 (k + 3) = fun _ => 0 from funext fun j => ce_M0z (by rw [(show ce_kd (k + 3) = 76 from (ce_kf_1_2 hk))]; decide) (by rw [(show ce_kd (k + 3) = 76 from (ce_kf_1_2 hk))]; decide)]
    rw [e9]
    exact ha
  · rw [h12_4] at ha
    rw [(show ce_kd (k + 4) = 76 from (ce_kf_1_3 hk))]
    have e9 : ce_ent X b 76 (k + 4) ce_M0 = .inl (X.2.1, 60, .inl (fun _ => 0)) := by
      show (Sum.inl (X.2.1, 60, Sum.inl (ce_rd ce_M0 (k + 4))) : va_E) = _
      rw [show ce_rd ce_M0 (k + 4) = fun _ => 0 from funext fun j => ce_M0z (by rw [(show ce_kd (k + 4) = 76 from (ce_kf_1_3 hk))]; decide) (by rw [(show ce_kd (k + 4) = 76 from (ce_kf_1_3 hk))]; decide)]
    rw [e9]
    exact ha
  · rw [h12_5] at ha
    rw [(show ce_kd (k + 5) = 76 from (ce_kf_1_4 hk))]
    have e9 : ce_ent X b 76 (k + 5) ce_M0 = .inl (X.2.1, 60, .inl (fun _ => 0)) := by
      show (Sum.inl (X.2.1, 60, Sum.inl (ce_rd ce_M0 (k + 5))) : va_E) = _
      rw [show ce_rd ce_M0 (k + 5) = fun _ => 0 from funext fun j => ce_M0z (by rw [(show ce_kd (k + 5) = 76 from (ce_kf_1_4 hk))]; decide) (by rw [(show ce_kd (k + 5) = 76 from (ce_kf_1_4 hk))]; decide)]
    rw [e9]
    exact ha
  · rw [h12_6] at ha
    rw [(show ce_kd (k + 6) = 76 from (ce_kf_1_5 hk))]
    have e9 : ce_ent X b 76 (k + 6) ce_M0 = .inl (X.2.1, 60, .inl (fun _ => 0)) := by
      show (Sum.inl (X.2.1, 60, Sum.inl (ce_rd ce_M0 (k + 6))) : va_E) = _
      rw [show ce_rd ce_M0 (k + 6) = fun _ => 0 from funext fun j => ce_M0z (by rw [(show ce_kd (k + 6) = 76 from (ce_kf_1_5 hk))]; decide) (by rw [(show ce_kd (k + 6) = 76 from (ce_kf_1_5 hk))]; decide)]
    rw [e9]
    exact ha
set_option maxRecDepth 100000 in
set_option maxHeartbeats 4000000 in
theorem c_X0_init (l : Launch) (X : ce_X) (G : ce_G) (b : Nat) {k : Nat} (hk : ce_kd k = 0) : ce_CtI l yX0_init cX0_init 1 1 12 2 153 X G b k 3 (.inr (0, ce_raw0)) := by
  refine ce_ofWI (own := RX0) (by decide) rfl rfl (by decide) (fun p e s m below meth c ls hx hb hr hlocks hname hml hown hB hF hC hl hS => ?_)
  have hK := hF.1.1
  obtain ⟨f0, ef⟩ : ∃ g : Nat → va_E, g = fun _ => .inr (0, ce_raw0) := ⟨_, rfl⟩
  rw [← ef] at hC
  have h0_0 : f0 k = .inr (0, ce_raw0) := by rw [ef]
  clear ef
  refine lv_aload_n hx hb dX0_init_0 rfl (lv_at hl 0 rfl) ?_
  refine ce_objI hx hb hml hl hown hB ce_w205 ce_w23 ce_w24 dX0_init_1 ⟨(Nat.le_of_ble_eq_true rfl), (Nat.le_of_ble_eq_true rfl)⟩ ?_
  refine lv_aload_n hx hb dX0_init_4 rfl (lv_at hl 0 rfl) ?_
  refine lv_sipush (v := 150) hx hb dX0_init_5 (by decide) ?_
  refine ce_newaI 150 hx hb hB ce_w63 hK hC hS (by decide) (by decide) (Nat.le_of_ble_eq_true rfl) (Nat.le_of_ble_eq_true rfl) (Nat.le_of_ble_eq_true rfl) dX0_init_8 (fun H hC hS => ?_)
  obtain ⟨f1, ef⟩ : ∃ g : Nat → va_E, g = va_up f0 (k + 1) (.inl (X.2.1, 150, .inl (fun _ => 0))) := ⟨_, rfl⟩
  have hC : ce_Cr X b k (k + 2) f1 H := by rw [ef]; exact hC
  have h1_0 : f1 k = .inr (0, [.null, .int 0, .int 0, .int 0, .null, .int 0]) := by rw [ef]; exact (ce_upn (by omega)).trans h0_0
  have h1_1 : f1 (k + 1) = .inl (X.2.1, 150, .inl (fun _ => 0)) := by rw [ef]; exact ce_ups
  clear ef
  refine ce_putI (own := RX0) (T := TX0) (N := 6) (ci := 0) hx hb hB ce_l0 tyX0 tyX0_ok nmX0 hown hname hK hC hS k (by omega) (by omega) h1_0 rfl 0 (by decide) rfl ce_w206 rfl (ty := tyX0 0) (by decide +kernel) rfl rfl (Nat.le_of_ble_eq_true rfl) dX0_init_10 (fun H locs hC hS => ?_)
  obtain ⟨f2, ef⟩ : ∃ g : Nat → va_E, g = va_up f1 k (.inr (0, [.ref (b + (k + 1)), .int 0, .int 0, .int 0, .null, .int 0])) := ⟨_, rfl⟩
  have hC : ce_Cr X b k (k + 2) f2 H := by rw [ef]; exact hC
  have h2_0 : f2 k = .inr (0, [.ref (b + (k + 1)), .int 0, .int 0, .int 0, .null, .int 0]) := by rw [ef]; exact ce_ups
  have h2_1 : f2 (k + 1) = .inl (X.2.1, 150, .inl (fun _ => 0)) := by rw [ef]; exact (ce_upn (by omega)).trans h1_1
  clear ef
  refine lv_aload_n hx hb dX0_init_13 rfl (lv_at hl 0 rfl) ?_
  refine lv_iconst (v := 3) hx hb dX0_init_14 (by decide) ?_
  refine ce_newaI 3 hx hb hB ce_w63 hK hC hS (by decide) (by decide) (Nat.le_of_ble_eq_true rfl) (Nat.le_of_ble_eq_true rfl) (Nat.le_of_ble_eq_true rfl) dX0_init_15 (fun H hC hS => ?_)
  obtain ⟨f3, ef⟩ : ∃ g : Nat → va_E, g = va_up f2 (k + 2) (.inl (X.2.1, 3, .inl (fun _ => 0))) := ⟨_, rfl⟩
  have hC : ce_Cr X b k (k + 3) f3 H := by rw [ef]; exact hC
  have h3_0 : f3 k = .inr (0, [.ref (b + (k + 1)), .int 0, .int 0, .int 0, .null, .int 0]) := by rw [ef]; exact (ce_upn (by omega)).trans h2_0
  have h3_1 : f3 (k + 1) = .inl (X.2.1, 150, .inl (fun _ => 0)) := by rw [ef]; exact (ce_upn (by omega)).trans h2_1
  have h3_2 : f3 (k + 2) = .inl (X.2.1, 3, .inl (fun _ => 0)) := by rw [ef]; exact ce_ups
  clear ef
  refine ce_putI (own := RX0) (T := TX0) (N := 6) (ci := 0) hx hb hB ce_l0 tyX0 tyX0_ok nmX0 hown hname hK hC hS k (by omega) (by omega) h3_0 rfl 4 (by decide) rfl ce_w209 rfl (ty := tyX0 4) (by decide +kernel) rfl rfl (Nat.le_of_ble_eq_true rfl) dX0_init_17 (fun H locs hC hS => ?_)
  obtain ⟨f4, ef⟩ : ∃ g : Nat → va_E, g = va_up f3 k (.inr (0, [.ref (b + (k + 1)), .int 0, .int 0, .int 0, .ref (b + (k + 2)), .int 0])) := ⟨_, rfl⟩
  have hC : ce_Cr X b k (k + 3) f4 H := by rw [ef]; exact hC
  have h4_0 : f4 k = .inr (0, [.ref (b + (k + 1)), .int 0, .int 0, .int 0, .ref (b + (k + 2)), .int 0]) := by rw [ef]; exact ce_ups
  have h4_1 : f4 (k + 1) = .inl (X.2.1, 150, .inl (fun _ => 0)) := by rw [ef]; exact (ce_upn (by omega)).trans h3_1
  have h4_2 : f4 (k + 2) = .inl (X.2.1, 3, .inl (fun _ => 0)) := by rw [ef]; exact (ce_upn (by omega)).trans h3_2
  clear ef
  refine ce_iendV hx hb hr hlocks hC.1 (fun j hj1 hj2 => ?_) hS (Nat.le_of_ble_eq_true rfl) (Nat.le_of_ble_eq_true rfl) dX0_init_20
  have ha := hC.2 j hj1 (by omega)
  rcases (show j = k ∨ j = (k + 1) ∨ j = (k + 2) by omega) with rfl | rfl | rfl
  · rw [h4_0] at ha
    rw [hk]
    simpa only [ce_ent, ce_rl_M0, ce_M0z (by rw [hk]; decide) (by rw [hk]; decide)] using ha
  · rw [h4_1] at ha
    rw [(show ce_kd (k + 1) = 166 from (ce_kf_0_0 hk))]
    have e9 : ce_ent X b 166 (k + 1) ce_M0 = .inl (X.2.1, 150, .inl (fun _ => 0)) := by
      show (Sum.inl (X.2.1, 150, Sum.inl (ce_rd ce_M0 (k + 1))) : va_E) = _
      rw [show ce_rd ce_M0 (k + 1) = fun _ => 0 from funext fun j => ce_M0z (by rw [(show ce_kd (k + 1) = 166 from (ce_kf_0_0 hk))]; decide) (by rw [(show ce_kd (k + 1) = 166 from (ce_kf_0_0 hk))]; decide)]
    rw [e9]
    exact ha
  · rw [h4_2] at ha
    rw [(show ce_kd (k + 2) = 19 from (ce_kf_0_4 hk))]
    have e9 : ce_ent X b 19 (k + 2) ce_M0 = .inl (X.2.1, 3, .inl (fun _ => 0)) := by
      show (Sum.inl (X.2.1, 3, Sum.inl (ce_rd ce_M0 (k + 2))) : va_E) = _
      rw [show ce_rd ce_M0 (k + 2) = fun _ => 0 from funext fun j => ce_M0z (by rw [(show ce_kd (k + 2) = 19 from (ce_kf_0_4 hk))]; decide) (by rw [(show ce_kd (k + 2) = 19 from (ce_kf_0_4 hk))]; decide)]
    rw [e9]
    exact ha
set_option maxRecDepth 100000 in
set_option maxHeartbeats 4000000 in
theorem c_X4_init (l : Launch) (X : ce_X) (G : ce_G) (b : Nat) {k : Nat} (hk : ce_kd k = 4) : ce_CtI l yX4_init cX4_init 1 2 32 6 48 X G b k 7 (.inr (4, ce_raw4)) := by
  refine ce_ofWI (own := RX4) (by decide) rfl rfl (by decide) (fun p e s m below meth c ls hx hb hr hlocks hname hml hown hB hF hC hl hS => ?_)
  have hK := hF.1.1
  obtain ⟨f0, ef⟩ : ∃ g : Nat → va_E, g = fun _ => .inr (4, ce_raw4) := ⟨_, rfl⟩
  rw [← ef] at hC
  have h0_0 : f0 k = .inr (4, ce_raw4) := by rw [ef]
  clear ef
  refine lv_aload_n hx hb dX4_init_0 rfl (lv_at hl 0 rfl) ?_
  refine ce_objI hx hb hml hl hown hB ce_w68 ce_w23 ce_w24 dX4_init_1 ⟨(Nat.le_of_ble_eq_true rfl), (Nat.le_of_ble_eq_true rfl)⟩ ?_
  refine lv_aload_n hx hb dX4_init_4 rfl (lv_at hl 0 rfl) ?_
  refine ce_newI (C := RX3) (T := TX3) (N := 4) (ci := 3) hx hb hB ce_l3 tyX3 tyX3_ok hown ce_w69 ce_w70 ce_w5 hK rfl ce_rawok3 hC hS (Nat.le_of_ble_eq_true rfl) (Nat.le_of_ble_eq_true rfl) dX4_init_5 (fun H hC hS => ?_)
  obtain ⟨f1, ef⟩ : ∃ g : Nat → va_E, g = va_up f0 (k + 1) (.inr (3, [.null, .null, .null, .int 0])) := ⟨_, rfl⟩
  have hC : ce_Cr X b k (k + 2) f1 H := by rw [ef]; exact hC
  have h1_0 : f1 k = .inr (4, [.null, .null, .int 0, .int 0, .int 0, .int 0, .int 0, .int 0, .int 0, .int 0, .int 0, .int 0, .int 0, .int 0]) := by rw [ef]; exact (ce_upn (by omega)).trans h0_0
  have h1_1 : f1 (k + 1) = .inr (3, [.null, .null, .null, .int 0]) := by rw [ef]; exact ce_ups
  clear ef
  refine lv_dup hx hb dX4_init_8 rfl ?_
  refine ce_callIN (v := (k + 1)) (sz := 4) (rest := [.ref (b + (k + 1)), .ref (b + k)]) hx hb hml hown hB (c_X3_init l X G b (ce_kf_4_0 hk)) ce_i_X3_init ce_w73 ce_w5 (List.mem_of_getElem? (i := 2) rfl) ce_w72 ⟨(Nat.le_of_ble_eq_true rfl), (Nat.le_of_ble_eq_true rfl)⟩ hF hC (by omega) h1_1 hS hl (Nat.le_of_ble_eq_true rfl) dX4_init_9 ⟨(Nat.le_of_ble_eq_true rfl), (Nat.le_of_ble_eq_true rfl)⟩ (fun H locs hC hS => ?_)
  obtain ⟨f2, ef⟩ : ∃ g : Nat → va_E, g = fun j => if j < (k + 1) then f1 j else ce_ent X b (ce_kd j) j ce_M0 := ⟨_, rfl⟩
  have hC : ce_Cr X b k (k + 5) f2 H := by rw [ef]; exact hC
  have h2_0 : f2 k = .inr (4, [.null, .null, .int 0, .int 0, .int 0, .int 0, .int 0, .int 0, .int 0, .int 0, .int 0, .int 0, .int 0, .int 0]) := by rw [ef]; exact (if_pos (by omega)).trans h1_0
  have r2_0 : ∀ j, k + 1 ≤ j → j < k + 5 → f2 j = ce_ent X b (ce_kd j) j ce_M0 := fun j h1 h2 => by rw [ef]; exact if_neg (by omega)
  clear ef
  refine ce_putI (own := RX4) (T := TX4) (N := 14) (ci := 4) hx hb hB ce_l4 tyX4 tyX4_ok nmX4 hown hname hK hC hS k (by omega) (by omega) h2_0 rfl 0 (by decide) rfl ce_w103 rfl (ty := tyX4 0) (by decide +kernel) rfl rfl (Nat.le_of_ble_eq_true rfl) dX4_init_12 (fun H locs hC hS => ?_)
  obtain ⟨f3, ef⟩ : ∃ g : Nat → va_E, g = va_up f2 k (.inr (4, [.ref (b + (k + 1)), .null, .int 0, .int 0, .int 0, .int 0, .int 0, .int 0, .int 0, .int 0, .int 0, .int 0, .int 0, .int 0])) := ⟨_, rfl⟩
  have hC : ce_Cr X b k (k + 5) f3 H := by rw [ef]; exact hC
  have h3_0 : f3 k = .inr (4, [.ref (b + (k + 1)), .null, .int 0, .int 0, .int 0, .int 0, .int 0, .int 0, .int 0, .int 0, .int 0, .int 0, .int 0, .int 0]) := by rw [ef]; exact ce_ups
  have r3_0 : ∀ j, k + 1 ≤ j → j < k + 5 → f3 j = ce_ent X b (ce_kd j) j ce_M0 := fun j h1 h2 => by rw [ef]; exact (ce_upn (by omega)).trans (r2_0 j h1 h2)
  clear ef
  refine lv_aload_n hx hb dX4_init_15 rfl (lv_at hl 0 rfl) ?_
  refine ce_newI (C := RX2) (T := TX2) (N := 2) (ci := 2) hx hb hB ce_l2 tyX2 tyX2_ok hown ce_w88 ce_w89 ce_w6 hK rfl ce_rawok2 hC hS (Nat.le_of_ble_eq_true rfl) (Nat.le_of_ble_eq_true rfl) dX4_init_16 (fun H hC hS => ?_)
  obtain ⟨f4, ef⟩ : ∃ g : Nat → va_E, g = va_up f3 (k + 5) (.inr (2, [.null, .int 0])) := ⟨_, rfl⟩
  have hC : ce_Cr X b k (k + 6) f4 H := by rw [ef]; exact hC
  have h4_0 : f4 k = .inr (4, [.ref (b + (k + 1)), .null, .int 0, .int 0, .int 0, .int 0, .int 0, .int 0, .int 0, .int 0, .int 0, .int 0, .int 0, .int 0]) := by rw [ef]; exact (ce_upn (by omega)).trans h3_0
  have h4_5 : f4 (k + 5) = .inr (2, [.null, .int 0]) := by rw [ef]; exact ce_ups
  have r4_0 : ∀ j, k + 1 ≤ j → j < k + 5 → f4 j = ce_ent X b (ce_kd j) j ce_M0 := fun j h1 h2 => by rw [ef]; exact (ce_upn (by omega)).trans (r3_0 j h1 h2)
  clear ef
  refine lv_dup hx hb dX4_init_19 rfl ?_
  refine ce_callIN (v := (k + 5)) (sz := 2) (rest := [.ref (b + (k + 5)), .ref (b + k)]) hx hb hml hown hB (c_X2_init l X G b (ce_kf_4_1 hk)) ce_i_X2_init ce_w92 ce_w6 (List.mem_of_getElem? (i := 3) rfl) ce_w91 ⟨(Nat.le_of_ble_eq_true rfl), (Nat.le_of_ble_eq_true rfl)⟩ hF hC (by omega) h4_5 hS hl (Nat.le_of_ble_eq_true rfl) dX4_init_20 ⟨(Nat.le_of_ble_eq_true rfl), (Nat.le_of_ble_eq_true rfl)⟩ (fun H locs hC hS => ?_)
  obtain ⟨f5, ef⟩ : ∃ g : Nat → va_E, g = fun j => if j < (k + 5) then f4 j else ce_ent X b (ce_kd j) j ce_M0 := ⟨_, rfl⟩
  have hC : ce_Cr X b k (k + 7) f5 H := by rw [ef]; exact hC
  have h5_0 : f5 k = .inr (4, [.ref (b + (k + 1)), .null, .int 0, .int 0, .int 0, .int 0, .int 0, .int 0, .int 0, .int 0, .int 0, .int 0, .int 0, .int 0]) := by rw [ef]; exact (if_pos (by omega)).trans h4_0
  have r5_0 : ∀ j, k + 1 ≤ j → j < k + 5 → f5 j = ce_ent X b (ce_kd j) j ce_M0 := fun j h1 h2 => by rw [ef]; exact (if_pos (by omega)).trans (r4_0 j h1 h2)
  have r5_1 : ∀ j, k + 5 ≤ j → j < k + 7 → f5 j = ce_ent X b (ce_kd j) j ce_M0 := fun j h1 h2 => by rw [ef]; exact if_neg (by omega)
  clear ef
  refine ce_putI (own := RX4) (T := TX4) (N := 14) (ci := 4) hx hb hB ce_l4 tyX4 tyX4_ok nmX4 hown hname hK hC hS k (by omega) (by omega) h5_0 rfl 1 (by decide) rfl ce_w105 rfl (ty := tyX4 1) (by decide +kernel) rfl rfl (Nat.le_of_ble_eq_true rfl) dX4_init_23 (fun H locs hC hS => ?_)
  obtain ⟨f6, ef⟩ : ∃ g : Nat → va_E, g = va_up f5 k (.inr (4, [.ref (b + (k + 1)), .ref (b + (k + 5)), .int 0, .int 0, .int 0, .int 0, .int 0, .int 0, .int 0, .int 0, .int 0, .int 0, .int 0, .int 0])) := ⟨_, rfl⟩
  have hC : ce_Cr X b k (k + 7) f6 H := by rw [ef]; exact hC
  have h6_0 : f6 k = .inr (4, [.ref (b + (k + 1)), .ref (b + (k + 5)), .int 0, .int 0, .int 0, .int 0, .int 0, .int 0, .int 0, .int 0, .int 0, .int 0, .int 0, .int 0]) := by rw [ef]; exact ce_ups
  have r6_0 : ∀ j, k + 1 ≤ j → j < k + 5 → f6 j = ce_ent X b (ce_kd j) j ce_M0 := fun j h1 h2 => by rw [ef]; exact (ce_upn (by omega)).trans (r5_0 j h1 h2)
  have r6_1 : ∀ j, k + 5 ≤ j → j < k + 7 → f6 j = ce_ent X b (ce_kd j) j ce_M0 := fun j h1 h2 => by rw [ef]; exact (ce_upn (by omega)).trans (r5_1 j h1 h2)
  clear ef
  refine ce_iendV hx hb hr hlocks hC.1 (fun j hj1 hj2 => ?_) hS (Nat.le_of_ble_eq_true rfl) (Nat.le_of_ble_eq_true rfl) dX4_init_26
  have ha := hC.2 j hj1 (by omega)
  rcases (show j = k ∨ (k + 1 ≤ j ∧ j < k + 5) ∨ (k + 5 ≤ j ∧ j < k + 7) by omega) with rfl | hr9 | hr9
  · rw [h6_0] at ha
    rw [hk]
    simpa only [ce_ent, ce_rl_M0, ce_M0z (by rw [hk]; decide) (by rw [hk]; decide)] using ha
  · rw [r6_0 j hr9.1 hr9.2] at ha
    exact ha
  · rw [r6_1 j hr9.1 hr9.2] at ha
    exact ha
theorem ce_M0q {k j : Nat} (h : ce_kd k = 832) : k ≠ 415 → ce_rd ce_M0 k j = 0 := fun h2 => by rw [ce_rd_M0, if_neg (by rw [h]; decide)]
set_option maxRecDepth 100000 in
set_option maxHeartbeats 4000000 in
theorem c_X6_init (l : Launch) (X : ce_X) (G : ce_G) (b : Nat) {k : Nat} (hk : ce_kd k = 6) : ce_CtI l yX6_init cX6_init 2 3 52 67 907 X G b k 68 (.inr (6, ce_raw6)) := by
  refine ce_ofWI (own := RX6) (by decide) rfl rfl (by decide) (fun p e s m below meth c ls hx hb hr0 hlocks hname hml hown hB hF hC hl hS => ?_)
  have hK := hF.1.1
  obtain ⟨f0, ef⟩ : ∃ g : Nat → va_E, g = fun _ => .inr (6, ce_raw6) := ⟨_, rfl⟩
  rw [← ef] at hC
  have h0_0 : f0 k = .inr (6, ce_raw6) := by rw [ef]
  clear ef
  refine lv_aload_n hx hb dX6_init_0 rfl (lv_at hl 0 rfl) ?_
  refine ce_objI hx hb hml hl hown hB ce_w30 ce_w23 ce_w24 dX6_init_1 ⟨(Nat.le_of_ble_eq_true rfl), (Nat.le_of_ble_eq_true rfl)⟩ ?_
  refine lv_aload_n hx hb dX6_init_4 rfl (lv_at hl 0 rfl) ?_
  refine lv_iconst (v := 4) hx hb dX6_init_5 (by decide) ?_
  refine ce_newaI 4 hx hb hB ce_w63 hK hC hS (by decide) (by decide) (Nat.le_of_ble_eq_true rfl) (Nat.le_of_ble_eq_true rfl) (Nat.le_of_ble_eq_true rfl) dX6_init_6 (fun H hC hS => ?_)
  obtain ⟨f1, ef⟩ : ∃ g : Nat → va_E, g = va_up f0 (k + 1) (.inl (X.2.1, 4, .inl (fun _ => 0))) := ⟨_, rfl⟩
  have hC : ce_Cr X b k (k + 2) f1 H := by rw [ef]; exact hC
  have h1_0 : f1 k = .inr (6, [.null, .null, .null, .null, .null, .int 0, .int 0]) := by rw [ef]; exact (ce_upn (by omega)).trans h0_0
  have h1_1 : f1 (k + 1) = .inl (X.2.1, 4, .inl (fun _ => 0)) := by rw [ef]; exact ce_ups
  clear ef
  refine lv_dup hx hb dX6_init_8 rfl ?_
  refine lv_iconst (v := 0) hx hb dX6_init_9 (by decide) ?_
  refine lv_iconst (v := 3) hx hb dX6_init_10 (by decide) ?_
  refine ce_iastI hx hb hK hC hS (k + 1) (by omega) (by omega) h1_1 (by unfold vp_in; decide) dX6_init_11 (fun H locs hC hS => ?_)
  obtain ⟨f2, ef⟩ : ∃ g : Nat → va_E, g = va_up f1 (k + 1) (.inl (X.2.1, 4, .inl (upd (fun _ => 0) (Int32.toNatClampNeg 0) 3))) := ⟨_, rfl⟩
  have hC : ce_Cr X b k (k + 2) f2 H := by rw [ef]; exact hC
  have h2_0 : f2 k = .inr (6, [.null, .null, .null, .null, .null, .int 0, .int 0]) := by rw [ef]; exact (ce_upn (by omega)).trans h1_0
  have h2_1 : f2 (k + 1) = .inl (X.2.1, 4, .inl (upd (fun _ => 0) (Int32.toNatClampNeg 0) 3)) := by rw [ef]; exact ce_ups
  clear ef
  refine lv_dup hx hb dX6_init_12 rfl ?_
  refine lv_iconst (v := 1) hx hb dX6_init_13 (by decide) ?_
  refine lv_iconst (v := 2) hx hb dX6_init_14 (by decide) ?_
  refine ce_iastI hx hb hK hC hS (k + 1) (by omega) (by omega) h2_1 (by unfold vp_in; decide) dX6_init_15 (fun H locs hC hS => ?_)
  obtain ⟨f3, ef⟩ : ∃ g : Nat → va_E, g = va_up f2 (k + 1) (.inl (X.2.1, 4, .inl (upd (upd (fun _ => 0) (Int32.toNatClampNeg 0) 3) (Int32.toNatClampNeg 1) 2))) := ⟨_, rfl⟩
  have hC : ce_Cr X b k (k + 2) f3 H := by rw [ef]; exact hC
  have h3_0 : f3 k = .inr (6, [.null, .null, .null, .null, .null, .int 0, .int 0]) := by rw [ef]; exact (ce_upn (by omega)).trans h2_0
  have h3_1 : f3 (k + 1) = .inl (X.2.1, 4, .inl (upd (upd (fun _ => 0) (Int32.toNatClampNeg 0) 3) (Int32.toNatClampNeg 1) 2)) := by rw [ef]; exact ce_ups
  clear ef
  refine lv_dup hx hb dX6_init_16 rfl ?_
  refine lv_iconst (v := 2) hx hb dX6_init_17 (by decide) ?_
  refine lv_iconst (v := 2) hx hb dX6_init_18 (by decide) ?_
  refine ce_iastI hx hb hK hC hS (k + 1) (by omega) (by omega) h3_1 (by unfold vp_in; decide) dX6_init_19 (fun H locs hC hS => ?_)
  obtain ⟨f4, ef⟩ : ∃ g : Nat → va_E, g = va_up f3 (k + 1) (.inl (X.2.1, 4, .inl (upd (upd (upd (fun _ => 0) (Int32.toNatClampNeg 0) 3) (Int32.toNatClampNeg 1) 2) (Int32.toNatClampNeg 2) 2))) := ⟨_, rfl⟩
  have hC : ce_Cr X b k (k + 2) f4 H := by rw [ef]; exact hC
  have h4_0 : f4 k = .inr (6, [.null, .null, .null, .null, .null, .int 0, .int 0]) := by rw [ef]; exact (ce_upn (by omega)).trans h3_0
  have h4_1 : f4 (k + 1) = .inl (X.2.1, 4, .inl (upd (upd (upd (fun _ => 0) (Int32.toNatClampNeg 0) 3) (Int32.toNatClampNeg 1) 2) (Int32.toNatClampNeg 2) 2)) := by rw [ef]; exact ce_ups
  clear ef
  refine lv_dup hx hb dX6_init_20 rfl ?_
  refine lv_iconst (v := 3) hx hb dX6_init_21 (by decide) ?_
  refine lv_bipush (v := 8) hx hb dX6_init_22 (by decide) ?_
  refine ce_iastI hx hb hK hC hS (k + 1) (by omega) (by omega) h4_1 (by unfold vp_in; decide) dX6_init_24 (fun H locs hC hS => ?_)
  obtain ⟨f5, ef⟩ : ∃ g : Nat → va_E, g = va_up f4 (k + 1) (.inl (X.2.1, 4, .inl (upd (upd (upd (upd (fun _ => 0) (Int32.toNatClampNeg 0) 3) (Int32.toNatClampNeg 1) 2) (Int32.toNatClampNeg 2) 2) (Int32.toNatClampNeg 3) 8))) := ⟨_, rfl⟩
  have hC : ce_Cr X b k (k + 2) f5 H := by rw [ef]; exact hC
  have h5_0 : f5 k = .inr (6, [.null, .null, .null, .null, .null, .int 0, .int 0]) := by rw [ef]; exact (ce_upn (by omega)).trans h4_0
  have h5_1 : f5 (k + 1) = .inl (X.2.1, 4, .inl (upd (upd (upd (upd (fun _ => 0) (Int32.toNatClampNeg 0) 3) (Int32.toNatClampNeg 1) 2) (Int32.toNatClampNeg 2) 2) (Int32.toNatClampNeg 3) 8)) := by rw [ef]; exact ce_ups
  clear ef
  refine ce_putI (own := RX6) (T := TX6) (N := 7) (ci := 6) hx hb hB ce_l6 tyX6 tyX6_ok nmX6 hown hname hK hC hS k (by omega) (by omega) h5_0 rfl 0 (by decide) rfl ce_w155 rfl (ty := tyX6 0) (by decide +kernel) rfl rfl (Nat.le_of_ble_eq_true rfl) dX6_init_25 (fun H locs hC hS => ?_)
  obtain ⟨f6, ef⟩ : ∃ g : Nat → va_E, g = va_up f5 k (.inr (6, [.ref (b + (k + 1)), .null, .null, .null, .null, .int 0, .int 0])) := ⟨_, rfl⟩
  have hC : ce_Cr X b k (k + 2) f6 H := by rw [ef]; exact hC
  have h6_0 : f6 k = .inr (6, [.ref (b + (k + 1)), .null, .null, .null, .null, .int 0, .int 0]) := by rw [ef]; exact ce_ups
  have h6_1 : f6 (k + 1) = .inl (X.2.1, 4, .inl (upd (upd (upd (upd (fun _ => 0) (Int32.toNatClampNeg 0) 3) (Int32.toNatClampNeg 1) 2) (Int32.toNatClampNeg 2) 2) (Int32.toNatClampNeg 3) 8)) := by rw [ef]; exact (ce_upn (by omega)).trans h5_1
  clear ef
  refine lv_aload_n hx hb dX6_init_28 rfl (lv_at hl 0 rfl) ?_
  refine lv_bipush (v := 8) hx hb dX6_init_29 (by decide) ?_
  refine ce_newqI (cQ := X.2.2.1) 8 hx hb hB hown ce_w31 hF.2.1 (hK.2 1 _ rfl).2 hC hS (by decide) (by decide) (Nat.le_of_ble_eq_true rfl) (Nat.le_of_ble_eq_true rfl) (Nat.le_of_ble_eq_true rfl) dX6_init_31 (fun H hC hS => ?_)
  obtain ⟨f7, ef⟩ : ∃ g : Nat → va_E, g = va_up f6 (k + 2) (.inl (X.2.2.1, 8, .inr (.inr (.inr (.inr (fun _ => none)))))) := ⟨_, rfl⟩
  have hC : ce_Cr X b k (k + 3) f7 H := by rw [ef]; exact hC
  have h7_0 : f7 k = .inr (6, [.ref (b + (k + 1)), .null, .null, .null, .null, .int 0, .int 0]) := by rw [ef]; exact (ce_upn (by omega)).trans h6_0
  have h7_1 : f7 (k + 1) = .inl (X.2.1, 4, .inl (upd (upd (upd (upd (fun _ => 0) (Int32.toNatClampNeg 0) 3) (Int32.toNatClampNeg 1) 2) (Int32.toNatClampNeg 2) 2) (Int32.toNatClampNeg 3) 8)) := by rw [ef]; exact (ce_upn (by omega)).trans h6_1
  have h7_2 : f7 (k + 2) = .inl (X.2.2.1, 8, .inr (.inr (.inr (.inr (fun _ => none))))) := by rw [ef]; exact ce_ups
  clear ef
  refine ce_putI (own := RX6) (T := TX6) (N := 7) (ci := 6) hx hb hB ce_l6 tyX6 tyX6_ok nmX6 hown hname hK hC hS k (by omega) (by omega) h7_0 rfl 1 (by decide) rfl ce_w156 rfl (ty := tyX6 1) (by decide +kernel) rfl rfl (Nat.le_of_ble_eq_true rfl) dX6_init_34 (fun H locs hC hS => ?_)
  obtain ⟨f8, ef⟩ : ∃ g : Nat → va_E, g = va_up f7 k (.inr (6, [.ref (b + (k + 1)), .ref (b + (k + 2)), .null, .null, .null, .int 0, .int 0])) := ⟨_, rfl⟩
  have hC : ce_Cr X b k (k + 3) f8 H := by rw [ef]; exact hC
  have h8_0 : f8 k = .inr (6, [.ref (b + (k + 1)), .ref (b + (k + 2)), .null, .null, .null, .int 0, .int 0]) := by rw [ef]; exact ce_ups
  have h8_1 : f8 (k + 1) = .inl (X.2.1, 4, .inl (upd (upd (upd (upd (fun _ => 0) (Int32.toNatClampNeg 0) 3) (Int32.toNatClampNeg 1) 2) (Int32.toNatClampNeg 2) 2) (Int32.toNatClampNeg 3) 8)) := by rw [ef]; exact (ce_upn (by omega)).trans h7_1
  have h8_2 : f8 (k + 2) = .inl (X.2.2.1, 8, .inr (.inr (.inr (.inr (fun _ => none))))) := by rw [ef]; exact (ce_upn (by omega)).trans h7_2
  clear ef
  refine lv_aload_n hx hb dX6_init_37 rfl (lv_at hl 0 rfl) ?_
  refine ce_newI (C := RX1) (T := TX1) (N := 7) (ci := 1) hx hb hB ce_l1 tyX1 tyX1_ok hown ce_w33 ce_w34 ce_w3 hK rfl ce_rawok1 hC hS (Nat.le_of_ble_eq_true rfl) (Nat.le_of_ble_eq_true rfl) dX6_init_38 (fun H hC hS => ?_)
  obtain ⟨f9, ef⟩ : ∃ g : Nat → va_E, g = va_up f8 (k + 3) (.inr (1, [.null, .null, .null, .null, .null, .null, .int 0])) := ⟨_, rfl⟩
  have hC : ce_Cr X b k (k + 4) f9 H := by rw [ef]; exact hC
  have h9_0 : f9 k = .inr (6, [.ref (b + (k + 1)), .ref (b + (k + 2)), .null, .null, .null, .int 0, .int 0]) := by rw [ef]; exact (ce_upn (by omega)).trans h8_0
  have h9_1 : f9 (k + 1) = .inl (X.2.1, 4, .inl (upd (upd (upd (upd (fun _ => 0) (Int32.toNatClampNeg 0) 3) (Int32.toNatClampNeg 1) 2) (Int32.toNatClampNeg 2) 2) (Int32.toNatClampNeg 3) 8)) := by rw [ef]; exact (ce_upn (by omega)).trans h8_1
  have h9_2 : f9 (k + 2) = .inl (X.2.2.1, 8, .inr (.inr (.inr (.inr (fun _ => none))))) := by rw [ef]; exact (ce_upn (by omega)).trans h8_2
  have h9_3 : f9 (k + 3) = .inr (1, [.null, .null, .null, .null, .null, .null, .int 0]) := by rw [ef]; exact ce_ups
  clear ef
  refine lv_dup hx hb dX6_init_41 rfl ?_
  refine ce_callIN (v := (k + 3)) (sz := 7) (rest := [.ref (b + (k + 3)), .ref (b + k)]) hx hb hml hown hB (c_X1_init l X G b (ce_kf_6_2 hk)) ce_i_X1_init ce_w37 ce_w3 (List.mem_of_getElem? (i := 0) rfl) ce_w36 ⟨(Nat.le_of_ble_eq_true rfl), (Nat.le_of_ble_eq_true rfl)⟩ hF hC (by omega) h9_3 hS hl (Nat.le_of_ble_eq_true rfl) dX6_init_42 ⟨(Nat.le_of_ble_eq_true rfl), (Nat.le_of_ble_eq_true rfl)⟩ (fun H locs hC hS => ?_)
  obtain ⟨f10, ef⟩ : ∃ g : Nat → va_E, g = fun j => if j < (k + 3) then f9 j else ce_ent X b (ce_kd j) j ce_M0 := ⟨_, rfl⟩
  have hC : ce_Cr X b k (k + 10) f10 H := by rw [ef]; exact hC
  have h10_0 : f10 k = .inr (6, [.ref (b + (k + 1)), .ref (b + (k + 2)), .null, .null, .null, .int 0, .int 0]) := by rw [ef]; exact (if_pos (by omega)).trans h9_0
  have h10_1 : f10 (k + 1) = .inl (X.2.1, 4, .inl (upd (upd (upd (upd (fun _ => 0) (Int32.toNatClampNeg 0) 3) (Int32.toNatClampNeg 1) 2) (Int32.toNatClampNeg 2) 2) (Int32.toNatClampNeg 3) 8)) := by rw [ef]; exact (if_pos (by omega)).trans h9_1
  have h10_2 : f10 (k + 2) = .inl (X.2.2.1, 8, .inr (.inr (.inr (.inr (fun _ => none))))) := by rw [ef]; exact (if_pos (by omega)).trans h9_2
  have r10_0 : ∀ j, k + 3 ≤ j → j < k + 10 → f10 j = ce_ent X b (ce_kd j) j ce_M0 := fun j h1 h2 => by rw [ef]; exact if_neg (by omega)
  clear ef
  refine ce_putI (own := RX6) (T := TX6) (N := 7) (ci := 6) hx hb hB ce_l6 tyX6 tyX6_ok nmX6 hown hname hK hC hS k (by omega) (by omega) h10_0 rfl 2 (by decide) rfl ce_w158 rfl (ty := tyX6 2) (by decide +kernel) rfl rfl (Nat.le_of_ble_eq_true rfl) dX6_init_45 (fun H locs hC hS => ?_)
  obtain ⟨f11, ef⟩ : ∃ g : Nat → va_E, g = va_up f10 k (.inr (6, [.ref (b + (k + 1)), .ref (b + (k + 2)), .ref (b + (k + 3)), .null, .null, .int 0, .int 0])) := ⟨_, rfl⟩
  have hC : ce_Cr X b k (k + 10) f11 H := by rw [ef]; exact hC
  have h11_0 : f11 k = .inr (6, [.ref (b + (k + 1)), .ref (b + (k + 2)), .ref (b + (k + 3)), .null, .null, .int 0, .int 0]) := by rw [ef]; exact ce_ups
  have h11_1 : f11 (k + 1) = .inl (X.2.1, 4, .inl (upd (upd (upd (upd (fun _ => 0) (Int32.toNatClampNeg 0) 3) (Int32.toNatClampNeg 1) 2) (Int32.toNatClampNeg 2) 2) (Int32.toNatClampNeg 3) 8)) := by rw [ef]; exact (ce_upn (by omega)).trans h10_1
  have h11_2 : f11 (k + 2) = .inl (X.2.2.1, 8, .inr (.inr (.inr (.inr (fun _ => none))))) := by rw [ef]; exact (ce_upn (by omega)).trans h10_2
  have r11_0 : ∀ j, k + 3 ≤ j → j < k + 10 → f11 j = ce_ent X b (ce_kd j) j ce_M0 := fun j h1 h2 => by rw [ef]; exact (ce_upn (by omega)).trans (r10_0 j h1 h2)
  clear ef
  refine lv_aload_n hx hb dX6_init_48 rfl (lv_at hl 0 rfl) ?_
  refine lv_bipush (v := 16) hx hb dX6_init_49 (by decide) ?_
  refine ce_newaI 16 hx hb hB ce_w63 hK hC hS (by decide) (by decide) (Nat.le_of_ble_eq_true rfl) (Nat.le_of_ble_eq_true rfl) (Nat.le_of_ble_eq_true rfl) dX6_init_51 (fun H hC hS => ?_)
  obtain ⟨f12, ef⟩ : ∃ g : Nat → va_E, g = va_up f11 (k + 10) (.inl (X.2.1, 16, .inl (fun _ => 0))) := ⟨_, rfl⟩
  have hC : ce_Cr X b k (k + 11) f12 H := by rw [ef]; exact hC
  have h12_0 : f12 k = .inr (6, [.ref (b + (k + 1)), .ref (b + (k + 2)), .ref (b + (k + 3)), .null, .null, .int 0, .int 0]) := by rw [ef]; exact (ce_upn (by omega)).trans h11_0
  have h12_1 : f12 (k + 1) = .inl (X.2.1, 4, .inl (upd (upd (upd (upd (fun _ => 0) (Int32.toNatClampNeg 0) 3) (Int32.toNatClampNeg 1) 2) (Int32.toNatClampNeg 2) 2) (Int32.toNatClampNeg 3) 8)) := by rw [ef]; exact (ce_upn (by omega)).trans h11_1
  have h12_2 : f12 (k + 2) = .inl (X.2.2.1, 8, .inr (.inr (.inr (.inr (fun _ => none))))) := by rw [ef]; exact (ce_upn (by omega)).trans h11_2
  have h12_10 : f12 (k + 10) = .inl (X.2.1, 16, .inl (fun _ => 0)) := by rw [ef]; exact ce_ups
  have r12_0 : ∀ j, k + 3 ≤ j → j < k + 10 → f12 j = ce_ent X b (ce_kd j) j ce_M0 := fun j h1 h2 => by rw [ef]; exact (ce_upn (by omega)).trans (r11_0 j h1 h2)
  clear ef
  refine ce_putI (own := RX6) (T := TX6) (N := 7) (ci := 6) hx hb hB ce_l6 tyX6 tyX6_ok nmX6 hown hname hK hC hS k (by omega) (by omega) h12_0 rfl 3 (by decide) rfl ce_w160 rfl (ty := tyX6 3) (by decide +kernel) rfl rfl (Nat.le_of_ble_eq_true rfl) dX6_init_53 (fun H locs hC hS => ?_)
  obtain ⟨f13, ef⟩ : ∃ g : Nat → va_E, g = va_up f12 k (.inr (6, [.ref (b + (k + 1)), .ref (b + (k + 2)), .ref (b + (k + 3)), .ref (b + (k + 10)), .null, .int 0, .int 0])) := ⟨_, rfl⟩
  have hC : ce_Cr X b k (k + 11) f13 H := by rw [ef]; exact hC
  have h13_0 : f13 k = .inr (6, [.ref (b + (k + 1)), .ref (b + (k + 2)), .ref (b + (k + 3)), .ref (b + (k + 10)), .null, .int 0, .int 0]) := by rw [ef]; exact ce_ups
  have h13_1 : f13 (k + 1) = .inl (X.2.1, 4, .inl (upd (upd (upd (upd (fun _ => 0) (Int32.toNatClampNeg 0) 3) (Int32.toNatClampNeg 1) 2) (Int32.toNatClampNeg 2) 2) (Int32.toNatClampNeg 3) 8)) := by rw [ef]; exact (ce_upn (by omega)).trans h12_1
  have h13_2 : f13 (k + 2) = .inl (X.2.2.1, 8, .inr (.inr (.inr (.inr (fun _ => none))))) := by rw [ef]; exact (ce_upn (by omega)).trans h12_2
  have h13_10 : f13 (k + 10) = .inl (X.2.1, 16, .inl (fun _ => 0)) := by rw [ef]; exact (ce_upn (by omega)).trans h12_10
  have r13_0 : ∀ j, k + 3 ≤ j → j < k + 10 → f13 j = ce_ent X b (ce_kd j) j ce_M0 := fun j h1 h2 => by rw [ef]; exact (ce_upn (by omega)).trans (r12_0 j h1 h2)
  clear ef
  refine lv_aload_n hx hb dX6_init_56 rfl (lv_at hl 0 rfl) ?_
  refine lv_bipush (v := 16) hx hb dX6_init_57 (by decide) ?_
  refine ce_newaI 16 hx hb hB ce_w63 hK hC hS (by decide) (by decide) (Nat.le_of_ble_eq_true rfl) (Nat.le_of_ble_eq_true rfl) (Nat.le_of_ble_eq_true rfl) dX6_init_59 (fun H hC hS => ?_)
  obtain ⟨f14, ef⟩ : ∃ g : Nat → va_E, g = va_up f13 (k + 11) (.inl (X.2.1, 16, .inl (fun _ => 0))) := ⟨_, rfl⟩
  have hC : ce_Cr X b k (k + 12) f14 H := by rw [ef]; exact hC
  have h14_0 : f14 k = .inr (6, [.ref (b + (k + 1)), .ref (b + (k + 2)), .ref (b + (k + 3)), .ref (b + (k + 10)), .null, .int 0, .int 0]) := by rw [ef]; exact (ce_upn (by omega)).trans h13_0
  have h14_1 : f14 (k + 1) = .inl (X.2.1, 4, .inl (upd (upd (upd (upd (fun _ => 0) (Int32.toNatClampNeg 0) 3) (Int32.toNatClampNeg 1) 2) (Int32.toNatClampNeg 2) 2) (Int32.toNatClampNeg 3) 8)) := by rw [ef]; exact (ce_upn (by omega)).trans h13_1
  have h14_2 : f14 (k + 2) = .inl (X.2.2.1, 8, .inr (.inr (.inr (.inr (fun _ => none))))) := by rw [ef]; exact (ce_upn (by omega)).trans h13_2
  have h14_10 : f14 (k + 10) = .inl (X.2.1, 16, .inl (fun _ => 0)) := by rw [ef]; exact (ce_upn (by omega)).trans h13_10
  have h14_11 : f14 (k + 11) = .inl (X.2.1, 16, .inl (fun _ => 0)) := by rw [ef]; exact ce_ups
  have r14_0 : ∀ j, k + 3 ≤ j → j < k + 10 → f14 j = ce_ent X b (ce_kd j) j ce_M0 := fun j h1 h2 => by rw [ef]; exact (ce_upn (by omega)).trans (r13_0 j h1 h2)
  clear ef
  refine ce_putI (own := RX6) (T := TX6) (N := 7) (ci := 6) hx hb hB ce_l6 tyX6 tyX6_ok nmX6 hown hname hK hC hS k (by omega) (by omega) h14_0 rfl 4 (by decide) rfl ce_w161 rfl (ty := tyX6 4) (by decide +kernel) rfl rfl (Nat.le_of_ble_eq_true rfl) dX6_init_61 (fun H locs hC hS => ?_)
  obtain ⟨f15, ef⟩ : ∃ g : Nat → va_E, g = va_up f14 k (.inr (6, [.ref (b + (k + 1)), .ref (b + (k + 2)), .ref (b + (k + 3)), .ref (b + (k + 10)), .ref (b + (k + 11)), .int 0, .int 0])) := ⟨_, rfl⟩
  have hC : ce_Cr X b k (k + 12) f15 H := by rw [ef]; exact hC
  have h15_0 : f15 k = .inr (6, [.ref (b + (k + 1)), .ref (b + (k + 2)), .ref (b + (k + 3)), .ref (b + (k + 10)), .ref (b + (k + 11)), .int 0, .int 0]) := by rw [ef]; exact ce_ups
  have h15_1 : f15 (k + 1) = .inl (X.2.1, 4, .inl (upd (upd (upd (upd (fun _ => 0) (Int32.toNatClampNeg 0) 3) (Int32.toNatClampNeg 1) 2) (Int32.toNatClampNeg 2) 2) (Int32.toNatClampNeg 3) 8)) := by rw [ef]; exact (ce_upn (by omega)).trans h14_1
  have h15_2 : f15 (k + 2) = .inl (X.2.2.1, 8, .inr (.inr (.inr (.inr (fun _ => none))))) := by rw [ef]; exact (ce_upn (by omega)).trans h14_2
  have h15_10 : f15 (k + 10) = .inl (X.2.1, 16, .inl (fun _ => 0)) := by rw [ef]; exact (ce_upn (by omega)).trans h14_10
  have h15_11 : f15 (k + 11) = .inl (X.2.1, 16, .inl (fun _ => 0)) := by rw [ef]; exact (ce_upn (by omega)).trans h14_11
  have r15_0 : ∀ j, k + 3 ≤ j → j < k + 10 → f15 j = ce_ent X b (ce_kd j) j ce_M0 := fun j h1 h2 => by rw [ef]; exact (ce_upn (by omega)).trans (r14_0 j h1 h2)
  clear ef
  refine lv_iconst (v := 0) hx hb dX6_init_64 (by decide) ?_
  refine lv_istore_n (lv' := [(1, .int 0), (0, .ref (b + k))]) hx hb dX6_init_65 rfl hl (by decide) rfl (fun ls hl => ?_)
  have hloop : ∀ (d i : Nat), i + d = 8 → ∀ (f : Nat → va_E) (g : Nat → Option Nat) (H : Heap) (locs : List Loc) (ls : Array Slot), ce_Cr X b k (k + (12 + 7 * i)) f H → f k = .inr (6, [.ref (b + (k + 1)), .ref (b + (k + 2)), .ref (b + (k + 3)), .ref (b + (k + 10)), .ref (b + (k + 11)), .int 0, .int 0]) → f (k + 1) = .inl (X.2.1, 4, .inl (upd (upd (upd (upd (fun _ => 0) (Int32.toNatClampNeg 0) 3) (Int32.toNatClampNeg 1) 2) (Int32.toNatClampNeg 2) 2) (Int32.toNatClampNeg 3) 8)) → f (k + 2) = .inl (X.2.2.1, 8, .inr (.inr (.inr (.inr g)))) → f (k + 10) = .inl (X.2.1, 16, .inl (fun _ => 0)) → f (k + 11) = .inl (X.2.1, 16, .inl (fun _ => 0)) → (∀ j, k + 3 ≤ j → j < k + 10 → f j = ce_ent X b (ce_kd j) j ce_M0) → (∀ a, a < i → g a = some (b + (k + (12 + 7 * a)))) → (∀ j, k + 12 ≤ j → j < k + (12 + 7 * i) → f j = ce_ent X b (ce_kd j) j ce_M0) → va_S (ce_Au (b + k)) s.heap H locs → lv_has ls 2 [(1, .int (nI i)), (0, .ref (b + k))] → W p l e (ce_R 3 52 67 907) s m #[Value.ref (b + k)] below meth c H locs (11 + 7 * i) (411 + 62 * i) (MQ below (ce_QI X b k 68) #[Value.ref (b + k)] s 67 907 (ce_Au (b + k))) (F0 m 66 ls []) := by
    intro d
    induction d with
    | zero =>
      intro i hi f g H locs ls hC g0 g1 g2 g10 g11 s0 hg hr hS hl
      have hi : i = 8 := by omega
      subst hi
      refine lv_iload_n hx hb dX6_init_66 rfl (lv_at hl 0 rfl) ?_
      refine lv_bipush (v := 8) hx hb dX6_init_67 (by decide) ?_
      refine lv_icmp_ge (tgt := 91) hx hb dX6_init_69 (by decide) (fun _ => ?_) (fun h9 => absurd (by decide) h9)
      refine ce_iendV hx hb hr0 hlocks (by have := hC.1; omega) (fun j hj1 hj2 => ?_) hS (Nat.le_of_ble_eq_true rfl) (Nat.le_of_ble_eq_true rfl) dX6_init_91
      have ha := hC.2 j hj1 (by omega)
      rcases (show j = k ∨ j = (k + 1) ∨ j = (k + 2) ∨ j = (k + 10) ∨ j = (k + 11) ∨ (k + 3 ≤ j ∧ j < k + 10) ∨ (k + 12 ≤ j ∧ j < k + 68) by omega) with rfl | rfl | rfl | rfl | rfl | hr9 | hr9
      · rw [g0] at ha
        rw [hk]
        simpa only [ce_ent, ce_rl_M0, ce_M0z (by rw [hk]; decide) (by rw [hk]; decide)] using ha
      · rw [g1] at ha
        rw [(show ce_kd (k + 1) = 20 from (ce_kf_6_0 hk))]
        have e9 : ce_ent X b 20 (k + 1) ce_M0 = .inl (X.2.1, 4, .inl (upd (upd (upd (upd (fun _ => 0) (Int32.toNatClampNeg 0) 3) (Int32.toNatClampNeg 1) 2) (Int32.toNatClampNeg 2) 2) (Int32.toNatClampNeg 3) 8)) := by
          show (Sum.inl (X.2.1, 4, Sum.inl (ce_rd ce_M0 (k + 1))) : va_E) = _
          rw [ce_M0s (show ce_kd (k + 1) = 20 from (ce_kf_6_0 hk))]
        rw [e9]
        exact ha
      · rw [g2] at ha
        rw [(show ce_kd (k + 2) = 10 from (ce_kf_6_1 hk))]
        exact ce_refs ha (fun i hi => by rw [hg i hi]; congr 2; omega)
      · rw [g10] at ha
        rw [(show ce_kd (k + 10) = 32 from (ce_kf_6_3 hk))]
        have e9 : ce_ent X b 32 (k + 10) ce_M0 = .inl (X.2.1, 16, .inl (fun _ => 0)) := by
          show (Sum.inl (X.2.1, 16, Sum.inl (ce_rd ce_M0 (k + 10))) : va_E) = _
          rw [show ce_rd ce_M0 (k + 10) = fun _ => 0 from funext fun j => ce_M0z (by rw [(show ce_kd (k + 10) = 32 from (ce_kf_6_3 hk))]; decide) (by rw [(show ce_kd (k + 10) = 32 from (ce_kf_6_3 hk))]; decide)]
        rw [e9]
        exact ha
      · rw [g11] at ha
        rw [(show ce_kd (k + 11) = 32 from (ce_kf_6_4 hk))]
        have e9 : ce_ent X b 32 (k + 11) ce_M0 = .inl (X.2.1, 16, .inl (fun _ => 0)) := by
          show (Sum.inl (X.2.1, 16, Sum.inl (ce_rd ce_M0 (k + 11))) : va_E) = _
          rw [show ce_rd ce_M0 (k + 11) = fun _ => 0 from funext fun j => ce_M0z (by rw [(show ce_kd (k + 11) = 32 from (ce_kf_6_4 hk))]; decide) (by rw [(show ce_kd (k + 11) = 32 from (ce_kf_6_4 hk))]; decide)]
        rw [e9]
        exact ha
      · rw [s0 j hr9.1 hr9.2] at ha
        exact ha
      · rw [hr j hr9.1 (by omega)] at ha
        exact ha
    | succ d ih =>
      intro i hi f g H locs ls hC g0 g1 g2 g10 g11 s0 hg hr hS hl
      refine lv_iload_n hx hb dX6_init_66 rfl (lv_at hl 0 rfl) ?_
      refine lv_bipush (v := 8) hx hb dX6_init_67 (by decide) ?_
      refine lv_icmp_ge (tgt := 91) hx hb dX6_init_69 (by decide) (fun h9 => absurd h9 (nI_ge (a := i) (b := 8) (by omega) (by decide))) (fun _ => ?_)
      refine lv_aload_n hx hb dX6_init_72 rfl (lv_at hl 1 rfl) ?_
      refine ce_getI (a := b + (k + 2)) (C := RX6) (T := TX6) (N := 7) (ci := 6) hx hb hB ce_l6 hown hK hC k (by omega) (by omega) g0 rfl 1 (by decide) rfl ce_w156 rfl dX6_init_73 ?_
      refine lv_iload_n hx hb dX6_init_76 rfl (lv_at hl 0 rfl) ?_
      refine ce_newI (C := RX4) (T := TX4) (N := 14) (ci := 4) hx hb hB ce_l4 tyX4 tyX4_ok hown ce_w31 ce_w64 ce_w4 hK rfl ce_rawok4 hC hS (by show _ ≤ 67; omega) (by show _ ≤ 907; omega) dX6_init_77 (fun H hC hS => ?_)
      refine lv_dup hx hb dX6_init_80 rfl ?_
      refine ce_callIN (v := k + (12 + 7 * i)) (sz := 7) (rest := [.ref (b + (k + (12 + 7 * i))), .int (nI i), .ref (b + (k + 2))]) hx hb hml hown hB (c_X4_init l X G b (by have h9 := ce_kf_sub (ce_kf_6_1 hk) (i := i) (by omega); rwa [show k + 2 + (10 + 7 * i) = k + (12 + 7 * i) by omega] at h9)) ce_i_X4_init ce_w67 ce_w4 (List.mem_of_getElem? (i := 1) rfl) ce_w66 ⟨(Nat.le_of_ble_eq_true rfl), (Nat.le_of_ble_eq_true rfl)⟩ hF hC (by omega) ce_ups hS hl (Nat.le_of_ble_eq_true rfl) dX6_init_81 ⟨(by show _ ≤ 67; omega), (by show _ ≤ 907; omega)⟩ (fun H locs hC hS => ?_)
      have hkv : ce_kd (k + (12 + 7 * i)) = 4 := (by have h9 := ce_kf_sub (ce_kf_6_1 hk) (i := i) (by omega); rwa [show k + 2 + (10 + 7 * i) = k + (12 + 7 * i) by omega] at h9)
      refine ce_aastI (v := k + (12 + 7 * i)) (ci := 4) (r := (RX4, TX4, 14)) 1 hx hb hK rfl rfl hC hS (k + 2) (by omega) (by omega) (by show (if (k + 2) < k + (12 + 7 * i) then _ else _) = _; rw [if_pos (by omega)]; exact (ce_upn (by omega)).trans g2) (by omega) (by omega) (by show (if k + (12 + 7 * i) < k + (12 + 7 * i) then _ else _) = _; rw [if_neg (by omega), hkv]; rfl) (vp_in_nI (by omega) (by decide)) dX6_init_84 (fun H locs hC hS => ?_)
      rw [nI_clamp (by omega)] at hC
      refine lv_iinc (v := nI (i + 1)) (lv' := [(1, .int (nI (i + 1))), (0, .ref (b + k))]) hx hb dX6_init_85 hl (k := 0) rfl (nI_1 i) (by decide) rfl (fun ls hl => ?_)
      refine lv_goto (tgt := 66) hx hb dX6_init_88 (by decide) ?_
      refine W.widen (k := 11 + 7 * (i + 1)) (n := 411 + 62 * (i + 1)) (by omega) (by omega) ?_
      exact ih (i + 1) (by omega) _ _ H locs ls (by have h9 := hC; rwa [show k + (12 + 7 * i) + 7 = k + (12 + 7 * (i + 1)) by omega] at h9) ((ce_upn (by omega)).trans ((if_pos (by omega)).trans ((ce_upn (by omega)).trans g0))) ((ce_upn (by omega)).trans ((if_pos (by omega)).trans ((ce_upn (by omega)).trans g1))) ce_ups ((ce_upn (by omega)).trans ((if_pos (by omega)).trans ((ce_upn (by omega)).trans g10))) ((ce_upn (by omega)).trans ((if_pos (by omega)).trans ((ce_upn (by omega)).trans g11))) (fun j h1 h2 => (ce_upn (by omega)).trans ((if_pos (by omega)).trans ((ce_upn (by omega)).trans (s0 j h1 h2)))) (fun a ha => (Classical.byCases (p := a = i) (fun e9 => by subst e9; exact if_pos rfl) (fun e9 => (if_neg e9).trans (hg a (by omega))))) (fun j h1 h2 => (Classical.byCases (p := j < k + (12 + 7 * i)) (fun e9 => (ce_upn (by omega)).trans ((if_pos e9).trans ((ce_upn (by omega)).trans (hr j h1 e9)))) (fun e9 => (ce_upn (by omega)).trans (if_neg e9)))) hS hl
  exact W.widen (by omega) (by omega) (hloop 8 0 (by omega) f15 (fun _ => none) H locs ls hC h15_0 h15_1 h15_2 h15_10 h15_11 r15_0 (fun a ha => absurd ha (Nat.not_lt_zero a)) (fun j h1 h2 => absurd h2 (by omega)) hS hl)
set_option maxRecDepth 100000 in
set_option maxHeartbeats 4000000 in
theorem c_X5_init (l : Launch) (X : ce_X) (G : ce_G) (b : Nat) {k : Nat} (hk : ce_kd k = 5) : ce_CtI l yX5_init cX5_init 2 4 73 273 3660 X G b k 274 (.inr (5, ce_raw5)) := by
  refine ce_ofWI (own := RX5) (by decide) rfl rfl (by decide) (fun p e s m below meth c ls hx hb hr0 hlocks hname hml hown hB hF hC hl hS => ?_)
  have hK := hF.1.1
  obtain ⟨f0, ef⟩ : ∃ g : Nat → va_E, g = fun _ => .inr (5, ce_raw5) := ⟨_, rfl⟩
  rw [← ef] at hC
  have h0_0 : f0 k = .inr (5, ce_raw5) := by rw [ef]
  clear ef
  refine lv_aload_n hx hb dX5_init_0 rfl (lv_at hl 0 rfl) ?_
  refine ce_objI hx hb hml hl hown hB ce_w185 ce_w23 ce_w24 dX5_init_1 ⟨(Nat.le_of_ble_eq_true rfl), (Nat.le_of_ble_eq_true rfl)⟩ ?_
  refine lv_aload_n hx hb dX5_init_4 rfl (lv_at hl 0 rfl) ?_
  refine lv_iconst (v := 4) hx hb dX5_init_5 (by decide) ?_
  refine ce_newqI (cQ := X.2.2.2.1) 4 hx hb hB hown ce_w186 hF.2.2 (hK.2 2 _ rfl).2 hC hS (by decide) (by decide) (Nat.le_of_ble_eq_true rfl) (Nat.le_of_ble_eq_true rfl) (Nat.le_of_ble_eq_true rfl) dX5_init_6 (fun H hC hS => ?_)
  obtain ⟨f1, ef⟩ : ∃ g : Nat → va_E, g = va_up f0 (k + 1) (.inl (X.2.2.2.1, 4, .inr (.inr (.inr (.inr (fun _ => none)))))) := ⟨_, rfl⟩
  have hC : ce_Cr X b k (k + 2) f1 H := by rw [ef]; exact hC
  have h1_0 : f1 k = .inr (5, [.null, .int 0, .int 0]) := by rw [ef]; exact (ce_upn (by omega)).trans h0_0
  have h1_1 : f1 (k + 1) = .inl (X.2.2.2.1, 4, .inr (.inr (.inr (.inr (fun _ => none))))) := by rw [ef]; exact ce_ups
  clear ef
  refine ce_putI (own := RX5) (T := TX5) (N := 3) (ci := 5) hx hb hB ce_l5 tyX5 tyX5_ok nmX5 hown hname hK hC hS k (by omega) (by omega) h1_0 rfl 0 (by decide) rfl ce_w189 rfl (ty := tyX5 0) (by decide +kernel) rfl rfl (Nat.le_of_ble_eq_true rfl) dX5_init_9 (fun H locs hC hS => ?_)
  obtain ⟨f2, ef⟩ : ∃ g : Nat → va_E, g = va_up f1 k (.inr (5, [.ref (b + (k + 1)), .int 0, .int 0])) := ⟨_, rfl⟩
  have hC : ce_Cr X b k (k + 2) f2 H := by rw [ef]; exact hC
  have h2_0 : f2 k = .inr (5, [.ref (b + (k + 1)), .int 0, .int 0]) := by rw [ef]; exact ce_ups
  have h2_1 : f2 (k + 1) = .inl (X.2.2.2.1, 4, .inr (.inr (.inr (.inr (fun _ => none))))) := by rw [ef]; exact (ce_upn (by omega)).trans h1_1
  clear ef
  refine lv_iconst (v := 0) hx hb dX5_init_12 (by decide) ?_
  refine lv_istore_n (lv' := [(1, .int 0), (0, .ref (b + k))]) hx hb dX5_init_13 rfl hl (by decide) rfl (fun ls hl => ?_)
  have hloop : ∀ (d i : Nat), i + d = 4 → ∀ (f : Nat → va_E) (g : Nat → Option Nat) (H : Heap) (locs : List Loc) (ls : Array Slot), ce_Cr X b k (k + (2 + 68 * i)) f H → f k = .inr (5, [.ref (b + (k + 1)), .int 0, .int 0]) → f (k + 1) = .inl (X.2.2.2.1, 4, .inr (.inr (.inr (.inr g)))) → (∀ a, a < i → g a = some (b + (k + (2 + 68 * a)))) → (∀ j, k + 2 ≤ j → j < k + (2 + 68 * i) → f j = ce_ent X b (ce_kd j) j ce_M0) → va_S (ce_Au (b + k)) s.heap H locs → lv_has ls 2 [(1, .int (nI i)), (0, .ref (b + k))] → W p l e (ce_R 4 73 273 3660) s m #[Value.ref (b + k)] below meth c H locs (1 + 68 * i) (4 + 914 * i) (MQ below (ce_QI X b k 274) #[Value.ref (b + k)] s 273 3660 (ce_Au (b + k))) (F0 m 14 ls []) := by
    intro d
    induction d with
    | zero =>
      intro i hi f g H locs ls hC g0 g1 hg hr hS hl
      have hi : i = 4 := by omega
      subst hi
      refine lv_iload_n hx hb dX5_init_14 rfl (lv_at hl 0 rfl) ?_
      refine lv_iconst (v := 4) hx hb dX5_init_15 (by decide) ?_
      refine lv_icmp_ge (tgt := 38) hx hb dX5_init_16 (by decide) (fun _ => ?_) (fun h9 => absurd (by decide) h9)
      refine ce_iendV hx hb hr0 hlocks (by have := hC.1; omega) (fun j hj1 hj2 => ?_) hS (Nat.le_of_ble_eq_true rfl) (Nat.le_of_ble_eq_true rfl) dX5_init_38
      have ha := hC.2 j hj1 (by omega)
      rcases (show j = k ∨ j = (k + 1) ∨ (k + 2 ≤ j ∧ j < k + 274) by omega) with rfl | rfl | hr9
      · rw [g0] at ha
        rw [hk]
        simpa only [ce_ent, ce_rl_M0, ce_M0z (by rw [hk]; decide) (by rw [hk]; decide)] using ha
      · rw [g1] at ha
        rw [(show ce_kd (k + 1) = 11 from (ce_kf_5_0 hk))]
        exact ce_refs ha (fun i hi => by rw [hg i hi]; congr 2; omega)
      · rw [hr j hr9.1 (by omega)] at ha
        exact ha
    | succ d ih =>
      intro i hi f g H locs ls hC g0 g1 hg hr hS hl
      refine lv_iload_n hx hb dX5_init_14 rfl (lv_at hl 0 rfl) ?_
      refine lv_iconst (v := 4) hx hb dX5_init_15 (by decide) ?_
      refine lv_icmp_ge (tgt := 38) hx hb dX5_init_16 (by decide) (fun h9 => absurd h9 (nI_ge (a := i) (b := 4) (by omega) (by decide))) (fun _ => ?_)
      refine lv_aload_n hx hb dX5_init_19 rfl (lv_at hl 1 rfl) ?_
      refine ce_getI (a := b + (k + 1)) (C := RX5) (T := TX5) (N := 3) (ci := 5) hx hb hB ce_l5 hown hK hC k (by omega) (by omega) g0 rfl 0 (by decide) rfl ce_w189 rfl dX5_init_20 ?_
      refine lv_iload_n hx hb dX5_init_23 rfl (lv_at hl 0 rfl) ?_
      refine ce_newI (C := RX6) (T := TX6) (N := 7) (ci := 6) hx hb hB ce_l6 tyX6 tyX6_ok hown ce_w186 ce_w26 ce_w2 hK rfl ce_rawok6 hC hS (by show _ ≤ 273; omega) (by show _ ≤ 3660; omega) dX5_init_24 (fun H hC hS => ?_)
      refine lv_dup hx hb dX5_init_27 rfl ?_
      refine ce_callI (v := k + (2 + 68 * i)) (sz := 68) (rest := [.ref (b + (k + (2 + 68 * i))), .int (nI i), .ref (b + (k + 1))]) hx hb hml hown hB (c_X6_init l X G b (by have h9 := ce_kf_world (ce_kf_5_0 hk) (i := i) (by omega); rwa [show k + 1 + (1 + 68 * i) = k + (2 + 68 * i) by omega] at h9)) ce_i_X6_init ce_w29 ce_w2 ce_w188 ce_w28 ⟨(Nat.le_of_ble_eq_true rfl), (Nat.le_of_ble_eq_true rfl)⟩ hF hC (by omega) ce_ups hS hl (Nat.le_of_ble_eq_true rfl) dX5_init_28 ⟨(by show _ ≤ 273; omega), (by show _ ≤ 3660; omega)⟩ (fun H locs hC hS => ?_)
      have hkv : ce_kd (k + (2 + 68 * i)) = 6 := (by have h9 := ce_kf_world (ce_kf_5_0 hk) (i := i) (by omega); rwa [show k + 1 + (1 + 68 * i) = k + (2 + 68 * i) by omega] at h9)
      refine ce_aastI (v := k + (2 + 68 * i)) (ci := 6) (r := (RX6, TX6, 7)) 2 hx hb hK rfl rfl hC hS (k + 1) (by omega) (by omega) (by show (if (k + 1) < k + (2 + 68 * i) then _ else _) = _; rw [if_pos (by omega)]; exact (ce_upn (by omega)).trans g1) (by omega) (by omega) (by show (if k + (2 + 68 * i) < k + (2 + 68 * i) then _ else _) = _; rw [if_neg (by omega), hkv]; rfl) (vp_in_nI (by omega) (by decide)) dX5_init_31 (fun H locs hC hS => ?_)
      rw [nI_clamp (by omega)] at hC
      refine lv_iinc (v := nI (i + 1)) (lv' := [(1, .int (nI (i + 1))), (0, .ref (b + k))]) hx hb dX5_init_32 hl (k := 0) rfl (nI_1 i) (by decide) rfl (fun ls hl => ?_)
      refine lv_goto (tgt := 14) hx hb dX5_init_35 (by decide) ?_
      refine W.widen (k := 1 + 68 * (i + 1)) (n := 4 + 914 * (i + 1)) (by omega) (by omega) ?_
      exact ih (i + 1) (by omega) _ _ H locs ls (by have h9 := hC; rwa [show k + (2 + 68 * i) + 68 = k + (2 + 68 * (i + 1)) by omega] at h9) ((ce_upn (by omega)).trans ((if_pos (by omega)).trans ((ce_upn (by omega)).trans g0))) ce_ups (fun a ha => (Classical.byCases (p := a = i) (fun e9 => by subst e9; exact if_pos rfl) (fun e9 => (if_neg e9).trans (hg a (by omega))))) (fun j h1 h2 => (Classical.byCases (p := j < k + (2 + 68 * i)) (fun e9 => (ce_upn (by omega)).trans ((if_pos e9).trans ((ce_upn (by omega)).trans (hr j h1 e9)))) (fun e9 => (ce_upn (by omega)).trans (if_neg e9)))) hS hl
  exact W.widen (by omega) (by omega) (hloop 4 0 (by omega) f2 (fun _ => none) H locs ls hC h2_0 h2_1 (fun a ha => absurd ha (Nat.not_lt_zero a)) (fun j h1 h2 => absurd h2 (by omega)) hS hl)
set_option maxRecDepth 100000 in
set_option maxHeartbeats 4000000 in
theorem c_X7_init (l : Launch) (X : ce_X) (G : ce_G) (b : Nat) {k : Nat} (hk : ce_kd k = 7) : ce_CtI l yX7_init cX7_init 1 5 94 413 5650 X G b k 414 (.inr (7, ce_raw7)) := by
  refine ce_ofWI (own := RX7) (by decide) rfl rfl (by decide) (fun p e s m below meth c ls hx hb hr hlocks hname hml hown hB hF hC hl hS => ?_)
  have hK := hF.1.1
  obtain ⟨f0, ef⟩ : ∃ g : Nat → va_E, g = fun _ => .inr (7, ce_raw7) := ⟨_, rfl⟩
  rw [← ef] at hC
  have h0_0 : f0 k = .inr (7, ce_raw7) := by rw [ef]
  clear ef
  refine lv_aload_n hx hb dX7_init_0 rfl (lv_at hl 0 rfl) ?_
  refine ce_objI hx hb hml hl hown hB ce_w22 ce_w23 ce_w24 dX7_init_1 ⟨(Nat.le_of_ble_eq_true rfl), (Nat.le_of_ble_eq_true rfl)⟩ ?_
  refine lv_aload_n hx hb dX7_init_4 rfl (lv_at hl 0 rfl) ?_
  refine ce_newI (C := RX6) (T := TX6) (N := 7) (ci := 6) hx hb hB ce_l6 tyX6 tyX6_ok hown ce_w25 ce_w26 ce_w2 hK rfl ce_rawok6 hC hS (Nat.le_of_ble_eq_true rfl) (Nat.le_of_ble_eq_true rfl) dX7_init_5 (fun H hC hS => ?_)
  obtain ⟨f1, ef⟩ : ∃ g : Nat → va_E, g = va_up f0 (k + 1) (.inr (6, [.null, .null, .null, .null, .null, .int 0, .int 0])) := ⟨_, rfl⟩
  have hC : ce_Cr X b k (k + 2) f1 H := by rw [ef]; exact hC
  have h1_0 : f1 k = .inr (7, [.null, .null, .null, .null]) := by rw [ef]; exact (ce_upn (by omega)).trans h0_0
  have h1_1 : f1 (k + 1) = .inr (6, [.null, .null, .null, .null, .null, .int 0, .int 0]) := by rw [ef]; exact ce_ups
  clear ef
  refine lv_dup hx hb dX7_init_8 rfl ?_
  refine ce_callI (v := (k + 1)) (sz := 68) (rest := [.ref (b + (k + 1)), .ref (b + k)]) hx hb hml hown hB (c_X6_init l X G b (ce_kf_7_0 hk)) ce_i_X6_init ce_w29 ce_w2 ce_w27 ce_w28 ⟨(Nat.le_of_ble_eq_true rfl), (Nat.le_of_ble_eq_true rfl)⟩ hF hC (by omega) h1_1 hS hl (Nat.le_of_ble_eq_true rfl) dX7_init_9 ⟨(Nat.le_of_ble_eq_true rfl), (Nat.le_of_ble_eq_true rfl)⟩ (fun H locs hC hS => ?_)
  obtain ⟨f2, ef⟩ : ∃ g : Nat → va_E, g = fun j => if j < (k + 1) then f1 j else ce_ent X b (ce_kd j) j ce_M0 := ⟨_, rfl⟩
  have hC : ce_Cr X b k (k + 69) f2 H := by rw [ef]; exact hC
  have h2_0 : f2 k = .inr (7, [.null, .null, .null, .null]) := by rw [ef]; exact (if_pos (by omega)).trans h1_0
  have r2_0 : ∀ j, k + 1 ≤ j → j < k + 69 → f2 j = ce_ent X b (ce_kd j) j ce_M0 := fun j h1 h2 => by rw [ef]; exact if_neg (by omega)
  clear ef
  refine ce_putI (own := RX7) (T := TX7) (N := 4) (ci := 7) hx hb hB ce_l7 tyX7 tyX7_ok nmX7 hown hname hK hC hS k (by omega) (by omega) h2_0 rfl 0 (by decide) rfl ce_w223 rfl (ty := tyX7 0) (by decide +kernel) rfl rfl (Nat.le_of_ble_eq_true rfl) dX7_init_12 (fun H locs hC hS => ?_)
  obtain ⟨f3, ef⟩ : ∃ g : Nat → va_E, g = va_up f2 k (.inr (7, [.ref (b + (k + 1)), .null, .null, .null])) := ⟨_, rfl⟩
  have hC : ce_Cr X b k (k + 69) f3 H := by rw [ef]; exact hC
  have h3_0 : f3 k = .inr (7, [.ref (b + (k + 1)), .null, .null, .null]) := by rw [ef]; exact ce_ups
  have r3_0 : ∀ j, k + 1 ≤ j → j < k + 69 → f3 j = ce_ent X b (ce_kd j) j ce_M0 := fun j h1 h2 => by rw [ef]; exact (ce_upn (by omega)).trans (r2_0 j h1 h2)
  clear ef
  refine lv_aload_n hx hb dX7_init_15 rfl (lv_at hl 0 rfl) ?_
  refine ce_newI (C := RX6) (T := TX6) (N := 7) (ci := 6) hx hb hB ce_l6 tyX6 tyX6_ok hown ce_w25 ce_w26 ce_w2 hK rfl ce_rawok6 hC hS (Nat.le_of_ble_eq_true rfl) (Nat.le_of_ble_eq_true rfl) dX7_init_16 (fun H hC hS => ?_)
  obtain ⟨f4, ef⟩ : ∃ g : Nat → va_E, g = va_up f3 (k + 69) (.inr (6, [.null, .null, .null, .null, .null, .int 0, .int 0])) := ⟨_, rfl⟩
  have hC : ce_Cr X b k (k + 70) f4 H := by rw [ef]; exact hC
  have h4_0 : f4 k = .inr (7, [.ref (b + (k + 1)), .null, .null, .null]) := by rw [ef]; exact (ce_upn (by omega)).trans h3_0
  have h4_69 : f4 (k + 69) = .inr (6, [.null, .null, .null, .null, .null, .int 0, .int 0]) := by rw [ef]; exact ce_ups
  have r4_0 : ∀ j, k + 1 ≤ j → j < k + 69 → f4 j = ce_ent X b (ce_kd j) j ce_M0 := fun j h1 h2 => by rw [ef]; exact (ce_upn (by omega)).trans (r3_0 j h1 h2)
  clear ef
  refine lv_dup hx hb dX7_init_19 rfl ?_
  refine ce_callI (v := (k + 69)) (sz := 68) (rest := [.ref (b + (k + 69)), .ref (b + k)]) hx hb hml hown hB (c_X6_init l X G b (ce_kf_7_1 hk)) ce_i_X6_init ce_w29 ce_w2 ce_w27 ce_w28 ⟨(Nat.le_of_ble_eq_true rfl), (Nat.le_of_ble_eq_true rfl)⟩ hF hC (by omega) h4_69 hS hl (Nat.le_of_ble_eq_true rfl) dX7_init_20 ⟨(Nat.le_of_ble_eq_true rfl), (Nat.le_of_ble_eq_true rfl)⟩ (fun H locs hC hS => ?_)
  obtain ⟨f5, ef⟩ : ∃ g : Nat → va_E, g = fun j => if j < (k + 69) then f4 j else ce_ent X b (ce_kd j) j ce_M0 := ⟨_, rfl⟩
  have hC : ce_Cr X b k (k + 137) f5 H := by rw [ef]; exact hC
  have h5_0 : f5 k = .inr (7, [.ref (b + (k + 1)), .null, .null, .null]) := by rw [ef]; exact (if_pos (by omega)).trans h4_0
  have r5_0 : ∀ j, k + 1 ≤ j → j < k + 69 → f5 j = ce_ent X b (ce_kd j) j ce_M0 := fun j h1 h2 => by rw [ef]; exact (if_pos (by omega)).trans (r4_0 j h1 h2)
  have r5_1 : ∀ j, k + 69 ≤ j → j < k + 137 → f5 j = ce_ent X b (ce_kd j) j ce_M0 := fun j h1 h2 => by rw [ef]; exact if_neg (by omega)
  clear ef
  refine ce_putI (own := RX7) (T := TX7) (N := 4) (ci := 7) hx hb hB ce_l7 tyX7 tyX7_ok nmX7 hown hname hK hC hS k (by omega) (by omega) h5_0 rfl 1 (by decide) rfl ce_w224 rfl (ty := tyX7 1) (by decide +kernel) rfl rfl (Nat.le_of_ble_eq_true rfl) dX7_init_23 (fun H locs hC hS => ?_)
  obtain ⟨f6, ef⟩ : ∃ g : Nat → va_E, g = va_up f5 k (.inr (7, [.ref (b + (k + 1)), .ref (b + (k + 69)), .null, .null])) := ⟨_, rfl⟩
  have hC : ce_Cr X b k (k + 137) f6 H := by rw [ef]; exact hC
  have h6_0 : f6 k = .inr (7, [.ref (b + (k + 1)), .ref (b + (k + 69)), .null, .null]) := by rw [ef]; exact ce_ups
  have r6_0 : ∀ j, k + 1 ≤ j → j < k + 69 → f6 j = ce_ent X b (ce_kd j) j ce_M0 := fun j h1 h2 => by rw [ef]; exact (ce_upn (by omega)).trans (r5_0 j h1 h2)
  have r6_1 : ∀ j, k + 69 ≤ j → j < k + 137 → f6 j = ce_ent X b (ce_kd j) j ce_M0 := fun j h1 h2 => by rw [ef]; exact (ce_upn (by omega)).trans (r5_1 j h1 h2)
  clear ef
  refine lv_aload_n hx hb dX7_init_26 rfl (lv_at hl 0 rfl) ?_
  refine ce_newI (C := RX5) (T := TX5) (N := 3) (ci := 5) hx hb hB ce_l5 tyX5 tyX5_ok hown ce_w180 ce_w181 ce_w7 hK rfl ce_rawok5 hC hS (Nat.le_of_ble_eq_true rfl) (Nat.le_of_ble_eq_true rfl) dX7_init_27 (fun H hC hS => ?_)
  obtain ⟨f7, ef⟩ : ∃ g : Nat → va_E, g = va_up f6 (k + 137) (.inr (5, [.null, .int 0, .int 0])) := ⟨_, rfl⟩
  have hC : ce_Cr X b k (k + 138) f7 H := by rw [ef]; exact hC
  have h7_0 : f7 k = .inr (7, [.ref (b + (k + 1)), .ref (b + (k + 69)), .null, .null]) := by rw [ef]; exact (ce_upn (by omega)).trans h6_0
  have h7_137 : f7 (k + 137) = .inr (5, [.null, .int 0, .int 0]) := by rw [ef]; exact ce_ups
  have r7_0 : ∀ j, k + 1 ≤ j → j < k + 69 → f7 j = ce_ent X b (ce_kd j) j ce_M0 := fun j h1 h2 => by rw [ef]; exact (ce_upn (by omega)).trans (r6_0 j h1 h2)
  have r7_1 : ∀ j, k + 69 ≤ j → j < k + 137 → f7 j = ce_ent X b (ce_kd j) j ce_M0 := fun j h1 h2 => by rw [ef]; exact (ce_upn (by omega)).trans (r6_1 j h1 h2)
  clear ef
  refine lv_dup hx hb dX7_init_30 rfl ?_
  refine ce_callI (v := (k + 137)) (sz := 274) (rest := [.ref (b + (k + 137)), .ref (b + k)]) hx hb hml hown hB (c_X5_init l X G b (ce_kf_7_2 hk)) ce_i_X5_init ce_w184 ce_w7 ce_w182 ce_w183 ⟨(Nat.le_of_ble_eq_true rfl), (Nat.le_of_ble_eq_true rfl)⟩ hF hC (by omega) h7_137 hS hl (Nat.le_of_ble_eq_true rfl) dX7_init_31 ⟨(Nat.le_of_ble_eq_true rfl), (Nat.le_of_ble_eq_true rfl)⟩ (fun H locs hC hS => ?_)
  obtain ⟨f8, ef⟩ : ∃ g : Nat → va_E, g = fun j => if j < (k + 137) then f7 j else ce_ent X b (ce_kd j) j ce_M0 := ⟨_, rfl⟩
  have hC : ce_Cr X b k (k + 411) f8 H := by rw [ef]; exact hC
  have h8_0 : f8 k = .inr (7, [.ref (b + (k + 1)), .ref (b + (k + 69)), .null, .null]) := by rw [ef]; exact (if_pos (by omega)).trans h7_0
  have r8_0 : ∀ j, k + 1 ≤ j → j < k + 69 → f8 j = ce_ent X b (ce_kd j) j ce_M0 := fun j h1 h2 => by rw [ef]; exact (if_pos (by omega)).trans (r7_0 j h1 h2)
  have r8_1 : ∀ j, k + 69 ≤ j → j < k + 137 → f8 j = ce_ent X b (ce_kd j) j ce_M0 := fun j h1 h2 => by rw [ef]; exact (if_pos (by omega)).trans (r7_1 j h1 h2)
  have r8_2 : ∀ j, k + 137 ≤ j → j < k + 411 → f8 j = ce_ent X b (ce_kd j) j ce_M0 := fun j h1 h2 => by rw [ef]; exact if_neg (by omega)
  clear ef
  refine ce_putI (own := RX7) (T := TX7) (N := 4) (ci := 7) hx hb hB ce_l7 tyX7 tyX7_ok nmX7 hown hname hK hC hS k (by omega) (by omega) h8_0 rfl 2 (by decide) rfl ce_w225 rfl (ty := tyX7 2) (by decide +kernel) rfl rfl (Nat.le_of_ble_eq_true rfl) dX7_init_34 (fun H locs hC hS => ?_)
  obtain ⟨f9, ef⟩ : ∃ g : Nat → va_E, g = va_up f8 k (.inr (7, [.ref (b + (k + 1)), .ref (b + (k + 69)), .ref (b + (k + 137)), .null])) := ⟨_, rfl⟩
  have hC : ce_Cr X b k (k + 411) f9 H := by rw [ef]; exact hC
  have h9_0 : f9 k = .inr (7, [.ref (b + (k + 1)), .ref (b + (k + 69)), .ref (b + (k + 137)), .null]) := by rw [ef]; exact ce_ups
  have r9_0 : ∀ j, k + 1 ≤ j → j < k + 69 → f9 j = ce_ent X b (ce_kd j) j ce_M0 := fun j h1 h2 => by rw [ef]; exact (ce_upn (by omega)).trans (r8_0 j h1 h2)
  have r9_1 : ∀ j, k + 69 ≤ j → j < k + 137 → f9 j = ce_ent X b (ce_kd j) j ce_M0 := fun j h1 h2 => by rw [ef]; exact (ce_upn (by omega)).trans (r8_1 j h1 h2)
  have r9_2 : ∀ j, k + 137 ≤ j → j < k + 411 → f9 j = ce_ent X b (ce_kd j) j ce_M0 := fun j h1 h2 => by rw [ef]; exact (ce_upn (by omega)).trans (r8_2 j h1 h2)
  clear ef
  refine lv_aload_n hx hb dX7_init_37 rfl (lv_at hl 0 rfl) ?_
  refine ce_newI (C := RX0) (T := TX0) (N := 6) (ci := 0) hx hb hB ce_l0 tyX0 tyX0_ok hown ce_w200 ce_w201 ce_w8 hK rfl ce_rawok0 hC hS (Nat.le_of_ble_eq_true rfl) (Nat.le_of_ble_eq_true rfl) dX7_init_38 (fun H hC hS => ?_)
  obtain ⟨f10, ef⟩ : ∃ g : Nat → va_E, g = va_up f9 (k + 411) (.inr (0, [.null, .int 0, .int 0, .int 0, .null, .int 0])) := ⟨_, rfl⟩
  have hC : ce_Cr X b k (k + 412) f10 H := by rw [ef]; exact hC
  have h10_0 : f10 k = .inr (7, [.ref (b + (k + 1)), .ref (b + (k + 69)), .ref (b + (k + 137)), .null]) := by rw [ef]; exact (ce_upn (by omega)).trans h9_0
  have h10_411 : f10 (k + 411) = .inr (0, [.null, .int 0, .int 0, .int 0, .null, .int 0]) := by rw [ef]; exact ce_ups
  have r10_0 : ∀ j, k + 1 ≤ j → j < k + 69 → f10 j = ce_ent X b (ce_kd j) j ce_M0 := fun j h1 h2 => by rw [ef]; exact (ce_upn (by omega)).trans (r9_0 j h1 h2)
  have r10_1 : ∀ j, k + 69 ≤ j → j < k + 137 → f10 j = ce_ent X b (ce_kd j) j ce_M0 := fun j h1 h2 => by rw [ef]; exact (ce_upn (by omega)).trans (r9_1 j h1 h2)
  have r10_2 : ∀ j, k + 137 ≤ j → j < k + 411 → f10 j = ce_ent X b (ce_kd j) j ce_M0 := fun j h1 h2 => by rw [ef]; exact (ce_upn (by omega)).trans (r9_2 j h1 h2)
  clear ef
  refine lv_dup hx hb dX7_init_41 rfl ?_
  refine ce_callIN (v := (k + 411)) (sz := 3) (rest := [.ref (b + (k + 411)), .ref (b + k)]) hx hb hml hown hB (c_X0_init l X G b (ce_kf_7_3 hk)) ce_i_X0_init ce_w204 ce_w8 (List.mem_of_getElem? (i := 4) rfl) ce_w203 ⟨(Nat.le_of_ble_eq_true rfl), (Nat.le_of_ble_eq_true rfl)⟩ hF hC (by omega) h10_411 hS hl (Nat.le_of_ble_eq_true rfl) dX7_init_42 ⟨(Nat.le_of_ble_eq_true rfl), (Nat.le_of_ble_eq_true rfl)⟩ (fun H locs hC hS => ?_)
  obtain ⟨f11, ef⟩ : ∃ g : Nat → va_E, g = fun j => if j < (k + 411) then f10 j else ce_ent X b (ce_kd j) j ce_M0 := ⟨_, rfl⟩
  have hC : ce_Cr X b k (k + 414) f11 H := by rw [ef]; exact hC
  have h11_0 : f11 k = .inr (7, [.ref (b + (k + 1)), .ref (b + (k + 69)), .ref (b + (k + 137)), .null]) := by rw [ef]; exact (if_pos (by omega)).trans h10_0
  have r11_0 : ∀ j, k + 1 ≤ j → j < k + 69 → f11 j = ce_ent X b (ce_kd j) j ce_M0 := fun j h1 h2 => by rw [ef]; exact (if_pos (by omega)).trans (r10_0 j h1 h2)
  have r11_1 : ∀ j, k + 69 ≤ j → j < k + 137 → f11 j = ce_ent X b (ce_kd j) j ce_M0 := fun j h1 h2 => by rw [ef]; exact (if_pos (by omega)).trans (r10_1 j h1 h2)
  have r11_2 : ∀ j, k + 137 ≤ j → j < k + 411 → f11 j = ce_ent X b (ce_kd j) j ce_M0 := fun j h1 h2 => by rw [ef]; exact (if_pos (by omega)).trans (r10_2 j h1 h2)
  have r11_3 : ∀ j, k + 411 ≤ j → j < k + 414 → f11 j = ce_ent X b (ce_kd j) j ce_M0 := fun j h1 h2 => by rw [ef]; exact if_neg (by omega)
  clear ef
  refine ce_putI (own := RX7) (T := TX7) (N := 4) (ci := 7) hx hb hB ce_l7 tyX7 tyX7_ok nmX7 hown hname hK hC hS k (by omega) (by omega) h11_0 rfl 3 (by decide) rfl ce_w226 rfl (ty := tyX7 3) (by decide +kernel) rfl rfl (Nat.le_of_ble_eq_true rfl) dX7_init_45 (fun H locs hC hS => ?_)
  obtain ⟨f12, ef⟩ : ∃ g : Nat → va_E, g = va_up f11 k (.inr (7, [.ref (b + (k + 1)), .ref (b + (k + 69)), .ref (b + (k + 137)), .ref (b + (k + 411))])) := ⟨_, rfl⟩
  have hC : ce_Cr X b k (k + 414) f12 H := by rw [ef]; exact hC
  have h12_0 : f12 k = .inr (7, [.ref (b + (k + 1)), .ref (b + (k + 69)), .ref (b + (k + 137)), .ref (b + (k + 411))]) := by rw [ef]; exact ce_ups
  have r12_0 : ∀ j, k + 1 ≤ j → j < k + 69 → f12 j = ce_ent X b (ce_kd j) j ce_M0 := fun j h1 h2 => by rw [ef]; exact (ce_upn (by omega)).trans (r11_0 j h1 h2)
  have r12_1 : ∀ j, k + 69 ≤ j → j < k + 137 → f12 j = ce_ent X b (ce_kd j) j ce_M0 := fun j h1 h2 => by rw [ef]; exact (ce_upn (by omega)).trans (r11_1 j h1 h2)
  have r12_2 : ∀ j, k + 137 ≤ j → j < k + 411 → f12 j = ce_ent X b (ce_kd j) j ce_M0 := fun j h1 h2 => by rw [ef]; exact (ce_upn (by omega)).trans (r11_2 j h1 h2)
  have r12_3 : ∀ j, k + 411 ≤ j → j < k + 414 → f12 j = ce_ent X b (ce_kd j) j ce_M0 := fun j h1 h2 => by rw [ef]; exact (ce_upn (by omega)).trans (r11_3 j h1 h2)
  clear ef
  refine ce_iendV hx hb hr hlocks hC.1 (fun j hj1 hj2 => ?_) hS (Nat.le_of_ble_eq_true rfl) (Nat.le_of_ble_eq_true rfl) dX7_init_48
  have ha := hC.2 j hj1 (by omega)
  rcases (show j = k ∨ (k + 1 ≤ j ∧ j < k + 69) ∨ (k + 69 ≤ j ∧ j < k + 137) ∨ (k + 137 ≤ j ∧ j < k + 411) ∨ (k + 411 ≤ j ∧ j < k + 414) by omega) with rfl | hr9 | hr9 | hr9 | hr9
  · rw [h12_0] at ha
    rw [hk]
    exact ha
  · rw [r12_0 j hr9.1 hr9.2] at ha
    exact ha
  · rw [r12_1 j hr9.1 hr9.2] at ha
    exact ha
  · rw [r12_2 j hr9.1 hr9.2] at ha
    exact ha
  · rw [r12_3 j hr9.1 hr9.2] at ha
    exact ha
