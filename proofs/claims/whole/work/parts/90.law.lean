/-! the law's loop -/
theorem lg_same (x : Int64) : lg_cmp x x = 0 := by
  unfold lg_cmp
  rw [if_neg (show ¬ x > x from Int64.lt_irrefl), if_pos rfl]
theorem gi_s0 (j : Nat) : ce_rd ce_M0 415 j = if j = 3 then 3 else if j = 4 then 2 else if j = 5 then 2 else if j = 6 then 8 else 0 := by
  show (if ce_kd 415 = 20 then ([3, 2, 2, 8] : List Int32).getD j 0 else if 415 = 415 then (if j = 3 then 3 else if j = 4 then 2 else if j = 5 then 2 else if j = 6 then 8 else 0) else 0) = _
  rw [if_neg (show ¬ ce_kd 415 = 20 by decide), if_pos rfl]
theorem gi_s1 {j : Nat} (h : j < 3 ∨ 6 < j) : ce_rd ce_M0 415 j = nI 0 := by
  rw [gi_s0, if_neg (by omega), if_neg (by omega), if_neg (by omega), if_neg (by omega)]
  rfl
theorem gi_kd : ∀ k, k < 69 → k ≠ 2 → ce_kd k ≠ 20 := by decide +kernel
theorem gi_z {k : Nat} (h : ce_kd k ≠ 20) (h2 : k ≠ 415) (j : Nat) : ce_rd ce_M0 k j = nI 0 := by
  show (if ce_kd k = 20 then ([3, 2, 2, 8] : List Int32).getD j 0 else if k = 415 then (if j = 3 then 3 else if j = 4 then 2 else if j = 5 then 2 else if j = 6 then 8 else 0) else 0) = nI 0
  rw [if_neg h, if_neg h2]
  rfl
theorem gi_z1 {k : Nat} (h : k < 69) (h2 : k ≠ 2) (j : Nat) : ce_rd ce_M0 k j = nI 0 := gi_z (gi_kd k h h2) (by omega) j
theorem gi_set : ∀ i, i < 4 → ce_rd ce_M0 (1 + 1) i = ce_rd ce_M0 415 (3 + i) := by decide
theorem gi_IN : ms_IN (ce_rd ce_M0 415) 0 0 0 := by
  refine ⟨gi_s1 (by omega), gi_s1 (by omega), by omega, gi_s1 (by omega), by omega, ⟨3, by omega, gi_s0 3⟩, ⟨2, by omega, by omega, gi_s0 4⟩, ⟨2, by omega, gi_s0 5⟩, ⟨8, by omega, gi_s0 6⟩, fun a ha => ?_, fun a ha => absurd ha (by omega), fun a _ _ k _ => gi_s1 (by omega), fun e _ _ k _ => gi_s1 (by omega)⟩
  exact ⟨0, 0, 0, 0, 0, 0, 0, 0, gi_s1 (by omega), by omega, gi_s1 (by omega), by omega, gi_s1 (by omega), by omega, gi_s1 (by omega), by omega, gi_s1 (by omega), by omega, gi_s1 (by omega), by omega, gi_s1 (by omega), by omega, gi_s1 (by omega), by omega, fun _ => rfl, fun _ => rfl, fun i hi => absurd hi (by omega), fun i j _ hj => absurd hj (by omega), fun j hj => absurd hj (by omega)⟩
theorem gi_rt {a : Nat} (ha : a < 8) : ∀ n, n ≤ 60 → sp_rt (ce_rd ce_M0 415) a n = nI 0 := by
  intro n
  induction n with
  | zero => intro _; rfl
  | succ n ih =>
    intro h
    show sp_rt (ce_rd ce_M0 415) a n + sp_bit (ce_rd ce_M0 415 (456 + 6 * n + 4)) a = nI 0
    rw [ih (by omega), gi_s1 (by omega), sp_bit0 0 a ha]
    rfl
theorem gi_lost : ∀ n, n ≤ 8 → sp_lost ce_M0 1 n = nI 0 := by
  intro n
  induction n with
  | zero => intro _; rfl
  | succ n ih =>
    intro h
    show sp_lost ce_M0 1 n + ce_rd ce_M0 (1 + 2 + (10 + 7 * n)) 11 = nI 0
    rw [ih (by omega), gi_z1 (by omega) (by omega)]
    rfl
theorem gi_WR : ms_WR ce_M0 1 (ce_rd ce_M0 415) := by
  have z : ∀ k j i, k < 69 → k ≠ 2 → (i < 3 ∨ 6 < i) → ce_rd ce_M0 k j = ce_rd ce_M0 415 i := fun k j i h1 h2 h3 => (gi_z1 h1 h2 j).trans (gi_s1 h3).symm
  refine ⟨z _ _ _ (by omega) (by omega) (by omega), z _ _ _ (by omega) (by omega) (by omega), z _ _ _ (by omega) (by omega) (by omega), gi_set, fun l hl => z _ _ _ (by omega) (by omega) (by omega), fun a ha => ?_, fun e he => ?_, ?_, fun m q1 q2 a q3 q4 => gi_z1 (by omega) (by omega) _⟩
  · refine ⟨z _ _ _ (by omega) (by omega) (by omega), z _ _ _ (by omega) (by omega) (by omega), z _ _ _ (by omega) (by omega) (by omega), z _ _ _ (by omega) (by omega) (by omega), z _ _ _ (by omega) (by omega) (by omega), z _ _ _ (by omega) (by omega) (by omega), z _ _ _ (by omega) (by omega) (by omega), z _ _ _ (by omega) (by omega) (by omega), z _ _ _ (by omega) (by omega) (by omega), z _ _ _ (by omega) (by omega) (by omega), z _ _ _ (by omega) (by omega) (by omega), z _ _ _ (by omega) (by omega) (by omega), ?_, fun w _ _ i _ => z _ _ _ (by omega) (by omega) (by omega), fun c _ _ j _ => ⟨z _ _ _ (by omega) (by omega) (by omega), z _ _ _ (by omega) (by omega) (by omega), z _ _ _ (by omega) (by omega) (by omega)⟩⟩
    rw [gi_rt ha 60 (by omega)]
    exact gi_z1 (by omega) (by omega) _
  · exact ⟨z _ _ _ (by omega) (by omega) (by omega), z _ _ _ (by omega) (by omega) (by omega), z _ _ _ (by omega) (by omega) (by omega), z _ _ _ (by omega) (by omega) (by omega), z _ _ _ (by omega) (by omega) (by omega), z _ _ _ (by omega) (by omega) (by omega)⟩
  · rw [gi_lost 8 (by omega)]
    exact (gi_s1 (by omega)).symm
theorem gi_start : GI ce_M0 := ⟨⟨gi_WR, 0, 0, 0, by omega, gi_IN⟩, ⟨0, 0, by omega, by omega, gi_z (by decide) (by omega) 3, gi_z (by decide) (by omega) 2, gi_z (by decide) (by omega) 1, fun j hj => absurd hj (by omega)⟩, 0, by omega, gi_z (by decide) (by omega) 1, gi_z (by decide) (by omega) 8, fun i hi => absurd hi (by omega)⟩
theorem law_step {Lf Rf : ce_M → Option (ce_M × Int32)} (h : LW Lf Rf) {M : ce_M} (hG : GI M) {rec : ce_M → Option Unit} (hrec : ∀ M3, GI M3 → rec M3 = some ()) : ce_b2 (Lf M) (fun (M16 : ce_M) (x17 : Int32) => ce_b2 (Rf M16) (fun (M28 : ce_M) (x29 : Int32) => ce_b1 (f_X8_thrown 414 M28) (fun (x31 : Int32) => if x31 = x17 then (if x17 = 0 then (if (lg_cmp (ce_rl M28 1) (Int32.toInt64 x29)) = 0 then rec M28 else none) else rec M28) else none))) = some () := by
  obtain ⟨M2, c, M3, r, e1, e2, e3, e4, e5⟩ := h M hG
  rw [e1, ms_b2, e2, ms_b2]
  unfold f_X8_thrown
  rw [ms_b1, e3, if_pos rfl]
  by_cases q : c = 0
  · rw [if_pos q, e4 q, lg_same, if_pos rfl]
    exact hrec M3 e5
  · rw [if_neg q]
    exact hrec M3 e5
set_option maxHeartbeats 4000000 in
theorem law_body {xs : Nat → Int32} {L i : Nat} (hi : i + 4 ≤ L) (hL : L ≤ 2048) {M : ce_M} (hG : GI M) {rec : ce_M → Int32 → Option Unit} (hrec : ∀ M3, GI M3 → rec M3 (nI (i + 4)) = some ()) : f_L_law_L23 xs L rec M (nI i) = some () := by
  have g0 : ∀ {α : Type} (K : Option α), ce_gi (nI i) L K = K := fun K => ms_gi (by omega) (by omega)
  have g1 : ∀ {α : Type} (K : Option α), ce_gi (nI (i + 1)) L K = K := fun K => ms_gi (by omega) (by omega)
  have g2 : ∀ {α : Type} (K : Option α), ce_gi (nI (i + 2)) L K = K := fun K => ms_gi (by omega) (by omega)
  have g3 : ∀ {α : Type} (K : Option α), ce_gi (nI (i + 3)) L K = K := fun K => ms_gi (by omega) (by omega)
  have a1 : nI i + 1 = nI (i + 1) := nI_1 i
  have a2 : nI i + 2 = nI (i + 2) := nI_add i 2
  have a3 : nI i + 3 = nI (i + 3) := nI_add i 3
  have a4 : nI i + 4 = nI (i + 4) := nI_add i 4
  have c0 : (nI i).toNatClampNeg = i := nI_clamp (show i < 2 ^ 31 by omega)
  have c1 : (nI (i + 1)).toNatClampNeg = i + 1 := nI_clamp (show (i+1) < 2 ^ 31 by omega)
  have c2 : (nI (i + 2)).toNatClampNeg = i + 2 := nI_clamp (show (i+2) < 2 ^ 31 by omega)
  have c3 : (nI (i + 3)).toNatClampNeg = i + 3 := nI_clamp (show (i+3) < 2 ^ 31 by omega)
  unfold f_L_law_L23
  rw [if_neg (show ¬ (Int32.ofNat L - 4) < nI i from by
    rw [show Int32.ofNat L - 4 = nI (L - 4) from ms_sub (b := 4) (by omega)]
    exact nI_nlt (by omega) (by omega)), g0, c0, ms_nm]
  generalize hk : xs i &&& 31 = k
  by_cases k0 : k = 0
  · rw [if_pos k0]
    simp only [ms_nm, a4, g1, g2, g3, a1, a2, a3, c1, c2, c3]
    exact law_step (LW_subscribe (xs (i + 1)) (xs (i + 2)) (xs (i + 3))) hG (rec := fun M3 => rec M3 (nI (i + 4))) hrec
  · rw [if_neg k0]
    by_cases k1 : k = 1
    · rw [if_pos k1]
      simp only [ms_nm, a4, g1, g2, a1, a2, c1, c2]
      exact law_step (LW_move (xs (i + 1)) (xs (i + 2))) hG (rec := fun M3 => rec M3 (nI (i + 4))) hrec
    · rw [if_neg k1]
      by_cases k2 : k = 2
      · rw [if_pos k2]
        simp only [ms_nm, a4, g1, a1, c1]
        exact law_step (LW_leave (xs (i + 1))) hG (rec := fun M3 => rec M3 (nI (i + 4))) hrec
      · rw [if_neg k2]
        by_cases k3 : k = 3
        · rw [if_pos k3]
          simp only [ms_nm, a4, g1, g2, a1, a2, c1, c2]
          exact law_step (LW_setLevel (xs (i + 1)) (xs (i + 2))) hG (rec := fun M3 => rec M3 (nI (i + 4))) hrec
        · rw [if_neg k3]
          by_cases k4 : k = 4
          · rw [if_pos k4]
            simp only [ms_nm, a4, g1, g2, a1, a2, c1, c2]
            exact law_step (LW_set (xs (i + 1)) (xs (i + 2))) hG (rec := fun M3 => rec M3 (nI (i + 4))) hrec
          · rw [if_neg k4]
            by_cases k5 : k = 5
            · rw [if_pos k5]
              simp only [ms_nm, a4, g1, g2, g3, a1, a2, a3, c1, c2, c3]
              exact law_step (LW_publish (xs (i + 1)) (xs (i + 2)) (xs (i + 3))) hG (rec := fun M3 => rec M3 (nI (i + 4))) hrec
            · rw [if_neg k5]
              by_cases k6 : k = 6
              · rw [if_pos k6]
                simp only [ms_nm, a4, g1, a1, c1]
                exact law_step (LW_pass (xs (i + 1))) hG (rec := fun M3 => rec M3 (nI (i + 4))) hrec
              · rw [if_neg k6]
                by_cases k7 : k = 7
                · rw [if_pos k7]
                  simp only [ms_nm, a4, g1, g2, a1, a2, c1, c2]
                  exact law_step (LW_subscriber (xs (i + 1)) (xs (i + 2))) hG (rec := fun M3 => rec M3 (nI (i + 4))) hrec
                · rw [if_neg k7]
                  by_cases k8 : k = 8
                  · rw [if_pos k8]
                    simp only [ms_nm, a4, g1, g2, g3, a1, a2, a3, c1, c2, c3]
                    exact law_step (LW_stay (xs (i + 1)) (xs (i + 2)) (xs (i + 3))) hG (rec := fun M3 => rec M3 (nI (i + 4))) hrec
                  · rw [if_neg k8]
                    by_cases k9 : k = 9
                    · rw [if_pos k9]
                      simp only [ms_nm, a4, g1, g2, a1, a2, c1, c2]
                      exact law_step (LW_waiting (xs (i + 1)) (xs (i + 2))) hG (rec := fun M3 => rec M3 (nI (i + 4))) hrec
                    · rw [if_neg k9]
                      by_cases k10 : k = 10
                      · rw [if_pos k10]
                        simp only [ms_nm, a4, g1, g2, a1, a2, c1, c2]
                        exact law_step (LW_event (xs (i + 1)) (xs (i + 2))) hG (rec := fun M3 => rec M3 (nI (i + 4))) hrec
                      · rw [if_neg k10]
                        by_cases k11 : k = 11
                        · rw [if_pos k11]
                          simp only [ms_nm, a4, g1, g2, a1, a2, c1, c2]
                          exact law_step (LW_leaf (xs (i + 1)) (xs (i + 2))) hG (rec := fun M3 => rec M3 (nI (i + 4))) hrec
                        · rw [if_neg k11]
                          by_cases k12 : k = 12
                          · rw [if_pos k12]
                            simp only [ms_nm, a4, g1, a1, c1]
                            exact law_step (LW_whole (xs (i + 1))) hG (rec := fun M3 => rec M3 (nI (i + 4))) hrec
                          · rw [if_neg k12]
                            by_cases k13 : k = 13
                            · rw [if_pos k13]
                              simp only [ms_nm, a4, g1, g2, g3, a1, a2, a3, c1, c2, c3]
                              exact law_step (LW_wouldReach (xs (i + 1)) (xs (i + 2)) (xs (i + 3))) hG (rec := fun M3 => rec M3 (nI (i + 4))) hrec
                            · rw [if_neg k13]
                              by_cases k14 : k = 14
                              · rw [if_pos k14]
                                simp only [ms_nm, a4, g1, g2, g3, a1, a2, a3, c1, c2, c3]
                                exact law_step (LW_reason (xs (i + 1)) (xs (i + 2)) (xs (i + 3))) hG (rec := fun M3 => rec M3 (nI (i + 4))) hrec
                              · rw [if_neg k14]
                                by_cases k15 : k = 15
                                · rw [if_pos k15]
                                  simp only [ms_nm, a4, g1, a1, c1]
                                  exact law_step (LW_servedIn (xs (i + 1))) hG (rec := fun M3 => rec M3 (nI (i + 4))) hrec
                                · rw [if_neg k15]
                                  by_cases k16 : k = 16
                                  · rw [if_pos k16]
                                    simp only [ms_nm, a4, g1, a1, c1]
                                    exact law_step (LW_emptyIn (xs (i + 1))) hG (rec := fun M3 => rec M3 (nI (i + 4))) hrec
                                  · rw [if_neg k16]
                                    by_cases k17 : k = 17
                                    · rw [if_pos k17]
                                      simp only [ms_nm, a4, g1, a1, c1]
                                      exact law_step (LW_covered (xs (i + 1))) hG (rec := fun M3 => rec M3 (nI (i + 4))) hrec
                                    · rw [if_neg k17]
                                      by_cases k18 : k = 18
                                      · rw [if_pos k18]
                                        obtain ⟨v, M3, e1, e2, e3⟩ := LW_busiest hG
                                        rw [e1, ms_b1, e2, ms_b2, if_pos rfl, ms_nm, a4]
                                        exact hrec M3 e3
                                      · rw [if_neg k18]
                                        by_cases k19 : k = 19
                                        · rw [if_pos k19]
                                          simp only [ms_nm, a4, g1, a1, c1]
                                          exact law_step (LW_type (xs (i + 1))) hG (rec := fun M3 => rec M3 (nI (i + 4))) hrec
                                        · rw [if_neg k19]
                                          by_cases k20 : k = 20
                                          · rw [if_pos k20]
                                            obtain ⟨M2, v, M3, e1, e2, e3⟩ := LW_clear hG
                                            rw [e1, ms_b2, e2, ms_b2, if_pos rfl, ms_nm, a4]
                                            exact hrec M3 e3
                                          · rw [if_neg k20]
                                            by_cases k21 : k = 21
                                            · rw [if_pos k21]
                                              obtain ⟨M2, v, M3, e1, e2, e3⟩ := LW_run hG
                                              rw [e1, ms_b2, e2, ms_b2, if_pos rfl, ms_nm, a4]
                                              exact hrec M3 e3
                                            · rw [if_neg k21]
                                              by_cases k22 : k = 22
                                              · rw [if_pos k22]
                                                simp only [ms_nm, a4]
                                                exact law_step (LW_undo) hG (rec := fun M3 => rec M3 (nI (i + 4))) hrec
                                              · rw [if_neg k22]
                                                by_cases k23 : k = 23
                                                · rw [if_pos k23]
                                                  obtain ⟨q, M3, e1, e2, e3⟩ := LW_digest hG
                                                  rw [e1, ms_b1, e2, ms_b2, lg_same, if_pos rfl, ms_nm, a4]
                                                  exact hrec M3 e3
                                                · rw [if_neg k23]
                                                  rw [ms_nm, a4]
                                                  exact hrec M hG
theorem law_run (xs : Nat → Int32) (L : Nat) (hL : L ≤ 2048) : ∀ f (M : ce_M) i, GI M → i ≤ L + 4 → L < i + 4 * (f + 1) → ce_lp2 (f_L_law_L23 xs L) (f + 1) M (nI i) = some () := by
  intro f
  induction f with
  | zero =>
    intro M i hG hi hf
    show f_L_law_L23 xs L _ M (nI i) = _
    unfold f_L_law_L23
    rw [if_pos]
    by_cases c : 4 ≤ L
    · rw [show Int32.ofNat L - 4 = nI (L - 4) from ms_sub (b := 4) (by omega)]
      exact nI_lt (by omega) (by omega)
    · exact Int32.lt_of_lt_of_le ((by decide : ∀ L, L < 4 → Int32.ofNat L - 4 < 0) L (by omega)) (nI_pos' (by omega))
  | succ f ih =>
    intro M i hG hi hf
    by_cases s : i + 4 ≤ L
    · exact law_body s hL hG (rec := ce_lp2 (f_L_law_L23 xs L) (f + 1)) (fun M3 h3 => ih M3 (i + 4) h3 (by omega) (by omega))
    · show f_L_law_L23 xs L _ M (nI i) = _
      unfold f_L_law_L23
      rw [if_pos]
      by_cases c : 4 ≤ L
      · rw [show Int32.ofNat L - 4 = nI (L - 4) from ms_sub (b := 4) (by omega)]
        exact nI_lt (by omega) (by omega)
      · exact Int32.lt_of_lt_of_le ((by decide : ∀ L, L < 4 → Int32.ofNat L - 4 < 0) L (by omega)) (nI_pos' (by omega))
theorem law_pure (xs : Nat → Int32) (L : Nat) (hL : L ≤ 2048) : ce_lp2 (f_L_law_L23 xs L) 600 ce_M0 0 = some () := law_run xs L hL 599 ce_M0 0 gi_start (by omega) (by omega)
