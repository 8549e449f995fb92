/-! set -/
theorem cs_p5 (w : Nat) (M : ce_M) (x y z : Int32) : f_X6_perform w M 5 x y z = ce_b2 (f_X6_changeSetting w M x y) (fun (M28 : ce_M) (x29 : Int32) => some (M28, x29)) := by
  unfold f_X6_perform
  rw [if_neg (by decide), if_neg (by decide), if_neg (by decide), if_neg (by decide), if_neg (by decide), if_pos rfl]
def sp_lo (j : Nat) : Nat := if j = 1 then 1 else 0
def sp_hi (j : Nat) : Nat := if j = 3 then 20 else 9
theorem ms_sets_v (Mm : ce_M) {σ : Nat → Int32} {j : Nat} {y : Int32} (hj : j < 4) : f_X8_sets 414 (ms_S Mm σ) (nI j) y = if y < nI (sp_lo j) then some (ms_S Mm σ, 1) else if nI (sp_hi j) < y then some (ms_S Mm σ, 1) else some (ms_S (ce_wr Mm 414 5 (σ (3 + j))) (upd σ (3 + j) y), 0) := by
  unfold f_X8_sets
  rw [show f_X8_in (ms_S Mm σ) (nI j) 0 3 = some 1 from ms_in_y (m := 3) _ (by omega) (by omega), ms_b1, if_neg (by decide)]
  have h3 : 3 + j < 816 := by omega
  have g : f_X8_setting 414 (ms_S Mm σ) (nI j) = some (σ (3 + j)) := ms_set Mm σ hj
  have e1 : (if nI j = 3 then nI (sp_hi 3) else nI (sp_hi 0)) = nI (sp_hi j) := by
    rcases (by omega : j = 0 ∨ j = 1 ∨ j = 2 ∨ j = 3) with rfl | rfl | rfl | rfl <;> rfl
  have e2 : (if nI j = 1 then nI (sp_lo 1) else nI (sp_lo 0)) = nI (sp_lo j) := by
    rcases (by omega : j = 0 ∨ j = 1 ∨ j = 2 ∨ j = 3) with rfl | rfl | rfl | rfl <;> rfl
  simp only [ms_nm, g, ms_b1, ms_lit, nI_add, ms_gi h3 (show 816 < 2 ^ 31 by omega), nI_clamp (show 3 + j < 2 ^ 31 by omega), ms_wr' Mm σ (show (414 : Nat) ≠ 415 by omega), ms_wr1]
  unfold f_X8_in
  rcases (by omega : j = 0 ∨ j = 1 ∨ j = 2 ∨ j = 3) with rfl | rfl | rfl | rfl
  · by_cases q1 : y < nI 0 <;> by_cases q2 : nI 9 < y <;> simp [q1, q2, sp_lo, sp_hi, ms_b1, ms_10, ms_d03, ms_01, show (0 : Int32) = nI 0 from rfl, show (1 : Int32) = nI 1 from rfl]
  · by_cases q1 : y < nI 1 <;> by_cases q2 : nI 9 < y <;> simp [q1, q2, sp_lo, sp_hi, ms_b1, ms_10, show (nI 1 = nI 3) = False by decide, show (0 : Int32) = nI 0 from rfl, show (1 : Int32) = nI 1 from rfl]
  · by_cases q1 : y < nI 0 <;> by_cases q2 : nI 9 < y <;> simp [q1, q2, sp_lo, sp_hi, ms_b1, ms_10, ms_d23, show (nI 2 = nI 1) = False by decide, show (0 : Int32) = nI 0 from rfl, show (1 : Int32) = nI 1 from rfl]
  · by_cases q1 : y < nI 0 <;> by_cases q2 : nI 20 < y <;> simp [q1, q2, sp_lo, sp_hi, ms_b1, ms_10, show (nI 3 = nI 1) = False by decide, show (0 : Int32) = nI 0 from rfl, show (1 : Int32) = nI 1 from rfl]
theorem cs_setting_v {w j : Nat} {M : ce_M} {y : Int32} (hj : j < 4) : f_X6_againstSetting w M (nI j) y = if y < nI (sp_lo j) then some 2 else if nI (sp_hi j) < y then some 2 else some 0 := by
  unfold f_X6_againstSetting
  have e1 : ce_small j = nI (sp_lo j) := by
    rcases (by omega : j = 0 ∨ j = 1 ∨ j = 2 ∨ j = 3) with rfl | rfl | rfl | rfl <;> rfl
  have e2 : ce_large j = nI (sp_hi j) := by
    rcases (by omega : j = 0 ∨ j = 1 ∨ j = 2 ∨ j = 3) with rfl | rfl | rfl | rfl <;> rfl
  rw [show f_X7_isBelow M (nI j) 4 = some 1 from cs_below_y (n := 4) M hj (by omega), ms_b1, if_neg (by decide)]
  simp only [ms_gi (show j < 4 by omega) (show 4 < 2 ^ 31 by omega), nI_clamp (show j < 2 ^ 31 by omega), ms_nm, e1, e2]
  rfl
theorem act_set {T t n en w : Nat} {M : ce_M} {σ : Nat → Int32} (hR : ms_WR M w σ) (hI : ms_IN σ t n en) (ht : t ≤ T) (x y z : Int32) : ms_OK T M w σ (f_X6_againstSetting w M x y) (f_X6_perform w M 5 x y z) (fun Mm => f_X8_sets 414 Mm x y) (fun ca cm => ca = 2 ∧ cm = 1) := by
  obtain ⟨R0, R1, R2, R3, R4, R5, R6, R7, R8⟩ := hR
  obtain ⟨I0, I1, I1', I2, I2', I3, I4, I5, I6, I7, I8, I9, I10⟩ := hI
  rcases ms_ix x 4 with hx | ⟨j, hj, rfl⟩
  · refine Or.inl ⟨2, 1, ⟨rfl, rfl⟩, ?_, fun Mm => ?_⟩
    · unfold f_X6_againstSetting
      rw [show f_X7_isBelow M x 4 = some 0 from cs_below_n (n := 4) M hx]; rfl
    · show f_X8_sets 414 (ms_S Mm σ) x y = _
      unfold f_X8_sets
      rw [show f_X8_in (ms_S Mm σ) x 0 3 = some 0 from ms_in_n (m := 3) _ hx]; rfl
  · rw [cs_setting_v hj]
    by_cases q1 : y < nI (sp_lo j)
    · exact Or.inl ⟨2, 1, ⟨rfl, rfl⟩, if_pos q1, fun Mm => (ms_sets_v Mm hj).trans (if_pos q1)⟩
    · by_cases q2 : nI (sp_hi j) < y
      · exact Or.inl ⟨2, 1, ⟨rfl, rfl⟩, by rw [if_neg q1, if_pos q2], fun Mm => (ms_sets_v Mm hj).trans (by rw [if_neg q1, if_pos q2])⟩
      · have hlo : sp_lo j ≤ 1 := by unfold sp_lo; by_cases q : j = 1 <;> simp [q]
        have hhi : sp_hi j ≤ 20 := by unfold sp_hi; by_cases q : j = 3 <;> simp [q]
        have hy : ∃ v, sp_lo j ≤ v ∧ v ≤ sp_hi j ∧ y = nI v := by
          have hy0 : ¬ y < 0 := fun q => q1 (Int32.lt_of_lt_of_le q (nI_pos' (by omega)))
          obtain ⟨v, hv, rfl⟩ := nI_of hy0
          exact ⟨v, Nat.le_of_not_lt (fun q => q1 (nI_lt q (by omega))), Nat.le_of_not_lt (fun q => q2 (nI_lt q hv)), rfl⟩
        obtain ⟨v, v1, v2, rfl⟩ := hy
        have p : ∀ i, i ≠ 3 + j → upd σ (3 + j) (nI v) i = σ i := fun i q => ms_u2 q
        refine Or.inr ⟨by rw [if_neg q1, if_neg q2], upd σ (3 + j) (nI v), σ (3 + j), ce_wr M (w + 1) j (nI v), ⟨t, n, en, ht, ?_⟩, ?_, ?_, ms_fr_w (by omega) (by omega), fun Mm => ⟨_, (ms_sets_v Mm hj).trans (by rw [if_neg q1, if_neg q2]), ms_MF_w Mm _⟩⟩
        · refine ⟨by rw [p _ (by omega)]; exact I0, by rw [p _ (by omega)]; exact I1, I1', by rw [p _ (by omega)]; exact I2, I2', ?_, ?_, ?_, ?_, fun a ha => ms_SI_cg (I7 a ha) (fun k hk => p _ (by omega)), fun a ha => by rw [p _ (by omega)]; exact I8 a ha, fun a h1 h2 k hk => by rw [p _ (by omega)]; exact I9 a h1 h2 k hk, fun e h1 h2 k hk => by rw [p _ (by omega)]; exact I10 e h1 h2 k hk⟩
          · by_cases q : j = 0
            · subst q; exact ⟨v, v2, ms_u1 rfl⟩
            · rw [p _ (by omega)]; exact I3
          · by_cases q : j = 1
            · subst q; exact ⟨v, v1, v2, ms_u1 rfl⟩
            · rw [p _ (by omega)]; exact I4
          · by_cases q : j = 2
            · subst q; exact ⟨v, v2, ms_u1 rfl⟩
            · rw [p _ (by omega)]; exact I5
          · by_cases q : j = 3
            · subst q; exact ⟨v, v2, ms_u1 rfl⟩
            · rw [p _ (by omega)]; exact I6
        · rw [cs_p5]
          unfold f_X6_changeSetting
          simp only [ms_gi (show j < 4 by omega) (show 4 < 2 ^ 31 by omega), nI_clamp (show j < 2 ^ 31 by omega), ms_nm, R3 j hj, ms_b2]
        · refine ⟨by rw [ms_row (by omega), p _ (by omega)]; exact R0, by rw [ms_row (by omega), p _ (by omega)]; exact R1, by rw [ms_row (by omega), p _ (by omega)]; exact R2, fun i hi => ?_, fun l hl => by rw [ms_row (by omega), p _ (by omega)]; exact R4 l hl, fun a ha => ms_SR_fr (R5 a ha) (fun q h1 h2 => ms_row (by omega)) (fun k hk => p _ (by omega)) (sp_rt_eq 60 (fun e he => p _ (by omega))), fun e he => ?_, ?_, fun m h1 h2 a h3 h4 => ?_⟩
          · by_cases q : i = j
            · rw [ms_rw1 rfl q, q, ms_u1 rfl]
            · rw [ms_rw3 q, p _ (by omega)]; exact R3 i hi
          · rw [ms_row (by omega), ms_row (by omega), ms_row (by omega), ms_row (by omega), ms_row (by omega), ms_row (by omega), p _ (by omega), p _ (by omega), p _ (by omega), p _ (by omega), p _ (by omega), p _ (by omega)]
            exact R6 e he
          · rw [p _ (by omega), ← R7]
            exact sp_lost_eq 8 (fun b hb => congrFun (ms_row (by omega)) 11)
          · rw [p _ (by omega)] at h1
            rw [ms_row (by omega)]; exact R8 m h1 h2 a h3 h4
