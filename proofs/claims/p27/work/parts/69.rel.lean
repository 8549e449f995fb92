/-! another level -/
theorem cs_p7 (w : Nat) (M : ce_M) (x y z : Int32) : f_X6_perform w M 7 x y z = ce_gi x 8 (ce_nm ((w + 2) + (10 + 7 * (Int32.toNatClampNeg x))) (fun (k36 : Nat) => ce_b2 (f_X4_relevel k36 M y) (fun (M39 : ce_M) (x40 : Int32) => some (M39, x40)))) := by
  unfold f_X6_perform
  rw [if_neg (by decide), if_neg (by decide), if_neg (by decide), if_neg (by decide), if_neg (by decide), if_neg (by decide), if_neg (by decide), if_pos rfl]
def sp_rl (σ : Nat → Int32) (a l : Nat) : Nat → Int32 := upd σ (24 + 54 * a + 1) (nI l)
theorem ms_IN_rl {σ : Nat → Int32} {t n en a l : Nat} (hI : ms_IN σ t n en) (ha : a < n) (hl : l < 3) : ms_IN (sp_rl σ a l) t n en := by
  have hI0 := hI
  obtain ⟨I0, I1, I1', I2, I2', I3, I4, I5, I6, I7, I8, I9, I10⟩ := hI
  have ha8 : a < 8 := by omega
  obtain ⟨so, le, po, ca, se, th, wz, c, i0, i0', i1, i1', i2, i2', i3, i3', i4, i4', i5, i5', i6, i6', i11, i11', iw, ip, ib, ix, is⟩ := I7 a ha8
  have p : ∀ j, j ≠ 24 + 54 * a + 1 → sp_rl σ a l j = σ j := fun j h => ms_u2 h
  refine ms_IN_one hI0 ha ⟨so, l, po, ca, se, th, wz, c, by rw [p _ (by omega)]; exact i0, i0', ms_u1 rfl, hl, by rw [p _ (by omega)]; exact i2, i2', by rw [p _ (by omega)]; exact i3, i3', by rw [p _ (by omega)]; exact i4, i4', by rw [p _ (by omega)]; exact i5, i5', by rw [p _ (by omega)]; exact i6, i6', by rw [p _ (by omega)]; exact i11, i11', iw, ip, fun i hi => by rw [p _ (by omega)]; exact ib i hi, fun i j h1 h2 => by rw [p _ (by omega), p _ (by omega)]; exact ix i j h1 h2, fun j hj => by rw [p _ (by omega)]; exact is j hj⟩ (by rw [p _ (by omega)]; exact I8 a ha) (fun j hj => p j (by omega)) (fun b hb hne j hj => p _ (by omega)) (fun e he k hk => Or.inr (p _ (by omega)))
theorem cs_rel {M : ce_M} {w t n en a l : Nat} {σ : Nat → Int32} (hR : ms_WR M w σ) (hI : ms_IN σ t n en) (ha : a < n) (z : Int32) : ∃ M', f_X6_perform w M 7 (nI a) (nI l) z = some (M', σ (24 + 54 * a + 1)) ∧ ms_WR M' w (sp_rl σ a l) ∧ ms_fr w (w + 68) M M' := by
  have hR0 := hR
  obtain ⟨R0, R1, R2, R3, R4, R5, R6, R7, R8⟩ := hR
  obtain ⟨I0, I1, I1', I2, I2', I3, I4, I5, I6, I7, I8, I9, I10⟩ := hI
  have ha8 : a < 8 := by omega
  have hS := R5 a ha8
  obtain ⟨r0, r1, r2, r3, r4, r5, r6, r7, r8, r9, r10, r11, r12, r13, r14⟩ := hS
  have p : ∀ j, j ≠ 24 + 54 * a + 1 → sp_rl σ a l j = σ j := fun j h => ms_u2 h
  refine ⟨ce_wr M (w + 2 + (10 + 7 * a)) 3 (nI l), ?_, ?_, ms_fr_w (by omega) (by omega)⟩
  · rw [cs_p7, ms_gi ha8 (by omega), nI_clamp (show a < 2 ^ 31 by omega), ms_nm]
    unfold f_X4_relevel
    rw [r1]
    rfl
  · refine cs_WR_one hR0 ha8 (ms_fr_w (by omega) (by omega)) (cs_F3 ha8 (R5 a ha8) (nI l)) (fun j hj => p _ (by omega)) (fun l hl => p _ (by omega)) (fun b hb hne j hj => p _ (by omega)) (fun e he k hk => p _ (by omega)) ?_ (fun m q1 q2 => Or.inr (ms_rw3 (by omega)))
    rw [p 7 (by omega), ← R7]
    exact sp_lost_eq 8 (fun b hb => ms_rw3 (by omega))
theorem cs_rel0 {M : ce_M} {w n : Nat} {x y : Int32} (hn : ce_rd M w 5 = nI n) (hn8 : n ≤ 8) : f_X6_againstRelevelling w M x y = some 1 ∧ ms_bad x n ∨ (∃ a, a < n ∧ x = nI a) ∧ (f_X6_againstRelevelling w M x y = some 2 ∧ ms_bad y 3 ∨ f_X6_againstRelevelling w M x y = some 0 ∧ ∃ l, l < 3 ∧ y = nI l) := by
  unfold f_X6_againstRelevelling
  rcases ms_ix x n with hx | ⟨a, ha, rfl⟩
  · exact Or.inl ⟨by rw [cs_sub_n hn hx]; rfl, hx⟩
  · refine Or.inr ⟨⟨a, ha, rfl⟩, ?_⟩
    rw [cs_sub_y hn hn8 ha, ms_b1, if_neg (by decide)]
    rcases ms_ix y 3 with hy | ⟨l, hl, rfl⟩
    · exact Or.inl ⟨by rw [show f_X7_isBelow M y 3 = some 0 from cs_below_n M hy]; rfl, hy⟩
    · exact Or.inr ⟨by rw [show f_X7_isBelow M (nI l) 3 = some 1 from cs_below_y (n := 3) M hl (by omega)]; rfl, l, hl, rfl⟩
