/-! the actions: what stands against one, and what it does -/
def ms_IT (T : Nat) (σ : Nat → Int32) : Prop := ∃ t n en, t ≤ T ∧ ms_IN σ t n en
def ms_MF (Mm M2 : ce_M) (r : Int32) : Prop := M2.2 = Mm.2 ∧ (∀ q, q ≠ 414 → q ≠ 418 → ce_rd M2 q = ce_rd Mm q) ∧ ce_rd M2 414 5 = r ∧ (∀ j, j ≠ 5 → ce_rd M2 414 j = ce_rd Mm 414 j)
theorem ms_MF_w (Mm : ce_M) (r : Int32) : ms_MF Mm (ce_wr Mm 414 5 r) r := ⟨rfl, fun q h _ => ms_row h, ms_rw1 rfl rfl, fun j h => ms_rw3 h⟩
def ms_OK (T : Nat) (M : ce_M) (w : Nat) (σ : Nat → Int32) (C : Option Int32) (P : Option (ce_M × Int32)) (G : ce_M → Option (ce_M × Int32)) (cd : Int32 → Int32 → Prop) : Prop := (∃ ca cm, cd ca cm ∧ C = some ca ∧ ∀ Mm, G (ms_S Mm σ) = some (ms_S Mm σ, cm)) ∨ (C = some 0 ∧ ∃ τ r M', ms_IT T τ ∧ P = some (M', r) ∧ ms_WR M' w τ ∧ ms_fr w (w + 68) M M' ∧ ∀ Mm, ∃ M2, G (ms_S Mm σ) = some (ms_S M2 τ, 0) ∧ ms_MF Mm M2 r)
def ms_bad (x : Int32) (n : Nat) : Prop := x < 0 ∨ ∃ j, j < 2 ^ 31 ∧ n ≤ j ∧ x = nI j
theorem ms_ix (x : Int32) (n : Nat) : ms_bad x n ∨ ∃ j, j < n ∧ x = nI j := by
  by_cases h : x < 0
  · exact Or.inl (Or.inl h)
  · obtain ⟨j, hj, e⟩ := nI_of h
    by_cases c : j < n
    · exact Or.inr ⟨j, c, e⟩
    · exact Or.inl (Or.inr ⟨j, hj, by omega, e⟩)
theorem cs_below_n (M : ce_M) {x : Int32} {n : Nat} (h : ms_bad x n) : f_X7_isBelow M x (nI n) = some 0 := by
  unfold f_X7_isBelow
  rcases h with h | ⟨j, h1, h2, rfl⟩
  · rw [if_pos h]
  · by_cases c : nI j < 0
    · rw [if_pos c]
    · rw [if_neg c, if_pos (nI_le h2 h1)]
theorem cs_below_y (M : ce_M) {j n : Nat} (h : j < n) (hn : n < 2 ^ 31) : f_X7_isBelow M (nI j) (nI n) = some 1 := by
  unfold f_X7_isBelow
  rw [if_neg (nI_pos (by omega)), if_neg (nI_ge h hn)]
theorem ms_in_n (M : ce_M) {x : Int32} {m : Nat} (h : ms_bad x (m + 1)) : f_X8_in M x 0 (nI m) = some 0 := by
  unfold f_X8_in
  rcases h with h | ⟨j, h1, h2, rfl⟩
  · rw [if_pos h]
  · by_cases c : nI j < 0
    · rw [if_pos c]
    · rw [if_neg c, if_pos (nI_lt (show m < j by omega) h1)]
theorem ms_in_y (M : ce_M) {j m : Nat} (h : j < m + 1) (hn : m < 2 ^ 31) : f_X8_in M (nI j) 0 (nI m) = some 1 := by
  unfold f_X8_in
  rw [if_neg (nI_pos (by omega)), if_neg (nI_nlt (show j ≤ m by omega) hn)]
theorem ms_leaf_n (M : ce_M) {x : Int32} (h : ms_bad x 16) : f_X8_isLeaf M x = some 0 := by
  unfold f_X8_isLeaf
  rw [show f_X8_in M x 0 15 = some 0 from ms_in_n M h]
  rfl
theorem ms_leaf_y (M : ce_M) {j : Nat} (h : j < 16) : f_X8_isLeaf M (nI j) = some 1 := by
  unfold f_X8_isLeaf
  rw [show f_X8_in M (nI j) 0 15 = some 1 from ms_in_y (m := 15) M h (by omega)]
  rfl
theorem ms_level_n (M : ce_M) {x : Int32} (h : ms_bad x 3) : f_X8_isLevel M x = some 0 := by
  unfold f_X8_isLevel
  rw [show f_X8_in M x 0 2 = some 0 from ms_in_n M h]
  rfl
theorem ms_level_y (M : ce_M) {j : Nat} (h : j < 3) : f_X8_isLevel M (nI j) = some 1 := by
  unfold f_X8_isLevel
  rw [show f_X8_in M (nI j) 0 2 = some 1 from ms_in_y (m := 2) M h (by omega)]
  rfl
theorem ms_one_n (M : ce_M) {σ : Nat → Int32} {x : Int32} {n : Nat} (hn : σ 1 = nI n) (hn8 : n ≤ 8) (h : ms_bad x n) : f_X8_isOne 414 (ms_S M σ) x = some 0 := by
  unfold f_X8_isOne
  have q : f_X8_in (ms_S M σ) x 0 (nI n - 1) = some 0 := by
    by_cases c : n = 0
    · subst c
      unfold f_X8_in
      by_cases c0 : x < 0
      · rw [if_pos c0]
      · obtain ⟨j, hj, rfl⟩ := nI_of c0
        have q3 : nI 0 - 1 < nI j := by
          refine Int32.not_le.mp (fun q4 => ?_)
          have q5 : (nI j).toInt ≤ (nI 0 - 1 : Int32).toInt := Int32.le_iff_toInt_le.mp q4
          rw [nI_toInt hj, show (nI 0 - 1 : Int32).toInt = -1 from by decide] at q5
          omega
        rw [if_neg c0, if_pos q3]
    · obtain ⟨m, rfl⟩ : ∃ m, n = m + 1 := ⟨n - 1, by omega⟩
      rw [nI_pred]
      exact ms_in_n _ h
  rw [show ∀ K : Option Int32, ce_gi 1 816 K = K from fun K => ms_gi (n := 1) (by omega) (by omega), show ce_rd (ms_S M σ) (414 + 1) (Int32.toNatClampNeg 1) = nI n from hn, ms_nm, q]
  rfl
theorem ms_one_y (M : ce_M) {σ : Nat → Int32} {j n : Nat} (hn : σ 1 = nI n) (hn8 : n ≤ 8) (h : j < n) : f_X8_isOne 414 (ms_S M σ) (nI j) = some 1 := by
  unfold f_X8_isOne
  have q : f_X8_in (ms_S M σ) (nI j) 0 (nI n - 1) = some 1 := by
    obtain ⟨m, rfl⟩ : ∃ m, n = m + 1 := ⟨n - 1, by omega⟩
    rw [nI_pred]
    exact ms_in_y _ h (by omega)
  rw [show ∀ K : Option Int32, ce_gi 1 816 K = K from fun K => ms_gi (n := 1) (by omega) (by omega), show ce_rd (ms_S M σ) (414 + 1) (Int32.toNatClampNeg 1) = nI n from hn, ms_nm, q]
  rfl
theorem cs_sub_n {M : ce_M} {w : Nat} {x : Int32} {n : Nat} (hn : ce_rd M w 5 = nI n) (h : ms_bad x n) : f_X6_isSubscriber w M x = some 0 := by
  unfold f_X6_isSubscriber
  rw [hn, cs_below_n M h]
  rfl
theorem cs_sub_y {M : ce_M} {w : Nat} {j n : Nat} (hn : ce_rd M w 5 = nI n) (hn8 : n ≤ 8) (h : j < n) : f_X6_isSubscriber w M (nI j) = some 1 := by
  unfold f_X6_isSubscriber
  rw [hn, cs_below_y M h (by omega)]
  rfl
theorem cs_p1 (w : Nat) (M : ce_M) (x y z : Int32) : f_X6_perform w M 1 x y z = ce_gi x 8 (ce_nm ((w + 2) + (10 + 7 * (Int32.toNatClampNeg x))) (fun (k6 : Nat) => ce_b2 (f_X4_goTo k6 M y (ce_rd M w 6)) (fun (M9 : ce_M) (x10 : Int32) => some (M9, x10)))) := by
  unfold f_X6_perform
  rw [if_neg (by decide), if_pos rfl]
def sp_go (σ : Nat → Int32) (a : Nat) (y : Int32) : Nat → Int32 := upd (upd σ (24 + 54 * a + 2) y) (24 + 54 * a + 3) (σ 0)
theorem act_go {T t n en w : Nat} {M : ce_M} {σ : Nat → Int32} (hR : ms_WR M w σ) (hI : ms_IN σ t n en) (ht : t ≤ T) (x y z : Int32) : ms_OK T M w σ (f_X6_againstMoving w M x y) (f_X6_perform w M 1 x y z) (fun Mm => f_X8_goes 414 Mm x y) (fun ca cm => (ca = 1 ∧ cm = 1) ∨ (ca = 3 ∧ cm = 2)) := by
  have hI0 := hI
  have hR0 := hR
  obtain ⟨R0, R1, R2, R3, R4, R5, R6, R7, R8⟩ := hR
  obtain ⟨I0, I1, I1', I2, I2', I3, I4, I5, I6, I7, I8, I9, I10⟩ := hI
  have hn : ce_rd M w 5 = nI n := R1.trans I1
  unfold f_X6_againstMoving f_X8_goes
  rcases ms_ix x n with hx | ⟨a, ha, rfl⟩
  · refine Or.inl ⟨1, 1, Or.inl ⟨rfl, rfl⟩, ?_, fun Mm => ?_⟩
    · rw [cs_sub_n hn hx]; rfl
    · show ce_b1 (f_X8_isOne 414 (ms_S Mm σ) x) _ = _
      rw [ms_one_n Mm I1 I1' hx]; rfl
  · have ha8 : a < 8 := by omega
    rcases ms_ix y 16 with hy | ⟨l, hl, rfl⟩
    · refine Or.inl ⟨1, 1, Or.inl ⟨rfl, rfl⟩, ?_, fun Mm => ?_⟩
      · rw [cs_sub_y hn I1' ha, ms_b1, if_neg (by decide), show f_X7_isBelow M y 16 = some 0 from cs_below_n M hy]; rfl
      · show ce_b1 (f_X8_isOne 414 (ms_S Mm σ) (nI a)) _ = _
        rw [ms_one_y Mm I1 I1' ha, ms_b1, if_neg (by decide), ms_leaf_n _ hy]; rfl
    · have hS0 := R5 a ha8
      have hS := R5 a ha8
      obtain ⟨r0, r1, r2, r3, r4, r5, r6, r7, r8, r9, r10, r11, r12, r13, r14⟩ := hS
      obtain ⟨so, le, po, ca, se, th, wz, c, i0, i0', i1, i1', i2, i2', i3, i3', i4, i4', i5, i5', i6, i6', i11, i11', iw, ip, ib, ix, is⟩ := I7 a ha8
      have eC : (ce_b1 (f_X6_isSubscriber w M (nI a)) (fun (x1 : Int32) => if x1 = 0 then some 1 else ce_b1 (f_X7_isBelow M (nI l) 16) (fun (x4 : Int32) => if x4 = 0 then some 1 else ce_gi (nI a) 8 (ce_nm ((w + 2) + (10 + 7 * (Int32.toNatClampNeg (nI a)))) (fun (k7 : Nat) => ce_b1 (f_X4_canGoTo k7 M (nI l)) (fun (x10 : Int32) => if x10 = 0 then some 3 else some 0)))))) = ce_b1 (f_X4_canGoTo (w + 2 + (10 + 7 * a)) M (nI l)) (fun (x10 : Int32) => if x10 = 0 then some (3 : Int32) else some 0) := by
        rw [cs_sub_y hn I1' ha, ms_b1, if_neg (by decide), show f_X7_isBelow M (nI l) 16 = some 1 from cs_below_y (n := 16) M hl (by omega), ms_b1, if_neg (by decide), ms_gi ha8 (by omega), nI_clamp (show a < 2 ^ 31 by omega), ms_nm]
      rw [eC]
      unfold f_X4_canGoTo
      rw [r5, r0, r2, i5, i0, i2]
      have eM : ∀ Mm : ce_M, (ce_b1 (f_X8_isOne 414 (ms_S Mm σ) (nI a)) (fun (x1 : Int32) => if x1 = 0 then some (ms_S Mm σ, (1 : Int32)) else ce_b1 (f_X8_isLeaf (ms_S Mm σ) (nI l)) (fun (x4 : Int32) => if x4 = 0 then some (ms_S Mm σ, 1) else ce_b1 (f_X8_of 414 (ms_S Mm σ) (nI a) 5) (fun (x7 : Int32) => if x7 = 0 then some (ms_S Mm σ, 2) else ce_b1 (f_X8_of 414 (ms_S Mm σ) (nI a) 0) (fun (x10 : Int32) => if x10 = 2 then some (ms_S Mm σ, 2) else ce_b1 (f_X8_of 414 (ms_S Mm σ) (nI a) 2) (fun (x13 : Int32) => if x13 = (nI l) then some (ms_S Mm σ, 2) else ce_b1 (f_X8_of 414 (ms_S Mm σ) (nI a) 2) (fun (x16 : Int32) => ce_nm (ce_wr (ms_S Mm σ) 414 5 x16) (fun (M18 : ce_M) => ce_b1 (f_X8_put 414 M18 (nI a) 2 (nI l)) (fun (M20 : ce_M) => ce_gi 0 816 (ce_nm (ce_rd M20 (414 + 1) (Int32.toNatClampNeg 0)) (fun (x22 : Int32) => ce_b1 (f_X8_put 414 M20 (nI a) 3 x22) (fun (M25 : ce_M) => some (M25, 0))))))))))))) = if nI th = nI 0 then some (ms_S Mm σ, 2) else if nI so = nI 2 then some (ms_S Mm σ, 2) else if nI po = nI l then some (ms_S Mm σ, 2) else some (ms_S (ce_wr Mm 414 5 (nI po)) (sp_go σ a (nI l)), 0) := fun Mm => by
        rw [ms_one_y Mm I1 I1' ha, ms_b1, if_neg (by decide), ms_leaf_y _ hl, ms_b1, if_neg (by decide)]
        simp only [ms_lit, ms_of Mm σ ha8 (show 5 < 54 by omega), ms_of Mm σ ha8 (show 0 < 54 by omega), ms_of Mm σ ha8 (show 2 < 54 by omega), ms_b1, i5, i0, i2, ms_wr' Mm σ (show (414 : Nat) ≠ 415 by omega), ms_put _ _ ha8 (show 2 < 54 by omega), ms_put _ _ ha8 (show 3 < 54 by omega), ms_gi (show 0 < 816 by omega) (show 816 < 2 ^ 31 by omega), nI_clamp (show 0 < 2 ^ 31 by omega), ms_rd1, ms_nm]
        rw [ms_u2 (show 0 ≠ 24 + 54 * a + 2 by omega)]
        rfl
      by_cases c1 : nI th = nI 0
      · exact Or.inl ⟨3, 2, Or.inr ⟨rfl, rfl⟩, by rw [if_pos (show nI th = 0 from c1)]; rfl, fun Mm => (eM Mm).trans (if_pos c1)⟩
      · by_cases c2 : nI so = nI 2
        · exact Or.inl ⟨3, 2, Or.inr ⟨rfl, rfl⟩, by rw [if_neg (show ¬ nI th = 0 from c1), if_pos (show nI so = 2 from c2)]; rfl, fun Mm => (eM Mm).trans (by rw [if_neg c1, if_pos c2])⟩
        · by_cases c3 : nI po = nI l
          · exact Or.inl ⟨3, 2, Or.inr ⟨rfl, rfl⟩, by rw [if_neg (show ¬ nI th = 0 from c1), if_neg (show ¬ nI so = 2 from c2), if_pos c3]; rfl, fun Mm => (eM Mm).trans (by rw [if_neg c1, if_neg c2, if_pos c3])⟩
          · refine Or.inr ⟨by rw [if_neg (show ¬ nI th = 0 from c1), if_neg (show ¬ nI so = 2 from c2), if_neg c3]; rfl, sp_go σ a (nI l), nI po, ce_wr (ce_wr M (w + 2 + (10 + 7 * a)) 4 (nI l)) (w + 2 + (10 + 7 * a)) 5 (σ 0), ⟨t, n, en, ht, ?_⟩, ?_, ?_, ?_, fun Mm => ⟨_, (eM Mm).trans (by rw [if_neg c1, if_neg c2, if_neg c3]), ms_MF_w Mm _⟩⟩
            · have p : ∀ j, j ≠ 24 + 54 * a + 2 → j ≠ 24 + 54 * a + 3 → sp_go σ a (nI l) j = σ j := fun j q1 q2 => by
                unfold sp_go
                rw [ms_u2 q2, ms_u2 q1]
              refine ms_IN_one hI0 ha ⟨so, le, l, t, se, th, wz, c, by rw [p _ (by omega) (by omega)]; exact i0, i0', by rw [p _ (by omega) (by omega)]; exact i1, i1', by unfold sp_go; rw [ms_u2 (by omega), ms_u1 rfl], hl, by unfold sp_go; rw [ms_u1 rfl]; exact I0, by omega, by rw [p _ (by omega) (by omega)]; exact i4, i4', by rw [p _ (by omega) (by omega)]; exact i5, i5', by rw [p _ (by omega) (by omega)]; exact i6, i6', by rw [p _ (by omega) (by omega)]; exact i11, i11', iw, fun q => absurd (by rw [q]) c2, fun i hi => by rw [p _ (by omega) (by omega)]; exact ib i hi, fun i j q1 q2 => by rw [p _ (by omega) (by omega), p _ (by omega) (by omega)]; exact ix i j q1 q2, fun j hj => by rw [p _ (by omega) (by omega)]; exact is j hj⟩ (by rw [p _ (by omega) (by omega)]; exact I8 a ha) (fun j hj => p _ (by omega) (by omega)) (fun b hb hne j hj => p _ (by omega) (by omega)) (fun e he k hk => Or.inr (p _ (by omega) (by omega)))
            · rw [cs_p1, ms_gi ha8 (by omega), nI_clamp (show a < 2 ^ 31 by omega), ms_nm]
              unfold f_X4_goTo
              rw [r2, i2, R0]
              rfl
            · have p : ∀ j, j ≠ 24 + 54 * a + 2 → j ≠ 24 + 54 * a + 3 → sp_go σ a (nI l) j = σ j := fun j q1 q2 => by
                unfold sp_go
                rw [ms_u2 q2, ms_u2 q1]
              refine cs_WR_one hR0 ha8 (ms_fr_t (ms_fr_w (by omega) (by omega)) (ms_fr_w (by omega) (by omega))) (cs_F5 ha8 (cs_F4 ha8 hS0 (nI l)) (σ 0)) (fun j hj => p _ (by omega) (by omega)) (fun l hl => p _ (by omega) (by omega)) (fun b hb hne j hj => p _ (by omega) (by omega)) (fun e he k hk => p _ (by omega) (by omega)) ?_ (fun m q1 q2 => Or.inr (by rw [ms_rw3 (by omega), ms_rw3 (by omega)]))
              rw [p 7 (by omega) (by omega), ← R7]
              refine sp_lost_eq 8 (fun b hb => ?_)
              rw [ms_rw3 (by omega), ms_rw3 (by omega)]
            · exact ms_fr_t (ms_fr_w (by omega) (by omega)) (ms_fr_w (by omega) (by omega))
