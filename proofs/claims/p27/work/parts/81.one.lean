/-! one subscriber fits: the loops -/
theorem q_lt_m1 {j : Nat} (h : j < 2 ^ 31) : ¬ nI j ≤ (-1 : Int32) := fun q => by
  have := Int32.le_iff_toInt_le.mp q
  rw [nI_toInt h, show (-1 : Int32).toInt = -1 from by decide] at this
  omega
theorem q_tail5 {σ : Nat → Int32} {a en : Nat} (h : ∀ e, en ≤ e → e < 60 → ∀ k, k < 6 → σ (456 + 6 * e + k) = nI 0) : ∀ m, en + m ≤ 60 → q_dt σ a (en + m) = q_dt σ a en
  | 0, _ => rfl
  | m + 1, q => by
    show q_dt σ a (en + m) + sp_bit (σ (456 + 6 * (en + m) + 5)) a = _
    rw [q_tail5 h m (by omega), h (en + m) (by omega) (by omega) 5 (by omega), q_bit0, ms_add0]
theorem q_o175 {M : ce_M} {σ : Nat → Int32} {ps : List (Nat → Int32)} {t n en a c U : Nat} {G : Nat → Nat} (hS : q_S M σ ps) (hI : ms_IN σ t n en) (ha : a < n) (i11 : σ (24 + 54 * a + 11) = nI c) (hc : c ≤ 10) (ht : t ≤ 9999) (hU : U ≤ t) (hl : ∀ k, k < c → ∃ l, l < 16 ∧ sp_st σ a c k 0 = nI l) (g1 : ∀ k, k < c → sp_st σ a c k 1 = nI (G k)) (g2 : ∀ k, k + 1 < c → G (k + 1) ≤ G k ∧ sp_st σ a c (k + 1) 2 = nI (G k)) (g4 : G 0 ≤ U) (u : Int32 → Int32 → Option Int32) : ce_lp4 (f_L_isOne_L175 M 0 (nI a) u) ce_FU 1 (nI U) 0 0 = u 1 (nI c) := by
  have hG : ∀ k, k < c → G k ≤ t := fun k => by
    induction k with
    | zero => intro _; omega
    | succ k ih => intro h; have := ih (by omega); have := (g2 k h).1; omega
  have s0 : ∀ k, f0_L_stay M 0 (nI a) (nI k) 0 = some (sp_st σ a c k 0) ∨ ¬ k < 2 ^ 31 := fun k => by
    by_cases q : k < 2 ^ 31
    · exact Or.inl (q_stay (j := 0) hS hI ha i11 hc q (by omega))
    · exact Or.inr q
  have s1 : ∀ k, k < c → f0_L_stay M 0 (nI a) (nI k) 1 = some (nI (G k)) := fun k hk => (q_stay (j := 1) hS hI ha i11 hc (by omega) (by omega)).trans (congrArg some (g1 k hk))
  have s2 : ∀ k, k + 1 < c → f0_L_stay M 0 (nI a) (nI (k + 1)) 2 = some (nI (G k)) := fun k hk => (q_stay (j := 2) hS hI ha i11 hc (by omega) (by omega)).trans (congrArg some (g2 k hk).2)
  refine ms_f4 (fun _ => 1) (fun i => if i = 0 then nI U else nI (G (i - 1))) (fun i => nI i) (fun i => nI i) c (fun i hi rec => ?_) (fun rec => ?_) (by rw [ms_FU]; omega)
  · obtain ⟨l, l1, l2⟩ := hl i hi
    have e0 := (s0 i).resolve_right (fun q => q (by omega))
    have hU2 : ∃ V, (if i = 0 then nI U else nI (G (i - 1))) = nI V ∧ G i ≤ V ∧ V ≤ t := by
      by_cases q : i = 0
      · subst q; exact ⟨U, if_pos rfl, g4, hU⟩
      · obtain ⟨m, rfl⟩ : ∃ m, i = m + 1 := ⟨i - 1, by omega⟩
        exact ⟨G m, by rw [if_neg q]; rfl, (g2 m hi).1, hG m (by omega)⟩
    obtain ⟨V, V1, V2, V3⟩ := hU2
    rw [if_neg (show ¬ i + 1 = 0 by omega)]
    unfold f_L_isOne_L175
    rw [if_neg (show ¬ (10 : Int32) ≤ nI i from nI_ge (b := 10) (by omega) (by omega)), e0, ms_b1, l2, if_neg (show ¬ nI l = -1 from fun q => by rw [ms_nN (by omega)] at q; exact q), ms_nm, ms_nm, if_neg (by decide), s1 i hi, ms_b1, V1, if_neg (nI_nlt V2 (by omega))]
    by_cases q : i = 0
    · subst q
      rw [if_pos (by decide)]
      dsimp only
      rw [ms_b1, ms_nm, ms_nm, nI_1]
    · obtain ⟨m, rfl⟩ : ∃ m, i = m + 1 := ⟨i - 1, by omega⟩
      rw [if_neg (show ¬ nI (m + 1) = 0 from nI_ne0 (by omega) (by omega)), s2 m hi, ms_b1]
      rw [if_neg q] at V1
      rw [if_pos (show nI (G m) = nI V from V1)]
      dsimp only
      rw [ms_b1, ms_nm, ms_nm, nI_1]
      rfl
  · unfold f_L_isOne_L175
    by_cases q : c = 10
    · subst q
      rw [if_pos (by decide)]
    · rw [if_neg (show ¬ (10 : Int32) ≤ nI c from nI_ge (b := 10) (by omega) (by omega)), (s0 c).resolve_right (fun q => q (by omega)), ms_b1, show sp_st σ a c c 0 = -1 from if_neg (Nat.lt_irrefl c), if_pos rfl]
theorem q_o328 {M : ce_M} {σ : Nat → Int32} {ps : List (Nat → Int32)} {t n en a : Nat} (hS : q_S M σ ps) (hI : ms_IN σ t n en) (ha : a < n) (u : Int32 → Int32 → Option Int32) : ce_lp3 (f_L_isOne_L328 M 0 (nI a) u) ce_FU 0 0 0 = u (sp_rt σ a 60) (q_dt σ a 60) := by
  have hen : en ≤ 60 := hI.2.2.2.2.1
  have h10 := hI.2.2.2.2.2.2.2.2.2.2.2.2
  have hn := hI.2.2.1
  have w2 : f0_L_whole M 0 2 = some (nI en) := (q_whole (j := 2) hS hI (by omega)).trans (congrArg some hI.2.2.2.1)
  have e1 : sp_rt σ a 60 = sp_rt σ a en := by
    have := sp_rt_tail (σ := σ) (a := a) (en := en) (by omega) h10 (60 - en) (by omega)
    rw [show en + (60 - en) = 60 by omega] at this
    exact this
  have e2 : q_dt σ a 60 = q_dt σ a en := by
    have := q_tail5 (σ := σ) (a := a) (en := en) h10 (60 - en) (by omega)
    rw [show en + (60 - en) = 60 by omega] at this
    exact this
  rw [e1, e2]
  refine ms_f3 (fun i => sp_rt σ a i) (fun i => q_dt σ a i) (fun i => nI i) en (fun i hi rec => ?_) (fun rec => ?_) (by rw [ms_FU]; omega)
  · have v4 : f0_L_event M 0 (nI i) 4 = some (σ (456 + 6 * i + 4)) := q_event (j := 4) hS hI hi (by omega)
    have v5 : f0_L_event M 0 (nI i) 5 = some (σ (456 + 6 * i + 5)) := q_event (j := 5) hS hI hi (by omega)
    unfold f_L_isOne_L328
    rw [w2, ms_b1, if_neg (nI_ge hi (by omega)), v4, ms_b1, ms_nm, v5, ms_b1, ms_nm, ms_nm, nI_1]
    rfl
  · unfold f_L_isOne_L328
    rw [w2, ms_b1, if_pos (nI_le (Nat.le_refl _) (by omega))]
theorem q_o379 {M : ce_M} {σ : Nat → Int32} {ps : List (Nat → Int32)} {t n en a w : Nat} (hS : q_S M σ ps) (hI : ms_IN σ t n en) (ha : a < n) (i6 : σ (24 + 54 * a + 6) = nI w) (hw : w ≤ 12) (hB : q_BX σ a w en) (u : Int32 → Option Int32) : ce_lp3 (f_L_isOne_L379 M 0 (nI a) u) ce_FU 1 (-1) 0 = u 1 := by
  have hen : en ≤ 60 := hI.2.2.2.2.1
  have hn := hI.2.2.1
  obtain ⟨Eb, b1, b2⟩ := hB
  have w2 : f0_L_whole M 0 2 = some (nI en) := (q_whole (j := 2) hS hI (by omega)).trans (congrArg some hI.2.2.2.1)
  have o6 : f0_L_one M 0 (nI a) 6 = some (nI w) := (q_one (j := 6) hS hI ha (by omega)).trans (congrArg some i6)
  refine ms_f3 (fun _ => 1) (fun i => if i = 0 then -1 else nI (Eb (i - 1))) (fun i => nI i) w (fun i hi rec => ?_) (fun rec => ?_) (by rw [ms_FU]; omega)
  · obtain ⟨c1, c2, c3, c4⟩ := b1 i hi
    have bx : f0_L_box M 0 (nI a) (nI i) = some (nI (Eb i)) := (q_box hS hI ha i6 hw (by omega)).trans (by unfold sp_bx; rw [if_pos hi, c1])
    have v4 : f0_L_event M 0 (nI (Eb i)) 4 = some (σ (456 + 6 * Eb i + 4)) := q_event (j := 4) hS hI c2 (by omega)
    have v5 : f0_L_event M 0 (nI (Eb i)) 5 = some (σ (456 + 6 * Eb i + 5)) := q_event (j := 5) hS hI c2 (by omega)
    have hlast : ¬ nI (Eb i) ≤ (if i = 0 then (-1 : Int32) else nI (Eb (i - 1))) := by
      by_cases q : i = 0
      · rw [if_pos q]; exact q_lt_m1 (by omega)
      · obtain ⟨m, rfl⟩ : ∃ m, i = m + 1 := ⟨i - 1, by omega⟩
        rw [if_neg q]
        exact nI_ge (b2 m hi) (by omega)
    rw [if_neg (show ¬ i + 1 = 0 by omega)]
    unfold f_L_isOne_L379
    rw [o6, ms_b1, if_neg (nI_ge hi (by omega)), if_neg (by decide), bx, ms_b1, if_neg hlast, w2, ms_b1, if_neg (nI_ge c2 (by omega)), v4, ms_b1, if_pos (show ((σ (456 + 6 * Eb i + 4) >>> (nI a &&& 31)) &&& 1) = 1 from c3), v5, ms_b1, if_pos (show ((σ (456 + 6 * Eb i + 5) >>> (nI a &&& 31)) &&& 1) = 0 from c4), ms_nm, nI_1]
    rfl
  · unfold f_L_isOne_L379
    rw [o6, ms_b1, if_pos (nI_le (Nat.le_refl _) (by omega))]
