/-! one subscriber fits -/
theorem q_ift {α : Type} {d : Decidable True} (a b : α) : @ite α True d a b = a := if_pos trivial
theorem q_iff {α : Type} {d : Decidable False} (a b : α) : @ite α False d a b = b := if_neg (fun h => h)
theorem q_k10 : ((1 : Int32) = 0) = False := eq_false (by decide)
theorem q_k01 : ((0 : Int32) = 1) = False := eq_false (by decide)
theorem q_n01 : (nI 0 = (1 : Int32)) = False := eq_false (by decide)
theorem q_n11 : (nI 1 = (1 : Int32)) = True := eq_true (by decide)
theorem q_n10 : (nI 1 = (0 : Int32)) = False := eq_false (by decide)
theorem q_n00 : (nI 0 = (0 : Int32)) = True := eq_true (by decide)
theorem q_m10 : ((-1 : Int32) = 0) = False := eq_false (by decide)
theorem q_nn10 : (nI 1 = nI 0) = False := eq_false (by decide)
theorem q_arv : ∀ l, l < 16 → ∀ v, v < 3 → sp_ar l v ≠ 0 ∧ ((sp_ar l v >>> (nI l &&& 31)) &&& 1) = 1 ∧ (v = 0 → sp_ar l v = 65535) ∧ (v = 2 → sp_ar l v = 1 <<< (nI l &&& 31)) := by decide +kernel
theorem q_ch_v {σ : Nat → Int32} {t n en a po se ca : Nat} (hI : ms_IN σ t n en) (ht : t ≤ 20000) (i5 : σ (24 + 54 * a + 5) = nI 1) (i2 : σ (24 + 54 * a + 2) = nI po) (i4 : σ (24 + 54 * a + 4) = nI se) (i3 : σ (24 + 54 * a + 3) = nI ca) (hca : ca ≤ t) (hpo : po < 16) (hse : se < 16) (hne : po ≠ se) : ∃ dw, dw ≤ 9 ∧ sp_dw σ a = nI dw ∧ sp_ch σ a = nI ((ca + dw - t) + 1) := by
  obtain ⟨dw, d1, d2⟩ := sp_dw_v a hI
  refine ⟨dw, d1, d2, ?_⟩
  unfold sp_ch
  rw [i5, if_neg (show ¬ nI 1 = nI 0 by decide), i2, i4, if_neg (fun q => hne (ms_nI q (by omega) (by omega))), i3, d2, hI.1, nI_add]
  unfold ce_max
  by_cases q : ca + dw < t
  · rw [if_pos (nI_lt q (by omega)), ms_sub (Nat.le_refl _), nI_add]
    congr 1
    omega
  · rw [if_neg (nI_nlt (by omega) (by omega)), ms_sub (by omega), nI_add]
theorem q_isOne {M : ce_M} {σ : Nat → Int32} {ps : List (Nat → Int32)} {t n en a : Nat} (hS : q_S M σ ps) (hJ : q_J σ t n en) (ht : t ≤ 9999) (ha : a < n) : f_L_isOne M 0 (nI a) = some 1 := by
  have hI := hJ.1
  have hn := hI.2.2.1
  have hen := hI.2.2.2.2.1
  have ha8 : a < 8 := by omega
  obtain ⟨j1, j2, ⟨lo, j3, j4⟩, j5⟩ := hJ
  obtain ⟨th, w, D, X, ch, hh, c, a1, a2, a3, a4, a5, a6, a7, a8, a9, a10, a11, a12, a13, a14, ⟨G, g1, g2, g3, g4, g5, g6⟩, hB, a17, a18, a19⟩ := j3 a ha
  obtain ⟨so, le, po, ca, se, th', wz, c', i0, i0', i1, i1', i2, i2', i3, i3', i4, i4', i5, i5', i6, i6', i11, i11', iw, ip, ib, ix, is⟩ := hI.2.2.2.2.2.2.2.2.2.1 a ha8
  have hc10 : c ≤ 10 := by rw [a12]; split <;> omega
  have hc1 : 1 ≤ c := by rw [a12]; split <;> omega
  have et : th' = th := ms_nI (i5.symm.trans a1) (by omega) (by omega)
  have ec : c' = c := ms_nI (i11.symm.trans a11) (by omega) (by omega)
  subst et; subst ec
  have O : ∀ j, j < 12 → f0_L_one M 0 (nI a) (nI j) = some (sp_told σ a j) := fun j hj => q_one hS hI ha hj
  have o0 : f0_L_one M 0 (nI a) 0 = some (nI so) := (O 0 (by omega)).trans (congrArg some i0)
  have o1 : f0_L_one M 0 (nI a) 1 = some (nI le) := (O 1 (by omega)).trans (congrArg some i1)
  have o2 : f0_L_one M 0 (nI a) 2 = some (nI po) := (O 2 (by omega)).trans (congrArg some i2)
  have o3 : f0_L_one M 0 (nI a) 3 = some (nI ca) := (O 3 (by omega)).trans (congrArg some i3)
  have o4 : f0_L_one M 0 (nI a) 4 = some (nI se) := (O 4 (by omega)).trans (congrArg some i4)
  have o5 : f0_L_one M 0 (nI a) 5 = some (nI th') := (O 5 (by omega)).trans (congrArg some a1)
  have o6 : f0_L_one M 0 (nI a) 6 = some (nI w) := (O 6 (by omega)).trans (congrArg some a3)
  have o7 : f0_L_one M 0 (nI a) 7 = some (nI (D + X + w + lo a)) := (O 7 (by omega)).trans (congrArg some a17)
  have o8 : f0_L_one M 0 (nI a) 8 = some (nI D) := (O 8 (by omega)).trans (congrArg some a5)
  have o9 : f0_L_one M 0 (nI a) 9 = some (nI X) := (O 9 (by omega)).trans (congrArg some a6)
  have o10 : f0_L_one M 0 (nI a) 10 = some (nI ch) := (O 10 (by omega)).trans (congrArg some a7)
  have o11 : f0_L_one M 0 (nI a) 11 = some (nI hh) := (O 11 (by omega)).trans (congrArg some a9)
  have w3 : f0_L_whole M 0 3 = some (nI t) := (q_whole (j := 3) hS hI (by omega)).trans (congrArg some hI.1)
  have T : ∀ i j, i < 2 ^ 31 → j < 3 → f0_L_stay M 0 (nI a) (nI i) (nI j) = some (sp_st σ a c' i j) := fun i j hi hj => q_stay hS hI ha a11 hc10 hi hj
  have s00 : f0_L_stay M 0 (nI a) 0 0 = some (nI se) := (T 0 0 (by omega) (by omega)).trans (congrArg some (g3.trans i4))
  have s10 : f0_L_stay M 0 (nI a) 10 0 = some (-1) := (T 10 0 (by omega) (by omega)).trans (congrArg some (if_neg (by omega)))
  have hl : ∀ k, k < c' → ∃ l, l < 16 ∧ sp_st σ a c' k 0 = nI l := fun k hk => by
    obtain ⟨l, l1, l2⟩ := is (c' - (k + 1)) (by omega)
    exact ⟨l, l1, by unfold sp_st; rw [if_pos hk]; exact l2⟩
  have cv : f0_L_covers M 0 (nI a) = some (if nI th' = nI 0 then nI 0 else sp_ar se le) := by
    rw [q_covers hS hI ha]
    unfold sp_cv
    rw [a1, i4, i1, nI_clamp (by omega), nI_clamp (by omega)]
  have sv := q_served hS hI ha
  obtain ⟨r1, r2, r3, r4⟩ := q_arv se i4' le i1'
  have hR : ¬ nI (D + X + w + lo a) < nI (D + X + w) := nI_nlt (by omega) (by omega)
  have l175 : ∀ U, U ≤ t → G 0 ≤ U → ∀ u : Int32 → Int32 → Option Int32, ce_lp4 (f_L_isOne_L175 M 0 (nI a) u) ce_FU 1 (nI U) 0 0 = u 1 (nI c') := fun U hU hGU u => q_o175 hS hI ha a11 hc10 ht hU hl g1 g2 hGU u
  have l328 : ∀ u : Int32 → Int32 → Option Int32, ce_lp3 (f_L_isOne_L328 M 0 (nI a) u) ce_FU 0 0 0 = u (nI (D + X + w + lo a)) (nI D) := fun u => by rw [q_o328 hS hI ha u, a17, a19]
  have l379 : ∀ u : Int32 → Option Int32, ce_lp3 (f_L_isOne_L379 M 0 (nI a) u) ce_FU 1 (-1) 0 = u 1 := fun u => q_o379 hS hI ha a3 a4 hB u
  have eD : nI D + nI X + nI w = nI (D + X + w) := by rw [nI_add, nI_add]
  have n12 : ¬ (12 : Int32) < nI w := nI_nlt (a := 12) (by omega) (by omega)
  have nca : ¬ nI t < nI ca := nI_nlt i3' (by omega)
  have nhh : ¬ nI t + 9 < nI hh := by
    rw [show nI t + 9 = nI (t + 9) from nI_add t 9]
    exact nI_nlt (by omega) (by omega)
  have nc0 : ¬ nI c' ≤ 0 := nI_nle (by omega) (by omega)
  have kw : (nI w < 0) = False := eq_false (nI_pos (by omega))
  have k12 : ((12 : Int32) < nI w) = False := eq_false n12
  have kca : (nI t < nI ca) = False := eq_false nca
  have khh : (nI t + 9 < nI hh) = False := eq_false nhh
  have kc0 : (nI c' ≤ 0) = False := eq_false nc0
  have kR : (nI (D + X + w + lo a) < nI (D + X + w)) = False := eq_false hR
  have hch : ch < 2 ^ 31 := by
    have h9 : ch ≤ t := a8
    omega
  have kch : ∀ {α : Type} (A B : α), (if (9 : Int32) ≤ nI ch then (if nI c' = 10 then A else B) else (if nI c' = nI ch + 1 then A else B)) = A := fun A B => by
    by_cases q : ch < 9
    · rw [if_pos q] at a12
      rw [if_neg (show ¬ (9 : Int32) ≤ nI ch from nI_ge (b := 9) q (by omega)), nI_1, a12, if_pos rfl]
    · rw [if_neg q] at a12
      rw [if_pos (show (9 : Int32) ≤ nI ch from nI_le (a := 9) (by omega) hch), a12, if_pos (by decide)]
  rcases (show th' = 0 ∨ th' = 1 by omega) with rfl | rfl
  · obtain ⟨E, e1, e2, e3⟩ := g6 rfl
    have ew : w = 0 := a13 rfl
    subst ew
    have s02 : f0_L_stay M 0 (nI a) 0 2 = some (nI E) := (T 0 2 (by omega) (by omega)).trans (congrArg some e1)
    have nE : ¬ nI E = -1 := fun q => by rw [ms_nN (by omega)] at q; exact q
    have sv0 : f0_L_served M 0 (nI a) = some (-1) := by
      rw [sv]
      unfold sp_ch
      rw [a1, if_pos rfl]
    have kE : (nI E = (-1 : Int32)) = False := eq_false nE
    have L := l175 E e3 e2
    unfold f_L_isOne
    simp only [o5, w3, o6, o0, o1, o2, o3, o4, o7, o8, o9, o10, o11, s00, s02, s10, cv, sv0, ms_b1, ms_nm, kw, k12, kca, khh, kE, kc0, q_ift, q_iff, q_k10, q_k01, q_n01, q_n00, q_m10, L, l328, l379, eD, kR, kch]
    by_cases q : so = 2
    · rw [if_pos (show nI so = 2 by rw [q]; rfl), if_pos (by rw [ip q])]
    · rw [if_neg (show ¬ nI so = 2 from fun z => q (ms_nI (b := 2) z (by omega) (by omega)))]
  · have s02 : f0_L_stay M 0 (nI a) 0 2 = some (-1) := (T 0 2 (by omega) (by omega)).trans (congrArg some (g5 rfl))
    have el : lo a = 0 := a14 rfl
    have eR : (nI (D + X + w + lo a) = nI (D + X + w)) = True := by rw [el]; exact eq_true rfl
    have L := l175 t (Nat.le_refl _) g4
    have kar : (sp_ar se le = 0) = False := eq_false r1
    have kar1 : ((sp_ar se le >>> (nI se &&& 31)) &&& 1 = 1) = True := eq_true r2
    have kle : ∀ {α : Type} (A B : α), (if nI le = 0 then (if sp_ar se le = 65535 then A else B) else (if nI le = 2 then (if sp_ar se le = 1 <<< (nI se &&& 31) then A else B) else A)) = A := fun A B => by
      by_cases q : le = 0
      · rw [if_pos (show nI le = 0 by rw [q]; rfl), if_pos (r3 q)]
      · rw [if_neg (show ¬ nI le = 0 from nI_ne0 (by omega) (by omega))]
        by_cases q2 : le = 2
        · rw [if_pos (show nI le = 2 by rw [q2]; rfl), if_pos (r4 q2)]
        · rw [if_neg (show ¬ nI le = 2 from fun z => q2 (ms_nI (b := 2) z (by omega) (by omega)))]
    by_cases hps : po = se
    · have sv1 : f0_L_served M 0 (nI a) = some (nI 0) := by
        rw [sv]
        unfold sp_ch
        rw [a1, if_neg (by decide), i2, i4, hps, if_pos rfl]
      have kps : (nI po = nI se) = True := by rw [hps]; exact eq_true rfl
      have km : (nI 0 = (-1 : Int32)) = False := eq_false (by decide)
      have kso : ∀ {α : Type} (A : α), (if nI so = 2 then A else A) = A := fun A => by split <;> rfl
      unfold f_L_isOne
      simp only [o5, w3, o6, o0, o1, o2, o3, o4, o7, o8, o9, o10, o11, s00, s02, s10, cv, sv1, ms_b1, ms_nm, kw, k12, kca, khh, kc0, q_ift, q_iff, q_k10, q_k01, q_n11, q_n10, q_nn10, q_n00, L, l328, l379, eD, kR, eR, kch, kar, kar1, kps, km, kso, kle]
    · obtain ⟨dw, d1, d2, d3⟩ := q_ch_v hI (by omega) a1 i2 i4 i3 i3' i2' i4' hps
      have sv1 : f0_L_served M 0 (nI a) = some (nI ((ca + dw - t) + 1)) := sv.trans (congrArg some d3)
      have kps : (nI po = nI se) = False := eq_false (fun q => hps (ms_nI q (by omega) (by omega)))
      have km : (nI ((ca + dw - t) + 1) = (-1 : Int32)) = False := ms_nN (by omega)
      have km0 : (nI ((ca + dw - t) + 1) = (0 : Int32)) = False := eq_false (nI_ne0 (by omega) (by omega))
      have kso : (nI so = 2) = False := eq_false (fun q => hps (ip (ms_nI (b := 2) q (by omega) (by omega))))
      unfold f_L_isOne
      simp only [o5, w3, o6, o0, o1, o2, o3, o4, o7, o8, o9, o10, o11, s00, s02, s10, cv, sv1, ms_b1, ms_nm, kw, k12, kca, khh, kc0, q_ift, q_iff, q_k10, q_k01, q_n11, q_n10, q_nn10, q_n00, L, l328, l379, eD, kR, eR, kch, kar, kar1, kps, km, km0, kso, kle]
