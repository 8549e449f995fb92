/-! an event that is sent -/
def q_del (σ : Nat → Int32) (rb : Int32) (a : Nat) : Int32 := if sp_bit rb a = nI 1 ∧ σ (24 + 54 * a + 6) ≠ nI 12 then nI 1 else nI 0
def q_eps (σ : Nat → Int32) (rb : Int32) (a : Nat) : Int32 := if sp_bit rb a = nI 1 ∧ σ (24 + 54 * a + 6) = nI 12 then nI 1 else nI 0
theorem q_pub_p {σ ρ : Nat → Int32} {t n en a : Nat} {rb : Int32} (hJ : q_J σ t n en) (hen : en < 60) (h01 : sp_bit rb a = nI 0 ∨ sp_bit rb a = nI 1) (ha : a < n) (P : ∀ j, j < 54 → ρ (24 + 54 * a + j) = if sp_bit rb a = nI 1 then sp_ar1 σ a (σ (24 + 54 * a + 6)).toNatClampNeg (nI en) (24 + 54 * a + j) else σ (24 + 54 * a + j)) : sp_f ρ 6 a = sp_f σ 6 a + q_del σ rb a ∧ sp_f ρ 8 a = sp_f σ 8 a + q_eps σ rb a ∧ q_del σ rb a + q_eps σ rb a = sp_bit rb a ∧ sp_ib ρ (nI en) a = q_del σ rb a := by
  have hn := hJ.1.2.2.1
  obtain ⟨j1, j2, ⟨lo, j3, j4⟩, j5⟩ := hJ
  obtain ⟨th, w, D, X, ch, hh, c, a1, a2, a3, a4, a5, a6, a7, a8, a9, a10, a11, a12, a13, a14, _, ⟨Eb, b1, b2⟩, _, _, _⟩ := j3 a ha
  have e6 : (σ (24 + 54 * a + 6)).toNatClampNeg = w := by rw [a3, nI_clamp (by omega)]
  rw [e6] at P
  have old : ∀ i, i < w → σ (24 + 54 * a + (12 + i)) ≠ nI en := fun i hi => by
    obtain ⟨c1, c2, _⟩ := b1 i hi
    rw [c1]
    exact fun q => absurd (ms_nI q (by omega) (by omega)) (by omega)
  unfold sp_f q_del q_eps sp_ib
  rw [P 6 (by omega), P 8 (by omega), a3]
  rcases h01 with h0 | h1
  · have k : ¬ sp_bit rb a = nI 1 := by rw [h0]; decide
    rw [if_neg k, if_neg k, if_neg (fun z => k z.1), if_neg (fun z => k z.1), ms_add0, ms_add0, nI_clamp (by omega), sp_hd_no w (fun i hi => by rw [P (12 + i) (by omega), if_neg k]; exact old i hi)]
    exact ⟨rfl, rfl, by rw [h0]; rfl, rfl⟩
  · rw [if_pos h1, if_pos h1]
    by_cases cw : w = 12
    · subst cw
      have u6 : sp_ar1 σ a 12 (nI en) (24 + 54 * a + 6) = nI 12 := by
        unfold sp_ar1
        rw [if_pos rfl, ms_u2 (by omega)]
        exact a3
      have u8 : sp_ar1 σ a 12 (nI en) (24 + 54 * a + 8) = σ (24 + 54 * a + 8) + nI 1 := by
        unfold sp_ar1
        rw [if_pos rfl, ms_u1 rfl]
      have ub : ∀ i, i < 12 → ρ (24 + 54 * a + (12 + i)) = σ (24 + 54 * a + (12 + i)) := fun i hi => by
        rw [P (12 + i) (by omega), if_pos h1]
        unfold sp_ar1
        rw [if_pos rfl, ms_u2 (by omega)]
      rw [u6, u8, if_neg (fun z => z.2 rfl), if_pos ⟨h1, rfl⟩, ms_add0, nI_clamp (by omega), sp_hd_no 12 (fun i hi => by rw [ub i hi]; exact old i hi)]
      exact ⟨rfl, rfl, by rw [h1]; rfl, rfl⟩
    · have u6 : sp_ar1 σ a w (nI en) (24 + 54 * a + 6) = nI (w + 1) := by
        unfold sp_ar1
        rw [if_neg cw, ms_u1 rfl]
      have u8 : sp_ar1 σ a w (nI en) (24 + 54 * a + 8) = σ (24 + 54 * a + 8) := by
        unfold sp_ar1
        rw [if_neg cw, ms_u2 (by omega), ms_u2 (by omega)]
      have ub : ρ (24 + 54 * a + (12 + w)) = nI en := by
        rw [P (12 + w) (by omega), if_pos h1]
        unfold sp_ar1
        rw [if_neg cw, ms_u2 (by omega), ms_u1 rfl]
      have nw : ¬ nI w = nI 12 := fun q => cw (ms_nI q (by omega) (by omega))
      have hd : sp_hd ρ a (nI en) (w + 1) = true := by
        show (sp_hd ρ a (nI en) w || decide (ρ (24 + 54 * a + (12 + w)) = nI en)) = true
        rw [ub]
        simp
      rw [u6, u8, if_pos ⟨h1, nw⟩, if_neg (fun z => nw z.2), ms_add0, nI_clamp (by omega), hd, nI_add]
      exact ⟨rfl, rfl, by rw [h1]; rfl, rfl⟩
theorem q_late {β : Type} {c : Prop} [Decidable c] (K : Int32 → Option β) (a b : Int32) : ce_nm K (fun u => if c then ce_b1 (some a) (fun x => u x) else u b) = K (if c then a else b) := by
  rw [ms_nm]
  split <;> rfl
theorem q_sent {M : ce_M} {σ : Nat → Int32} {ps : List (Nat → Int32)} {t n en : Nat} (hS : q_S M σ ps) (hJ : q_J σ t n en) (ht : t ≤ 9999) (x y : Int32) : ∃ M' σ' ps' en', f_L_sent M 0 x y = some (M', 1) ∧ q_S M' σ' ps' ∧ q_J σ' t n en' := by
  have hI := hJ.1
  have hn := hI.2.2.1
  have hen := hI.2.2.2.2.1
  obtain ⟨p, hp, e1⟩ := q_low M x (m := 16) (by omega) (by omega)
  obtain ⟨v, hv, e2⟩ := q_low M (x >>> (4 &&& 31)) (m := 3) (by omega) (by omega)
  obtain ⟨k, hk, e3⟩ := q_low M y (m := 3) (by omega) (by omega)
  obtain ⟨d0, hd0, e4⟩ := q_low M (y >>> (2 &&& 31)) (m := 10) (by omega) (by omega)
  have e1 : f_L_low M x 16 = some (nI p) := e1
  have e2 : f_L_low M (x >>> (4 &&& 31)) 3 = some (nI v) := e2
  have e3 : f_L_low M y 3 = some (nI k) := e3
  have e4 : f_L_low M (y >>> (2 &&& 31)) 10 = some (nI d0) := e4
  obtain ⟨d, hd, hlate⟩ : ∃ d, d < 10 ∧ (if nI k = 0 then nI d0 else 0) = nI d := by
    by_cases q : k = 0
    · exact ⟨d0, hd0, if_pos (by rw [q]; rfl)⟩
    · exact ⟨0, by omega, if_neg (nI_ne0 (by omega) (by omega))⟩
  have W : ∀ j, j < 13 → f0_L_whole M 0 (nI j) = some (sp_wh σ n j) := fun j hj => by rw [q_whole hS hI (by omega), if_pos hj]
  have w2 : f0_L_whole M 0 2 = some (nI en) := (W 2 (by omega)).trans (congrArg some hI.2.2.2.1)
  have w8 : f0_L_whole M 0 8 = some (sp_sm (sp_f σ 6) n) := W 8 (by omega)
  have w10 : f0_L_whole M 0 10 = some (sp_sm (sp_f σ 8) n) := W 10 (by omega)
  have hw := q_would (d := d) hS hI hp hv (by omega)
  obtain ⟨m, m1, m2⟩ := sp_rb_v (σ := σ) (l := p) (v := v) (time := σ 0 - nI d) n hn
  have hm : m < 256 := Nat.lt_of_lt_of_le m1 (Nat.le_trans (Nat.pow_le_pow_right (by omega) hn) (by decide))
  have nm : (nI m = (-1 : Int32)) = False := ms_nN (by omega)
  unfold f_L_sent
  rw [e1, ms_b1, e2, ms_b1, e3, ms_b1, e4, q_late, hlate]
  rw [hw, ms_b1, w2, ms_b1, w8, ms_b1, w10, ms_b1]
  by_cases htl : sp_tl σ (nI d) = 0
  · rw [if_pos htl]
    by_cases c60 : en = 60
    · have hs := q_pub_no hS hI hp hv (show d < 2 ^ 31 by omega) (Or.inl c60)
      refine ⟨M, σ, ps, en, ?_, hS, hJ⟩
      rw [hs, ms_b2, ms_nm, m2, if_neg (fun q => by rw [nm] at q; exact q), if_pos (by rw [c60]; rfl), if_pos rfl]
    · obtain ⟨M', f1, f2, f3⟩ := q_pub hS hI ht hp hv (show d < 2 ^ 31 by omega) (show en < 60 by omega) htl
      have hb01 : ∀ a, a < 8 → sp_bit (sp_rb σ p v (σ 0 - nI d) n) a = nI 0 ∨ sp_bit (sp_rb σ p v (σ 0 - nI d) n) a = nI 1 := fun a ha => by rw [m2]; exact sp_bit_01 m hm a ha
      have hbhi : ∀ a, a < 8 → n ≤ a → sp_bit (sp_rb σ p v (σ 0 - nI d) n) a = nI 0 := fun a ha h => by rw [m2]; exact sp_bit_hi n (by omega) m m1 a ha h
      have hrbn : ¬ sp_rb σ p v (σ 0 - nI d) n = -1 := by rw [m2]; exact fun q => by rw [nm] at q; exact q
      generalize hrb : sp_rb σ p v (σ 0 - nI d) n = rb at f1 f2 f3 hb01 hbhi hrbn
      obtain ⟨p1, p2, p3⟩ := q_pub_v (l := nI p) (v := nI v) (late := nI d) (rb := rb) hI (show en < 60 by omega)
      have hI' : ms_IN (sp_arr (sp_pb σ en (nI p) (nI v) (nI d) rb) rb (nI en) n) t n (en + 1) := by
        refine q_IT_IN f3 ((p1 0 (by omega) (by omega)).trans hI.1) ((p1 1 (by omega) (by omega)).trans hI.2.1) ?_ (by omega) hn (by omega)
        have hw : ∀ a, a < 8 → ∃ w, w ≤ 12 ∧ sp_pb σ en (nI p) (nI v) (nI d) rb (24 + 54 * a + 6) = nI w := fun a ha => by
          obtain ⟨so, le, po, ca, se, th, wz, c, i0, i0', i1, i1', i2, i2', i3, i3', i4, i4', i5, i5', i6, i6', i11, i11', iw, ip, ib, ix, is⟩ := hI.2.2.2.2.2.2.2.2.2.1 a ha
          refine ⟨wz, i6', ?_⟩
          unfold sp_pb
          simp (disch := omega) only [ms_u2]
          exact i6
        rw [sp_arr_o hw n hn 2 (Or.inl (by omega))]
        unfold sp_pb
        simp (disch := omega) only [ms_u2, ms_u1]
      have hJ' := q_J_pub (l := p) (v := v) hJ ht (show en < 60 by omega) (show d < 2 ^ 31 by omega) htl hrb.symm hI'
      generalize sp_arr (sp_pb σ en (nI p) (nI v) (nI d) rb) rb (nI en) n = ρ at f2 p1 p2 p3 hI' hJ'
      have PP := fun a (ha : a < n) => q_pub_p (ρ := ρ) hJ (show en < 60 by omega) (hb01 a (by omega)) ha (p2 a ha)
      have S6 : sp_sm (sp_f ρ 6) n = sp_sm (sp_f σ 6) n + sp_sm (q_del σ rb) n := by
        rw [← q_sm_addf]
        exact sp_sm_eq n (fun a ha => (PP a ha).1)
      have S8 : sp_sm (sp_f ρ 8) n = sp_sm (sp_f σ 8) n + sp_sm (q_eps σ rb) n := by
        rw [← q_sm_addf]
        exact sp_sm_eq n (fun a ha => (PP a ha).2.1)
      have SB : sp_sm (q_del σ rb) n + sp_sm (q_eps σ rb) n = sp_sm (sp_bit rb) 8 := by
        rw [← q_sm_addf]
        have t1 : ∀ k, n + k ≤ 8 → sp_sm (sp_bit rb) (n + k) = sp_sm (sp_bit rb) n := fun k => by
          induction k with
          | zero => intro _; rfl
          | succ k ih =>
            intro hk
            show sp_sm (sp_bit rb) (n + k) + sp_bit rb (n + k) = _
            rw [ih (by omega), hbhi (n + k) (by omega) (by omega), ms_add0]
        have t2 := t1 (8 - n) (by omega)
        rw [show n + (8 - n) = 8 by omega] at t2
        rw [t2]
        exact sp_sm_eq n (fun a ha => (PP a ha).2.2.1)
      have SI6 : sp_sm (sp_ib ρ (nI en)) n = sp_sm (q_del σ rb) n := sp_sm_eq n (fun a ha => (PP a ha).2.2.2)
      have V : ∀ j, j < 6 → f0_L_event M' 0 (nI en) (nI j) = some (ρ (456 + 6 * en + j)) := fun j hj => by
        rw [q_event (j := j) f2 hI' (by omega) (by omega)]
        unfold sp_ev
        rw [if_neg (by omega)]
      have v0 : f0_L_event M' 0 (nI en) 0 = some (nI p) := (V 0 (by omega)).trans (by rw [p3 en (by omega) 0 (by omega), if_pos rfl, if_pos rfl])
      have v1 : f0_L_event M' 0 (nI en) 1 = some (nI v) := (V 1 (by omega)).trans (by rw [p3 en (by omega) 1 (by omega), if_pos rfl]; rfl)
      have v2 : f0_L_event M' 0 (nI en) 2 = some (nI t - nI d) := (V 2 (by omega)).trans (by rw [p3 en (by omega) 2 (by omega), if_pos rfl, hI.1]; rfl)
      have v4 : f0_L_event M' 0 (nI en) 4 = some rb := (V 4 (by omega)).trans (by rw [p3 en (by omega) 4 (by omega), if_pos rfl]; rfl)
      have v5 : f0_L_event M' 0 (nI en) 5 = some (nI 0) := (V 5 (by omega)).trans (by rw [p3 en (by omega) 5 (by omega), if_pos rfl]; rfl)
      have v6 : f0_L_event M' 0 (nI en) 6 = some (sp_sm (q_del σ rb) n) := (q_event (j := 6) f2 hI' (by omega) (by omega)).trans (by unfold sp_ev; rw [if_pos rfl, SI6])
      have W' : ∀ j, j < 13 → f0_L_whole M' 0 (nI j) = some (sp_wh ρ n j) := fun j hj => by rw [q_whole f2 hI' (by omega), if_pos hj]
      have x3 : f0_L_whole M' 0 3 = some (nI t) := (W' 3 (by omega)).trans (congrArg some hI'.1)
      have x8 : f0_L_whole M' 0 8 = some (sp_sm (sp_f σ 6) n + sp_sm (q_del σ rb) n) := (W' 8 (by omega)).trans (congrArg some S6)
      have x10 : f0_L_whole M' 0 10 = some (sp_sm (sp_f σ 8) n + sp_sm (q_eps σ rb) n) := (W' 10 (by omega)).trans (congrArg some S8)
      have cA : ∀ A B : Int32, A + B - A = B := fun A B => by rw [Int32.add_comm]; exact Int32.add_sub_cancel _ _
      have cB : sp_sm (sp_f σ 6) n + sp_sm (q_del σ rb) n - sp_sm (sp_f σ 6) n + (sp_sm (sp_f σ 8) n + sp_sm (q_eps σ rb) n) - sp_sm (sp_f σ 8) n = sp_sm (sp_bit rb) 8 := by
        rw [cA, ← Int32.add_assoc, Int32.add_comm (sp_sm (q_del σ rb) n), Int32.add_assoc, cA, SB]
      have L : ∀ u : Int32 → Option (ce_M × Int32), ce_lp2 (f_L_sent_L115 rb u) ce_FU 0 0 = u (sp_sm (sp_bit rb) 8) := fun u => by
        refine ms_f2 (fun i => sp_sm (sp_bit rb) i) (fun i => nI i) 8 (fun i hi rec => ?_) (fun rec => ?_) (by rw [ms_FU]; omega)
        · unfold f_L_sent_L115
          rw [if_neg (show ¬ (8 : Int32) ≤ nI i from nI_ge (b := 8) hi (by omega)), ms_nm, ms_nm, nI_1]
          rfl
        · unfold f_L_sent_L115
          rw [if_pos (by decide)]
      refine ⟨M', ρ, _, en + 1, ?_, f2, hJ'⟩
      rw [f1, ms_b2, ms_nm, if_neg hrbn, if_neg (show ¬ nI en = 60 from fun q => c60 (ms_nI (b := 60) q (by omega) (by omega))), ms_nm, L]
      rw [if_pos rfl, v0, ms_b1, if_pos rfl, v1, ms_b1, if_pos rfl, v2, ms_b1, x3, ms_b1, if_pos rfl, v4, ms_b1, if_pos rfl, v5, ms_b1, if_pos (show nI 0 = 0 from rfl), x8, ms_b1, x10, ms_b1, if_pos cB, v6, ms_b1, ms_b1, if_pos (cA _ _).symm]
  · have hs := q_pub_no hS hI hp hv (show d < 2 ^ 31 by omega) (Or.inr htl)
    refine ⟨M, σ, ps, en, ?_, hS, hJ⟩
    rw [if_neg htl, hs, ms_b2, ms_nm, if_pos rfl, if_pos rfl]
