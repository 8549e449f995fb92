/-! delivery to one: both -/
theorem sp_dn_et {σ : Nat → Int32} {a wz se en f : Nat} (hs : se < 16) (ha : a < 8) (hw : wz ≤ 12) (hb : ∀ i, i < wz → ∃ e, e < en ∧ σ (24 + 54 * a + (12 + i)) = nI e) (hen : en ≤ 60) (hf : f < 60) (hf2 : en ≤ f) : ∀ d, d ≤ wz → sp_dn σ a wz se d (456 + 6 * f + 5) = σ (456 + 6 * f + 5) := by
  intro d
  induction d with
  | zero => intro _; rfl
  | succ d ih =>
    intro hd
    obtain ⟨e, e1, e2⟩ := hb d (by omega)
    rw [sp_dn_e hs ha hw (by omega) e2 (by omega) hf, if_neg (by omega)]
    exact ih (by omega)
theorem ms_IN_dn {σ : Nat → Int32} {t n en a wz se d : Nat} (hI : ms_IN σ t n en) (ha : a < n) (h6 : σ (24 + 54 * a + 6) = nI wz) (hw : wz ≤ 12) (h4 : σ (24 + 54 * a + 4) = nI se) (hs : se < 16) (hd : d ≤ wz) : ms_IN (sp_dn σ a wz se d) t n en := by
  have hI0 := hI
  obtain ⟨I0, I1, I1', I2, I2', I3, I4, I5, I6, I7, I8, I9, I10⟩ := hI
  have ha8 : a < 8 := by omega
  obtain ⟨so, le, po, ca, se9, th, wz9, c, i0, i0', i1, i1', i2, i2', i3, i3', i4, i4', i5, i5', i6, i6', i11, i11', iw, ip, ib, ix, is⟩ := I7 a ha8
  have e : wz9 = wz := ms_nI (i6.symm.trans h6) (by omega) (by omega)
  subst e
  have hb60 : ∀ i, i < wz9 → ∃ e, e < 60 ∧ σ (24 + 54 * a + (12 + i)) = nI e := fun i hi => by
    obtain ⟨e, e1, e2⟩ := ib i hi
    exact ⟨e, by omega, e2⟩
  obtain ⟨x6, x7, x8, xb, xo⟩ := sp_dn_v hs ha8 h6 hw hb60 d hd
  have p : ∀ j, j < 54 → j ≠ 6 → j ≠ 7 → (j < 12 ∨ 24 ≤ j) → sp_dn σ a wz9 se d (24 + 54 * a + j) = σ (24 + 54 * a + j) := fun j h1 h2 h3 h5 => xo _ (by omega) (by omega) (by omega) (fun e he => by omega) (by omega)
  refine ms_IN_one hI0 ha ⟨so, le, po, ca, se9, th, wz9 - d, c, by rw [p 0 (by omega) (by omega) (by omega) (by omega)]; exact i0, i0', by rw [p 1 (by omega) (by omega) (by omega) (by omega)]; exact i1, i1', by rw [p 2 (by omega) (by omega) (by omega) (by omega)]; exact i2, i2', by rw [p 3 (by omega) (by omega) (by omega) (by omega)]; exact i3, i3', by rw [p 4 (by omega) (by omega) (by omega) (by omega)]; exact i4, i4', by rw [p 5 (by omega) (by omega) (by omega) (by omega)]; exact i5, i5', x6, by omega, by rw [p 11 (by omega) (by omega) (by omega) (by omega)]; exact i11, i11', fun q => by have := iw q; omega, ip, fun i hi => ?_, fun i j h1 h2 => ?_, fun j hj => by rw [p _ (by omega) (by omega) (by omega) (by omega)]; exact is j hj⟩ (by rw [p 11 (by omega) (by omega) (by omega) (by omega)]; exact I8 a ha) (fun j hj => xo j (by omega) (by omega) (by omega) (fun e he => by omega) (by omega)) (fun b hb hne j hj => xo _ (by omega) (by omega) (by omega) (fun e he => by omega) (by omega)) (fun e he k hk => ?_)
  · rw [xb i hi]; exact ib (i + d) (by omega)
  · rw [xb i (by omega), xb j h2]; exact ix (i + d) (j + d) (by omega) (by omega)
  · by_cases q : e < en
    · exact Or.inl q
    · refine Or.inr ?_
      by_cases q5 : k = 5
      · subst q5; exact sp_dn_et hs ha8 hw ib I2' he (by omega) d hd
      · exact xo _ (by omega) (by omega) (by omega) (fun f hf => by omega) (by omega)
theorem cs_deliver {M : ce_M} {w t n en a wz se q cp : Nat} {σ : Nat → Int32} (hR : ms_WR M w σ) (hI : ms_IN σ t n en) (ha : a < n) (h6 : σ (24 + 54 * a + 6) = nI wz) (hw : wz ≤ 12) (h4 : σ (24 + 54 * a + 4) = nI se) (hs : se < 16) (h5 : σ (24 + 54 * a + 5) = nI 1) (h10 : σ (24 + 54 * a + 10) ≤ σ 0) (hcp : σ (3 + 1) = nI cp) (hcp2 : cp ≤ 9) (hq : ce_rd M (w + 11) se = nI q) (hq2 : q ≤ cp) : ∃ M', f_X6_deliverTo w M (nI a) = some (M', nI (sp_d wz cp q)) ∧ (ms_WR M' w (sp_dn σ a wz se (sp_d wz cp q)) ∧ ms_fr w (w + 68) M M' ∧ (∀ l, ce_rd M' (w + 11) l = if l = se then nI (q + sp_d wz cp q) else ce_rd M (w + 11) l)) := by
  have hI0 := hI
  obtain ⟨R0, R1, R2, R3, R4, R5, R6, R7, R8⟩ := hR
  obtain ⟨I0, I1, I1', I2, I2', I3, I4, I5, I6, I7, I8, I9, I10⟩ := hI
  have ha8 : a < 8 := by omega
  have hd1 : sp_d wz cp q ≤ wz := by unfold sp_d; by_cases c : wz < cp - q <;> simp only [c, if_true, if_false] <;> omega
  have hS := R5 a ha8
  have hS0 := R5 a ha8
  obtain ⟨r0, r1, r2, r3, r4, r5, r6, r7, r8, r9, r10, r11, r12, r13, r14⟩ := hS
  obtain ⟨so, le, po, ca, se9, th, wz9, c, i0, i0', i1, i1', i2, i2', i3, i3', i4, i4', i5, i5', i6, i6', i11, i11', iw, ip, ib, ix, is⟩ := I7 a ha8
  have e : wz9 = wz := ms_nI (i6.symm.trans h6) (by omega) (by omega)
  subst e
  have hb60 : ∀ i, i < wz9 → ∃ e, e < 60 ∧ σ (24 + 54 * a + (12 + i)) = nI e := fun i hi => by
    obtain ⟨e, e1, e2⟩ := ib i hi
    exact ⟨e, by omega, e2⟩
  generalize hd : sp_d wz9 cp q = d at hd1
  obtain ⟨x6, x7, x8, xb, xo⟩ := sp_dn_v hs ha8 h6 hw hb60 d hd1
  have hmin : ce_min (nI wz9) (nI (cp - q)) = nI d := by
    unfold ce_min
    rw [← hd]
    unfold sp_d
    by_cases c0 : cp - q < wz9
    · rw [if_pos (nI_lt c0 (by omega)), if_neg (by omega)]
    · rw [if_neg (nI_nlt (by omega) (by omega))]
      by_cases c1 : wz9 < cp - q
      · rw [if_pos c1]
      · rw [if_neg c1]; exact congrArg nI (by omega)
  have z6 : ce_rd M (w + 2 + (10 + 7 * a) + 5) 1 = nI wz9 := r6.trans i6
  have hP : ∃ r, f_X6_deliverTo w M (nI a) = some r ∧ (r.2 = nI d ∧ ms_WR r.1 w (sp_dn σ a wz9 se d) ∧ ms_fr w (w + 68) M r.1 ∧ (∀ l, ce_rd r.1 (w + 11) l = if l = se then nI (q + d) else ce_rd M (w + 11) l)) := by
    unfold f_X6_deliverTo
    rw [ms_gi ha8 (by omega), nI_clamp (show a < 2 ^ 31 by omega), ms_nm, r5, h5, if_neg (show ¬ nI 1 = 0 by decide), r10, R0, if_pos h10, show ∀ K : Option (ce_M × Int32), ce_gi 1 4 K = K from fun K => ms_gi (n := 1) (by omega) (by omega), show ce_rd M (w + 1) (Int32.toNatClampNeg 1) = nI cp from (R3 1 (by omega)).trans hcp, ms_nm, r4, h4, ms_gi (show se < 16 by omega) (show 16 < 2 ^ 31 by omega), nI_clamp (show se < 2 ^ 31 by omega), hq, ms_nm, ms_sub hq2, ms_nm, z6, hmin, ms_nm, ms_nm]
    refine cs_dloop (M := M) (w := w) (d := d) hs ha8 hw hd1 ib I2' (R2.trans I2) z6 (fun i hi => r13 wz9 i6 i6' i hi) (fun f hf => (R6 f hf).2.2.2.2.2) _ _ (fun M1 j1 j2 j3 => ?_)
    obtain ⟨M2, y1, f1, f2, f3, f4⟩ := cs_remove (M := M1) (k := w + 2 + (10 + 7 * a) + 5) (s := wz9) (d := d) (by rw [j2 _ (by omega)]; exact z6) hw hd1
    have g2 : ∀ x, x ≠ w + 3 + 6 → x < w + 2 + (10 + 7 * a) + 5 ∨ w + 2 + (10 + 7 * a) + 7 ≤ x → ce_rd M2 x = ce_rd M x := fun x q1 q2 => by rw [f2 x (by omega), j2 x q1]
    have z9 : ce_rd M2 (w + 2 + (10 + 7 * a)) 9 = σ (24 + 54 * a + 7) := by rw [g2 _ (by omega) (by omega)]; exact r7
    have z4 : ∀ (v : Int32), ce_rd (ce_wr M2 (w + 2 + (10 + 7 * a)) 9 v) (w + 2 + (10 + 7 * a)) 6 = nI se := fun v => by rw [ms_rw3 (by omega), g2 _ (by omega) (by omega), r4]; exact h4
    have zq : ∀ (v : Int32), ce_rd (ce_wr M2 (w + 2 + (10 + 7 * a)) 9 v) (w + 11) se = nI q := fun v => by rw [ms_row (by omega), g2 _ (by omega) (by omega)]; exact hq
    have z42 : ∀ (v x : Int32), ce_rd (ce_wr (ce_wr M2 (w + 2 + (10 + 7 * a)) 9 v) (w + 11) se x) (w + 2 + (10 + 7 * a)) 6 = nI se := fun v x => by rw [ms_row (by omega)]; exact z4 v
    have z10 : ∀ (v x : Int32), ce_rd (ce_wr (ce_wr M2 (w + 2 + (10 + 7 * a)) 9 v) (w + 11) se x) (w + 10) se = σ (8 + se) := fun v x => by rw [ms_row (by omega), ms_row (by omega), g2 _ (by omega) (by omega)]; exact R4 se hs
    refine ⟨(ce_wr (ce_wr (ce_wr M2 (w + 2 + (10 + 7 * a)) 9 (σ (24 + 54 * a + 7) + nI d)) (w + 11) se (nI (q + d))) (w + 10) se (σ (8 + se) + nI d), nI d), ?_, rfl, ?_, ?_, fun l => ?_⟩
    · simp only [y1, ms_b1, ms_nm, z9, z4, ms_gi (show se < 16 by omega) (show 16 < 2 ^ 31 by omega), nI_clamp (show se < 2 ^ 31 by omega), zq, nI_add, z42, z10]
    · have hS1 : ms_SR M1 (w + 2 + (10 + 7 * a)) σ a := ms_SR_fr hS0 (fun x q1 q2 => j2 x (by omega)) (fun _ _ => rfl) rfl
      have hrt : sp_rt (sp_dn σ a wz9 se d) a 60 = sp_rt σ a 60 := sp_rt_eq 60 (fun e he => xo _ (by omega) (by omega) (by omega) (fun f hf => by omega) (by omega))
      have hrt1 : sp_rt (upd (sp_dn σ a wz9 se d) (24 + 54 * a + 7) (σ (24 + 54 * a + 7))) a 60 = sp_rt σ a 60 := (sp_rt_eq 60 (fun e he => ms_u2 (by omega))).trans hrt
      have s1 : ms_SR M2 (w + 2 + (10 + 7 * a)) (upd (sp_dn σ a wz9 se d) (24 + 54 * a + 7) (σ (24 + 54 * a + 7))) a := cs_SR_rm hS1 i6 i6' hd1 f2 f3 f4 (fun j q1 q2 q3 => by
        by_cases q7 : j = 7
        · subst q7; rw [ms_u1 rfl]
        · rw [ms_u2 (by omega)]; exact xo _ (by omega) (by omega) (by omega) (fun f hf => by omega) (by omega)) (by rw [ms_u2 (by omega)]; exact x6) (fun i hi => by rw [ms_u2 (by omega)]; exact xb i hi) hrt1
      have s2 := cs_F9 ha8 s1 (σ (24 + 54 * a + 7) + nI d)
      have s3 : ms_SR (ce_wr M2 (w + 2 + (10 + 7 * a)) 9 (σ (24 + 54 * a + 7) + nI d)) (w + 2 + (10 + 7 * a)) (sp_dn σ a wz9 se d) a := ms_SR_cg s2 (fun j hj => by
        by_cases q7 : j = 7
        · subst q7; rw [ms_u1 rfl, x7]
        · rw [ms_u2 (by omega), ms_u2 (by omega)]) (hrt.trans (((sp_rt_eq 60 (fun e he => ms_u2 (by omega))).trans hrt1).symm))
      have x0 : ∀ j, j < 8 → sp_dn σ a wz9 se d j = σ j := fun j hj => xo j (by omega) (by omega) (by omega) (fun f hf => by omega) (by omega)
      refine ⟨?_, ?_, ?_, fun i hi => ?_, fun l hl => ?_, fun b hb => ?_, fun f hf => ?_, ?_, fun m q1 q2 b q3 q4 => ?_⟩
      · rw [ms_row (by omega), ms_row (by omega), ms_row (by omega), g2 _ (by omega) (by omega), x0 0 (by omega)]; exact R0
      · rw [ms_row (by omega), ms_row (by omega), ms_row (by omega), g2 _ (by omega) (by omega), x0 1 (by omega)]; exact R1
      · rw [ms_row (by omega), ms_row (by omega), ms_row (by omega), g2 _ (by omega) (by omega), x0 2 (by omega)]; exact R2
      · rw [ms_row (by omega), ms_row (by omega), ms_row (by omega), g2 _ (by omega) (by omega), x0 _ (by omega)]; exact R3 i hi
      · by_cases q0 : l = se
        · rw [ms_rw1 rfl q0, q0, x8]
        · rw [ms_rw3 q0, ms_row (by omega), ms_row (by omega), g2 _ (by omega) (by omega), xo _ (by omega) (by omega) (by omega) (fun f hf => by omega) (by omega)]; exact R4 l hl
      · by_cases q0 : b = a
        · subst q0
          exact ms_SR_fr s3 (fun x q1 q2 => by rw [ms_row (by omega), ms_row (by omega)]) (fun _ _ => rfl) rfl
        · exact ms_SR_fr (R5 b hb) (fun x q1 q2 => by rw [ms_row (by omega), ms_row (by omega), ms_row (by omega), g2 _ (by omega) (by omega)]) (fun j hj => xo _ (by omega) (by omega) (by omega) (fun f hf => by omega) (by omega)) (sp_rt_eq 60 (fun e he => xo _ (by omega) (by omega) (by omega) (fun f hf => by omega) (by omega)))
      · obtain ⟨v0, v1, v2, v3, v4, v5⟩ := R6 f hf
        have gg : ∀ x, w + 3 + 1 ≤ x → x ≤ w + 3 + 5 → ce_rd (ce_wr (ce_wr (ce_wr M2 (w + 2 + (10 + 7 * a)) 9 (σ (24 + 54 * a + 7) + nI d)) (w + 11) se (nI (q + d))) (w + 10) se (σ (8 + se) + nI d)) x = ce_rd M x := fun x q1 q2 => by rw [ms_row (by omega), ms_row (by omega), ms_row (by omega), g2 _ (by omega) (by omega)]
        have ge : ∀ k, k < 5 → sp_dn σ a wz9 se d (456 + 6 * f + k) = σ (456 + 6 * f + k) := fun k hk => xo _ (by omega) (by omega) (by omega) (fun e he => by omega) (by omega)
        rw [gg _ (by omega) (by omega), gg _ (by omega) (by omega), gg _ (by omega) (by omega), gg _ (by omega) (by omega), gg _ (by omega) (by omega), ge 0 (by omega), ge 1 (by omega), ge 2 (by omega), ge 3 (by omega), ge 4 (by omega), ms_row (by omega), ms_row (by omega), ms_row (by omega), f2 _ (by omega)]
        exact ⟨v0, v1, v2, v3, v4, j3 f hf⟩
      · rw [x0 7 (by omega), ← R7]
        refine sp_lost_eq 8 (fun b hb => ?_)
        rw [ms_row (by omega), ms_row (by omega)]
        by_cases q0 : b = a
        · subst q0; rw [ms_rw3 (by omega), g2 _ (by omega) (by omega)]
        · rw [ms_row (by omega), g2 _ (by omega) (by omega)]
      · rw [x0 1 (by omega)] at q1
        have : ce_rd M (w + 2 + (10 + 7 * b)) 11 = nI 0 := R8 m q1 q2 b q3 q4
        rw [ms_row (by omega), ms_row (by omega)]
        by_cases q0 : b = a
        · subst q0; rw [ms_rw3 (by omega), g2 _ (by omega) (by omega)]; exact this
        · rw [ms_row (by omega), g2 _ (by omega) (by omega)]; exact this
    · exact ms_fr_t ⟨j1, fun x hx => j2 x (by omega)⟩ (ms_fr_t ⟨f1, fun x hx => f2 x (by omega)⟩ (ms_fr_t (ms_fr_w (by omega) (by omega)) (ms_fr_t (ms_fr_w (by omega) (by omega)) (ms_fr_w (by omega) (by omega)))))
    · show ce_rd (ce_wr (ce_wr (ce_wr M2 _ 9 _) (w + 11) se _) (w + 10) se _) (w + 11) l = _
      rw [ms_row (by omega)]
      by_cases q0 : l = se
      · rw [ms_rw1 rfl q0, if_pos q0]
      · rw [ms_rw3 q0, if_neg q0, ms_row (by omega), g2 _ (by omega) (by omega)]
  obtain ⟨r, e1, e2a, e2b⟩ := hP
  exact ⟨r.1, by rw [e1, ← e2a], e2b⟩
