/-! what is told ahead: over the ticks -/
theorem q_hs_o {ρ : Nat → Int32} {t n en i : Nat} (hI : ms_IN ρ t n en) (hi : i < n) {j : Nat} (hj : j < 24 + 54 * i ∨ 24 + 54 * i + 54 ≤ j) : sp_hs ρ i j = ρ j := by
  unfold sp_hs
  by_cases c : sp_du ρ i = true
  · rw [if_pos c]
    obtain ⟨cc, c1, c2, c3⟩ := hI.2.2.2.2.2.2.2.2.2.2.1 i hi
    rw [c3, nI_clamp (by omega)]
    exact sp_ho_o c1 c2 (by omega) (by omega) (by omega) (by omega) (by omega)
  · rw [if_neg c]
theorem q_hall_b {σ : Nat → Int32} {t n en a : Nat} (hI : ms_IN σ t n en) : ∀ i, i ≤ a → i ≤ n → ∀ j, j < 54 → sp_hall σ i (24 + 54 * a + j) = σ (24 + 54 * a + j)
  | 0, _, _, _, _ => rfl
  | i + 1, h1, h2, j, hj => by
    show sp_hs (sp_hall σ i) i _ = _
    rw [q_hs_o (ms_IN_hall hI i (by omega)) (by omega) (by omega)]
    exact q_hall_b hI i (by omega) (by omega) j hj
theorem q_hall_a {σ : Nat → Int32} {t n en a : Nat} (hI : ms_IN σ t n en) (ha : a < n) : ∀ k, a + 1 + k ≤ n → ∀ j, j < 54 → sp_hall σ (a + 1 + k) (24 + 54 * a + j) = sp_hall σ (a + 1) (24 + 54 * a + j)
  | 0, _, _, _ => rfl
  | k + 1, h, j, hj => by
    show sp_hs (sp_hall σ (a + 1 + k)) (a + 1 + k) _ = _
    rw [q_hs_o (ms_IN_hall hI (a + 1 + k) (by omega)) (by omega) (by omega)]
    exact q_hall_a hI ha k (by omega) j hj
theorem q_hall_4 {σ : Nat → Int32} {t n en a : Nat} (hI : ms_IN σ t n en) (ha : a < n) : sp_hall σ n (24 + 54 * a + 4) = if sp_du σ a = true then σ (24 + 54 * a + 2) else σ (24 + 54 * a + 4) := by
  have hn := hI.2.2.1
  have e := q_hall_a hI ha (n - (a + 1)) (by omega) 4 (by omega)
  rw [show a + 1 + (n - (a + 1)) = n by omega] at e
  rw [e]
  show sp_hs (sp_hall σ a) a _ = _
  have B := fun j (hj : j < 54) => q_hall_b hI a (Nat.le_refl _) (by omega) j hj
  have B0 := q_hall_8 hI a (by omega) 0 (Or.inl (by omega))
  have B3 := q_hall_8 hI a (by omega) (3 + 0) (Or.inl (by omega))
  have hdu : sp_du (sp_hall σ a) a = sp_du σ a := by
    unfold sp_du sp_dw
    rw [B 0 (by omega), B 2 (by omega), B 3 (by omega), B 4 (by omega), B 5 (by omega), B0, B3]
  unfold sp_hs
  rw [hdu]
  by_cases c : sp_du σ a = true
  · rw [if_pos c, if_pos c, sp_ho_4, B 2 (by omega)]
  · rw [if_neg c, if_neg c, B 4 (by omega)]
/-- the deliveries leave these places; what they take of one inbox -/
theorem q_ds_o {z : (Nat → Int32) × (Nat → Int32) × Int32} {t n en cp m i : Nat} (hz : ms_DZ z t n en cp m) (hcp : cp ≤ 9) (hi : i < n) : (∀ j, (j < 8 ∨ 24 ≤ j) → j < 456 → (∀ f, f < 54 → (f = 6 ∨ f = 7 ∨ (12 ≤ f ∧ f < 24)) → j ≠ 24 + 54 * i + f) → (sp_ds z i).1 j = z.1 j) ∧ (∀ a, a < n → ∀ M, z.2.2 = nI M → ∃ M', M ≤ M' ∧ M' ≤ M + 12 ∧ (sp_ds z i).2.2 = nI M' ∧ (z.1 (24 + 54 * a + 6)).toNatClampNeg + M ≤ ((sp_ds z i).1 (24 + 54 * a + 6)).toNatClampNeg + M') := by
  have hI := hz.1
  have hn := hI.2.2.1
  have hen := hI.2.2.2.2.1
  by_cases c9 : z.1 (24 + 54 * i + 5) = nI 1 ∧ z.1 (24 + 54 * i + 10) ≤ z.1 0
  · obtain ⟨so, le, po, ca, se, th, wz, c, i0, i0', i1, i1', i2, i2', i3, i3', i4, i4', i5, i5', i6, i6', i11, i11', iw, ip, ib, ix, is⟩ := hI.2.2.2.2.2.2.2.2.2.1 i (by omega)
    obtain ⟨z1, z2, z3, z4⟩ := hz
    obtain ⟨q, q1, q2⟩ := z3 se i4'
    rw [sp_ds_y c9.1 c9.2 i6 i6' i4 i4' z2 hcp q2 (by omega)]
    have hb : ∀ j, j < wz → ∃ e, e < 60 ∧ z.1 (24 + 54 * i + (12 + j)) = nI e := fun j hj => by
      obtain ⟨e, e1, e2⟩ := ib j hj
      exact ⟨e, by omega, e2⟩
    have hd1 := sp_d_le1 wz cp q
    obtain ⟨v1, v2, v3, v4, v5⟩ := sp_dn_v i4' (show i < 8 by omega) i6 i6' hb (sp_d wz cp q) hd1
    unfold sp_dx
    generalize sp_d wz cp q = d at v1 v2 v3 v4 v5 hd1
    generalize sp_dn z.1 i wz se d = τ at v1 v2 v3 v4 v5
    have o : ∀ j, (j < 8 ∨ 24 ≤ j) → j < 456 → (∀ f, f < 54 → (f = 6 ∨ f = 7 ∨ (12 ≤ f ∧ f < 24)) → j ≠ 24 + 54 * i + f) → τ j = z.1 j := fun j h1 h2 h3 => by
      refine v5 j (h3 6 (by omega) (by omega)) (h3 7 (by omega) (by omega)) (by omega) (fun e he => by omega) ?_
      by_cases q9 : j < 24 + 54 * i + 12 ∨ 24 + 54 * i + 24 ≤ j
      · exact q9
      · exact absurd rfl (show ¬ j = j from fun _ => h3 (j - (24 + 54 * i)) (by omega) (by omega) (by omega))
    refine ⟨o, fun a ha M hM => ⟨M + d, by omega, by omega, by show z.2.2 + nI d = _; rw [hM, nI_add], ?_⟩⟩
    show (z.1 (24 + 54 * a + 6)).toNatClampNeg + M ≤ (τ (24 + 54 * a + 6)).toNatClampNeg + (M + d)
    by_cases e : a = i
    · subst e
      rw [v1, i6, nI_clamp (by omega), nI_clamp (by omega)]
      omega
    · rw [o _ (by omega) (by omega) (fun f hf _ => by omega)]
      omega
  · unfold sp_ds
    rw [if_neg c9]
    exact ⟨fun _ _ _ _ => rfl, fun a ha M hM => ⟨M, Nat.le_refl _, by omega, hM, Nat.le_refl _⟩⟩
theorem q_dall_o {z : (Nat → Int32) × (Nat → Int32) × Int32} {t n en cp : Nat} (hz : ms_DZ z t n en cp 0) (hcp : cp ≤ 9) (h0 : z.2.2 = nI 0) : ∀ i, i ≤ n → (∀ j, (j < 8 ∨ 24 ≤ j) → j < 456 → (∀ b, b < 8 → ∀ f, f < 54 → (f = 6 ∨ f = 7 ∨ (12 ≤ f ∧ f < 24)) → j ≠ 24 + 54 * b + f) → (sp_dall z i).1 j = z.1 j) ∧ (∀ a, a < n → ∃ M', M' ≤ 12 * i ∧ (sp_dall z i).2.2 = nI M' ∧ (z.1 (24 + 54 * a + 6)).toNatClampNeg ≤ ((sp_dall z i).1 (24 + 54 * a + 6)).toNatClampNeg + M')
  | 0, _ => ⟨fun _ _ _ _ => rfl, fun a ha => ⟨0, by omega, h0, by show _ ≤ (z.1 _).toNatClampNeg + 0; omega⟩⟩
  | i + 1, h => by
    have hn := hz.1.2.2.1
    obtain ⟨p1, p2⟩ := q_dall_o hz hcp h0 i (by omega)
    obtain ⟨s1, s2⟩ := q_ds_o (ms_DZ_all hz hcp i (by omega)) hcp (show i < n by omega)
    refine ⟨fun j h1 h2 h3 => (s1 j h1 h2 (h3 i (by omega))).trans (p1 j h1 h2 h3), fun a ha => ?_⟩
    obtain ⟨M, m1, m2, m3⟩ := p2 a ha
    obtain ⟨M', k1, k2, k3, k4⟩ := s2 a ha M m2
    refine ⟨M', by omega, k3, ?_⟩
    show _ ≤ ((sp_ds (sp_dall z i) i).1 (24 + 54 * a + 6)).toNatClampNeg + M'
    omega
theorem q_tick_o {σ : Nat → Int32} {t n en a : Nat} (hI : ms_IN σ t n en) (ha : a < n) : sp_tick σ n (3 + 0) = σ (3 + 0) ∧ sp_tick σ n (24 + 54 * a + 0) = σ (24 + 54 * a + 0) ∧ sp_tick σ n (24 + 54 * a + 2) = σ (24 + 54 * a + 2) ∧ sp_tick σ n (24 + 54 * a + 3) = σ (24 + 54 * a + 3) ∧ sp_tick σ n (24 + 54 * a + 5) = σ (24 + 54 * a + 5) ∧ sp_tick σ n (24 + 54 * a + 4) = (if sp_du σ a = true then σ (24 + 54 * a + 2) else σ (24 + 54 * a + 4)) ∧ ∃ M, M ≤ 96 ∧ (sp_tz σ n).2.2 = nI M ∧ (σ (24 + 54 * a + 6)).toNatClampNeg ≤ (sp_tick σ n (24 + 54 * a + 6)).toNatClampNeg + M := by
  have hn := hI.2.2.1
  obtain ⟨cp, hcp, hz⟩ := ms_DZ_h hI
  obtain ⟨d1, d2⟩ := q_dall_o hz hcp rfl n (Nat.le_refl _)
  have p : ∀ j, j ≠ 0 → sp_tick σ n j = (sp_dall (sp_hall σ n, (fun _ => nI 0), nI 0) n).1 j := fun j hj => by
    unfold sp_tick sp_tz
    rw [ms_u2 hj]
  have P : ∀ f, f < 6 → sp_tick σ n (24 + 54 * a + f) = sp_hall σ n (24 + 54 * a + f) := fun f hf => (p _ (by omega)).trans (d1 _ (by omega) (by omega) (fun b hb g hg hg2 => by omega))
  have H : ∀ f, f < 24 → f ≠ 4 → f ≠ 9 → f ≠ 10 → f ≠ 11 → sp_hall σ n (24 + 54 * a + f) = σ (24 + 54 * a + f) := fun f h1 h2 h3 h4 h5 => q_hall_7 hI (by omega) h1 h2 h3 h4 h5 n (Nat.le_refl _)
  refine ⟨?_, (P 0 (by omega)).trans (H 0 (by omega) (by omega) (by omega) (by omega) (by omega)), (P 2 (by omega)).trans (H 2 (by omega) (by omega) (by omega) (by omega) (by omega)), (P 3 (by omega)).trans (H 3 (by omega) (by omega) (by omega) (by omega) (by omega)), (P 5 (by omega)).trans (H 5 (by omega) (by omega) (by omega) (by omega) (by omega)), (P 4 (by omega)).trans (q_hall_4 hI ha), ?_⟩
  · rw [p _ (by omega), d1 _ (by omega) (by omega) (fun b hb g hg hg2 => by omega)]
    exact q_hall_8 hI n (Nat.le_refl _) _ (by omega)
  · obtain ⟨M, m1, m2, m3⟩ := d2 a ha
    refine ⟨M, by omega, m2, ?_⟩
    rw [p _ (by omega)]
    have : sp_hall σ n (24 + 54 * a + 6) = σ (24 + 54 * a + 6) := H 6 (by omega) (by omega) (by omega) (by omega) (by omega)
    rw [← this]
    exact m3
theorem q_ps_w {σ : Nat → Int32} {t n en a : Nat} (hI : ms_IN σ t n en) (ha : a < n) : ∀ k, ∃ M, M ≤ 96 * k ∧ (sp_ps σ n k).2 = nI M ∧ (σ (24 + 54 * a + 6)).toNatClampNeg ≤ ((sp_ps σ n k).1 (24 + 54 * a + 6)).toNatClampNeg + M
  | 0 => ⟨0, by omega, rfl, Nat.le_refl _⟩
  | k + 1 => by
    obtain ⟨M, m1, m2, m3⟩ := q_ps_w hI ha k
    obtain ⟨_, _, _, _, _, _, M', k1, k2, k3⟩ := q_tick_o (ms_IN_ps hI k) ha
    refine ⟨M + M', by omega, ?_, ?_⟩
    · show (sp_ps σ n k).2 + (sp_tz (sp_ps σ n k).1 n).2.2 = _
      rw [m2, k2, nI_add]
    · show _ ≤ (sp_tick (sp_ps σ n k).1 n (24 + 54 * a + 6)).toNatClampNeg + (M + M')
      omega
theorem q_ps_se {σ : Nat → Int32} {t n en a po se ca dw : Nat} (hI : ms_IN σ t n en) (ht : t ≤ 9999) (ha : a < n) (i5 : σ (24 + 54 * a + 5) = nI 1) (i2 : σ (24 + 54 * a + 2) = nI po) (i4 : σ (24 + 54 * a + 4) = nI se) (i3 : σ (24 + 54 * a + 3) = nI ca) (hca : ca ≤ t) (hpo : po < 16) (hse : se < 16) (hne : po ≠ se) (hdw : sp_dw σ a = nI dw) (hd9 : dw ≤ 9) : ∀ k, k ≤ 60 → (sp_ps σ n k).1 (24 + 54 * a + 5) = nI 1 ∧ (sp_ps σ n k).1 (24 + 54 * a + 2) = nI po ∧ (sp_ps σ n k).1 (24 + 54 * a + 3) = nI ca ∧ sp_dw (sp_ps σ n k).1 a = nI dw ∧ (sp_ps σ n k).1 (24 + 54 * a + 4) = nI (if k < ca + dw - t + 1 then se else po)
  | 0, _ => ⟨i5, i2, i3, hdw, by rw [if_pos (by omega)]; exact i4⟩
  | k + 1, hk => by
    obtain ⟨r5, r2, r3, rd, r4⟩ := q_ps_se hI ht ha i5 i2 i4 i3 hca hpo hse hne hdw hd9 k (by omega)
    have hIk := ms_IN_ps hI k
    obtain ⟨t3, t0, t2, t33, t5, t4, _⟩ := q_tick_o hIk ha
    refine ⟨t5.trans r5, t2.trans r2, t33.trans r3, ?_, t4.trans ?_⟩
    · show sp_dw (sp_tick (sp_ps σ n k).1 n) a = nI dw
      rw [← rd]
      unfold sp_dw
      rw [t0, t3]
    · have hdu : (sp_du (sp_ps σ n k).1 a = true) ↔ (k < ca + dw - t + 1 ∧ dw ≤ t + k - ca) := by
        unfold sp_du
        rw [r5, r2, r4, r3, rd, hIk.1, ms_sub (show ca ≤ t + k by omega), decide_eq_true (show nI 1 = nI 1 from rfl)]
        by_cases c1 : k < ca + dw - t + 1
        · rw [if_pos c1, decide_eq_false (show ¬ nI po = nI se from fun q => hne (ms_nI q (by omega) (by omega)))]
          by_cases c2 : dw ≤ t + k - ca
          · rw [decide_eq_false (nI_nlt c2 (by omega))]
            simp [c1, c2]
          · rw [decide_eq_true (nI_lt (show t + k - ca < dw by omega) (by omega))]
            simp [c1, c2]
        · rw [if_neg c1, decide_eq_true (show nI po = nI po from rfl)]
          simp [c1]
      by_cases c : sp_du (sp_ps σ n k).1 a = true
      · obtain ⟨c1, c2⟩ := hdu.mp c
        rw [if_pos c, r2, if_neg (show ¬ k + 1 < ca + dw - t + 1 by omega)]
      · rw [if_neg c, r4]
        by_cases c1 : k < ca + dw - t + 1
        · have c2 : ¬ dw ≤ t + k - ca := fun q => c (hdu.mpr ⟨c1, q⟩)
          rw [if_pos c1, if_pos (show k + 1 < ca + dw - t + 1 by omega)]
        · rw [if_neg c1, if_neg (by omega)]
theorem q_em_v {σ : Nat → Int32} {n a : Nat} : ∀ m i, (∃ j, i ≤ j ∧ j ≤ i + m ∧ (sp_ps σ n j).1 (24 + 54 * a + 6) = nI 0 ∧ (∀ j', i ≤ j' → j' < j → (sp_ps σ n j').1 (24 + 54 * a + 6) ≠ nI 0) ∧ sp_em σ n a m i = nI j) ∨ ((sp_ps σ n i).1 (24 + 54 * a + 6) ≠ nI 0 ∧ sp_em σ n a m i = -1)
  | 0, i => by
    unfold sp_em
    by_cases q : (sp_ps σ n i).1 (24 + 54 * a + 6) = nI 0
    · exact Or.inl ⟨i, Nat.le_refl _, by omega, q, fun j' h1 h2 => absurd h1 (by omega), if_pos q⟩
    · exact Or.inr ⟨q, if_neg q⟩
  | m + 1, i => by
    unfold sp_em
    by_cases q : (sp_ps σ n i).1 (24 + 54 * a + 6) = nI 0
    · exact Or.inl ⟨i, Nat.le_refl _, by omega, q, fun j' h1 h2 => absurd h1 (by omega), if_pos q⟩
    · rw [if_neg q]
      rcases q_em_v (σ := σ) (n := n) (a := a) m (i + 1) with ⟨j, h1, h2, h3, h4, h5⟩ | ⟨_, h5⟩
      · refine Or.inl ⟨j, by omega, by omega, h3, fun j' g1 g2 => ?_, h5⟩
        by_cases e : j' = i
        · rw [e]; exact q
        · exact h4 j' (by omega) g2
      · exact Or.inr ⟨q, h5⟩
