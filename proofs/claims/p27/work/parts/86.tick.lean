/-! a tick: what each leaf delivered -/
theorem q_hall_8 {σ : Nat → Int32} {t n en : Nat} (hI : ms_IN σ t n en) : ∀ i, i ≤ n → ∀ j, (j < 24 ∨ 24 + 54 * n ≤ j) → sp_hall σ i j = σ j
  | 0, _, _, _ => rfl
  | i + 1, h, j, hj => by
    have hn := hI.2.2.1
    have ih := q_hall_8 hI i (by omega) j hj
    show sp_hs (sp_hall σ i) i j = σ j
    rw [← ih]
    unfold sp_hs
    by_cases c : sp_du (sp_hall σ i) i = true
    · rw [if_pos c]
      have hIi := ms_IN_hall hI i (by omega)
      obtain ⟨cc, c1, c2, c3⟩ := hIi.2.2.2.2.2.2.2.2.2.2.1 i (by omega)
      rw [c3, nI_clamp (by omega)]
      exact sp_ho_o c1 c2 (by omega) (by omega) (by omega) (by omega) (by omega)
    · rw [if_neg c]
theorem q_hall_7 {σ : Nat → Int32} {t n en : Nat} (hI : ms_IN σ t n en) {a : Nat} (ha : a < 8) {f : Nat} (hf : f < 24) (f4 : f ≠ 4) (f9 : f ≠ 9) (f10 : f ≠ 10) (f11 : f ≠ 11) : ∀ i, i ≤ n → sp_hall σ i (24 + 54 * a + f) = σ (24 + 54 * a + f)
  | 0, _ => rfl
  | i + 1, h => by
    have hn := hI.2.2.1
    have ih := q_hall_7 hI ha hf f4 f9 f10 f11 i (by omega)
    show sp_hs (sp_hall σ i) i (24 + 54 * a + f) = _
    rw [← ih]
    unfold sp_hs
    by_cases c : sp_du (sp_hall σ i) i = true
    · rw [if_pos c]
      have hIi := ms_IN_hall hI i (by omega)
      obtain ⟨cc, c1, c2, c3⟩ := hIi.2.2.2.2.2.2.2.2.2.2.1 i (by omega)
      rw [c3, nI_clamp (by omega)]
      exact sp_ho_o c1 c2 (by omega) (by omega) (by omega) (by omega) (by omega)
    · rw [if_neg c]
/-- what holds after the deliveries to the first i -/
def q_DI (σ : Nat → Int32) (z : (Nat → Int32) × (Nat → Int32) × Int32) (t n cp i : Nat) : Prop := (∀ l, l < 16 → ∃ q, q ≤ cp ∧ z.2.1 l = nI q ∧ z.1 (8 + l) = σ (8 + l) + nI q) ∧ sp_sm (sp_f z.1 7) n = sp_sm (sp_f σ 7) n + z.2.2 ∧ (∀ a, a < i → ∀ se, se < 16 → z.1 (24 + 54 * a + 5) = nI 1 → z.1 (24 + 54 * a + 4) = nI se → z.1 (24 + 54 * a + 10) ≤ nI t → z.1 (24 + 54 * a + 6) = nI 0 ∨ z.2.1 se = nI cp)
theorem q_DI_s {σ : Nat → Int32} {z : (Nat → Int32) × (Nat → Int32) × Int32} {t n en cp m i : Nat} (h : q_DI σ z t n cp i) (hz : ms_DZ z t n en cp m) (hcp : cp ≤ 9) (hi : i < n) : q_DI σ (sp_ds z i) t n cp (i + 1) := by
  have hI := hz.1
  have hn := hI.2.2.1
  have hen := hI.2.2.2.2.1
  obtain ⟨h1, h2, h3⟩ := h
  by_cases c9 : z.1 (24 + 54 * i + 5) = nI 1 ∧ z.1 (24 + 54 * i + 10) ≤ z.1 0
  · obtain ⟨so, le, po, ca, se, th, wz, c, i0, i0', i1, i1', i2, i2', i3, i3', i4, i4', i5, i5', i6, i6', i11, i11', iw, ip, ib, ix, is⟩ := hI.2.2.2.2.2.2.2.2.2.1 i (by omega)
    obtain ⟨z1, z2, z3, z4⟩ := hz
    obtain ⟨q, q1, q2, q3⟩ := h1 se i4'
    rw [sp_ds_y c9.1 c9.2 i6 i6' i4 i4' z2 hcp q2 (by omega)]
    have hb : ∀ j, j < wz → ∃ e, e < 60 ∧ z.1 (24 + 54 * i + (12 + j)) = nI e := fun j hj => by
      obtain ⟨e, e1, e2⟩ := ib j hj
      exact ⟨e, by omega, e2⟩
    have hd1 := sp_d_le1 wz cp q
    have hd2 := sp_d_le2 wz cp q
    obtain ⟨v1, v2, v3, v4, v5⟩ := sp_dn_v i4' (show i < 8 by omega) i6 i6' hb (sp_d wz cp q) hd1
    have hdd : sp_d wz cp q = wz ∨ sp_d wz cp q = cp - q := by
      unfold sp_d
      split
      · exact Or.inl rfl
      · exact Or.inr rfl
    unfold sp_dx
    generalize sp_d wz cp q = d at v1 v2 v3 v4 v5 hd1 hd2 hdd
    generalize sp_dn z.1 i wz se d = τ at v1 v2 v3 v4 v5
    have o : ∀ j, j ≠ 24 + 54 * i + 6 → j ≠ 24 + 54 * i + 7 → j ≠ 8 + se → j < 456 → (j < 24 + 54 * i + 12 ∨ 24 + 54 * i + 24 ≤ j) → τ j = z.1 j := fun j q1 q2 q3 q4 q5 => v5 j q1 q2 q3 (fun e he => by omega) q5
    refine ⟨fun l hl => ?_, ?_, fun a ha s hs a5 a4 a10 => ?_⟩
    · by_cases e : l = se
      · subst e
        exact ⟨q + d, by omega, ms_u1 rfl, by show τ (8 + l) = _; rw [v3, q3, Int32.add_assoc, nI_add]⟩
      · obtain ⟨q', r1, r2, r3⟩ := h1 l hl
        exact ⟨q', r1, (ms_u2 e).trans r2, by show τ (8 + l) = _; rw [o _ (by omega) (by omega) (by omega) (by omega) (by omega)]; exact r3⟩
    · show sp_sm (sp_f τ 7) n = _ + (z.2.2 + nI d)
      rw [q_sm_addB (f := sp_f z.1 7) (g := sp_f τ 7) (a := i) (v := nI d) (N := n) (fun b hb hne => o (24 + 54 * b + 7) (by omega) (by omega) (by omega) (by omega) (by omega)) v2 n (Nat.le_refl _) hi, h2, Int32.add_assoc]
    · have a5 : τ (24 + 54 * a + 5) = nI 1 := a5
      have a4 : τ (24 + 54 * a + 4) = nI s := a4
      have a10 : τ (24 + 54 * a + 10) ≤ nI t := a10
      show τ (24 + 54 * a + 6) = nI 0 ∨ upd z.2.1 se (nI (q + d)) s = nI cp
      rw [o _ (by omega) (by omega) (by omega) (by omega) (by omega)] at a5 a4 a10
      by_cases e : a = i
      · subst e
        have es : s = se := ms_nI (a4.symm.trans i4) (by omega) (by omega)
        subst es
        rcases hdd with e1 | e1
        · left; rw [v1, e1, Nat.sub_self]
        · right; rw [ms_u1 rfl, e1]; congr 1; omega
      · rw [o _ (by omega) (by omega) (by omega) (by omega) (by omega)]
        rcases h3 a (by omega) s hs a5 a4 a10 with r | r
        · exact Or.inl r
        · right
          by_cases e2 : s = se
          · subst e2
            have : q = cp := ms_nI (q2.symm.trans r) (by omega) (by omega)
            rw [ms_u1 rfl]
            congr 1
            omega
          · rw [ms_u2 e2]; exact r
  · unfold sp_ds
    rw [if_neg c9]
    refine ⟨h1, h2, fun a ha s hs a5 a4 a10 => ?_⟩
    by_cases e : a = i
    · subst e
      exact absurd ⟨a5, by rw [hI.1]; exact a10⟩ c9
    · exact h3 a (by omega) s hs a5 a4 a10
theorem q_DI_all {σ : Nat → Int32} {z : (Nat → Int32) × (Nat → Int32) × Int32} {t n en cp : Nat} (h : q_DI σ z t n cp 0) (hz : ms_DZ z t n en cp 0) (hcp : cp ≤ 9) : ∀ i, i ≤ n → q_DI σ (sp_dall z i) t n cp i
  | 0, _ => h
  | i + 1, hi => q_DI_s (q_DI_all h hz hcp i (by omega)) (ms_DZ_all hz hcp i (by omega)) hcp (by omega)
theorem q_tk {σ : Nat → Int32} {t n en : Nat} (hI : ms_IN σ t n en) : ∃ cp, cp ≤ 9 ∧ σ (3 + 1) = nI cp ∧ sp_tick σ n (3 + 1) = nI cp ∧ sp_sm (sp_f (sp_tick σ n) 7) n = sp_sm (sp_f σ 7) n + (sp_tz σ n).2.2 ∧ ∀ l, l < 16 → ∃ q, q ≤ cp ∧ sp_tick σ n (8 + l) = σ (8 + l) + nI q ∧ (q = cp ∨ ∀ a, a < n → sp_tick σ n (24 + 54 * a + 5) = nI 1 → sp_tick σ n (24 + 54 * a + 4) = nI l → sp_tick σ n (24 + 54 * a + 10) ≤ nI t → sp_tick σ n (24 + 54 * a + 6) = nI 0) := by
  have hn := hI.2.2.1
  obtain ⟨cp, hcp, hz⟩ := ms_DZ_h hI
  have h0 : q_DI σ (sp_hall σ n, (fun _ => nI 0), nI 0) t n cp 0 := ⟨fun l hl => ⟨0, by omega, rfl, by show sp_hall σ n (8 + l) = _; rw [q_hall_8 hI n (Nat.le_refl _) _ (by omega), ms_add0]⟩, by show sp_sm (sp_f (sp_hall σ n) 7) n = _ + nI 0; rw [ms_add0]; exact sp_sm_eq n (fun a ha => q_hall_7 (f := 7) hI (by omega) (by omega) (by omega) (by omega) (by omega) (by omega) n (Nat.le_refl _)), fun a ha => absurd ha (by omega)⟩
  have hc : σ (3 + 1) = nI cp := by
    have : sp_hall σ n (3 + 1) = nI cp := hz.2.1
    rw [q_hall_8 hI n (Nat.le_refl _) _ (by omega)] at this
    exact this
  obtain ⟨d1, d2, d3⟩ := q_DI_all h0 hz hcp n (Nat.le_refl _)
  have hzn := ms_DZ_all hz hcp n (Nat.le_refl _)
  have p : ∀ j, j ≠ 0 → sp_tick σ n j = (sp_dall (sp_hall σ n, (fun _ => nI 0), nI 0) n).1 j := fun j hj => by
    unfold sp_tick sp_tz
    rw [ms_u2 hj]
  refine ⟨cp, hcp, hc, by rw [p _ (by omega)]; exact hzn.2.1, ?_, fun l hl => ?_⟩
  · exact (sp_sm_eq (f := sp_f (sp_tick σ n) 7) n (fun a ha => p (24 + 54 * a + 7) (by omega))).trans d2
  · obtain ⟨q, q1, q2, q3⟩ := d1 l hl
    refine ⟨q, q1, by rw [p _ (by omega)]; exact q3, ?_⟩
    by_cases e : q = cp
    · exact Or.inl e
    · refine Or.inr (fun a ha a5 a4 a10 => ?_)
      rw [p _ (by omega)] at a5 a4 a10 ⊢
      rcases d3 a ha l hl a5 a4 a10 with r | r
      · exact r
      · exact absurd (ms_nI (q2.symm.trans r) (by omega) (by omega)) e
