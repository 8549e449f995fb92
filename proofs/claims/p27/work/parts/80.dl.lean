/-! a tick keeps what holds: the deliveries -/
theorem q_aod (x y z : Int32) : (x ||| y) &&& z = (x &&& z) ||| (y &&& z) := Int32.toBitVec_inj.1 BitVec.and_or_distrib_right
theorem q_or_n : ∀ d, d < 256 → ∀ a, a < 8 → nI d ||| (nI 1 <<< (nI a &&& nI 31)) = nI (d ||| 2 ^ a) := by decide +kernel
theorem q_bit_or : ∀ d, d < 256 → ∀ a, a < 8 → ∀ b, b < 8 → sp_bit (nI (d ||| 2 ^ a)) b = if b = a then nI 1 else sp_bit (nI d) b := by decide +kernel
theorem q_bit_c : ∀ m, m < 256 → ∀ a, a < 8 → sp_bit (nI m) a = nI 1 → (nI 1 <<< (nI a &&& nI 31)) &&& (nI m ^^^ (-1)) = 0 := by decide +kernel
theorem q_dt_add {σ τ : Nat → Int32} {a e : Nat} (h1 : ∀ f, f < 60 → f ≠ e → sp_bit (τ (456 + 6 * f + 5)) a = sp_bit (σ (456 + 6 * f + 5)) a) (h2 : sp_bit (τ (456 + 6 * e + 5)) a = nI 1) (h3 : sp_bit (σ (456 + 6 * e + 5)) a = nI 0) : ∀ n, n ≤ 60 → e < n → q_dt τ a n = q_dt σ a n + nI 1
  | 0, _, q => absurd q (by omega)
  | n + 1, q1, q2 => by
    show q_dt τ a n + _ = q_dt σ a n + _ + nI 1
    by_cases c : e = n
    · subst c
      rw [h2, h3, q_dt_eq e (fun f hf => h1 f (by omega) (by omega)), ms_add0]
    · rw [q_dt_add h1 h2 h3 n (by omega) (by omega), h1 n (by omega) (fun q => c q.symm), Int32.add_assoc, Int32.add_comm (nI 1), Int32.add_assoc]
theorem q_sm_addB {f g : Nat → Int32} {a N : Nat} {v : Int32} (h : ∀ b, b < N → b ≠ a → g b = f b) (h2 : g a = f a + v) : ∀ n, n ≤ N → a < n → sp_sm g n = sp_sm f n + v
  | 0, _, q => absurd q (by omega)
  | n + 1, q1, q => by
    show sp_sm g n + g n = sp_sm f n + f n + v
    by_cases c : a = n
    · subst c
      rw [h2, sp_sm_eq a (fun b hb => h b (by omega) (by omega)), Int32.add_assoc]
    · rw [q_sm_addB h h2 n (by omega) (by omega), h n (by omega) (fun e => c e.symm), Int32.add_assoc, Int32.add_comm v, Int32.add_assoc]
theorem q_JK_dl {σ : Nat → Int32} {t n en a p se e : Nat} {k : Nat → Nat} (hJ : q_JK σ t n en k) (hI : ms_IN (sp_dl σ a p se e) t n en) (ha : a < n) (i6 : σ (24 + 54 * a + 6) = nI (p + 1)) (hp : p < 12) (hs : se < 16) (hb : σ (24 + 54 * a + (12 + 0)) = nI e) (he60 : e < 60) : q_JK (sp_dl σ a p se e) t n en k := by
  have hn := hJ.1.2.2.1
  have hen := hJ.1.2.2.2.2.1
  have ha8 : a < 8 := by omega
  obtain ⟨j1, j2, ⟨lo, j3, j4⟩, j5⟩ := hJ
  have o : ∀ j, j ≠ 24 + 54 * a + 6 → j ≠ 24 + 54 * a + 7 → j ≠ 8 + se → j ≠ 456 + 6 * e + 5 → (j < 24 + 54 * a + 12 ∨ 24 + 54 * a + 24 ≤ j) → sp_dl σ a p se e j = σ j := fun j q1 q2 q3 q4 q5 => sp_dl_o hs hp q1 q2 q3 q4 q5
  have v6 : sp_dl σ a p se e (24 + 54 * a + 6) = nI p := sp_dl_6 hs ha8
  have v7 : sp_dl σ a p se e (24 + 54 * a + 7) = σ (24 + 54 * a + 7) + nI 1 := sp_dl_7 hs ha8
  have v8 : sp_dl σ a p se e (8 + se) = σ (8 + se) + nI 1 := sp_dl_8 hs ha8
  have vb : ∀ i, i < p → sp_dl σ a p se e (24 + 54 * a + (12 + i)) = σ (24 + 54 * a + (12 + (i + 1))) := fun i hi => sp_dl_b hs ha8 hp hi
  have ve : ∀ f, f < 60 → sp_dl σ a p se e (456 + 6 * f + 5) = if f = e then σ (456 + 6 * e + 5) ||| (nI 1 <<< (nI a &&& nI 31)) else σ (456 + 6 * f + 5) := fun f hf => sp_dl_e hs ha8 he60 hf hp
  generalize sp_dl σ a p se e = τ at hI o v6 v7 v8 vb ve ⊢
  obtain ⟨th, w, D, X, ch, h', c', a1, a2, a3, a4, a5, a6, a7, a8, a9, a10, a11, a12, a13, a14, ⟨G, g1, g2, g3, g4, g5, g6⟩, ⟨Eb, b1, b2⟩, a17, a18, a19⟩ := j3 a ha
  have hc10 : c' ≤ 10 := by rw [a12]; split <;> omega
  have e6 : w = p + 1 := ms_nI (a3.symm.trans i6) (by omega) (by omega)
  subst e6
  obtain ⟨x1, x2, x3, x4⟩ := b1 0 (by omega)
  have ee : Eb 0 = e := ms_nI (x1.symm.trans hb) (by omega) (by omega)
  rw [ee] at x2 x3 x4
  have hp8 : 2 ^ n ≤ 256 := Nat.le_trans (Nat.pow_le_pow_right (by omega) hn) (by decide)
  have hb4 : ∀ f, f < 60 → τ (456 + 6 * f + 4) = σ (456 + 6 * f + 4) := fun f hf => o _ (by omega) (by omega) (by omega) (by omega) (by omega)
  have hb5 : ∀ b, b < 8 → ∀ f, f < 60 → sp_bit (τ (456 + 6 * f + 5)) b = if f = e ∧ b = a then nI 1 else sp_bit (σ (456 + 6 * f + 5)) b := fun b hb8 f hf => by
    rw [ve f hf]
    by_cases q : f = e
    · subst q
      obtain ⟨m, d, m1, m2, m3, m4, m5, m6⟩ := j2 f hf
      rw [if_pos rfl, m3, q_or_n d (by omega) a ha8, q_bit_or d (by omega) a ha8 b hb8]
      by_cases q2 : b = a
      · rw [if_pos q2, if_pos ⟨rfl, q2⟩]
      · rw [if_neg q2, if_neg (fun z => q2 z.2)]
    · rw [if_neg q, if_neg (fun z => q z.1)]
  refine ⟨hI, fun f hf => ?_, ⟨lo, fun b hbn => ?_, ?_⟩, ?_⟩
  · obtain ⟨m, d, m1, m2, m3, m4, m5, m6⟩ := j2 f hf
    have rest : f < en → ∃ x y, τ (456 + 6 * f + 2) = nI x ∧ τ (456 + 6 * f + 3) = nI y ∧ x ≤ y ∧ y ≤ t := fun q => by
      obtain ⟨x, y, y1, y2, y3, y4⟩ := m6 q
      exact ⟨x, y, by rw [o _ (by omega) (by omega) (by omega) (by omega) (by omega)]; exact y1, by rw [o _ (by omega) (by omega) (by omega) (by omega) (by omega)]; exact y2, y3, y4⟩
    by_cases q : f = e
    · subst q
      refine ⟨m, d ||| 2 ^ a, by rw [hb4 f hf]; exact m1, m2, by rw [ve f hf, if_pos rfl, m3]; exact q_or_n d (by omega) a ha8, Nat.or_lt_two_pow m4 (Nat.pow_lt_pow_right (by omega) ha), ?_, rest⟩
      rw [← q_or_n d (by omega) a ha8, q_aod, m5, q_bit_c m (by omega) a ha8 (by rw [← m1]; exact x3)]
      simp
    · exact ⟨m, d, by rw [hb4 f hf]; exact m1, m2, by rw [ve f hf, if_neg q]; exact m3, m4, m5, rest⟩
  · by_cases q : b = a
    · subst q
      have S : ∀ i j, j < 3 → sp_st τ b c' i j = sp_st σ b c' i j := fun i j hj => by
        unfold sp_st
        by_cases q : i < c'
        · rw [if_pos q, if_pos q, o _ (by omega) (by omega) (by omega) (by omega) (by omega)]
        · rw [if_neg q, if_neg q]
      refine ⟨th, p, D + 1, X, ch, h', c', by rw [o _ (by omega) (by omega) (by omega) (by omega) (by omega)]; exact a1, a2, v6, by omega, by rw [v7, a5, nI_add], by rw [o _ (by omega) (by omega) (by omega) (by omega) (by omega)]; exact a6, by rw [o _ (by omega) (by omega) (by omega) (by omega) (by omega)]; exact a7, a8, by rw [o _ (by omega) (by omega) (by omega) (by omega) (by omega)]; exact a9, a10, by rw [o _ (by omega) (by omega) (by omega) (by omega) (by omega)]; exact a11, a12, fun q => absurd (a13 q) (by omega), a14, ⟨G, fun k hk => by rw [S k 1 (by omega)]; exact g1 k hk, fun k hk => by rw [S (k + 1) 2 (by omega)]; exact g2 k hk, by rw [S 0 0 (by omega), o _ (by omega) (by omega) (by omega) (by omega) (by omega)]; exact g3, g4, fun q => by rw [S 0 2 (by omega)]; exact g5 q, fun q => by rw [S 0 2 (by omega)]; exact g6 q⟩, ⟨fun i => Eb (i + 1), fun i hi => ?_, fun i hi => b2 (i + 1) (by omega)⟩, ?_, by omega, ?_⟩
      · obtain ⟨c1, c2, c3, c4⟩ := b1 (i + 1) (by omega)
        have hne : Eb (i + 1) ≠ e := by
          have : ∀ m, m + 1 < p + 1 → e < Eb (m + 1) := fun m => by
            induction m with
            | zero => intro hm; have := b2 0 (by omega); omega
            | succ m ih => intro hm; have := b2 (m + 1) (by omega); have := ih (by omega); omega
          have := this i (by omega)
          omega
        dsimp only
        exact ⟨by rw [vb i hi]; exact c1, c2, by rw [hb4 _ (by omega)]; exact c3, by rw [hb5 b ha8 _ (by omega), if_neg (fun z => hne z.1)]; exact c4⟩
      · rw [q_rt_eq 60 (fun f hf => by rw [hb4 f hf]), a17]
        congr 1
        omega
      · rw [q_dt_add (σ := σ) (e := e) (fun f hf hne => by rw [hb5 b ha8 f hf, if_neg (fun z => hne z.1)]) (by rw [hb5 b ha8 e he60, if_pos ⟨rfl, rfl⟩]) x4 60 (by omega) he60, a19, nI_add]
    · exact q_A_cg (j3 b hbn) (fun j q1 q2 => o _ (by omega) (by omega) (by omega) (by omega) (by omega)) (fun f hf => by rw [hb4 f hf]) (fun f hf => by rw [hb5 b (by omega) f hf, if_neg (fun z => q z.2)]) (Nat.le_refl _) (Nat.le_refl _) hen (Nat.le_refl _)
  · rw [o 7 (by omega) (by omega) (by omega) (by omega) (by omega)]; exact j4
  · rw [q_sm_addB (f := fun l => σ (8 + l)) (a := se) (v := nI 1) (N := 16) (fun l hl hne => o (8 + l) (by omega) (by omega) (by omega) (by omega) (by omega)) v8 16 (Nat.le_refl _) hs, j5]
    exact (q_sm_addB (f := sp_f σ 7) (a := a) (v := nI 1) (N := n) (fun b hbn hb => o (24 + 54 * b + 7) (by omega) (by omega) (by omega) (by omega) (by omega)) v7 n (Nat.le_refl _) ha).symm
theorem q_JK_dn {σ : Nat → Int32} {t n en a wz se : Nat} {k : Nat → Nat} (hJ : q_JK σ t n en k) (ha : a < n) (h6 : σ (24 + 54 * a + 6) = nI wz) (hw : wz ≤ 12) (h4 : σ (24 + 54 * a + 4) = nI se) (hs : se < 16) : ∀ d, d ≤ wz → q_JK (sp_dn σ a wz se d) t n en k
  | 0, _ => hJ
  | d + 1, hd => by
    have hn := hJ.1.2.2.1
    have hen := hJ.1.2.2.2.2.1
    obtain ⟨so, le, po, ca, se', th, wz_1, c, i0, i0', i1, i1', i2, i2', i3, i3', i4, i4', i5, i5', i6, i6', i11, i11', iw, ip, ib, ix, is⟩ := hJ.1.2.2.2.2.2.2.2.2.2.1 a (by omega)
    have ew : wz_1 = wz := ms_nI (i6.symm.trans h6) (by omega) (by omega)
    have hb : ∀ i, i < wz → ∃ e, e < 60 ∧ σ (24 + 54 * a + (12 + i)) = nI e := fun i hi => by
      obtain ⟨e, e1, e2⟩ := ib i (by omega)
      exact ⟨e, by omega, e2⟩
    obtain ⟨e, e1, e2⟩ := hb d (by omega)
    have ee : (σ (24 + 54 * a + (12 + d))).toNatClampNeg = e := by rw [e2, nI_clamp (by omega)]
    obtain ⟨v1, v2, v3, v4, v5⟩ := sp_dn_v hs (by omega) h6 hw hb d (by omega)
    have ih := q_JK_dn hJ ha h6 hw h4 hs d (by omega)
    have hI := ms_IN_dn hJ.1 ha h6 hw h4 hs hd
    show q_JK (sp_dl (sp_dn σ a wz se d) a (wz - (d + 1)) se (σ (24 + 54 * a + (12 + d))).toNatClampNeg) t n en k
    rw [ee]
    refine q_JK_dl ih ?_ ha ?_ (by omega) hs ?_ e1
    · have hI : ms_IN (sp_dl (sp_dn σ a wz se d) a (wz - (d + 1)) se (σ (24 + 54 * a + (12 + d))).toNatClampNeg) t n en := hI
      rw [ee] at hI
      exact hI
    · rw [v1]
      congr 1
      omega
    · rw [v4 0 (by omega), Nat.zero_add]
      exact e2
theorem q_JK_ds {z : (Nat → Int32) × (Nat → Int32) × Int32} {t n en cp m a : Nat} {k : Nat → Nat} (hJ : q_JK z.1 t n en k) (hz : ms_DZ z t n en cp m) (hcp : cp ≤ 9) (ha : a < n) : q_JK (sp_ds z a).1 t n en k := by
  have hn := hJ.1.2.2.1
  by_cases c9 : z.1 (24 + 54 * a + 5) = nI 1 ∧ z.1 (24 + 54 * a + 10) ≤ z.1 0
  · obtain ⟨so, le, po, ca, se, th, wz, c, i0, i0', i1, i1', i2, i2', i3, i3', i4, i4', i5, i5', i6, i6', i11, i11', iw, ip, ib, ix, is⟩ := hJ.1.2.2.2.2.2.2.2.2.2.1 a (by omega)
    obtain ⟨z1, z2, z3, z4⟩ := hz
    obtain ⟨q, q1, q2⟩ := z3 se i4'
    rw [sp_ds_y c9.1 c9.2 i6 i6' i4 i4' z2 hcp q2 (by omega)]
    exact q_JK_dn hJ ha i6 i6' i4 i4' _ (sp_d_le1 _ _ _)
  · unfold sp_ds
    rw [if_neg c9]
    exact hJ
theorem q_JK_dall {z : (Nat → Int32) × (Nat → Int32) × Int32} {t n en cp : Nat} {k : Nat → Nat} (hJ : q_JK z.1 t n en k) (hz : ms_DZ z t n en cp 0) (hcp : cp ≤ 9) : ∀ i, i ≤ n → q_JK (sp_dall z i).1 t n en k
  | 0, _ => hJ
  | i + 1, h => q_JK_ds (q_JK_dall hJ hz hcp i (by omega)) (ms_DZ_all hz hcp i (by omega)) hcp (by omega)
theorem q_J_tick {σ : Nat → Int32} {t n en : Nat} (hJ : q_J σ t n en) : q_J (sp_tick σ n) (t + 1) n en := by
  have hn := hJ.1.2.2.1
  have hen := hJ.1.2.2.2.2.1
  obtain ⟨cp, hcp, hz⟩ := ms_DZ_h hJ.1
  have h1 := q_JK_up (q_JK_hall hJ n (Nat.le_refl _)) (k' := fun _ => t + 1) (fun b hb => by split <;> omega)
  have h2 := q_JK_dall (z := (sp_hall σ n, (fun _ => nI 0), nI 0)) h1 hz hcp n (Nat.le_refl _)
  have hI := (sp_tz_v hJ.1).1
  obtain ⟨j1, j2, ⟨lo, j3, j4⟩, j5⟩ := h2
  have p : ∀ j, j ≠ 0 → sp_tick σ n j = (sp_dall (sp_hall σ n, (fun _ => nI 0), nI 0) n).1 j := fun j hj => by
    unfold sp_tick sp_tz
    rw [ms_u2 hj]
  have he : ∀ e, e < 60 → ∀ k, k < 6 → sp_tick σ n (456 + 6 * e + k) = (sp_dall (sp_hall σ n, (fun _ => nI 0), nI 0) n).1 (456 + 6 * e + k) := fun e h6 k hk => p _ (by omega)
  refine ⟨hI, q_E_cg j2 he (Nat.le_succ _) (Nat.le_refl _) (Nat.le_refl _), ⟨lo, fun a ha => q_A_cg (j3 a ha) (fun j q1 q2 => p _ (by omega)) (fun e h6 => by rw [he e h6 4 (by omega)]) (fun e h6 => by rw [he e h6 5 (by omega)]) (Nat.le_succ _) (Nat.le_refl _) hen (Nat.le_refl _), ?_⟩, ?_⟩
  · rw [p 7 (by omega)]; exact j4
  · rw [sp_sm_eq 16 (fun l hl => p (8 + l) (by omega)), j5]
    exact sp_sm_eq n (fun a ha => (p (24 + 54 * a + 7) (by omega)).symm)
theorem q_J_ps {σ : Nat → Int32} {t n en : Nat} (hJ : q_J σ t n en) : ∀ k, q_J (sp_ps σ n k).1 (t + k) n en
  | 0 => hJ
  | k + 1 => q_J_tick (q_J_ps hJ k)
