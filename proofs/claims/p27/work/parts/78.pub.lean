/-! publishing keeps what holds, and what it adds up to -/
theorem q_tl_v {σ : Nat → Int32} {t d : Nat} (h0 : σ 0 = nI t) (ht : t < 2 ^ 31) (hd : d < 2 ^ 31) (h : sp_tl σ (nI d) = nI 0) : d ≤ t := by
  unfold sp_tl at h
  by_cases c1 : σ (3 + 3) < nI d
  · rw [if_pos c1] at h
    exact absurd (ms_nI h (by omega) (by omega)) (by omega)
  · rw [if_neg c1, h0] at h
    by_cases c2 : nI d ≤ nI t
    · exact (nI_leI hd ht).mp c2
    · rw [if_neg c2] at h
      exact absurd (ms_nI h (by omega) (by omega)) (by omega)
theorem q_bit0 (a : Nat) : sp_bit (nI 0) a = nI 0 := by
  unfold sp_bit
  rw [show nI 0 = (0 : Int32) from rfl]
  simp
/-- what a publication leaves, place by place -/
theorem q_pub_v {σ : Nat → Int32} {t n en : Nat} {l v late rb : Int32} (hI : ms_IN σ t n en) (hen : en < 60) : (∀ j, j < 24 → j ≠ 2 → sp_arr (sp_pb σ en l v late rb) rb (nI en) n j = σ j) ∧ (∀ a, a < n → ∀ j, j < 54 → sp_arr (sp_pb σ en l v late rb) rb (nI en) n (24 + 54 * a + j) = if sp_bit rb a = nI 1 then sp_ar1 σ a (σ (24 + 54 * a + 6)).toNatClampNeg (nI en) (24 + 54 * a + j) else σ (24 + 54 * a + j)) ∧ (∀ e, e < 60 → ∀ k, k < 6 → sp_arr (sp_pb σ en l v late rb) rb (nI en) n (456 + 6 * e + k) = if e = en then (if k = 0 then l else if k = 1 then v else if k = 2 then σ 0 - late else if k = 3 then σ 0 else if k = 4 then rb else nI 0) else σ (456 + 6 * e + k)) := by
  have hn : n ≤ 8 := hI.2.2.1
  have hb : ∀ j, j ≠ 2 → (j < 456 + 6 * en ∨ 456 + 6 * en + 6 ≤ j) → sp_pb σ en l v late rb j = σ j := fun j q1 q2 => by
    unfold sp_pb
    simp (disch := omega) only [ms_u2]
  have hw : ∀ a, a < 8 → ∃ w, w ≤ 12 ∧ sp_pb σ en l v late rb (24 + 54 * a + 6) = nI w := fun a ha => by
    obtain ⟨so, le, po, ca, se, th, wz, c, i0, i0', i1, i1', i2, i2', i3, i3', i4, i4', i5, i5', i6, i6', i11, i11', iw, ip, ib, ix, is⟩ := hI.2.2.2.2.2.2.2.2.2.1 a ha
    exact ⟨wz, i6', by rw [hb _ (by omega) (by omega)]; exact i6⟩
  refine ⟨fun j q1 q2 => ?_, fun a ha j hj => ?_, fun e he k hk => ?_⟩
  · rw [sp_arr_o hw n hn j (Or.inl q1), hb j q2 (by omega)]
  · rw [sp_arr_b hw n hn a ha j hj, hb _ (by omega) (by omega), hb (24 + 54 * a + j) (by omega) (by omega)]
    by_cases c : sp_bit rb a = nI 1
    · rw [if_pos c, if_pos c]
      obtain ⟨w, w1, w2⟩ := hw a (by omega)
      rw [hb _ (by omega) (by omega)] at w2
      rw [w2, nI_clamp (by omega)]
      unfold sp_ar1
      by_cases c2 : w = 12
      · rw [if_pos c2, if_pos c2, hb (24 + 54 * a + 8) (by omega) (by omega)]
        by_cases c3 : j = 8
        · subst c3; rw [ms_u1 rfl, ms_u1 rfl]
        · rw [ms_u2 (by omega), ms_u2 (by omega), hb _ (by omega) (by omega)]
      · rw [if_neg c2, if_neg c2]
        by_cases c3 : j = 6
        · subst c3; rw [ms_u1 rfl, ms_u1 rfl]
        · by_cases c4 : j = 12 + w
          · subst c4; simp (disch := omega) only [ms_u2, ms_u1]
          · simp (disch := omega) only [ms_u2]
            exact hb _ (by omega) (by omega)
    · rw [if_neg c, if_neg c]
  · rw [sp_arr_o hw n hn _ (Or.inr (by omega))]
    by_cases c : e = en
    · subst c
      rw [if_pos rfl]
      unfold sp_pb
      rcases (show k = 0 ∨ k = 1 ∨ k = 2 ∨ k = 3 ∨ k = 4 ∨ k = 5 by omega) with rfl | rfl | rfl | rfl | rfl | rfl <;> simp (disch := omega) only [ms_u2, ms_u1] <;> rfl
    · rw [if_neg c, hb _ (by omega) (by omega)]
theorem q_J_pub {σ : Nat → Int32} {t n en l v d : Nat} (hJ : q_J σ t n en) (ht : t ≤ 9999) (hen : en < 60) (hd : d < 2 ^ 31) (htl : sp_tl σ (nI d) = nI 0) {rb : Int32} (hrb : rb = sp_rb σ l v (σ 0 - nI d) n) (hI : ms_IN (sp_arr (sp_pb σ en (nI l) (nI v) (nI d) rb) rb (nI en) n) t n (en + 1)) : q_J (sp_arr (sp_pb σ en (nI l) (nI v) (nI d) rb) rb (nI en) n) t n (en + 1) := by
  have hn := hJ.1.2.2.1
  have h0 := hJ.1.1
  have hz := hJ.1.2.2.2.2.2.2.2.2.2.2.2.2
  have hdt : d ≤ t := q_tl_v h0 (by omega) hd htl
  obtain ⟨p1, p2, p3⟩ := q_pub_v (l := nI l) (v := nI v) (late := nI d) (rb := rb) hJ.1 hen
  generalize sp_arr (sp_pb σ en (nI l) (nI v) (nI d) rb) rb (nI en) n = ρ at hI p1 p2 p3 ⊢
  obtain ⟨m, m1, m2⟩ := sp_rb_v (σ := σ) (l := l) (v := v) (time := σ 0 - nI d) n hn
  have hm : m < 256 := Nat.lt_of_lt_of_le m1 (Nat.le_trans (Nat.pow_le_pow_right (by omega) hn) (by decide))
  obtain ⟨j1, j2, ⟨lo, j3, j4⟩, j5⟩ := hJ
  have hb4 : ∀ a, a < 8 → ∀ e, e < 60 → sp_bit (ρ (456 + 6 * e + 4)) a = if e = en then sp_bit rb a else sp_bit (σ (456 + 6 * e + 4)) a := fun a ha e he => by
    rw [p3 e he 4 (by omega)]
    by_cases c : e = en
    · rw [if_pos c, if_pos c]; rfl
    · rw [if_neg c, if_neg c]
  have hb5 : ∀ a, a < 8 → ∀ e, e < 60 → sp_bit (ρ (456 + 6 * e + 5)) a = sp_bit (σ (456 + 6 * e + 5)) a := fun a ha e he => by
    rw [p3 e he 5 (by omega)]
    by_cases c : e = en
    · subst c
      rw [if_pos rfl, hz e (Nat.le_refl _) he 5 (by omega)]; rfl
    · rw [if_neg c]
  have hold : ∀ a, sp_bit (σ (456 + 6 * en + 4)) a = nI 0 := fun a => by rw [hz en (Nat.le_refl _) hen 4 (by omega)]; exact q_bit0 a
  have h7 : ∀ a, a < n → ρ (24 + 54 * a + 7) = σ (24 + 54 * a + 7) := fun a ha => by
    rw [p2 a ha 7 (by omega)]
    by_cases c : sp_bit rb a = nI 1
    · rw [if_pos c]
      unfold sp_ar1
      split
      · rw [ms_u2 (by omega)]
      · rw [ms_u2 (by omega), ms_u2 (by omega)]
    · rw [if_neg c]
  refine ⟨hI, fun e he => ?_, ⟨lo, fun a ha => ?_, ?_⟩, ?_⟩
  · by_cases c : e = en
    · subst c
      refine ⟨m, 0, ?_, m1, ?_, Nat.pow_pos (by omega), by rw [show nI 0 = (0 : Int32) from rfl]; simp, fun _ => ⟨t - d, t, ?_, ?_, by omega, Nat.le_refl _⟩⟩
      · rw [p3 e he 4 (by omega), if_pos rfl, ← m2, hrb]; rfl
      · rw [p3 e he 5 (by omega), if_pos rfl]; rfl
      · rw [p3 e he 2 (by omega), if_pos rfl, h0]
        exact ms_sub hdt
      · rw [p3 e he 3 (by omega), if_pos rfl, h0]; rfl
    · obtain ⟨m', d', a1, a2, a3, a4, a5, a6⟩ := j2 e he
      refine ⟨m', d', by rw [p3 e he 4 (by omega), if_neg c]; exact a1, a2, by rw [p3 e he 5 (by omega), if_neg c]; exact a3, a4, a5, fun q => ?_⟩
      obtain ⟨x, y, b1, b2, b3, b4⟩ := a6 (by omega)
      exact ⟨x, y, by rw [p3 e he 2 (by omega), if_neg c]; exact b1, by rw [p3 e he 3 (by omega), if_neg c]; exact b2, b3, b4⟩
  · have ha8 : a < 8 := by omega
    by_cases c : sp_bit rb a = nI 1
    · obtain ⟨th, w, D, X, ch, hh, c', a1, a2, a3, a4, a5, a6, a7, a8, a9, a10, a11, a12, a13, a14, ⟨G, g1, g2, g3, g4, g5, g6⟩, ⟨Eb, b1, b2⟩, a17, a18, a19⟩ := j3 a ha
      have hc10 : c' ≤ 10 := by rw [a12]; split <;> omega
      have hrc := (sp_rb_bit (σ := σ) (l := l) (v := v) (time := σ 0 - nI d) n hn a ha8 (by rw [← hrb]; exact c)).2
      have hth : th = 1 := by
        unfold sp_rc at hrc
        have := (Bool.and_eq_true_iff.mp hrc).1
        exact ms_nI (a1.symm.trans (of_decide_eq_true this)) (by omega) (by omega)
      have e6 : (σ (24 + 54 * a + 6)).toNatClampNeg = w := by rw [a3, nI_clamp (by omega)]
      have P : ∀ j, j < 54 → ρ (24 + 54 * a + j) = sp_ar1 σ a w (nI en) (24 + 54 * a + j) := fun j hj => by rw [p2 a ha j hj, if_pos c, e6]
      have hrt : sp_rt ρ a 60 = sp_rt σ a 60 + nI 1 := by
        have := sp_rt_add (σ := σ) (τ := ρ) (b := a) (en := en) (rb := rb) ha8 (fun e he hne => by rw [p3 e he 4 (by omega), if_neg hne]) (by rw [p3 en hen 4 (by omega), if_pos rfl]; rfl) (hz en (Nat.le_refl _) hen 4 (by omega)) 60 (by omega) hen
        rw [this, c]
      have hdt' : q_dt ρ a 60 = q_dt σ a 60 := q_dt_eq 60 (fun e he => hb5 a ha8 e he)
      by_cases cw : w = 12
      · have Q : ∀ j, j < 54 → j ≠ 8 → ρ (24 + 54 * a + j) = σ (24 + 54 * a + j) := fun j hj hne => by
          rw [P j hj]
          unfold sp_ar1
          rw [if_pos cw, ms_u2 (by omega)]
        have S : ∀ i j, j < 3 → sp_st ρ a c' i j = sp_st σ a c' i j := fun i j hj => by
          unfold sp_st
          by_cases q : i < c'
          · rw [if_pos q, if_pos q, Q _ (by omega) (by omega)]
          · rw [if_neg q, if_neg q]
        refine ⟨th, w, D, X + 1, ch, hh, c', by rw [Q 5 (by omega) (by omega)]; exact a1, a2, by rw [Q 6 (by omega) (by omega)]; exact a3, a4, by rw [Q 7 (by omega) (by omega)]; exact a5, ?_, by rw [Q 9 (by omega) (by omega)]; exact a7, a8, by rw [Q 10 (by omega) (by omega)]; exact a9, a10, by rw [Q 11 (by omega) (by omega)]; exact a11, a12, a13, a14, ⟨G, fun k hk => by rw [S k 1 (by omega)]; exact g1 k hk, fun k hk => by rw [S (k + 1) 2 (by omega)]; exact g2 k hk, by rw [S 0 0 (by omega), Q 4 (by omega) (by omega)]; exact g3, g4, fun q => by rw [S 0 2 (by omega)]; exact g5 q, fun q => by rw [S 0 2 (by omega)]; exact g6 q⟩, ⟨Eb, fun i hi => ?_, b2⟩, ?_, by omega, hdt'.trans a19⟩
        · rw [P 8 (by omega)]
          unfold sp_ar1
          rw [if_pos cw, ms_u1 rfl, a6, nI_add]
        · obtain ⟨c1, c2, c3, c4⟩ := b1 i hi
          exact ⟨by rw [Q (12 + i) (by omega) (by omega)]; exact c1, by omega, by rw [hb4 a ha8 _ (by omega), if_neg (by omega)]; exact c3, by rw [hb5 a ha8 _ (by omega)]; exact c4⟩
        · rw [hrt, a17, nI_add]
          congr 1
          omega
      · have Q : ∀ j, j < 54 → j ≠ 6 → j ≠ 12 + w → ρ (24 + 54 * a + j) = σ (24 + 54 * a + j) := fun j hj h1 h2 => by
          rw [P j hj]
          unfold sp_ar1
          rw [if_neg cw, ms_u2 (by omega), ms_u2 (by omega)]
        have S : ∀ i j, j < 3 → sp_st ρ a c' i j = sp_st σ a c' i j := fun i j hj => by
          unfold sp_st
          by_cases q : i < c'
          · rw [if_pos q, if_pos q, Q _ (by omega) (by omega) (by omega)]
          · rw [if_neg q, if_neg q]
        refine ⟨th, w + 1, D, X, ch, hh, c', by rw [Q 5 (by omega) (by omega) (by omega)]; exact a1, a2, ?_, by omega, by rw [Q 7 (by omega) (by omega) (by omega)]; exact a5, by rw [Q 8 (by omega) (by omega) (by omega)]; exact a6, by rw [Q 9 (by omega) (by omega) (by omega)]; exact a7, a8, by rw [Q 10 (by omega) (by omega) (by omega)]; exact a9, a10, by rw [Q 11 (by omega) (by omega) (by omega)]; exact a11, a12, fun q => absurd q (by omega), a14, ⟨G, fun k hk => by rw [S k 1 (by omega)]; exact g1 k hk, fun k hk => by rw [S (k + 1) 2 (by omega)]; exact g2 k hk, by rw [S 0 0 (by omega), Q 4 (by omega) (by omega) (by omega)]; exact g3, g4, fun q => by rw [S 0 2 (by omega)]; exact g5 q, fun q => by rw [S 0 2 (by omega)]; exact g6 q⟩, ⟨fun i => if i < w then Eb i else en, fun i hi => ?_, fun i hi => ?_⟩, ?_, by omega, hdt'.trans a19⟩
        · rw [P 6 (by omega)]
          unfold sp_ar1
          rw [if_neg cw, ms_u1 rfl]
        · by_cases q : i < w
          · obtain ⟨c1, c2, c3, c4⟩ := b1 i q
            dsimp only
            rw [if_pos q]
            exact ⟨by rw [Q (12 + i) (by omega) (by omega) (by omega)]; exact c1, by omega, by rw [hb4 a ha8 _ (by omega), if_neg (by omega)]; exact c3, by rw [hb5 a ha8 _ (by omega)]; exact c4⟩
          · have : i = w := by omega
            subst this
            dsimp only
            rw [if_neg q]
            refine ⟨?_, by omega, by rw [hb4 a ha8 _ hen, if_pos rfl]; exact c, by rw [hb5 a ha8 _ hen, hz en (Nat.le_refl _) hen 5 (by omega)]; exact q_bit0 a⟩
            rw [P (12 + i) (by omega)]
            unfold sp_ar1
            rw [if_neg cw, ms_u2 (by omega), ms_u1 rfl]
        · dsimp only
          rw [if_pos (by omega)]
          by_cases q : i + 1 < w
          · rw [if_pos q]; exact b2 i q
          · rw [if_neg q]; exact (b1 i (by omega)).2.1
        · rw [hrt, a17, nI_add]
          congr 1
          omega
    · have c0 : sp_bit rb a = nI 0 := by
        rw [hrb, m2]
        rcases sp_bit_01 m hm a ha8 with q | q
        · exact q
        · exact absurd (by rw [hrb, m2]; exact q) c
      refine q_A_cg (j3 a ha) (fun j q1 q2 => by rw [p2 a ha j q2, if_neg c]) (fun e he => ?_) (fun e he => hb5 a ha8 e he) (Nat.le_refl _) (Nat.le_succ _) (by omega) (Nat.le_refl _)
      rw [hb4 a ha8 e he]
      by_cases q : e = en
      · subst q
        rw [if_pos rfl, c0, hold]
      · rw [if_neg q]
  · rw [p1 7 (by omega) (by omega)]; exact j4
  · rw [sp_sm_eq 16 (fun l hl => p1 (8 + l) (by omega) (by omega)), j5]
    exact sp_sm_eq n (fun a ha => (h7 a ha).symm)
