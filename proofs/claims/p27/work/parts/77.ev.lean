/-! leaving and joining keep what holds -/
theorem q_sm_add {f g : Nat → Int32} {a : Nat} {v : Int32} (h : ∀ b, b ≠ a → g b = f b) (h2 : g a = f a + v) : ∀ n, a < n → sp_sm g n = sp_sm f n + v
  | 0, q => absurd q (by omega)
  | n + 1, q => by
    show sp_sm g n + g n = sp_sm f n + f n + v
    by_cases c : a = n
    · subst c
      rw [h2, sp_sm_eq a (fun b hb => h b (by omega)), Int32.add_assoc]
    · rw [q_sm_add h h2 n (by omega), h n (fun e => c e.symm), Int32.add_assoc, Int32.add_comm v, Int32.add_assoc]
theorem q_J_quit {σ : Nat → Int32} {t n en a wz c : Nat} (hJ : q_J σ t n en) (hI : ms_IN (sp_qt σ a wz c) t n en) (ha : a < n) (i5 : σ (24 + 54 * a + 5) = nI 1) (i6 : σ (24 + 54 * a + 6) = nI wz) (hw : wz ≤ 12) (i11 : σ (24 + 54 * a + 11) = nI c) (hc1 : 1 ≤ c) (hc2 : c ≤ 10) : q_J (sp_qt σ a wz c) t n en := by
  have hn := hJ.1.2.2.1
  have hen := hJ.1.2.2.2.2.1
  have h0 := hJ.1.1
  have p : ∀ j, j ≠ 7 → j ≠ 24 + 54 * a + 6 → j ≠ 24 + 54 * a + 5 → j ≠ 24 + 54 * a + (24 + 3 * c - 1) → sp_qt σ a wz c j = σ j := fun j q1 q2 q3 q4 => by
    unfold sp_qt
    rw [ms_u2 q4, ms_u2 q3, ms_u2 q2, ms_u2 q1]
  obtain ⟨j1, j2, ⟨lo, j3, j4⟩, j5⟩ := hJ
  have he : ∀ e, e < 60 → ∀ k, k < 6 → sp_qt σ a wz c (456 + 6 * e + k) = σ (456 + 6 * e + k) := fun e h6 k hk => p _ (by omega) (by omega) (by omega) (by omega)
  have v5 : sp_qt σ a wz c (24 + 54 * a + 5) = nI 0 := by
    unfold sp_qt
    rw [ms_u2 (by omega), ms_u1 rfl]
  have v6 : sp_qt σ a wz c (24 + 54 * a + 6) = nI 0 := by
    unfold sp_qt
    rw [ms_u2 (by omega), ms_u2 (by omega), ms_u1 rfl]
  have ve : sp_qt σ a wz c (24 + 54 * a + (24 + 3 * c - 1)) = nI t := by
    unfold sp_qt
    rw [ms_u1 rfl]
    exact h0
  have v7 : sp_qt σ a wz c 7 = σ 7 + nI wz := by
    unfold sp_qt
    rw [ms_u2 (by omega), ms_u2 (by omega), ms_u2 (by omega), ms_u1 rfl]
  obtain ⟨th, w, D, X, ch, hh, c', a1, a2, a3, a4, a5, a6, a7, a8, a9, a10, a11, a12, a13, a14, ⟨G, g1, g2, g3, g4, g5, g6⟩, ⟨Eb, b1, b2⟩, a17, a18, a19⟩ := j3 a ha
  have e5 : th = 1 := ms_nI (a1.symm.trans i5) (by omega) (by omega)
  have e6 : w = wz := ms_nI (a3.symm.trans i6) (by omega) (by omega)
  have hc'10 : c' ≤ 10 := by rw [a12]; split <;> omega
  have e11 : c' = c := ms_nI (a11.symm.trans i11) (by omega) (by omega)
  subst e5; subst e6; subst e11
  have l0 : lo a = 0 := a14 rfl
  have sto : ∀ i j, j < 3 → (i ≠ 0 ∨ j ≠ 2) → sp_st (sp_qt σ a w c') a c' i j = sp_st σ a c' i j := fun i j hj hij => by
    unfold sp_st
    by_cases q : i < c'
    · rw [if_pos q, if_pos q, p _ (by omega) (by omega) (by omega) (by omega)]
    · rw [if_neg q, if_neg q]
  have ste : sp_st (sp_qt σ a w c') a c' 0 2 = nI t := by
    unfold sp_st
    rw [if_pos (by omega), show 24 + 54 * a + (24 + 3 * (c' - (0 + 1)) + 2) = 24 + 54 * a + (24 + 3 * c' - 1) by omega]
    exact ve
  refine ⟨hI, q_E_cg j2 he (Nat.le_refl _) (Nat.le_refl _) (Nat.le_refl _), ⟨fun b => if b = a then w else lo b, fun b hb => ?_, ?_⟩, ?_⟩
  · by_cases q : b = a
    · subst q
      dsimp only
      rw [if_pos rfl]
      refine ⟨0, 0, D, X, ch, hh, c', v5, by omega, v6, by omega, by rw [p _ (by omega) (by omega) (by omega) (by omega)]; exact a5, by rw [p _ (by omega) (by omega) (by omega) (by omega)]; exact a6, by rw [p _ (by omega) (by omega) (by omega) (by omega)]; exact a7, a8, by rw [p _ (by omega) (by omega) (by omega) (by omega)]; exact a9, a10, by rw [p _ (by omega) (by omega) (by omega) (by omega)]; exact a11, a12, fun _ => rfl, fun q => absurd q (by omega), ⟨G, fun k hk => by rw [sto k 1 (by omega) (by omega)]; exact g1 k hk, fun k hk => by rw [sto (k + 1) 2 (by omega) (by omega)]; exact g2 k hk, by rw [sto 0 0 (by omega) (by omega), p _ (by omega) (by omega) (by omega) (by omega)]; exact g3, g4, fun q => absurd q (by omega), fun _ => ⟨t, ste, g4, Nat.le_refl _⟩⟩, ⟨Eb, fun i hi => absurd hi (by omega), fun i hi => absurd hi (by omega)⟩, ?_, by omega, ?_⟩
      · rw [q_rt_eq 60 (fun e h6 => by rw [he e h6 4 (by omega)]), a17]
        congr 1
        omega
      · rw [q_dt_eq 60 (fun e h6 => by rw [he e h6 5 (by omega)]), a19]
    · dsimp only
      rw [if_neg q]
      exact q_A_cg (j3 b hb) (fun j q1 q2 => p _ (by omega) (by omega) (by omega) (by omega)) (fun e h6 => by rw [he e h6 4 (by omega)]) (fun e h6 => by rw [he e h6 5 (by omega)]) (Nat.le_refl _) (Nat.le_refl _) hen (Nat.le_refl _)
  · rw [v7, ← j4]
    refine q_sm_add (a := a) (fun b hb => by dsimp only; rw [if_neg hb]) ?_ n ha
    dsimp only
    rw [if_pos rfl, l0, nI_add, Nat.zero_add]
  · rw [sp_sm_eq 16 (fun l hl => p _ (by omega) (by omega) (by omega) (by omega)), j5]
    exact sp_sm_eq n (fun b hb => (p _ (by omega) (by omega) (by omega) (by omega)).symm)
theorem q_J_join {σ : Nat → Int32} {t n en so le po : Nat} (hJ : q_J σ t n en) (hn : n < 8) (hI : ms_IN (upd (sp_j1 σ n (nI so) (nI le) (nI po)) 1 (nI (n + 1))) t (n + 1) en) : q_J (upd (sp_j1 σ n (nI so) (nI le) (nI po)) 1 (nI (n + 1))) t (n + 1) en := by
  have hen := hJ.1.2.2.2.2.1
  have h0 := hJ.1.1
  have hz := hJ.1.2.2.2.2.2.2.2.2.2.2.2.1 n (Nat.le_refl _) hn
  have hx : upd (sp_j1 σ n (nI so) (nI le) (nI po)) 1 (nI (n + 1)) = upd (upd (upd (upd (upd (upd (upd (upd (upd (upd (upd σ (24 + 54 * n + 0) (nI so)) (24 + 54 * n + 1) (nI le)) (24 + 54 * n + 2) (nI po)) (24 + 54 * n + 3) (σ 0)) (24 + 54 * n + 5) (nI 1)) (24 + 54 * n + (24 + 3 * 0)) (nI po)) (24 + 54 * n + (24 + 3 * 0 + 1)) (σ 0)) (24 + 54 * n + (24 + 3 * 0 + 2)) (-1)) (24 + 54 * n + 4) (nI po)) (24 + 54 * n + 11) (nI 1)) 1 (nI (n + 1)) := by
    unfold sp_j1 sp_bs sp_bs0 sp_j0
    rw [if_pos (show 0 < 10 by omega), show (upd (upd (upd (upd (upd σ (24 + 54 * n + 0) (nI so)) (24 + 54 * n + 1) (nI le)) (24 + 54 * n + 2) (nI po)) (24 + 54 * n + 3) (σ 0)) (24 + 54 * n + 5) (nI 1)) 0 = σ 0 by
      rw [ms_u2 (by omega), ms_u2 (by omega), ms_u2 (by omega), ms_u2 (by omega), ms_u2 (by omega)]]
  generalize hτ : upd (sp_j1 σ n (nI so) (nI le) (nI po)) 1 (nI (n + 1)) = τ at hx hI ⊢
  have p : ∀ j, j ≠ 1 → (j < 24 + 54 * n ∨ 24 + 54 * n + 54 ≤ j) → τ j = σ j := fun j q1 q2 => by
    rw [hx]
    simp (disch := omega) only [ms_u2]
  have z : ∀ j, 5 < j → j < 24 → j ≠ 11 → τ (24 + 54 * n + j) = nI 0 := fun j q1 q2 q3 => by
    rw [hx]
    simp (disch := omega) only [ms_u2]
    exact hz j (by omega)
  have v5 : τ (24 + 54 * n + 5) = nI 1 := by
    rw [hx]
    simp (disch := omega) only [ms_u2, ms_u1]
  have v4 : τ (24 + 54 * n + 4) = nI po := by
    rw [hx]
    simp (disch := omega) only [ms_u2, ms_u1]
  have v11 : τ (24 + 54 * n + 11) = nI 1 := by
    rw [hx]
    simp (disch := omega) only [ms_u2, ms_u1]
  have s0 : sp_st τ n 1 0 0 = nI po := by
    unfold sp_st
    rw [if_pos (by omega), hx]
    simp (disch := omega) only [ms_u2, ms_u1]
  have s1 : sp_st τ n 1 0 1 = nI t := by
    unfold sp_st
    rw [if_pos (by omega), hx]
    simp (disch := omega) only [ms_u2, ms_u1]
    exact h0
  have s2 : sp_st τ n 1 0 2 = -1 := by
    unfold sp_st
    rw [if_pos (by omega), hx]
    simp (disch := omega) only [ms_u2, ms_u1]
  obtain ⟨j1, j2, ⟨lo, j3, j4⟩, j5⟩ := hJ
  have he : ∀ e, e < 60 → ∀ k, k < 6 → τ (456 + 6 * e + k) = σ (456 + 6 * e + k) := fun e h6 k hk => p _ (by omega) (by omega)
  have hb4 : ∀ e, e < 60 → sp_bit (τ (456 + 6 * e + 4)) n = nI 0 := fun e h6 => by
    obtain ⟨m, d, m1, m2, _⟩ := j2 e h6
    rw [he e h6 4 (by omega), m1]
    exact sp_bit_hi n (by omega) m m2 n hn (Nat.le_refl _)
  have hb5 : ∀ e, e < 60 → sp_bit (τ (456 + 6 * e + 5)) n = nI 0 := fun e h6 => by
    obtain ⟨m, d, _, _, m1, m2, _⟩ := j2 e h6
    rw [he e h6 5 (by omega), m1]
    exact sp_bit_hi n (by omega) d m2 n hn (Nat.le_refl _)
  have r4 : ∀ k, k ≤ 60 → sp_rt τ n k = nI 0 := fun k => by
    induction k with
    | zero => intro _; rfl
    | succ k ih => intro hk; show sp_rt τ n k + _ = _; rw [ih (by omega), hb4 k (by omega)]; rfl
  have r5 : ∀ k, k ≤ 60 → q_dt τ n k = nI 0 := fun k => by
    induction k with
    | zero => intro _; rfl
    | succ k ih => intro hk; show q_dt τ n k + _ = _; rw [ih (by omega), hb5 k (by omega)]; rfl
  refine ⟨hI, q_E_cg j2 he (Nat.le_refl _) (by omega) (Nat.le_refl _), ⟨fun b => if b < n then lo b else 0, fun b hb => ?_, ?_⟩, ?_⟩
  · by_cases q : b < n
    · dsimp only
      rw [if_pos q]
      exact q_A_cg (j3 b q) (fun j q1 q2 => p _ (by omega) (by omega)) (fun e h6 => by rw [he e h6 4 (by omega)]) (fun e h6 => by rw [he e h6 5 (by omega)]) (Nat.le_refl _) (Nat.le_refl _) hen (Nat.le_refl _)
    · have e : b = n := by omega
      subst e
      dsimp only
      rw [if_neg q]
      refine ⟨1, 0, 0, 0, 0, 0, 1, v5, by omega, z 6 (by omega) (by omega) (by omega), by omega, z 7 (by omega) (by omega) (by omega), z 8 (by omega) (by omega) (by omega), z 9 (by omega) (by omega) (by omega), by omega, z 10 (by omega) (by omega) (by omega), by omega, v11, rfl, fun _ => rfl, fun _ => rfl, ⟨fun _ => t, fun k hk => ?_, fun k hk => absurd hk (by omega), s0.trans v4.symm, Nat.le_refl _, fun _ => s2, fun q => absurd q (by omega)⟩, ⟨fun _ => 0, fun i hi => absurd hi (by omega), fun i hi => absurd hi (by omega)⟩, r4 60 (by omega), by omega, r5 60 (by omega)⟩
      have : k = 0 := by omega
      subst this
      exact s1
  · show sp_sm (fun b => nI (if b < n then lo b else 0)) n + nI (if n < n then lo n else 0) = _
    rw [if_neg (Nat.lt_irrefl n), p 7 (by omega) (by omega), sp_sm_eq (g := fun a => nI (lo a)) n (fun b hb => by rw [if_pos hb]), j4]
    exact ms_add0 _
  · rw [sp_sm_eq 16 (fun l hl => p _ (by omega) (by omega)), j5]
    show _ = sp_sm (sp_f τ 7) n + sp_f τ 7 n
    rw [show sp_f τ 7 n = nI 0 from z 7 (by omega) (by omega) (by omega), ms_add0]
    exact sp_sm_eq n (fun b hb => (p _ (by omega) (by omega)).symm)
