/-! WHAT HOLDS BETWEEN TWO CALLS, of one subscriber (q_A), of the events (q_E), of all (q_J) -/
def q_dt (σ : Nat → Int32) (a : Nat) : Nat → Int32
  | 0 => nI 0
  | e + 1 => q_dt σ a e + sp_bit (σ (456 + 6 * e + 5)) a
def q_ST (σ : Nat → Int32) (a c th t : Nat) : Prop := ∃ G : Nat → Nat, (∀ k, k < c → sp_st σ a c k 1 = nI (G k)) ∧ (∀ k, k + 1 < c → G (k + 1) ≤ G k ∧ sp_st σ a c (k + 1) 2 = nI (G k)) ∧ sp_st σ a c 0 0 = σ (24 + 54 * a + 4) ∧ G 0 ≤ t ∧ (th = 1 → sp_st σ a c 0 2 = -1) ∧ (th = 0 → ∃ E, sp_st σ a c 0 2 = nI E ∧ G 0 ≤ E ∧ E ≤ t)
def q_BX (σ : Nat → Int32) (a w en : Nat) : Prop := ∃ Eb : Nat → Nat, (∀ i, i < w → σ (24 + 54 * a + (12 + i)) = nI (Eb i) ∧ Eb i < en ∧ sp_bit (σ (456 + 6 * Eb i + 4)) a = nI 1 ∧ sp_bit (σ (456 + 6 * Eb i + 5)) a = nI 0) ∧ (∀ i, i + 1 < w → Eb i < Eb (i + 1))
def q_A (σ : Nat → Int32) (a t en k lo : Nat) : Prop := ∃ th w D X ch h c : Nat, σ (24 + 54 * a + 5) = nI th ∧ th ≤ 1 ∧ σ (24 + 54 * a + 6) = nI w ∧ w ≤ 12 ∧ σ (24 + 54 * a + 7) = nI D ∧ σ (24 + 54 * a + 8) = nI X ∧ σ (24 + 54 * a + 9) = nI ch ∧ ch ≤ k ∧ σ (24 + 54 * a + 10) = nI h ∧ h ≤ t + 9 ∧ σ (24 + 54 * a + 11) = nI c ∧ c = (if ch < 9 then ch + 1 else 10) ∧ (th = 0 → w = 0) ∧ (th = 1 → lo = 0) ∧ q_ST σ a c th t ∧ q_BX σ a w en ∧ sp_rt σ a 60 = nI (D + X + w + lo) ∧ D + X + w + lo ≤ en ∧ q_dt σ a 60 = nI D
def q_E (σ : Nat → Int32) (t n en : Nat) : Prop := ∀ e, e < 60 → ∃ m d, σ (456 + 6 * e + 4) = nI m ∧ m < 2 ^ n ∧ σ (456 + 6 * e + 5) = nI d ∧ d < 2 ^ n ∧ (nI d &&& (nI m ^^^ (-1))) = 0 ∧ (e < en → ∃ x y, σ (456 + 6 * e + 2) = nI x ∧ σ (456 + 6 * e + 3) = nI y ∧ x ≤ y ∧ y ≤ t)
def q_JK (σ : Nat → Int32) (t n en : Nat) (k : Nat → Nat) : Prop := ms_IN σ t n en ∧ q_E σ t n en ∧ (∃ lo : Nat → Nat, (∀ a, a < n → q_A σ a t en (k a) (lo a)) ∧ sp_sm (fun a => nI (lo a)) n = σ 7) ∧ sp_sm (fun l => σ (8 + l)) 16 = sp_sm (sp_f σ 7) n
def q_J (σ : Nat → Int32) (t n en : Nat) : Prop := q_JK σ t n en (fun _ => t)
theorem q_rt_eq {σ τ : Nat → Int32} {a : Nat} : ∀ n, (∀ e, e < n → sp_bit (τ (456 + 6 * e + 4)) a = sp_bit (σ (456 + 6 * e + 4)) a) → sp_rt τ a n = sp_rt σ a n
  | 0, _ => rfl
  | n + 1, h => by
    show sp_rt τ a n + _ = sp_rt σ a n + _
    rw [q_rt_eq n (fun e he => h e (by omega)), h n (by omega)]
theorem q_dt_eq {σ τ : Nat → Int32} {a : Nat} : ∀ n, (∀ e, e < n → sp_bit (τ (456 + 6 * e + 5)) a = sp_bit (σ (456 + 6 * e + 5)) a) → q_dt τ a n = q_dt σ a n
  | 0, _ => rfl
  | n + 1, h => by
    show q_dt τ a n + _ = q_dt σ a n + _
    rw [q_dt_eq n (fun e he => h e (by omega)), h n (by omega)]
theorem q_st_cg {σ τ : Nat → Int32} {a c : Nat} (hc : c ≤ 10) (h : ∀ j, 4 ≤ j → j < 54 → τ (24 + 54 * a + j) = σ (24 + 54 * a + j)) {i j : Nat} (hj : j < 3) : sp_st τ a c i j = sp_st σ a c i j := by
  unfold sp_st
  by_cases q : i < c
  · rw [if_pos q, if_pos q, h _ (by omega) (by omega)]
  · rw [if_neg q, if_neg q]
theorem q_A_cg {σ τ : Nat → Int32} {a t en k lo t' en' k' : Nat} (hA : q_A σ a t en k lo) (h : ∀ j, 4 ≤ j → j < 54 → τ (24 + 54 * a + j) = σ (24 + 54 * a + j)) (h4 : ∀ e, e < 60 → sp_bit (τ (456 + 6 * e + 4)) a = sp_bit (σ (456 + 6 * e + 4)) a) (h5 : ∀ e, e < 60 → sp_bit (τ (456 + 6 * e + 5)) a = sp_bit (σ (456 + 6 * e + 5)) a) (ht : t ≤ t') (he : en ≤ en') (he60 : en ≤ 60) (hk : k ≤ k') : q_A τ a t' en' k' lo := by
  obtain ⟨th, w, D, X, ch, hh, c, a1, a2, a3, a4, a5, a6, a7, a8, a9, a10, a11, a12, a13, a14, ⟨G, g1, g2, g3, g4, g5, g6⟩, ⟨Eb, b1, b2⟩, a17, a18, a19⟩ := hA
  have hc : c ≤ 10 := by rw [a12]; split <;> omega
  refine ⟨th, w, D, X, ch, hh, c, by rw [h 5 (by omega) (by omega)]; exact a1, a2, by rw [h 6 (by omega) (by omega)]; exact a3, a4, by rw [h 7 (by omega) (by omega)]; exact a5, by rw [h 8 (by omega) (by omega)]; exact a6, by rw [h 9 (by omega) (by omega)]; exact a7, by omega, by rw [h 10 (by omega) (by omega)]; exact a9, by omega, by rw [h 11 (by omega) (by omega)]; exact a11, a12, a13, a14, ⟨G, fun k hk => by rw [q_st_cg hc h (by omega)]; exact g1 k hk, fun k hk => by rw [q_st_cg hc h (by omega)]; exact g2 k hk, by rw [q_st_cg hc h (by omega), h 4 (by omega) (by omega)]; exact g3, by omega, fun q => by rw [q_st_cg hc h (by omega)]; exact g5 q, fun q => ?_⟩, ⟨Eb, fun i hi => ?_, b2⟩, by rw [q_rt_eq 60 h4]; exact a17, by omega, by rw [q_dt_eq 60 h5]; exact a19⟩
  · obtain ⟨E, e1, e2, e3⟩ := g6 q
    exact ⟨E, by rw [q_st_cg hc h (by omega)]; exact e1, e2, by omega⟩
  · obtain ⟨c1, c2, c3, c4⟩ := b1 i hi
    exact ⟨by rw [h (12 + i) (by omega) (by omega)]; exact c1, by omega, by rw [h4 _ (by omega)]; exact c3, by rw [h5 _ (by omega)]; exact c4⟩
theorem q_E_cg {σ τ : Nat → Int32} {t n en t' n' en' : Nat} (hE : q_E σ t n en) (h : ∀ e, e < 60 → ∀ k, k < 6 → τ (456 + 6 * e + k) = σ (456 + 6 * e + k)) (ht : t ≤ t') (hn : n ≤ n') (he : en' ≤ en) : q_E τ t' n' en' := by
  intro e h60
  obtain ⟨m, d, a1, a2, a3, a4, a5, a6⟩ := hE e h60
  have hp : 2 ^ n ≤ 2 ^ n' := Nat.pow_le_pow_right (by omega) hn
  refine ⟨m, d, by rw [h e h60 4 (by omega)]; exact a1, by omega, by rw [h e h60 5 (by omega)]; exact a3, by omega, a5, fun q => ?_⟩
  obtain ⟨x, y, b1, b2, b3, b4⟩ := a6 (by omega)
  exact ⟨x, y, by rw [h e h60 2 (by omega)]; exact b1, by rw [h e h60 3 (by omega)]; exact b2, b3, by omega⟩
/-- what changes only in the four first places of subscribers and in the settings -/
theorem q_JK_cg {σ τ : Nat → Int32} {t n en : Nat} {k : Nat → Nat} (hJ : q_JK σ t n en k) (hI : ms_IN τ t n en) (h : ∀ a, a < n → ∀ j, 4 ≤ j → j < 54 → τ (24 + 54 * a + j) = σ (24 + 54 * a + j)) (he : ∀ e, e < 60 → ∀ k, k < 6 → τ (456 + 6 * e + k) = σ (456 + 6 * e + k)) (h7 : τ 7 = σ 7) (h8 : ∀ l, l < 16 → τ (8 + l) = σ (8 + l)) : q_JK τ t n en k := by
  obtain ⟨j1, j2, ⟨lo, j3, j4⟩, j5⟩ := hJ
  refine ⟨hI, q_E_cg j2 he (Nat.le_refl _) (Nat.le_refl _) (Nat.le_refl _), ⟨lo, fun a ha => q_A_cg (j3 a ha) (h a ha) (fun e h60 => by rw [he e h60 4 (by omega)]) (fun e h60 => by rw [he e h60 5 (by omega)]) (Nat.le_refl _) (Nat.le_refl _) j1.2.2.2.2.1 (Nat.le_refl _), by rw [h7]; exact j4⟩, ?_⟩
  rw [sp_sm_eq 16 (fun l hl => h8 l hl), j5]
  exact sp_sm_eq n (fun a ha => (h a ha 7 (by omega) (by omega)).symm)
theorem q_J_go {σ : Nat → Int32} {t n en a l : Nat} (hJ : q_J σ t n en) (hI : ms_IN (sp_go σ a (nI l)) t n en) (ha : a < n) : q_J (sp_go σ a (nI l)) t n en := by
  have hn := hJ.1.2.2.1
  have p : ∀ j, j ≠ 24 + 54 * a + 2 → j ≠ 24 + 54 * a + 3 → sp_go σ a (nI l) j = σ j := fun j q1 q2 => by
    unfold sp_go
    rw [ms_u2 q2, ms_u2 q1]
  exact q_JK_cg hJ hI (fun b hb j h1 h2 => p _ (by omega) (by omega)) (fun e he k hk => p _ (by omega) (by omega)) (p _ (by omega) (by omega)) (fun l hl => p _ (by omega) (by omega))
theorem q_J_rl {σ : Nat → Int32} {t n en a l : Nat} (hJ : q_J σ t n en) (ha : a < n) (hl : l < 3) : q_J (sp_rl σ a l) t n en := by
  have hn := hJ.1.2.2.1
  have p : ∀ j, j ≠ 24 + 54 * a + 1 → sp_rl σ a l j = σ j := fun j q1 => by
    unfold sp_rl
    rw [ms_u2 q1]
  exact q_JK_cg hJ (ms_IN_rl hJ.1 ha hl) (fun b hb j h1 h2 => p _ (by omega)) (fun e he k hk => p _ (by omega)) (p _ (by omega)) (fun l hl => p _ (by omega))
theorem q_J_set {σ : Nat → Int32} {t n en j : Nat} {v : Int32} (hJ : q_J σ t n en) (hj : j < 4) (hI : ms_IN (upd σ (3 + j) v) t n en) : q_J (upd σ (3 + j) v) t n en := by
  have hn := hJ.1.2.2.1
  have p : ∀ i, i ≠ 3 + j → upd σ (3 + j) v i = σ i := fun i q1 => ms_u2 q1
  exact q_JK_cg hJ hI (fun b hb j h1 h2 => p _ (by omega)) (fun e he k hk => p _ (by omega)) (p _ (by omega)) (fun l hl => p _ (by omega))
/-- the numbers t, n, en of a state -/
theorem q_IN_u {σ : Nat → Int32} {t n en t' n' en' : Nat} (h : ms_IN σ t n en) (h' : ms_IN σ t' n' en') (ht : t < 2 ^ 31) (ht' : t' < 2 ^ 31) : t' = t ∧ n' = n ∧ en' = en := by
  have a1 := h.2.2.1
  have a2 := h'.2.2.1
  have b1 := h.2.2.2.2.1
  have b2 := h'.2.2.2.2.1
  exact ⟨ms_nI (h'.1.symm.trans h.1) ht' ht, ms_nI (h'.2.1.symm.trans h.2.1) (by omega) (by omega), ms_nI (h'.2.2.2.1.symm.trans h.2.2.2.1) (by omega) (by omega)⟩
theorem q_IT_IN {σ : Nat → Int32} {t n en : Nat} (h : ms_IT 9999 σ) (h0 : σ 0 = nI t) (h1 : σ 1 = nI n) (h2 : σ 2 = nI en) (ht : t < 2 ^ 31) (hn : n ≤ 8) (hen : en ≤ 60) : ms_IN σ t n en := by
  obtain ⟨t', n', en', ht', hI⟩ := h
  have a := hI.2.2.1
  have b := hI.2.2.2.2.1
  have e1 : t' = t := ms_nI (hI.1.symm.trans h0) (by omega) ht
  have e2 : n' = n := ms_nI (hI.2.1.symm.trans h1) (by omega) (by omega)
  have e3 : en' = en := ms_nI (hI.2.2.2.1.symm.trans h2) (by omega) (by omega)
  subst e1; subst e2; subst e3
  exact hI
