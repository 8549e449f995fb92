/-! the law from its start -/
def q_0 : Nat → Int32 := fun j => if j = 3 then 3 else if j = 4 then 2 else if j = 5 then 2 else if j = 6 then 8 else 0
theorem gi_s0 (j : Nat) : q_0 j = if j = 3 then 3 else if j = 4 then 2 else if j = 5 then 2 else if j = 6 then 8 else 0 := rfl
theorem gi_s1 {j : Nat} (h : j < 3 ∨ 6 < j) : q_0 j = nI 0 := by
  rw [gi_s0, if_neg (by omega), if_neg (by omega), if_neg (by omega), if_neg (by omega)]
  rfl
theorem gi_kd : ∀ k, k < 69 → k ≠ 2 → ce_kd k ≠ 20 := by decide +kernel
theorem gi_z {k : Nat} (h : ce_kd k ≠ 20) (j : Nat) : ce_rd ce_M0 k j = nI 0 := by
  show (if ce_kd k = 20 then ([3, 2, 2, 8] : List Int32).getD j 0 else 0) = nI 0
  rw [if_neg h]
  rfl
theorem gi_z1 {k : Nat} (h : k < 69) (h2 : k ≠ 2) (j : Nat) : ce_rd ce_M0 k j = nI 0 := gi_z (gi_kd k h h2) j
theorem gi_set : ∀ i, i < 4 → ce_rd ce_M0 (1 + 1) i = q_0 (3 + i) := by decide
theorem gi_IN : ms_IN (q_0) 0 0 0 := by
  refine ⟨gi_s1 (by omega), gi_s1 (by omega), by omega, gi_s1 (by omega), by omega, ⟨3, by omega, gi_s0 3⟩, ⟨2, by omega, by omega, gi_s0 4⟩, ⟨2, by omega, gi_s0 5⟩, ⟨8, by omega, gi_s0 6⟩, fun a ha => ?_, fun a ha => absurd ha (by omega), fun a _ _ k _ => gi_s1 (by omega), fun e _ _ k _ => gi_s1 (by omega)⟩
  exact ⟨0, 0, 0, 0, 0, 0, 0, 0, gi_s1 (by omega), by omega, gi_s1 (by omega), by omega, gi_s1 (by omega), by omega, gi_s1 (by omega), by omega, gi_s1 (by omega), by omega, gi_s1 (by omega), by omega, gi_s1 (by omega), by omega, gi_s1 (by omega), by omega, fun _ => rfl, fun _ => rfl, fun i hi => absurd hi (by omega), fun i j _ hj => absurd hj (by omega), fun j hj => absurd hj (by omega)⟩
theorem gi_rt {a : Nat} (ha : a < 8) : ∀ n, n ≤ 60 → sp_rt (q_0) a n = nI 0 := by
  intro n
  induction n with
  | zero => intro _; rfl
  | succ n ih =>
    intro h
    show sp_rt (q_0) a n + sp_bit (q_0 (456 + 6 * n + 4)) a = nI 0
    rw [ih (by omega), gi_s1 (by omega), q_bit0]
    rfl
theorem gi_lost : ∀ n, n ≤ 8 → sp_lost ce_M0 1 n = nI 0 := by
  intro n
  induction n with
  | zero => intro _; rfl
  | succ n ih =>
    intro h
    show sp_lost ce_M0 1 n + ce_rd ce_M0 (1 + 2 + (10 + 7 * n)) 11 = nI 0
    rw [ih (by omega), gi_z1 (by omega) (by omega)]
    rfl
theorem gi_WR : ms_WR ce_M0 1 (q_0) := by
  have z : ∀ k j i, k < 69 → k ≠ 2 → (i < 3 ∨ 6 < i) → ce_rd ce_M0 k j = q_0 i := fun k j i h1 h2 h3 => (gi_z1 h1 h2 j).trans (gi_s1 h3).symm
  refine ⟨z _ _ _ (by omega) (by omega) (by omega), z _ _ _ (by omega) (by omega) (by omega), z _ _ _ (by omega) (by omega) (by omega), gi_set, fun l hl => z _ _ _ (by omega) (by omega) (by omega), fun a ha => ?_, fun e he => ?_, ?_, fun m q1 q2 a q3 q4 => gi_z1 (by omega) (by omega) _⟩
  · refine ⟨z _ _ _ (by omega) (by omega) (by omega), z _ _ _ (by omega) (by omega) (by omega), z _ _ _ (by omega) (by omega) (by omega), z _ _ _ (by omega) (by omega) (by omega), z _ _ _ (by omega) (by omega) (by omega), z _ _ _ (by omega) (by omega) (by omega), z _ _ _ (by omega) (by omega) (by omega), z _ _ _ (by omega) (by omega) (by omega), z _ _ _ (by omega) (by omega) (by omega), z _ _ _ (by omega) (by omega) (by omega), z _ _ _ (by omega) (by omega) (by omega), z _ _ _ (by omega) (by omega) (by omega), ?_, fun w _ _ i _ => z _ _ _ (by omega) (by omega) (by omega), fun c _ _ j _ => ⟨z _ _ _ (by omega) (by omega) (by omega), z _ _ _ (by omega) (by omega) (by omega), z _ _ _ (by omega) (by omega) (by omega)⟩⟩
    rw [gi_rt ha 60 (by omega)]
    exact gi_z1 (by omega) (by omega) _
  · exact ⟨z _ _ _ (by omega) (by omega) (by omega), z _ _ _ (by omega) (by omega) (by omega), z _ _ _ (by omega) (by omega) (by omega), z _ _ _ (by omega) (by omega) (by omega), z _ _ _ (by omega) (by omega) (by omega), z _ _ _ (by omega) (by omega) (by omega)⟩
  · rw [gi_lost 8 (by omega)]
    exact (gi_s1 (by omega)).symm
theorem q_start : q_S ce_M0 q_0 [] := ⟨gi_WR, ⟨0, by omega, by decide, gi_z (by decide) 2, gi_z (by decide) 1, fun j τ h => by simp at h⟩, gi_z (by decide) 1⟩
theorem q_J0 : q_J q_0 0 0 0 := by
  refine ⟨gi_IN, fun e he => ⟨0, 0, gi_s1 (by omega), by decide, gi_s1 (by omega), by decide, by decide, fun q => absurd q (by omega)⟩, ⟨fun _ => 0, fun a ha => absurd ha (by omega), (gi_s1 (j := 7) (by omega)).symm⟩, ?_⟩
  show sp_sm (fun l => q_0 (8 + l)) 16 = nI 0
  rw [sp_sm_eq (g := fun _ => nI 0) 16 (fun l hl => gi_s1 (by omega))]
  exact q_sm_z 16
theorem q_cell (M : ce_M) {L : Nat} (hL : L ≤ 260) (xs : Nat → Int32) {i : Nat} (hi : i < 2 ^ 31) : ∃ v, f_L_cell M (nI i) L xs = some v := by
  unfold f_L_cell
  rw [ms_nm]
  by_cases c : Int32.ofNat L ≤ nI i
  · rw [if_pos c]
    exact ⟨_, rfl⟩
  · rw [if_neg c, ms_gi (show i < L by
      rcases Nat.lt_or_ge i L with q | q
      · exact q
      · exact absurd (nI_le q hi) c) (by omega), ms_nm]
    exact ⟨_, rfl⟩
theorem q_m2 : ∀ i, i < 40 → 2 * nI i = nI (2 * i) ∧ 2 * nI i + 1 = nI (2 * i + 1) := by decide +kernel
theorem q_nST {j : Nat} (h : j < 2 ^ 31) : ¬ nI j < (-900000002 : Int32) := fun q => by
  have := Int32.lt_iff_toInt_lt.mp q
  rw [nI_toInt h, show (-900000002 : Int32).toInt = -900000002 from by decide] at this
  omega
/-- three acts and back again -/
theorem q_mid {M : ce_M} {σ : Nat → Int32} {ps : List (Nat → Int32)} {t n en : Nat} (hS : q_S M σ ps) (hJ : q_J σ t n en) (ht : t ≤ 9000) (x y : Int32) (i : Nat) {rec : ce_M → Int32 → Int32 → Option Unit} (hrec : ∀ M' ps', q_S M' σ ps' → rec M' 1 (nI (i + 1)) = some ()) : (if (1 : Int32) = 0 then ce_nm (nI i + 1) (fun (x28 : Int32) => rec M 1 x28) else if (nI i - nI i / 5 * 5) = 4 then ce_b1 (f_L_sum M 0) (fun (q33 : Int64) => ce_b1 (f_L_low M x 21) (fun (x35 : Int32) => ce_b2 (f0_L_sets M 0 3 x35) (fun (M37 : ce_M) (x38 : Int32) => if x38 < 0 then ce_nm (nI i + 1) (fun (x41 : Int32) => rec M37 0 x41) else ce_b1 (f_L_low M37 y 9) (fun (x43 : Int32) => ce_b2 (f0_L_passes M37 0 (1 + x43)) (fun (M45 : ce_M) (x46 : Int32) => if x46 < 0 then ce_nm (nI i + 1) (fun (x49 : Int32) => rec M45 0 x49) else ce_b2 (f_L_sends M45 0 0 0 0) (fun (M51 : ce_M) (x52 : Int32) => if x52 < (-900000002) then ce_nm (nI i + 1) (fun (x55 : Int32) => rec M51 0 x55) else ce_b2 (f0_L_back M51 0) (fun (M57 : ce_M) (x58 : Int32) => if x58 < 0 then ce_nm (nI i + 1) (fun (x61 : Int32) => rec M57 0 x61) else ce_b2 (f0_L_back M57 0) (fun (M63 : ce_M) (x64 : Int32) => if x64 < 0 then ce_nm (nI i + 1) (fun (x67 : Int32) => rec M63 0 x67) else ce_b1 (f0_L_whole M63 0 2) (fun (x69 : Int32) => ce_nm (fun (M71 : ce_M) => ce_b1 (f_L_sum M71 0) (fun (q73 : Int64) => if (lg_cmp q73 q33) = 0 then ce_nm (nI i + 1) (fun (x78 : Int32) => rec M71 1 x78) else ce_nm (nI i + 1) (fun (x76 : Int32) => rec M71 0 x76))) (fun (u72 : ce_M → Option Unit) => if x69 = 60 then u72 M63 else ce_b2 (f0_L_back M63 0) (fun (M82 : ce_M) (x83 : Int32) => if x83 < 0 then ce_nm (nI i + 1) (fun (x86 : Int32) => rec M82 0 x86) else u72 M82))))))))))) else ce_nm (nI i + 1) (fun (x31 : Int32) => rec M 1 x31)) = some () := by
  have hI := hJ.1
  have hn := hI.2.2.1
  have hen := hI.2.2.2.2.1
  rw [if_neg (show ¬ (1 : Int32) = 0 by decide)]
  by_cases c5 : (nI i - nI i / 5 * 5) = 4
  · rw [if_pos c5]
    obtain ⟨v, hv, e1⟩ := q_low M x (m := 21) (by omega) (by omega)
    have e1 : f_L_low M x 21 = some (nI v) := e1
    obtain ⟨d, hd, e2⟩ := q_low M y (m := 9) (by omega) (by omega)
    have e2 : f_L_low M y 9 = some (nI d) := e2
    obtain ⟨s6, s61, s62⟩ := hI.2.2.2.2.2.2.2.2.1
    obtain ⟨M1, a1, a2, a3⟩ := q_set (j := 3) (v := v) hS hI (by omega) (by omega) (by show 0 ≤ v; omega) (by show v ≤ 20; omega)
    have a1 : f0_L_sets M 0 3 (nI v) = some (M1, nI s6) := a1.trans (by rw [show σ (3 + 3) = nI s6 from s62])
    have hI1 := q_IT_IN a3 ((ms_u2 (by omega)).trans hI.1) ((ms_u2 (by omega)).trans hI.2.1) ((ms_u2 (by omega)).trans hI.2.2.2.1) (by omega) hn hen
    have hJ1 := q_J_set hJ (show 3 < 4 by omega) hI1
    rw [q_take] at a2
    generalize upd σ (3 + 3) (nI v) = σ1 at a2 hI1 hJ1
    obtain ⟨M2, b1, b2⟩ := q_pass (k := 1 + d) a2 hI1 (by omega) (by omega) (by omega)
    obtain ⟨mm, m1, m2⟩ : ∃ mm, mm < 2 ^ 31 ∧ (sp_ps σ1 n (1 + d)).2 = nI mm := by
      by_cases z : n = 0
      · subst z
        obtain ⟨k, hk⟩ : ∃ k, k = 1 + d := ⟨_, rfl⟩
        rw [← hk]
        have : ∀ k, k ≤ 50 → ∃ mm, mm ≤ 96 * k ∧ (sp_ps σ1 0 k).2 = nI mm := fun k => by
          induction k with
          | zero => intro _; exact ⟨0, by omega, rfl⟩
          | succ k ih =>
            intro h
            obtain ⟨m, g1, g2⟩ := ih (by omega)
            obtain ⟨m', g3, g4⟩ := (sp_tz_v (ms_IN_ps hI1 k)).2.1
            exact ⟨m + m', by omega, by show (sp_ps σ1 0 k).2 + _ = _; rw [g2, g4, nI_add]⟩
        obtain ⟨mm, g1, g2⟩ := this k (by omega)
        exact ⟨mm, by omega, g2⟩
      · obtain ⟨mm, g1, g2, _⟩ := q_ps_w (a := 0) hI1 (by omega) (1 + d)
        exact ⟨mm, by omega, g2⟩
    rw [m2] at b1
    have hI2 := ms_IN_ps hI1 (1 + d)
    rw [q_take] at b2
    generalize (sp_ps σ1 n (1 + d)).1 = σ2 at b2 hI2
    have hsum := q_sum_v hS hI
    have fin : ∀ M9 ps9, q_S M9 σ ps9 → ce_b1 (f_L_sum M9 0) (fun (q73 : Int64) => if (lg_cmp q73 (q_sum σ n en)) = 0 then ce_nm (nI i + 1) (fun (x78 : Int32) => rec M9 1 x78) else ce_nm (nI i + 1) (fun (x76 : Int32) => rec M9 0 x76)) = some () := fun M9 ps9 h9 => by
      rw [q_sum_v h9 hI, ms_b1, if_pos (q_cmp _), ms_nm, nI_1]
      exact hrec M9 ps9 h9
    rw [hsum, ms_b1, e1, ms_b1, a1, ms_b2, if_neg (nI_pos (by omega)), q_lowM (M' := M), e2, ms_b1, show (1 : Int32) + nI d = nI (1 + d) from nI_add 1 d, b1, ms_b2, if_neg (nI_pos m1)]
    by_cases c60 : en = 60
    · have hs : f_L_sends M2 0 0 0 0 = some (M2, -900000002) := q_pub_no (l := 0) (v := 0) (d := 0) b2 hI2 (by omega) (by omega) (by omega) (Or.inl c60)
      obtain ⟨M3, d1, d2⟩ := q_back b2
      obtain ⟨M4, d3, d4⟩ := q_back d2
      have w2 : f0_L_whole M4 0 2 = some (nI en) := (q_whole (j := 2) d4 hI (by omega)).trans (congrArg some hI.2.2.2.1)
      rw [hs, ms_b2, if_neg (by decide), d1, ms_b2, if_neg (nI_pos (by simp; omega)), d3, ms_b2, if_neg (nI_pos (by simp; omega)), w2, ms_b1, ms_nm, if_pos (show nI en = 60 by rw [c60]; rfl)]
      exact fin M4 _ d4
    · obtain ⟨M3, d1, d2, d3⟩ := q_pub (l := 0) (v := 0) (d := 0) b2 hI2 (by omega) (by omega) (by omega) (by omega) (show en < 60 by omega) (q_tl0 hI2 (by omega))
      have d1 : f_L_sends M2 0 0 0 0 = some (M3, nI en) := d1
      rw [q_take] at d2
      obtain ⟨M4, d4, d5⟩ := q_back d2
      obtain ⟨M5, d6, d7⟩ := q_back d5
      obtain ⟨M6, d8, d9⟩ := q_back d7
      have w2 : f0_L_whole M5 0 2 = some (nI en) := (q_whole (j := 2) d7 hI1 (by omega)).trans (congrArg some hI1.2.2.2.1)
      rw [d1, ms_b2, if_neg (q_nST (by omega)), d4, ms_b2, if_neg (nI_pos (by simp; omega)), d6, ms_b2, if_neg (nI_pos (by simp; omega)), w2, ms_b1, ms_nm, if_neg (show ¬ nI en = 60 from fun q => c60 (ms_nI (b := 60) q (by omega) (by omega))), d8, ms_b2, if_neg (nI_pos (by simp; omega))]
      exact fin M6 _ d9
  · rw [if_neg c5, ms_nm, nI_1]
    exact hrec M ps hS
theorem q_trun (xs : Nat → Int32) {L : Nat} (hL : L ≤ 260) : ∀ m i (M : ce_M) (σ : Nat → Int32) (ps : List (Nat → Int32)) (t n en : Nat), i + m = 40 → q_S M σ ps → q_J σ t n en → t ≤ i → 1 ≤ n → ∀ fuel, m < fuel → ce_lp3 (f_L_law_L104 L xs) fuel M 1 (nI i) = some () := by
  intro m
  induction m with
  | zero =>
    intro i M σ ps t n en hi hS hJ ht hn fuel hf
    obtain ⟨f, rfl⟩ : ∃ f, fuel = f + 1 := ⟨fuel - 1, by omega⟩
    have e : i = 40 := by omega
    subst e
    show f_L_law_L104 L xs _ M 1 (nI 40) = _
    unfold f_L_law_L104
    rw [ms_nm, if_pos (show (40 : Int32) ≤ nI 40 from by decide), if_neg (by decide), q_refused hS hJ.1, ms_b2, if_neg (by decide)]
  | succ m ih =>
    intro i M σ ps t n en hi hS hJ ht hn fuel hf
    obtain ⟨f, rfl⟩ : ∃ f, fuel = f + 1 := ⟨fuel - 1, by omega⟩
    obtain ⟨i1, i2⟩ := q_m2 i (by omega)
    obtain ⟨x, ex⟩ := q_cell M hL xs (i := 2 * i) (by omega)
    obtain ⟨y, ey⟩ := q_cell M hL xs (i := 2 * i + 1) (by omega)
    obtain ⟨k, hk, ek⟩ := q_low M (x >>> (5 &&& 31)) (m := 13) (by omega) (by omega)
    have ek : f_L_low M (x >>> (5 &&& 31)) 13 = some (nI k) := ek
    obtain ⟨M', σ', ps', t', n', en', a1, a2, a3, a4, a5⟩ := q_acts hS hJ (by omega) hn hk (x >>> (9 &&& 31)) y
    have hn' := a3.1.2.2.1
    show f_L_law_L104 L xs (ce_lp3 (f_L_law_L104 L xs) f) M 1 (nI i) = _
    have hrec : ∀ M9 ps9, q_S M9 σ' ps9 → ce_lp3 (f_L_law_L104 L xs) f M9 1 (nI (i + 1)) = some () := fun M9 ps9 h9 => ih (i + 1) M9 σ' ps9 t' n' en' (by omega) h9 a3 (by omega) (by omega) f (by omega)
    generalize ce_lp3 (f_L_law_L104 L xs) f = rec at hrec
    have mid := fun M9 ps9 (h9 : q_S M9 σ' ps9) => q_mid h9 a3 (by omega) x y i hrec
    unfold f_L_law_L104
    rw [ms_nm, if_neg (show ¬ (40 : Int32) ≤ nI i from nI_ge (b := 40) (by omega) (by omega)), if_neg (show ¬ (1 : Int32) = 0 by decide), i2, i1, ex, ms_b1, ey, ms_b1, ek, ms_b1, a1, ms_b2, ms_nm, ms_nm, if_neg (show ¬ (1 : Int32) = 0 by decide), q_fits a2 a3 (by omega), ms_b1, if_neg (show ¬ (1 : Int32) = 0 by decide), ms_nm, q_refused a2 a3.1, ms_b2, if_neg (show ¬ (1 : Int32) = 0 by decide)]
    have w0 : f0_L_whole M' 0 0 = some (nI n') := (q_whole (j := 0) a2 a3.1 (by omega)).trans (congrArg some a3.1.2.1)
    obtain ⟨a, ha, ea⟩ := q_low M' (y >>> (5 &&& 31)) (m := n') (by omega) (by omega)
    obtain ⟨M2, ps2, b1, b2⟩ := q_comes a2 a3 (by omega) ha
    by_cases c7 : (nI i - nI i / 7 * 7) = 5
    · rw [if_pos c7]
      dsimp only
      by_cases c3 : (nI i - nI i / 3 * 3) = 1
      · rw [if_pos c3, w0, ms_b1, ea, ms_b1, b1, ms_b2, if_neg (show ¬ (1 : Int32) = 0 by decide)]
        exact mid M2 ps2 b2
      · rw [if_neg c3]
        exact mid M' ps' a2
    · rw [if_neg c7]
      dsimp only
      by_cases c3 : (nI i - nI i / 3 * 3) = 1
      · rw [if_pos c3, w0, ms_b1, ea, ms_b1, b1, ms_b2, if_neg (show ¬ (1 : Int32) = 0 by decide)]
        exact mid M2 ps2 b2
      · rw [if_neg c3]
        exact mid M' ps' a2
theorem q_krun (xs : Nat → Int32) {L : Nat} (hL : L ≤ 260) : ∀ m i (M : ce_M) (σ : Nat → Int32) (ps : List (Nat → Int32)) (en : Nat), i + m = 3 → q_S M σ ps → q_J σ 0 i en → ∀ fuel, m < fuel → ce_lp3 (f_L_law_L40 L xs) fuel M 1 (nI i) = some () := by
  intro m
  induction m with
  | zero =>
    intro i M σ ps en hi hS hJ fuel hf
    obtain ⟨f, rfl⟩ : ∃ f, fuel = f + 1 := ⟨fuel - 1, by omega⟩
    have e : i = 3 := by omega
    subst e
    show f_L_law_L40 L xs _ M 1 (nI 3) = _
    unfold f_L_law_L40
    rw [if_pos (show (3 : Int32) ≤ nI 3 from by decide)]
    exact q_trun xs hL 40 0 M σ ps 0 3 en (by omega) hS hJ (by omega) (by omega) 60 (by omega)
  | succ m ih =>
    intro i M σ ps en hi hS hJ fuel hf
    obtain ⟨f, rfl⟩ : ∃ f, fuel = f + 1 := ⟨fuel - 1, by omega⟩
    have hI := hJ.1
    obtain ⟨x, ex⟩ := q_cell M hL xs (i := 80 + i) (by omega)
    obtain ⟨so, hso, e1⟩ := q_low M x (m := 2) (by omega) (by omega)
    have e1 : f_L_low M x 2 = some (nI so) := e1
    obtain ⟨le, hle, e2⟩ := q_low M (x >>> (2 &&& 31)) (m := 3) (by omega) (by omega)
    have e2 : f_L_low M (x >>> (2 &&& 31)) 3 = some (nI le) := e2
    obtain ⟨po, hpo, e3⟩ := q_low M (x >>> (4 &&& 31)) (m := 16) (by omega) (by omega)
    have e3 : f_L_low M (x >>> (4 &&& 31)) 16 = some (nI po) := e3
    obtain ⟨M', f1, f2, f3⟩ := q_join (so := so) (le := le) (po := po) hS hI (by omega) (show i < 8 by omega) (by omega) hle hpo
    have f9 : f0_L_joins M 0 (nI so) (nI le) (nI po) = some (M', nI i) := by
      unfold f0_L_joins f_X7_subscribe
      rw [f1]
      rfl
    have hx : ∀ j, j ≠ 1 → (j < 24 + 54 * i ∨ 24 + 54 * i + 54 ≤ j) → upd (sp_j1 σ i (nI so) (nI le) (nI po)) 1 (nI (i + 1)) j = σ j := fun j q1 q2 => by
      unfold sp_j1 sp_bs sp_bs0 sp_j0
      rw [if_pos (show 0 < 10 by omega)]
      simp (disch := omega) only [ms_u2]
    have hI' := q_IT_IN f3 ((hx 0 (by omega) (by omega)).trans hI.1) (ms_u1 rfl) ((hx 2 (by omega) (by omega)).trans hI.2.2.2.1) (by omega) (show i + 1 ≤ 8 by omega) hI.2.2.2.2.1
    have hJ' := q_J_join hJ (show i < 8 by omega) hI'
    show f_L_law_L40 L xs (ce_lp3 (f_L_law_L40 L xs) f) M 1 (nI i) = _
    unfold f_L_law_L40
    rw [if_neg (show ¬ (3 : Int32) ≤ nI i from nI_ge (b := 3) (by omega) (by omega)), if_neg (show ¬ (1 : Int32) = 0 by decide), show (80 : Int32) + nI i = nI (80 + i) from nI_add 80 i, ex, ms_b1, e1, ms_b1, e2, ms_b1, e3, ms_b1, f9, ms_b2, if_pos rfl, ms_nm, nI_1]
    exact ih (i + 1) M' _ _ en (by omega) f2 hJ' f (by omega)
theorem law_pure (xs : Nat → Int32) (L : Nat) (hL : L ≤ 260) : f_L_law_S L xs ce_M0 = some () := by
  have hb : f_L_back ce_M0 0 = some (ce_M0, -900000002) := by
    unfold f_L_back
    rw [q_undo0 q_start.2.1]
    rfl
  unfold f_L_law_S
  rw [hb, ms_b2, if_pos rfl, q_refused q_start q_J0.1, ms_b2, if_neg (show ¬ (1 : Int32) = 0 by decide), q_fits q_start q_J0 (by omega) 3, ms_b1, if_neg (show ¬ (1 : Int32) = 0 by decide)]
  exact q_krun xs hL 3 0 ce_M0 q_0 [] 0 (by omega) q_start q_J0 20 (by omega)
