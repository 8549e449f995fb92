/-! between two calls: the World, the ring of saved Worlds, an empty text -/
theorem ms_WR_cg {M : ce_M} {w : Nat} {σ τ : Nat → Int32} (h : ∀ j, j < 816 → τ j = σ j) (hR : ms_WR M w σ) : ms_WR M w τ := by
  obtain ⟨R0, R1, R2, R3, R4, R5, R6, R7, R8⟩ := hR
  refine ⟨by rw [h _ (by omega)]; exact R0, by rw [h _ (by omega)]; exact R1, by rw [h _ (by omega)]; exact R2, fun i hi => by rw [h _ (by omega)]; exact R3 i hi, fun l hl => by rw [h _ (by omega)]; exact R4 l hl, fun a ha => ms_SR_cg (R5 a ha) (fun j hj => h _ (by omega)) (sp_rt_eq 60 (fun e he => h _ (by omega))), fun e he => ?_, by rw [h _ (by omega)]; exact R7, fun m q1 q2 a q3 q4 => ?_⟩
  · rw [h _ (by omega), h _ (by omega), h _ (by omega), h _ (by omega), h _ (by omega), h _ (by omega)]; exact R6 e he
  · rw [h _ (by omega)] at q1; exact R8 m q1 q2 a q3 q4
theorem ms_IN_cg {σ τ : Nat → Int32} {t n en : Nat} (h : ∀ j, j < 816 → τ j = σ j) (hI : ms_IN σ t n en) : ms_IN τ t n en := by
  obtain ⟨I0, I1, I1', I2, I2', I3, I4, I5, I6, I7, I8, I9, I10⟩ := hI
  refine ⟨by rw [h _ (by omega)]; exact I0, by rw [h _ (by omega)]; exact I1, I1', by rw [h _ (by omega)]; exact I2, I2', by rw [h _ (by omega)]; exact I3, by rw [h _ (by omega)]; exact I4, by rw [h _ (by omega)]; exact I5, by rw [h _ (by omega)]; exact I6, fun a ha => ms_SI_cg (I7 a ha) (fun j hj => h _ (by omega)), fun a ha => by rw [h _ (by omega)]; exact I8 a ha, fun a h1 h2 k hk => by rw [h _ (by omega)]; exact I9 a h1 h2 k hk, fun e h1 h2 k hk => by rw [h _ (by omega)]; exact I10 e h1 h2 k hk⟩
theorem ms_WR_al {M M' : ce_M} {w : Nat} {σ : Nat → Int32} (hR : ms_WR M w σ) (h : ∀ q, w ≤ q → q < w + 68 → ce_rd M' q = ce_rd M q) : ms_WR M' w σ := ms_WR_k hR (fun q h1 h2 _ => h q h1 h2)
theorem cs_nx : ∀ nx, nx < 4 → ((nI nx + 1) - (nI nx + 1) / 4 * 4) = nI ((nx + 1) % 4) := by decide
theorem cs_pv : ∀ nx, nx < 4 → (((nI nx + 4) - 1) - ((nI nx + 4) - 1) / 4 * 4) = nI ((nx + 3) % 4) := by decide
theorem cs_c4 : ∀ c, c ≤ 4 → ce_min (nI c + 1) 4 = nI (if c < 4 then c + 1 else 4) := by decide
theorem cs_keep {M : ce_M} {c nx t n en : Nat} {σ : Nat → Int32} (hR : ms_WR M 1 σ) (hI : ms_IN σ t n en) (hc : c ≤ 4) (hx : nx < 4) (h2 : ce_rd M 137 2 = nI c) (h1 : ce_rd M 137 1 = nI nx) : ∃ M', f_X5_keep 137 M 1 = some M' ∧ M'.2 = M.2 ∧ ms_WR M' (139 + 68 * nx) σ ∧ (∀ q, q ≠ 137 → q < 139 + 68 * nx ∨ 139 + 68 * nx + 68 ≤ q → ce_rd M' q = ce_rd M q) ∧ ce_rd M' 137 1 = nI ((nx + 1) % 4) ∧ ce_rd M' 137 2 = nI (if c < 4 then c + 1 else 4) := by
  obtain ⟨M4, e4, w4, f4⟩ := cs_copy (k := 137 + 1 + (1 + 68 * nx)) hR hI (by omega)
  have r1 : ce_rd M4 137 1 = nI nx := (congrFun (f4.2 137 (by omega)) 1).trans h1
  have r2 : ce_rd M4 137 2 = nI c := (congrFun (f4.2 137 (by omega)) 2).trans h2
  unfold f_X5_keep
  rw [h1, ms_gi (show nx < 4 by omega) (show 4 < 2 ^ 31 by omega), nI_clamp (show nx < 2 ^ 31 by omega), ms_nm, e4, ms_b1, r1, cs_nx nx hx, ms_nm, ms_rw3 (by omega), r2, cs_c4 c hc, ms_nm]
  have q : 137 + 1 + (1 + 68 * nx) = 139 + 68 * nx := by omega
  rw [q] at w4 f4
  refine ⟨_, rfl, f4.1, ms_WR_al w4 (fun q q1 q2 => ?_), fun q q1 q2 => ?_, ?_, ?_⟩
  · rw [ms_row (by omega), ms_row (by omega)]
  · rw [ms_row (by omega), ms_row (by omega)]; exact f4.2 q q2
  · rw [ms_rw3 (by omega), ms_ww]
  · rw [ms_ww]
theorem cs_act_no {M : ce_M} {op x y z ca : Int32} (h : f_X6_against 1 M op x y z = some ca) (hc : ca = 1 ∨ ca = 2 ∨ ca = 3) : f_X7_act 0 M op x y z = some (M, 0, ca.toNatClampNeg) := by
  unfold f_X7_act
  rw [show f_X6_against (0 + 1) M op x y z = some ca from h, ms_b1, ms_nm]
  rcases hc with rfl | rfl | rfl <;> rfl
theorem cs_act_yes {M M1 M2 : ce_M} {op x y z r : Int32} (h : f_X6_against 1 M op x y z = some 0) (h1 : f_X5_keep 137 M 1 = some M1) (h2 : f_X6_perform 1 M1 op x y z = some (M2, r)) : f_X7_act 0 M op x y z = some (M2, r, 0) := by
  unfold f_X7_act
  rw [show f_X6_against (0 + 1) M op x y z = some 0 from h, ms_b1, ms_nm, if_neg (by decide)]
  show ce_b1 (some 0) _ = _
  rw [ms_b1, if_pos rfl, ms_nm, if_neg (by decide)]
  show ce_b1 (some 0) _ = _
  rw [ms_b1, if_pos rfl, ms_nm, if_neg (by decide)]
  show ce_b1 (some 0) _ = _
  rw [ms_b1, if_pos rfl, show f_X5_keep (0 + 137) M (0 + 1) = some M1 from h1, ms_b1, show f_X6_perform (0 + 1) M1 op x y z = some (M2, r) from h2, ms_b2]
def q_U (M : ce_M) (ps : List (Nat → Int32)) : Prop := ∃ nx, nx < 4 ∧ ps.length ≤ 4 ∧ ce_rd M 137 2 = nI ps.length ∧ ce_rd M 137 1 = nI nx ∧ ∀ j τ, ps[j]? = some τ → (∃ t n en, ms_IN τ t n en) ∧ ms_WR M (139 + 68 * ((nx + 3 - j) % 4)) τ
def q_S (M : ce_M) (σ : Nat → Int32) (ps : List (Nat → Int32)) : Prop := ms_WR M 1 σ ∧ q_U M ps ∧ ce_rd M 411 1 = nI 0
theorem q_U_fr {M M' : ce_M} {ps : List (Nat → Int32)} (h : q_U M ps) (h1 : ∀ q, 137 ≤ q → q < 411 → ce_rd M' q = ce_rd M q) : q_U M' ps := by
  obtain ⟨nx, a1, a2, a3, a4, a5⟩ := h
  refine ⟨nx, a1, a2, by rw [h1 137 (by omega) (by omega)]; exact a3, by rw [h1 137 (by omega) (by omega)]; exact a4, fun j τ hj => ?_⟩
  obtain ⟨b1, b2⟩ := a5 j τ hj
  have hm : (nx + 3 - j) % 4 < 4 := Nat.mod_lt _ (by omega)
  exact ⟨b1, ms_WR_al b2 (fun q q1 q2 => h1 q (by omega) (by omega))⟩
theorem q_S_fr {M M' : ce_M} {σ : Nat → Int32} {ps : List (Nat → Int32)} (h : q_S M σ ps) (h1 : ∀ q, q < 414 → q < 69 ∨ 137 ≤ q → ce_rd M' q = ce_rd M q) : q_S M' σ ps :=
  ⟨ms_WR_al h.1 (fun q q1 q2 => h1 q (by omega) (by omega)), q_U_fr h.2.1 (fun q q1 q2 => h1 q (by omega) (by omega)), (congrFun (h1 411 (by omega) (by omega)) 1).trans h.2.2⟩
theorem q_md : ∀ nx, nx < 4 → ∀ j, j < 4 → ((nx + 1) % 4 + 3 - 0) % 4 = nx ∧ (j < 3 → ((nx + 1) % 4 + 3 - (j + 1)) % 4 = (nx + 3 - j) % 4 ∧ (nx + 3 - j) % 4 ≠ nx) := by decide
theorem q_act_yes {M : ce_M} {σ τ : Nat → Int32} {ps : List (Nat → Int32)} {t n en : Nat} {op x y z r : Int32} (hS : q_S M σ ps) (hI : ms_IN σ t n en) (hC : f_X6_against 1 M op x y z = some 0) (hP : ∀ M1, ms_WR M1 1 σ → ∃ M2, f_X6_perform 1 M1 op x y z = some (M2, r) ∧ ms_WR M2 1 τ ∧ ms_fr 1 (1 + 68) M1 M2) : ∃ M', f_X7_act 0 M op x y z = some (M', r, 0) ∧ q_S M' τ ((σ :: ps).take 4) := by
  obtain ⟨hW, ⟨nx, a1, a2, a3, a4, a5⟩, hT⟩ := hS
  obtain ⟨M1, k1, k0, k2, k3, k4, k5⟩ := cs_keep hW hI a2 a1 a3 a4
  have hW1 : ms_WR M1 1 σ := ms_WR_al hW (fun q q1 q2 => k3 q (by omega) (by omega))
  obtain ⟨M2, p1, p2, p3⟩ := hP M1 hW1
  have hr : ∀ q, 69 ≤ q → ce_rd M2 q = ce_rd M1 q := fun q h => p3.2 q (by omega)
  refine ⟨M2, cs_act_yes hC k1 p1, p2, ⟨(nx + 1) % 4, Nat.mod_lt _ (by omega), by rw [List.length_take]; omega, ?_, ?_, fun j ρ hj => ?_⟩, ?_⟩
  · rw [hr 137 (by omega), k5, List.length_take, List.length_cons]
    congr 1
    split <;> omega
  · rw [hr 137 (by omega), k4]
  · have hj4 : j < 4 := by
      have := (List.getElem?_eq_some_iff.mp hj).1
      rw [List.length_take] at this
      omega
    rw [List.getElem?_take, if_pos hj4] at hj
    cases j with
    | zero =>
      cases hj
      rw [(q_md nx a1 0 (by omega)).1]
      exact ⟨⟨t, n, en, hI⟩, ms_WR_al k2 (fun q q1 q2 => hr q (by omega))⟩
    | succ j =>
      obtain ⟨b1, b2⟩ := a5 j ρ hj
      obtain ⟨m1, m2⟩ := (q_md nx a1 j (by omega)).2 (by omega)
      have hm : (nx + 3 - j) % 4 < 4 := Nat.mod_lt _ (by omega)
      rw [m1]
      exact ⟨b1, ms_WR_al b2 (fun q q1 q2 => by rw [hr q (by omega), k3 q (by omega) (by omega)])⟩
  · rw [hr 411 (by omega), k3 411 (by omega) (by omega)]
    exact hT
theorem q_undo0 {M : ce_M} (hU : q_U M []) : f_X7_undo 0 M = some (M, 0, 3) := by
  obtain ⟨nx, a1, a2, a3, a4, a5⟩ := hU
  unfold f_X7_undo
  rw [ms_nm, if_pos (show ce_rd M (0 + 137) 2 ≤ 0 from by rw [show ce_rd M (0 + 137) 2 = nI 0 from a3]; decide)]
  rfl
theorem q_undo {M : ce_M} {σ τ : Nat → Int32} {ps : List (Nat → Int32)} (hS : q_S M σ (τ :: ps)) : ∃ M', f_X7_undo 0 M = some (M', nI ps.length, 0) ∧ q_S M' τ ps := by
  obtain ⟨hW, ⟨nx, a1, a2, a3, a4, a5⟩, hT⟩ := hS
  rw [List.length_cons] at a2 a3
  obtain ⟨⟨t9, n9, en9, hI9⟩, b2⟩ := a5 0 τ rfl
  have hm : (nx + 3 - 0) % 4 = (nx + 3) % 4 := by omega
  have hm4 : (nx + 3) % 4 < 4 := Nat.mod_lt _ (by omega)
  rw [hm] at b2
  have w1 : ms_WR (ce_wr M 137 1 (nI ((nx + 3) % 4))) (139 + 68 * ((nx + 3) % 4)) τ := ms_WR_al b2 (fun q q1 q2 => ms_row (by omega))
  obtain ⟨M6, e6, w6, f6⟩ := cs_copy (k := 1) w1 hI9 (by omega)
  have r2 : ce_rd M6 137 2 = nI (ps.length + 1) := by
    rw [f6.2 137 (by omega), ms_rw3 (by omega)]; exact a3
  have r1 : ce_rd M6 137 1 = nI ((nx + 3) % 4) := by
    rw [f6.2 137 (by omega), ms_ww]
  have hrest : f_X5_restoreTo 137 M 1 = some (ce_wr M6 137 2 (nI ps.length), nI ps.length) := by
    unfold f_X5_restoreTo
    rw [a4, cs_pv nx a1, ms_nm, ms_ww, ms_gi hm4 (by omega), nI_clamp (show (nx + 3) % 4 < 2 ^ 31 by omega), ms_nm, show 137 + 1 + (1 + 68 * ((nx + 3) % 4)) = 139 + 68 * ((nx + 3) % 4) by omega, e6, ms_b1, r2, show nI (ps.length + 1) - 1 = nI ps.length from ms_sub (b := 1) (by omega), ms_nm, ms_ww]
  have n2 : ∀ q, q ≠ 137 → 69 ≤ q → ce_rd (ce_wr M6 137 2 (nI ps.length)) q = ce_rd M q := fun q h h2 => (ms_row h).trans ((f6.2 q (by omega)).trans (ms_row h))
  refine ⟨ce_wr M6 137 2 (nI ps.length), ?_, ms_WR_al w6 (fun q q1 q2 => ms_row (by omega)), ⟨(nx + 3) % 4, hm4, by omega, ms_ww, (ms_rw3 (by omega)).trans r1, fun j ρ hj => ?_⟩, ?_⟩
  · unfold f_X7_undo
    rw [ms_nm, if_neg (show ¬ ce_rd M (0 + 137) 2 ≤ 0 from by rw [show ce_rd M (0 + 137) 2 = nI (ps.length + 1) from a3]; exact nI_nle (by omega) (by omega))]
    show ce_b1 (some 0) _ = _
    rw [ms_b1, if_pos rfl, show f_X5_restoreTo (0 + 137) M (0 + 1) = _ from hrest, ms_b2]
  · have hl := (List.getElem?_eq_some_iff.mp hj).1
    obtain ⟨d1, d2⟩ := a5 (j + 1) ρ hj
    have e2 : ((nx + 3) % 4 + 3 - j) % 4 = (nx + 3 - (j + 1)) % 4 := by omega
    have h4 : (nx + 3 - (j + 1)) % 4 < 4 := Nat.mod_lt _ (by omega)
    rw [e2]
    exact ⟨d1, ms_WR_al d2 (fun q q1 q2 => n2 q (by omega) (by omega))⟩
  · rw [n2 411 (by omega) (by omega)]
    exact hT
