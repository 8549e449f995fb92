/-! an action between two calls: the class and the model -/
def ms_E (G : ce_M → Option (ce_M × Int32)) (M : ce_M) : Option (ce_M × Int32) := ce_b1 (f_X8_laysAside 414 M) (fun (M1 : ce_M) => ce_b2 (G M1) (fun (M3 : ce_M) (x4 : Int32) => ce_b2 (f_X8_ends 414 M3 (ce_rd M3 414 5) x4) (fun (M6 : ce_M) (x7 : Int32) => some (M6, x7))))
theorem ms_back {M : ce_M} : ce_rd (ce_cp (ce_cp M 415 417 816) 417 415 816) 415 = ce_rd M 415 := funext fun i => by
  show (if 415 = 415 ∧ i < 816 then (if 417 = 417 ∧ i < 816 then M.1 415 i else M.1 417 i) else (if 415 = 417 ∧ i < 816 then M.1 415 i else M.1 415 i)) = M.1 415 i
  by_cases c : i < 816
  · rw [if_pos ⟨rfl, c⟩, if_pos ⟨rfl, c⟩]
  · rw [if_neg (fun q => c q.2), if_neg (fun q => c q.2)]
theorem ms_no {M : ce_M} (hG : GI M) {G : ce_M → Option (ce_M × Int32)} {cm : Nat} (h : ∀ Mm, G (ms_S Mm (ce_rd M 415)) = some (ms_S Mm (ce_rd M 415), nI cm)) (h1 : 1 ≤ cm) (h2 : cm ≤ 3) : ∃ M3, ms_E G M = some (M3, 0) ∧ ce_rd M3 414 4 = nI cm ∧ GI M3 := by
  have e1 : ce_cp M 415 417 816 = ms_S (ce_cp M 415 417 816) (ce_rd M 415) := (ms_S_self (ce_cp M 415 417 816)).symm
  have hg : G (ce_cp M 415 417 816) = some (ce_cp M 415 417 816, nI cm) := by
    have q := h (ce_cp M 415 417 816)
    rw [← e1] at q
    exact q
  refine ⟨ce_wr (ce_cp (ce_cp M 415 417 816) 417 415 816) 414 4 (nI cm), ?_, ms_ww, ?_⟩
  · unfold ms_E
    rw [ms_lays, ms_b1, hg, ms_b2]
    unfold f_X8_ends
    rw [if_neg (show ¬ nI cm ≤ 0 from nI_nle (by omega) (by omega)), ms_bring]
    rfl
  · refine GI_m ?_ _ (by omega) (by omega)
    refine GI_fr hG (fun q q1 q2 => ?_) ?_ ?_ ms_back ?_ ?_ ?_ ?_
    · rw [cp_row (by omega), cp_row (by omega)]
    · rw [cp_row (by omega), cp_row (by omega)]
    · rw [cp_row (by omega), cp_row (by omega)]
    · rw [cp_row (by omega), cp_row (by omega)]
    · rw [cp_row (by omega), cp_row (by omega)]
    · rw [cp_row (by omega), cp_row (by omega)]
    · rw [cp_row (by omega), cp_row (by omega)]
theorem ms_ends0 {M : ce_M} {c : Nat} (hc : ce_rd M 414 3 = nI c) (hc2 : c ≤ 4) (r : Int32) : ∃ M4, f_X8_ends 414 M r 0 = some (M4, r) ∧ M4.2 = M.2 ∧ (∀ q, q ≠ 414 → q ≠ 416 → ce_rd M4 q = ce_rd M q) ∧ (∀ j, j ≠ 3 → j ≠ 4 → ce_rd M4 414 j = ce_rd M 414 j) ∧ ce_rd M4 414 4 = 0 ∧ ce_rd M4 414 3 = nI (if c < 4 then c + 1 else 4) ∧ (∀ i x, i < 4 → x < 816 → ce_rd M4 416 (816 * i + x) = if i = (if c < 4 then c else 3) then ce_rd M 417 x else if c < 4 then ce_rd M 416 (816 * i + x) else ce_rd M 416 (816 * (i + 1) + x)) := by
  obtain ⟨M', e1, f1, f2, f3, f4, f5⟩ := ms_keeps hc hc2
  refine ⟨ce_wr M' 414 4 0, ?_, f1, fun q h1 h2 => (ms_row h1).trans (f2 q h1 h2), fun j h1 h2 => (ms_rw3 h2).trans (f3 j h1), ms_ww, (ms_rw3 (by omega)).trans f4, fun i x h1 h2 => ?_⟩
  · unfold f_X8_ends
    rw [if_pos (by decide), e1]
    rfl
  · rw [ms_row (by omega)]
    exact f5 i x h1 h2
/-- one step of keeping: the class's memory M0, M1 after it, and the model's M4 after its own -/
theorem GI_kept {M0 M4 : ce_M} {c nx : Nat} {σ : Nat → Int32} (hU : GI_U M0 c nx) (hT : ms_IT 9999 σ) (h415 : ce_rd M0 415 = σ) (hW : ms_WR M4 (139 + 68 * nx) σ) (h1 : ∀ q, 139 ≤ q → q < 411 → q < 139 + 68 * nx ∨ 139 + 68 * nx + 68 ≤ q → ce_rd M4 q = ce_rd M0 q) (h2 : ce_rd M4 137 1 = nI ((nx + 1) % 4)) (h3 : ce_rd M4 137 2 = nI (if c < 4 then c + 1 else 4)) (h4 : ce_rd M4 414 3 = nI (if c < 4 then c + 1 else 4)) (h5 : ∀ i x, i < 4 → x < 816 → ce_rd M4 416 (816 * i + x) = if i = (if c < 4 then c else 3) then σ x else if c < 4 then ce_rd M0 416 (816 * i + x) else ce_rd M0 416 (816 * (i + 1) + x)) : GI_U M4 (if c < 4 then c + 1 else 4) ((nx + 1) % 4) := by
  obtain ⟨a1, a2, a3, a4, a5, a6⟩ := hU
  refine ⟨by by_cases d : c < 4 <;> simp only [d, if_true, if_false] <;> omega, Nat.mod_lt _ (by omega), h4, h3, h2, fun j hj => ?_⟩
  by_cases j0 : j = 0
  · subst j0
    have e : ∀ x, x < 816 → sp_seg M4 ((if c < 4 then c + 1 else 4) - 1 - 0) x = σ x := fun x hx => by
      show ce_rd M4 416 (816 * ((if c < 4 then c + 1 else 4) - 1 - 0) + x) = σ x
      have q : (if c < 4 then c + 1 else 4) - 1 - 0 = (if c < 4 then c else 3) := by
        by_cases d : c < 4 <;> simp only [d, if_true, if_false] <;> omega
      rw [q, h5 _ x (by by_cases d : c < 4 <;> simp only [d, if_true, if_false] <;> omega) hx, if_pos rfl]
    have e2 : ((nx + 1) % 4 + 3 - 0) % 4 = nx := by omega
    rw [e2]
    exact ⟨ms_IT_cg e hT, ms_WR_cg e hW⟩
  · have hj2 : j - 1 < c := by
      by_cases d : c < 4 <;> simp only [d, if_true, if_false] at hj <;> omega
    obtain ⟨b1, b2⟩ := a6 (j - 1) hj2
    have e : ∀ x, x < 816 → sp_seg M4 ((if c < 4 then c + 1 else 4) - 1 - j) x = sp_seg M0 (c - 1 - (j - 1)) x := fun x hx => by
      show ce_rd M4 416 (816 * ((if c < 4 then c + 1 else 4) - 1 - j) + x) = ce_rd M0 416 (816 * (c - 1 - (j - 1)) + x)
      by_cases d : c < 4
      · simp only [d, if_true] at hj ⊢
        rw [h5 _ x (by omega) hx]
        simp only [d, if_true]
        rw [if_neg (by omega)]
        exact congrArg (ce_rd M0 416) (by omega)
      · simp only [d, if_false] at hj ⊢
        rw [h5 _ x (by omega) hx]
        simp only [d, if_false]
        rw [if_neg (by omega)]
        exact congrArg (ce_rd M0 416) (by omega)
    have e2 : ((nx + 1) % 4 + 3 - j) % 4 = (nx + 3 - (j - 1)) % 4 := by
      have hj4 : j - 1 < 3 := by
        by_cases d : c < 4 <;> simp only [d, if_true, if_false] at hj <;> omega
      omega
    have hne : (nx + 3 - (j - 1)) % 4 ≠ nx ∧ (nx + 3 - (j - 1)) % 4 < 4 := by
      have hj4 : j - 1 < 3 := by
        by_cases d : c < 4 <;> simp only [d, if_true, if_false] at hj <;> omega
      omega
    rw [e2]
    refine ⟨ms_IT_cg e b1, ms_WR_cg e (ms_WR_al b2 (fun q q1 q2 => h1 q (by omega) (by omega) (by omega)))⟩
def ms_c (ca cm : Int32) : Prop := (ca = 1 ∨ ca = 2 ∨ ca = 3) ∧ ∃ m, 1 ≤ m ∧ m ≤ 3 ∧ cm = nI m
theorem cs_act_no {M : ce_M} {op x y z ca : Int32} (h : f_X6_against 1 M op x y z = some ca) (hc : ca = 1 ∨ ca = 2 ∨ ca = 3) : f_X7_act 0 M op x y z = some (M, 0, ca.toNatClampNeg) := by
  unfold f_X7_act
  rw [show f_X6_against (0 + 1) M op x y z = some ca from h, ms_b1, ms_nm]
  rcases hc with rfl | rfl | rfl <;> rfl
theorem cs_act_yes {M M1 M2 : ce_M} {op x y z r : Int32} (h : f_X6_against 1 M op x y z = some 0) (h1 : f_X5_keep 137 M 1 = some M1) (h2 : f_X6_perform 1 M1 op x y z = some (M2, r)) : f_X7_act 0 M op x y z = some (M2, r, 0) := by
  unfold f_X7_act
  rw [show f_X6_against (0 + 1) M op x y z = some 0 from h, ms_b1, ms_nm, if_neg (by decide)]
  show ce_b1 (some 0) _ = _
  rw [ms_b1, if_pos rfl, ms_nm, if_neg (by decide)]
  show ce_b1 (some 0) _ = _
  rw [ms_b1, if_pos rfl, ms_nm, if_neg (by decide)]
  show ce_b1 (some 0) _ = _
  rw [ms_b1, if_pos rfl, show f_X5_keep (0 + 137) M (0 + 1) = some M1 from h1, ms_b1, show f_X6_perform (0 + 1) M1 op x y z = some (M2, r) from h2, ms_b2]
theorem ms_yes0 {M M1 M2 N M5 : ce_M} {c nx t n en : Nat} {τ : Nat → Int32} {r : Int32} {v : Int64} (hG : GI M) (hU : GI_U M c nx) (hI : ms_IN (ce_rd M 415) t n en) (ht : t ≤ 9999) (k2 : ms_WR M1 (139 + 68 * nx) (ce_rd M 415)) (k3 : ∀ q, q ≠ 137 → q < 139 + 68 * nx ∨ 139 + 68 * nx + 68 ≤ q → ce_rd M1 q = ce_rd M q) (k4 : ce_rd M1 137 1 = nI ((nx + 1) % 4)) (k5 : ce_rd M1 137 2 = nI (if c < 4 then c + 1 else 4)) (hT : ms_IT 9999 τ) (hW : ms_WR M2 1 τ) (hf : ms_fr 1 (1 + 68) M1 M2) (hN : ce_wl M2 1 v = N) (g2 : M5.2 = N.2) (g3 : ∀ q, q ≠ 414 → q ≠ 418 → ce_rd M5 q = ce_rd (ce_cp N 415 417 816) q) (g5 : ∀ j, j ≠ 5 → ce_rd M5 414 j = ce_rd (ce_cp N 415 417 816) 414 j) : ∃ M4, f_X8_ends 414 (ms_S M5 τ) r 0 = some (M4, r) ∧ ce_rd M4 414 4 = 0 ∧ ce_rl M4 1 = v ∧ GI M4 := by
  have hU0 := hU
  obtain ⟨a1, a2, a3, a4, a5, a6⟩ := hU
  obtain ⟨hGW, _, len, hGT⟩ := hG
  have f2 : ∀ q, q = 0 ∨ 69 ≤ q → ce_rd M2 q = ce_rd M1 q := fun q hq => hf.2 q (by omega)
  have f0 : ∀ q, q = 0 ∨ 69 ≤ q → q ≠ 137 → q < 139 + 68 * nx ∨ 139 + 68 * nx + 68 ≤ q → ce_rd M2 q = ce_rd M q := fun q h1 h2 h3 => (f2 q h1).trans (k3 q h2 h3)
  have n1 : ∀ q, ce_rd N q = ce_rd M2 q := fun q => by rw [← hN]; rfl
  have n2 : ce_rl N 1 = v := by
    rw [← hN]
    show (if 1 = 1 then v else M2.2 1) = v
    rw [if_pos rfl]
  have n415 : ce_rd N 415 = ce_rd M 415 := (n1 415).trans (f0 415 (by omega) (by omega) (by omega))
  have c3 : ce_rd (ms_S M5 τ) 414 3 = nI c := by
    rw [ms_rd' _ _ (by omega), g5 3 (by omega), cp_row (by omega), n1, f0 414 (by omega) (by omega) (by omega)]
    exact a3
  obtain ⟨M4, e4, b1, b2, b3, b4, b5, b6⟩ := ms_ends0 c3 a1 r
  have rows : ∀ q, q ≠ 414 → q ≠ 415 → q ≠ 416 → q ≠ 417 → q ≠ 418 → ce_rd M4 q = ce_rd M2 q := fun q q1 q2 q3 q4 q5 => by
    rw [b2 q q1 q3]
    refine funext fun y => ?_
    rw [ms_rd' _ _ q2, g3 q q1 q5, cp_row q4, n1]
  have r415 : ce_rd M4 415 = τ := by
    rw [b2 415 (by omega) (by omega)]
    exact funext fun y => ms_rd M5 τ y
  refine ⟨M4, e4, b4, ?_, ⟨?_, ?_⟩, ⟨(if c < 4 then c + 1 else 4), (nx + 1) % 4, ?_⟩, len, ?_⟩
  · show M4.2 1 = v
    rw [b1]
    show M5.2 1 = v
    rw [g2]
    exact n2
  · rw [r415]
    exact ms_WR_al hW (fun q q1 q2 => rows q (by omega) (by omega) (by omega) (by omega) (by omega))
  · rw [r415]
    exact hT
  · refine GI_kept hU0 ⟨t, n, en, ht, hI⟩ rfl (ms_WR_al k2 (fun q q1 q2 => ?_)) (fun q q1 q2 q3 => ?_) ?_ ?_ b5 (fun i x hi hx => ?_)
    · rw [rows q (by omega) (by omega) (by omega) (by omega) (by omega), f2 q (by omega)]
    · rw [rows q (by omega) (by omega) (by omega) (by omega) (by omega)]
      exact f0 q (by omega) (by omega) q3
    · rw [rows 137 (by omega) (by omega) (by omega) (by omega) (by omega), f2 137 (by omega)]
      exact k4
    · rw [rows 137 (by omega) (by omega) (by omega) (by omega) (by omega), f2 137 (by omega)]
      exact k5
    · have x1 : ce_rd (ms_S M5 τ) 417 x = ce_rd M 415 x := by
        rw [ms_rd' _ _ (by omega), g3 417 (by omega) (by omega), cp_in hx, n415]
      have x2 : ∀ y, ce_rd (ms_S M5 τ) 416 y = ce_rd M 416 y := fun y => by
        rw [ms_rd' _ _ (by omega), g3 416 (by omega) (by omega), cp_row (by omega), n1, f0 416 (by omega) (by omega) (by omega)]
      rw [b6 i x hi hx, x1, x2, x2]
  · refine GI_T_fr hGT ?_ ?_ ?_ ?_
    · rw [rows 411 (by omega) (by omega) (by omega) (by omega) (by omega), f0 411 (by omega) (by omega) (by omega)]
    · rw [rows 412 (by omega) (by omega) (by omega) (by omega) (by omega), f0 412 (by omega) (by omega) (by omega)]
    · rw [rows 419 (by omega) (by omega) (by omega) (by omega) (by omega), f0 419 (by omega) (by omega) (by omega)]
    · rw [b3 8 (by omega) (by omega), ms_rd' _ _ (by omega), g5 8 (by omega), cp_row (by omega), n1, f0 414 (by omega) (by omega) (by omega)]
/-- after the class kept and did it, the model does it too -/
theorem ms_yes {M M1 M2 : ce_M} {c nx t n en : Nat} {G : ce_M → Option (ce_M × Int32)} {τ : Nat → Int32} {r : Int32} {v : Int64} (hG : GI M) (hU : GI_U M c nx) (hI : ms_IN (ce_rd M 415) t n en) (ht : t ≤ 9999) (k2 : ms_WR M1 (139 + 68 * nx) (ce_rd M 415)) (k3 : ∀ q, q ≠ 137 → q < 139 + 68 * nx ∨ 139 + 68 * nx + 68 ≤ q → ce_rd M1 q = ce_rd M q) (k4 : ce_rd M1 137 1 = nI ((nx + 1) % 4)) (k5 : ce_rd M1 137 2 = nI (if c < 4 then c + 1 else 4)) (hT : ms_IT 9999 τ) (hW : ms_WR M2 1 τ) (hf : ms_fr 1 (1 + 68) M1 M2) (hg : ∀ Mm, ∃ M5, G (ms_S Mm (ce_rd M 415)) = some (ms_S M5 τ, 0) ∧ ms_MF Mm M5 r) : ∃ M3, ms_E G (ce_wl M2 1 v) = some (M3, r) ∧ ce_rd M3 414 4 = 0 ∧ ce_rl M3 1 = v ∧ GI M3 := by
  generalize hN : ce_wl M2 1 v = N
  have n415 : ce_rd N 415 = ce_rd M 415 := by
    rw [← hN]
    exact (hf.2 415 (by omega)).trans (k3 415 (by omega) (by have := hU.2.1; omega))
  have e1 : ce_cp N 415 417 816 = ms_S (ce_cp N 415 417 816) (ce_rd M 415) := by
    have q := (ms_S_self (ce_cp N 415 417 816)).symm
    rw [show ce_rd (ce_cp N 415 417 816) 415 = ce_rd M 415 from (cp_row (by omega)).trans n415] at q
    exact q
  obtain ⟨M5, g1, g2, g3, g4, g5⟩ := hg (ce_cp N 415 417 816)
  rw [← e1] at g1
  have h5 : ce_rd (ms_S M5 τ) 414 5 = r := by rw [ms_rd' _ _ (by omega)]; exact g4
  obtain ⟨M4, e4, x1, x2, x3⟩ := ms_yes0 (r := r) hG hU hI ht k2 k3 k4 k5 hT hW hf hN g2 g3 g5
  refine ⟨M4, ?_, x1, x2, x3⟩
  unfold ms_E
  rw [ms_lays, ms_b1, g1, ms_b2, h5, e4, ms_b2]
theorem act_main {op x y z : Int32} {G : ce_M → Option (ce_M × Int32)} {cd : Int32 → Int32 → Prop} (hOK : ∀ (M : ce_M) (σ : Nat → Int32) (t n en : Nat), ms_WR M 1 σ → ms_IN σ t n en → t ≤ 9999 → ms_OK 9999 M 1 σ (f_X6_against 1 M op x y z) (f_X6_perform 1 M op x y z) G cd) (hcd : ∀ ca cm, cd ca cm → ms_c ca cm) {M : ce_M} (hG : GI M) : (∃ ca cm M3, cd ca cm ∧ f_X7_act 0 M op x y z = some (M, 0, ca.toNatClampNeg) ∧ ms_E G M = some (M3, 0) ∧ ce_rd M3 414 4 = cm ∧ GI M3) ∨ (∃ M1 r, f_X7_act 0 M op x y z = some (M1, r, 0) ∧ ∀ v, ∃ M3, ms_E G (ce_wl M1 1 v) = some (M3, r) ∧ ce_rd M3 414 4 = 0 ∧ ce_rl M3 1 = v ∧ GI M3) := by
  have hG0 := hG
  obtain ⟨⟨hW, t, n, en, ht, hI⟩, ⟨c, nx, hU⟩, len, hGT⟩ := hG
  have hU0 := hU
  obtain ⟨a1, a2, a3, a4, a5, a6⟩ := hU
  rcases hOK M _ t n en hW hI ht with ⟨ca, cm, h1, h2, h3⟩ | ⟨h2, _⟩
  · obtain ⟨hc, m, hm1, hm2, rfl⟩ := hcd ca cm h1
    obtain ⟨M3, e1, e2, e3⟩ := ms_no hG0 h3 hm1 hm2
    exact Or.inl ⟨ca, nI m, M3, h1, cs_act_no h2 hc, e1, e2, e3⟩
  · obtain ⟨M1, k1, k0, k2, k3, k4, k5⟩ := cs_keep hW hI a1 a2 a4 a5
    have hW1 : ms_WR M1 1 (ce_rd M 415) := ms_WR_al hW (fun q q1 q2 => k3 q (by omega) (by omega))
    rcases hOK M1 _ t n en hW1 hI ht with ⟨ca, cm, h1, h4, h3⟩ | ⟨h4, τ, r, M2, hT, hP, hW2, hf, hg⟩
    · rcases hOK M _ t n en hW hI ht with ⟨ca', cm', _, h2', _⟩ | ⟨_, τ, r, M2, hT, hP, hW2, hf, hg⟩
      · rw [h2] at h2'
        obtain ⟨hc, m, hm1, hm2, rfl⟩ := hcd ca cm h1
        exact absurd (h3 M) (by
          intro q
          rcases hOK M _ t n en hW hI ht with ⟨ca9, cm9, h91, h92, h93⟩ | ⟨_, τ9, r9, M9, _, _, _, _, hg9⟩
          · obtain ⟨hc9, _⟩ := hcd ca9 cm9 h91
            rw [h2] at h92
            have : ca9 = 0 := (Option.some.inj h92).symm
            subst this
            exact absurd hc9 (by decide)
          · obtain ⟨M8, g8, _⟩ := hg9 M
            rw [g8] at q
            have := congrArg Prod.snd (Option.some.inj q)
            exact absurd this (fun z => absurd (ms_nI (a := 0) (b := m) z (by omega) (by omega)) (by omega)))
      · obtain ⟨M8, g8, _⟩ := hg M
        have q := h3 M
        rw [g8] at q
        obtain ⟨hc, m, hm1, hm2, rfl⟩ := hcd ca cm h1
        have := congrArg Prod.snd (Option.some.inj q)
        exact absurd (ms_nI (a := 0) (b := m) this (by omega) (by omega)) (by omega)
    · refine Or.inr ⟨M2, r, cs_act_yes h2 k1 hP, fun v => ms_yes hG0 hU0 hI ht k2 k3 k4 k5 hT hW2 hf hg⟩
