/-! what holds between two calls -/
theorem ms_WR_cg {M : ce_M} {w : Nat} {σ τ : Nat → Int32} (h : ∀ j, j < 816 → τ j = σ j) (hR : ms_WR M w σ) : ms_WR M w τ := by
  obtain ⟨R0, R1, R2, R3, R4, R5, R6, R7, R8⟩ := hR
  refine ⟨by rw [h _ (by omega)]; exact R0, by rw [h _ (by omega)]; exact R1, by rw [h _ (by omega)]; exact R2, fun i hi => by rw [h _ (by omega)]; exact R3 i hi, fun l hl => by rw [h _ (by omega)]; exact R4 l hl, fun a ha => ms_SR_cg (R5 a ha) (fun j hj => h _ (by omega)) (sp_rt_eq 60 (fun e he => h _ (by omega))), fun e he => ?_, by rw [h _ (by omega)]; exact R7, fun m q1 q2 a q3 q4 => ?_⟩
  · rw [h _ (by omega), h _ (by omega), h _ (by omega), h _ (by omega), h _ (by omega), h _ (by omega)]; exact R6 e he
  · rw [h _ (by omega)] at q1; exact R8 m q1 q2 a q3 q4
theorem ms_IN_cg {σ τ : Nat → Int32} {t n en : Nat} (h : ∀ j, j < 816 → τ j = σ j) (hI : ms_IN σ t n en) : ms_IN τ t n en := by
  obtain ⟨I0, I1, I1', I2, I2', I3, I4, I5, I6, I7, I8, I9, I10⟩ := hI
  refine ⟨by rw [h _ (by omega)]; exact I0, by rw [h _ (by omega)]; exact I1, I1', by rw [h _ (by omega)]; exact I2, I2', by rw [h _ (by omega)]; exact I3, by rw [h _ (by omega)]; exact I4, by rw [h _ (by omega)]; exact I5, by rw [h _ (by omega)]; exact I6, fun a ha => ms_SI_cg (I7 a ha) (fun j hj => h _ (by omega)), fun a ha => by rw [h _ (by omega)]; exact I8 a ha, fun a h1 h2 k hk => by rw [h _ (by omega)]; exact I9 a h1 h2 k hk, fun e h1 h2 k hk => by rw [h _ (by omega)]; exact I10 e h1 h2 k hk⟩
theorem ms_IT_cg {T : Nat} {σ τ : Nat → Int32} (h : ∀ j, j < 816 → τ j = σ j) (hI : ms_IT T σ) : ms_IT T τ := by
  obtain ⟨t, n, en, h1, h2⟩ := hI
  exact ⟨t, n, en, h1, ms_IN_cg h h2⟩
theorem ms_WR_al {M M' : ce_M} {w : Nat} {σ : Nat → Int32} (hR : ms_WR M w σ) (h : ∀ q, w ≤ q → q < w + 68 → ce_rd M' q = ce_rd M q) : ms_WR M' w σ := ms_WR_k hR (fun q h1 h2 _ => h q h1 h2)
def sp_seg (M : ce_M) (i : Nat) : Nat → Int32 := fun x => ce_rd M 416 (816 * i + x)
def GI_W (M : ce_M) : Prop := ms_WR M 1 (ce_rd M 415) ∧ ms_IT 9999 (ce_rd M 415)
def GI_U (M : ce_M) (c nx : Nat) : Prop := c ≤ 4 ∧ nx < 4 ∧ ce_rd M 414 3 = nI c ∧ ce_rd M 137 2 = nI c ∧ ce_rd M 137 1 = nI nx ∧ ∀ j, j < c → ms_IT 9999 (sp_seg M (c - 1 - j)) ∧ ms_WR M (139 + 68 * ((nx + 3 - j) % 4)) (sp_seg M (c - 1 - j))
def GI_T (M : ce_M) (len : Nat) : Prop := len ≤ 150 ∧ ce_rd M 411 1 = nI len ∧ ce_rd M 414 8 = nI len ∧ ∀ i, i < len → ∃ v, v < 128 ∧ ce_rd M 412 i = nI v ∧ ce_rd M 419 i = nI v
def GI (M : ce_M) : Prop := GI_W M ∧ (∃ c nx, GI_U M c nx) ∧ ∃ len, GI_T M len
theorem GI_W_fr {M M' : ce_M} (h : GI_W M) (h1 : ∀ q, 1 ≤ q → q < 69 → ce_rd M' q = ce_rd M q) (h2 : ce_rd M' 415 = ce_rd M 415) : GI_W M' := by
  obtain ⟨a, b⟩ := h
  unfold GI_W
  rw [h2]
  exact ⟨ms_WR_al a (fun q q1 q2 => h1 q q1 (by omega)), b⟩
theorem GI_U_fr {M M' : ce_M} {c nx : Nat} (h : GI_U M c nx) (h1 : ∀ q, 137 ≤ q → q < 411 → ce_rd M' q = ce_rd M q) (h2 : ce_rd M' 416 = ce_rd M 416) (h3 : ce_rd M' 414 3 = ce_rd M 414 3) : GI_U M' c nx := by
  obtain ⟨a1, a2, a3, a4, a5, a6⟩ := h
  have hs : ∀ i, sp_seg M' i = sp_seg M i := fun i => by unfold sp_seg; rw [h2]
  refine ⟨a1, a2, h3.trans a3, (congrFun (h1 137 (by omega) (by omega)) 2).trans a4, (congrFun (h1 137 (by omega) (by omega)) 1).trans a5, fun j hj => ?_⟩
  rw [hs]
  obtain ⟨b1, b2⟩ := a6 j hj
  have hm : (nx + 3 - j) % 4 < 4 := Nat.mod_lt _ (by omega)
  exact ⟨b1, ms_WR_al b2 (fun q q1 q2 => h1 q (by omega) (by omega))⟩
theorem GI_T_fr {M M' : ce_M} {len : Nat} (h : GI_T M len) (h1 : ce_rd M' 411 1 = ce_rd M 411 1) (h2 : ce_rd M' 412 = ce_rd M 412) (h3 : ce_rd M' 419 = ce_rd M 419) (h4 : ce_rd M' 414 8 = ce_rd M 414 8) : GI_T M' len := by
  obtain ⟨a1, a2, a3, a4⟩ := h
  refine ⟨a1, h1.trans a2, h4.trans a3, ?_⟩
  rw [h2, h3]
  exact a4
theorem GI_fr {M M' : ce_M} (h : GI M) (h1 : ∀ q, q < 411 → q < 69 ∨ 137 ≤ q → ce_rd M' q = ce_rd M q) (h2 : ce_rd M' 411 1 = ce_rd M 411 1) (h3 : ce_rd M' 412 = ce_rd M 412) (h4 : ce_rd M' 415 = ce_rd M 415) (h5 : ce_rd M' 416 = ce_rd M 416) (h6 : ce_rd M' 419 = ce_rd M 419) (h7 : ce_rd M' 414 3 = ce_rd M 414 3) (h8 : ce_rd M' 414 8 = ce_rd M 414 8) : GI M' := by
  obtain ⟨a, ⟨c, nx, b⟩, len, d⟩ := h
  exact ⟨GI_W_fr a (fun q q1 q2 => h1 q (by omega) (by omega)) h4, ⟨c, nx, GI_U_fr b (fun q q1 q2 => h1 q (by omega) (by omega)) h5 h7⟩, len, GI_T_fr d h2 h3 h6 h8⟩
theorem GI_wl {M : ce_M} (h : GI M) (i : Nat) (v : Int64) : GI (ce_wl M i v) := GI_fr h (fun _ _ _ => rfl) rfl rfl rfl rfl rfl rfl rfl
/-- a place of the model that GI does not look at -/
theorem GI_m {M : ce_M} (h : GI M) {j : Nat} (v : Int32) (h3 : j ≠ 3) (h8 : j ≠ 8) : GI (ce_wr M 414 j v) := GI_fr h (fun q q1 q2 => ms_row (by omega)) (congrFun (ms_row (by omega)) 1) (ms_row (by omega)) (ms_row (by omega)) (ms_row (by omega)) (ms_row (by omega)) (ms_rw3 (by omega)) (ms_rw3 (by omega))
theorem cs_nx : ∀ nx, nx < 4 → ((nI nx + 1) - (nI nx + 1) / 4 * 4) = nI ((nx + 1) % 4) := by decide
theorem cs_pv : ∀ nx, nx < 4 → (((nI nx + 4) - 1) - ((nI nx + 4) - 1) / 4 * 4) = nI ((nx + 3) % 4) := by decide
theorem cs_c4 : ∀ c, c ≤ 4 → ce_min (nI c + 1) 4 = nI (if c < 4 then c + 1 else 4) := by decide
theorem cs_keep {M : ce_M} {c nx t n en : Nat} {σ : Nat → Int32} (hR : ms_WR M 1 σ) (hI : ms_IN σ t n en) (hc : c ≤ 4) (hx : nx < 4) (h2 : ce_rd M 137 2 = nI c) (h1 : ce_rd M 137 1 = nI nx) : ∃ M', f_X5_keep 137 M 1 = some M' ∧ M'.2 = M.2 ∧ ms_WR M' (139 + 68 * nx) σ ∧ (∀ q, q ≠ 137 → q < 139 + 68 * nx ∨ 139 + 68 * nx + 68 ≤ q → ce_rd M' q = ce_rd M q) ∧ ce_rd M' 137 1 = nI ((nx + 1) % 4) ∧ ce_rd M' 137 2 = nI (if c < 4 then c + 1 else 4) := by
  obtain ⟨M4, e4, w4, f4⟩ := cs_copy (k := 137 + 1 + (1 + 68 * nx)) hR hI (by omega)
  have r1 : ce_rd M4 137 1 = nI nx := (congrFun (f4.2 137 (by omega)) 1).trans h1
  have r2 : ce_rd M4 137 2 = nI c := (congrFun (f4.2 137 (by omega)) 2).trans h2
  unfold f_X5_keep
  rw [h1, ms_gi (show nx < 4 by omega) (show 4 < 2 ^ 31 by omega), nI_clamp (show nx < 2 ^ 31 by omega), ms_nm, e4, ms_b1, r1, cs_nx nx hx, ms_nm, ms_rw3 (by omega), r2, cs_c4 c hc, ms_nm]
  have q : 137 + 1 + (1 + 68 * nx) = 139 + 68 * nx := by omega
  rw [q] at w4 f4
  refine ⟨_, rfl, f4.1, ms_WR_al w4 (fun q q1 q2 => ?_), fun q q1 q2 => ?_, ?_, ?_⟩
  · rw [ms_row (by omega), ms_row (by omega)]
  · rw [ms_row (by omega), ms_row (by omega)]; exact f4.2 q q2
  · rw [ms_rw3 (by omega), ms_ww]
  · rw [ms_ww]
