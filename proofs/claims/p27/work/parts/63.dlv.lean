/-! delivery to one: the model's loop -/
theorem ms_wr_id {M : ce_M} {k j : Nat} {v : Int32} (h : ce_rd M k j = v) : ce_wr M k j v = M := by
  refine Prod.ext (funext fun a => funext fun i => ?_) rfl
  show (if a = k ∧ i = j then v else M.1 a i) = M.1 a i
  by_cases c : a = k ∧ i = j
  · rw [if_pos c, c.1, c.2]; exact h.symm
  · rw [if_neg c]
theorem ms_wr_wr {M : ce_M} {k j : Nat} {v x : Int32} : ce_wr (ce_wr M k j v) k j x = ce_wr M k j x := by
  refine Prod.ext (funext fun a => funext fun i => ?_) rfl
  show (if a = k ∧ i = j then x else (if a = k ∧ i = j then v else M.1 a i)) = (if a = k ∧ i = j then x else M.1 a i)
  by_cases c : a = k ∧ i = j
  · rw [if_pos c, if_pos c]
  · rw [if_neg c, if_neg c, if_neg c]
def sp_d (wz cp q : Nat) : Nat := if wz < cp - q then wz else cp - q
theorem ms_dloop (M : ce_M) {σ : Nat → Int32} {a wz se q cp : Nat} (hs : se < 16) (ha : a < 8) (h6 : σ (24 + 54 * a + 6) = nI wz) (hw : wz ≤ 12) (hb : ∀ i, i < wz → ∃ e, e < 60 ∧ σ (24 + 54 * a + (12 + i)) = nI e) (h4 : σ (24 + 54 * a + 4) = nI se) (hq : ce_rd M 418 se = nI q) (hq2 : q ≤ 9) (hc : σ (3 + 1) = nI cp) (hc2 : cp ≤ 9) (y : Int32) (u : ce_M → Int32 → Option (ce_M × Int32)) : ce_lp2 (f_X8_ticks_L156 1 414 (nI a) u) ce_FU (ms_S M σ) y = u (ms_S (ce_wr M 418 se (nI (q + sp_d wz cp q))) (sp_dn σ a wz se (sp_d wz cp q))) (y + nI (sp_d wz cp q)) := by
  have hd1 : sp_d wz cp q ≤ wz := by unfold sp_d; by_cases c : wz < cp - q <;> simp only [c, if_true, if_false] <;> omega
  have hd2 : sp_d wz cp q ≤ cp - q := by unfold sp_d; by_cases c : wz < cp - q <;> simp only [c, if_true, if_false] <;> omega
  have hd3 : sp_d wz cp q = wz ∨ sp_d wz cp q = cp - q := by
    by_cases c : wz < cp - q
    · exact Or.inl (if_pos c)
    · exact Or.inr (if_neg c)
  have hv := sp_dn_v hs ha h6 hw hb
  have e0 : ms_S M σ = ms_S (ce_wr M 418 se (nI (q + 0))) (sp_dn σ a wz se 0) := by rw [ms_wr_id (show ce_rd M 418 se = nI (q + 0) from hq)]; rfl
  have h := ms_f2 (F := f_X8_ticks_L156 1 414 (nI a) u) (fun i => ms_S (ce_wr M 418 se (nI (q + i))) (sp_dn σ a wz se i)) (fun i => y + nI i) (r := u (ms_S (ce_wr M 418 se (nI (q + sp_d wz cp q))) (sp_dn σ a wz se (sp_d wz cp q))) (y + nI (sp_d wz cp q))) (sp_d wz cp q) (fun i hi rec => by
    obtain ⟨x6, x7, x8, xb, xo⟩ := hv i (by omega)
    obtain ⟨e, e1, e2⟩ := hb i (by omega)
    have x4 : sp_dn σ a wz se i (24 + 54 * a + 4) = nI se := by rw [xo _ (by omega) (by omega) (by omega) (fun e he => by omega) (by omega)]; exact h4
    have x3 : sp_dn σ a wz se i (3 + 1) = nI cp := by rw [xo _ (by omega) (by omega) (by omega) (fun e he => by omega) (by omega)]; exact hc
    have x12 : sp_dn σ a wz se i (24 + 54 * a + 12) = nI e := by
      have := xb 0 (by omega)
      rw [Nat.zero_add] at this
      exact this.trans e2
    have x6' : sp_dn σ a wz se i (24 + 54 * a + 6) = nI (wz - (i + 1) + 1) := by rw [x6]; exact congrArg nI (by omega)
    have r4 : ∀ (M0 : ce_M) (v : Int32), ce_rd (ms_S (ce_wr M0 418 se v) (sp_dn σ a wz se i)) (414 + 4) se = v := fun M0 v => ms_rw1 rfl rfl
    have w4 : ∀ (M0 : ce_M) (v x : Int32), ce_wr (ms_S (ce_wr M0 418 se v) (sp_dn σ a wz se i)) (414 + 4) se x = ms_S (ce_wr M0 418 se x) (sp_dn σ a wz se i) := fun M0 v x => by
      rw [ms_wr' _ _ (by omega)]
      exact congrArg (fun z => ms_S z _) ms_wr_wr
    have s1 : f_X8_setting 414 (ms_S (ce_wr M 418 se (nI (q + i))) (sp_dn σ a wz se i)) (nI 1) = some (nI cp) := by rw [ms_set _ _ (show 1 < 4 by omega), x3]
    have hd := ms_delivers (ce_wr M 418 se (nI (q + i + 1))) ha x6' (by omega) x4 hs x12 e1
    have n1 : ¬ nI (wz - i) ≤ nI 0 := nI_nle (by omega) (by omega)
    have n2 : ¬ nI cp ≤ nI (q + i) := nI_ge (by omega) (by omega)
    unfold f_X8_ticks_L156
    rw [if_neg (by decide)]
    simp only [ms_lit, ms_of _ _ ha (show 6 < 54 by omega), x6, ms_b1, if_neg n1, ms_of _ _ ha (show 4 < 54 by omega), x4, ms_gi (show se < 16 by omega) (show 16 < 2 ^ 31 by omega), nI_clamp (show se < 2 ^ 31 by omega), ms_nm, r4, s1, if_neg n2, nI_add, w4, hd]
    rw [Int32.add_assoc, nI_add]
    show rec (ms_S (ce_wr M 418 se (nI (q + i + 1))) (sp_dl (sp_dn σ a wz se i) a (wz - (i + 1)) se e)) (y + nI (i + 1)) = rec (ms_S (ce_wr M 418 se (nI (q + (i + 1)))) (sp_dl (sp_dn σ a wz se i) a (wz - (i + 1)) se (σ (24 + 54 * a + (12 + i))).toNatClampNeg)) (y + nI (i + 1))
    rw [e2, nI_clamp (show e < 2 ^ 31 by omega)]
    rfl) (fun rec => by
    obtain ⟨x6, x7, x8, xb, xo⟩ := hv (sp_d wz cp q) hd1
    have x4 : sp_dn σ a wz se (sp_d wz cp q) (24 + 54 * a + 4) = nI se := by rw [xo _ (by omega) (by omega) (by omega) (fun e he => by omega) (by omega)]; exact h4
    have x3 : sp_dn σ a wz se (sp_d wz cp q) (3 + 1) = nI cp := by rw [xo _ (by omega) (by omega) (by omega) (fun e he => by omega) (by omega)]; exact hc
    have r4 : ∀ (M0 : ce_M) (v : Int32), ce_rd (ms_S (ce_wr M0 418 se v) (sp_dn σ a wz se (sp_d wz cp q))) (414 + 4) se = v := fun M0 v => ms_rw1 rfl rfl
    have s1 : f_X8_setting 414 (ms_S (ce_wr M 418 se (nI (q + sp_d wz cp q))) (sp_dn σ a wz se (sp_d wz cp q))) (nI 1) = some (nI cp) := by rw [ms_set _ _ (show 1 < 4 by omega), x3]
    unfold f_X8_ticks_L156
    rw [if_neg (by decide)]
    simp only [ms_lit, ms_of _ _ ha (show 6 < 54 by omega), x6, ms_b1, ms_of _ _ ha (show 4 < 54 by omega), x4, ms_gi (show se < 16 by omega) (show 16 < 2 ^ 31 by omega), nI_clamp (show se < 2 ^ 31 by omega), ms_nm, r4, s1]
    by_cases c0 : wz - sp_d wz cp q = 0
    · rw [c0, if_pos (by decide)]
    · rw [if_neg (show ¬ nI (wz - sp_d wz cp q) ≤ nI 0 from nI_nle (by omega) (by omega)), if_pos (nI_le (show cp ≤ q + sp_d wz cp q by omega) (by omega))]) (fuel := ce_FU) (by rw [ms_FU]; omega)
  rw [e0]
  have ey : y = y + nI 0 := (ms_add0 y).symm
  conv => lhs; rw [ey]
  exact h
