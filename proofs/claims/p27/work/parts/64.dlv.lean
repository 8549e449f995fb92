/-! delivery to one: the class -/
theorem sp_dn_e {σ : Nat → Int32} {a wz se d e f : Nat} (hs : se < 16) (ha : a < 8) (hw : wz ≤ 12) (hd : d < wz) (he : σ (24 + 54 * a + (12 + d)) = nI e) (he2 : e < 60) (hf : f < 60) : sp_dn σ a wz se (d + 1) (456 + 6 * f + 5) = if f = e then sp_dn σ a wz se d (456 + 6 * e + 5) ||| (nI 1 <<< (nI a &&& nI 31)) else sp_dn σ a wz se d (456 + 6 * f + 5) := by
  show sp_dl (sp_dn σ a wz se d) a (wz - (d + 1)) se (σ (24 + 54 * a + (12 + d))).toNatClampNeg (456 + 6 * f + 5) = _
  rw [he, nI_clamp (show e < 2 ^ 31 by omega), sp_dl_e hs ha he2 hf (by omega)]
theorem cs_mark {M : ce_M} {w en e a : Nat} (h : ce_rd M (w + 3) 6 = nI en) (hen : en ≤ 60) (he : e < en) : f_X1_markDelivered (w + 3) M (nI e) (nI a) = some (ce_wr M (w + 3 + 6) e (ce_rd M (w + 3 + 6) e ||| (nI 1 <<< (nI a &&& nI 31)))) := by
  unfold f_X1_markDelivered
  rw [if_neg (nI_pos (by omega)), h, if_neg (nI_ge he (by omega)), ms_gi (show e < 60 by omega) (show 60 < 2 ^ 31 by omega), ms_nm, ms_gi (show e < 60 by omega) (show 60 < 2 ^ 31 by omega), nI_clamp (show e < 2 ^ 31 by omega)]
  rfl
theorem cs_dloop {M : ce_M} {w a wz se d en : Nat} {σ : Nat → Int32} (hs : se < 16) (ha : a < 8) (hw : wz ≤ 12) (hd : d ≤ wz) (hb : ∀ i, i < wz → ∃ e, e < en ∧ σ (24 + 54 * a + (12 + i)) = nI e) (hen : en ≤ 60) (h6 : ce_rd M (w + 3) 6 = nI en) (hz : ce_rd M (w + 2 + (10 + 7 * a) + 5) 1 = nI wz) (hbx : ∀ i, i < wz → ce_rd M (w + 2 + (10 + 7 * a) + 5 + 1) i = σ (24 + 54 * a + (12 + i))) (hr : ∀ f, f < 60 → ce_rd M (w + 3 + 6) f = σ (456 + 6 * f + 5)) (u : ce_M → Option (ce_M × Int32)) (P : ce_M × Int32 → Prop) (hu : ∀ M1, M1.2 = M.2 → (∀ q, q ≠ w + 3 + 6 → ce_rd M1 q = ce_rd M q) → (∀ f, f < 60 → ce_rd M1 (w + 3 + 6) f = sp_dn σ a wz se d (456 + 6 * f + 5)) → ∃ r, u M1 = some r ∧ P r) : ∃ r, ce_lp2 (f_X6_deliverTo_L60 (nI d) (w + 2 + (10 + 7 * a)) w (nI a) u) ce_FU M 0 = some r ∧ P r := by
  refine ms_p2 (F := f_X6_deliverTo_L60 (nI d) (w + 2 + (10 + 7 * a)) w (nI a) u) (fun m M1 x => ∃ i, x = nI i ∧ i + m = d ∧ M1.2 = M.2 ∧ (∀ q, q ≠ w + 3 + 6 → ce_rd M1 q = ce_rd M q) ∧ (∀ f, f < 60 → ce_rd M1 (w + 3 + 6) f = sp_dn σ a wz se i (456 + 6 * f + 5))) P (fun m rec M1 x hrec hJ => ?_) d ce_FU M 0 (by rw [ms_FU]; omega) ⟨0, rfl, by omega, rfl, fun _ _ => rfl, hr⟩
  obtain ⟨i, rfl, him, j1, j2, j3⟩ := hJ
  unfold f_X6_deliverTo_L60
  by_cases c0 : m = 0
  · have e : i = d := by omega
    subst e
    rw [if_pos (nI_le (show i ≤ i by omega) (show i < 2 ^ 31 by omega))]
    exact hu M1 j1 j2 j3
  · obtain ⟨e, e1, e2⟩ := hb i (by omega)
    rw [if_neg (nI_ge (show i < d by omega) (show d < 2 ^ 31 by omega))]
    unfold f_X2_eventAt
    rw [j2 (w + 2 + (10 + 7 * a) + 5) (by omega), hz, if_neg (nI_ge (show i < wz by omega) (show wz < 2 ^ 31 by omega)), ms_gi (show i < 12 by omega) (show 12 < 2 ^ 31 by omega), nI_clamp (show i < 2 ^ 31 by omega), j2 (w + 2 + (10 + 7 * a) + 5 + 1) (by omega), hbx i (by omega), e2, ms_nm, ms_b1, cs_mark (by rw [j2 (w + 3) (by omega)]; exact h6) hen e1, ms_b1, ms_nm]
    refine hrec (m - 1) (by omega) _ _ ⟨i + 1, nI_1 i, by omega, j1, fun q hq => by rw [ms_row hq]; exact j2 q hq, fun f hf => ?_⟩
    rw [sp_dn_e hs ha hw (by omega) e2 (by omega) hf]
    by_cases c : f = e
    · subst c
      rw [ms_rw1 rfl rfl, if_pos rfl, j3 f hf]
    · rw [ms_rw3 c, if_neg c, j3 f hf]
