/-! delivery to one: the row after d deliveries -/
def sp_dn (σ : Nat → Int32) (a wz se : Nat) : Nat → Nat → Int32
  | 0 => σ
  | d + 1 => sp_dl (sp_dn σ a wz se d) a (wz - (d + 1)) se (σ (24 + 54 * a + (12 + d))).toNatClampNeg
theorem sp_dl_o {σ : Nat → Int32} {a p se e j : Nat} (hs : se < 16) (hp : p < 12) (h6 : j ≠ 24 + 54 * a + 6) (h7 : j ≠ 24 + 54 * a + 7) (h8 : j ≠ 8 + se) (h5 : j ≠ 456 + 6 * e + 5) (hb : j < 24 + 54 * a + 12 ∨ 24 + 54 * a + 24 ≤ j) : sp_dl σ a p se e j = σ j := by
  unfold sp_dl
  rw [ms_u2 h5, ms_u2 h8, ms_u2 h7, ms_u2 h6]
  unfold sp_sh1
  rw [if_neg (by omega)]
theorem sp_dl_6 {σ : Nat → Int32} {a p se e : Nat} (hs : se < 16) (ha : a < 8) : sp_dl σ a p se e (24 + 54 * a + 6) = nI p := by
  unfold sp_dl
  rw [ms_u2 (by omega), ms_u2 (by omega), ms_u2 (by omega), ms_u1 rfl]
theorem sp_dl_7 {σ : Nat → Int32} {a p se e : Nat} (hs : se < 16) (ha : a < 8) : sp_dl σ a p se e (24 + 54 * a + 7) = σ (24 + 54 * a + 7) + nI 1 := by
  unfold sp_dl
  rw [ms_u2 (by omega), ms_u2 (by omega), ms_u1 rfl]
theorem sp_dl_8 {σ : Nat → Int32} {a p se e : Nat} (hs : se < 16) (ha : a < 8) : sp_dl σ a p se e (8 + se) = σ (8 + se) + nI 1 := by
  unfold sp_dl
  rw [ms_u2 (by omega), ms_u1 rfl]
theorem sp_dl_b {σ : Nat → Int32} {a p se e i : Nat} (hs : se < 16) (ha : a < 8) (hp : p < 12) (hi : i < p) : sp_dl σ a p se e (24 + 54 * a + (12 + i)) = σ (24 + 54 * a + (12 + (i + 1))) := by
  unfold sp_dl
  rw [ms_u2 (by omega), ms_u2 (by omega), ms_u2 (by omega), ms_u2 (by omega)]
  unfold sp_sh1
  rw [if_pos (by omega)]
  rfl
theorem sp_dl_e {σ : Nat → Int32} {a p se e f : Nat} (hs : se < 16) (ha : a < 8) (he : e < 60) (hf : f < 60) (hp : p < 12) : sp_dl σ a p se e (456 + 6 * f + 5) = if f = e then σ (456 + 6 * e + 5) ||| (nI 1 <<< (nI a &&& nI 31)) else σ (456 + 6 * f + 5) := by
  unfold sp_dl
  by_cases c : f = e
  · rw [if_pos c, ms_u1 (by omega)]
  · rw [if_neg c, ms_u2 (by omega), ms_u2 (by omega), ms_u2 (by omega), ms_u2 (by omega)]
    unfold sp_sh1
    rw [if_neg (by omega)]
theorem sp_dn_v {σ : Nat → Int32} {a wz se : Nat} (hs : se < 16) (ha : a < 8) (h6 : σ (24 + 54 * a + 6) = nI wz) (hw : wz ≤ 12) (hb : ∀ i, i < wz → ∃ e, e < 60 ∧ σ (24 + 54 * a + (12 + i)) = nI e) : ∀ d, d ≤ wz → sp_dn σ a wz se d (24 + 54 * a + 6) = nI (wz - d) ∧ sp_dn σ a wz se d (24 + 54 * a + 7) = σ (24 + 54 * a + 7) + nI d ∧ sp_dn σ a wz se d (8 + se) = σ (8 + se) + nI d ∧ (∀ i, i < wz - d → sp_dn σ a wz se d (24 + 54 * a + (12 + i)) = σ (24 + 54 * a + (12 + (i + d)))) ∧ (∀ j, j ≠ 24 + 54 * a + 6 → j ≠ 24 + 54 * a + 7 → j ≠ 8 + se → (∀ e, e < 60 → j ≠ 456 + 6 * e + 5) → (j < 24 + 54 * a + 12 ∨ 24 + 54 * a + 24 ≤ j) → sp_dn σ a wz se d j = σ j) := by
  intro d
  induction d with
  | zero => intro _; exact ⟨h6, (ms_add0 _).symm, (ms_add0 _).symm, fun i _ => rfl, fun j _ _ _ _ _ => rfl⟩
  | succ d ih =>
    intro hd
    obtain ⟨x6, x7, x8, xb, xo⟩ := ih (by omega)
    obtain ⟨e, e1, e2⟩ := hb d (by omega)
    have q : sp_dn σ a wz se (d + 1) = sp_dl (sp_dn σ a wz se d) a (wz - (d + 1)) se e := by
      show sp_dl (sp_dn σ a wz se d) a (wz - (d + 1)) se (σ (24 + 54 * a + (12 + d))).toNatClampNeg = _
      rw [e2, nI_clamp (show e < 2 ^ 31 by omega)]
    rw [q]
    refine ⟨sp_dl_6 hs ha, ?_, ?_, fun i hi => ?_, fun j h1 h2 h3 h4 h5 => ?_⟩
    · rw [sp_dl_7 hs ha, x7, Int32.add_assoc, nI_add]
    · rw [sp_dl_8 hs ha, x8, Int32.add_assoc, nI_add]
    · rw [sp_dl_b hs ha (by omega) hi, xb (i + 1) (by omega)]
      exact congrArg σ (by omega)
    · rw [sp_dl_o hs (by omega) h1 h2 h3 (h4 e e1) h5]
      exact xo j h1 h2 h3 h4 h5
