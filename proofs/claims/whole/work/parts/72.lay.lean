/-! the model's way of keeping -/
theorem ms_ext {M N : ce_M} (h1 : ∀ a i, M.1 a i = N.1 a i) (h2 : M.2 = N.2) : M = N := Prod.ext (funext fun a => funext fun i => h1 a i) h2
theorem ms_lays (M : ce_M) : f_X8_laysAside 414 M = some (ce_cp M 415 417 816) := by
  have e0 : M = ce_cp M 415 417 0 := ms_ext (fun a i => (if_neg (fun q => absurd q.2 (by omega))).symm) rfl
  have h := ms_f2 (F := f_X8_laysAside_L2 414) (fun i => ce_cp M 415 417 i) (fun i => nI i) (r := some (ce_cp M 415 417 816)) 816 (fun i hi rec => by
    unfold f_X8_laysAside_L2
    rw [if_neg (show ¬ (816 : Int32) ≤ nI i from nI_ge (b := 816) hi (by omega)), ms_gi (show i < 816 by omega) (show 816 < 2 ^ 31 by omega), ms_nm, ms_gi (show i < 816 by omega) (show 816 < 2 ^ 31 by omega), ms_nm, ms_nm, nI_clamp (show i < 2 ^ 31 by omega), nI_1]
    have e : ce_wr (ce_cp M 415 417 i) (414 + 3) i (ce_rd (ce_cp M 415 417 i) (414 + 1) i) = ce_cp M 415 417 (i + 1) := by
      refine ms_ext (fun a j => ?_) rfl
      show (if a = 417 ∧ j = i then M.1 415 i else if a = 417 ∧ j < i then M.1 415 j else M.1 a j) = if a = 417 ∧ j < i + 1 then M.1 415 j else M.1 a j
      by_cases c1 : a = 417
      · by_cases c2 : j = i
        · rw [if_pos ⟨c1, c2⟩, if_pos ⟨c1, by omega⟩, c2]
        · by_cases c3 : j < i
          · rw [if_neg (fun q => c2 q.2), if_pos ⟨c1, c3⟩, if_pos ⟨c1, by omega⟩]
          · rw [if_neg (fun q => c2 q.2), if_neg (fun q => c3 q.2), if_neg (fun q => absurd q.2 (by omega))]
      · rw [if_neg (fun q => c1 q.1), if_neg (fun q => c1 q.1), if_neg (fun q => c1 q.1)]
    rw [e]) (fun rec => by
    unfold f_X8_laysAside_L2
    rw [if_pos (show (816 : Int32) ≤ nI 816 from by decide)]) (fuel := ce_FU) (by rw [ms_FU]; omega)
  unfold f_X8_laysAside
  conv => lhs; rw [e0]
  exact h
theorem ms_bring (M : ce_M) : f_X8_bringsBack 414 M = some (ce_cp M 417 415 816) := by
  have e0 : M = ce_cp M 417 415 0 := ms_ext (fun a i => (if_neg (fun q => absurd q.2 (by omega))).symm) rfl
  have h := ms_f2 (F := f_X8_bringsBack_L2 414) (fun i => ce_cp M 417 415 i) (fun i => nI i) (r := some (ce_cp M 417 415 816)) 816 (fun i hi rec => by
    unfold f_X8_bringsBack_L2
    rw [if_neg (show ¬ (816 : Int32) ≤ nI i from nI_ge (b := 816) hi (by omega)), ms_gi (show i < 816 by omega) (show 816 < 2 ^ 31 by omega), ms_nm, ms_gi (show i < 816 by omega) (show 816 < 2 ^ 31 by omega), ms_nm, ms_nm, nI_clamp (show i < 2 ^ 31 by omega), nI_1]
    have e : ce_wr (ce_cp M 417 415 i) (414 + 1) i (ce_rd (ce_cp M 417 415 i) (414 + 3) i) = ce_cp M 417 415 (i + 1) := by
      refine ms_ext (fun a j => ?_) rfl
      show (if a = 415 ∧ j = i then M.1 417 i else if a = 415 ∧ j < i then M.1 417 j else M.1 a j) = if a = 415 ∧ j < i + 1 then M.1 417 j else M.1 a j
      by_cases c1 : a = 415
      · by_cases c2 : j = i
        · rw [if_pos ⟨c1, c2⟩, if_pos ⟨c1, by omega⟩, c2]
        · by_cases c3 : j < i
          · rw [if_neg (fun q => c2 q.2), if_pos ⟨c1, c3⟩, if_pos ⟨c1, by omega⟩]
          · rw [if_neg (fun q => c2 q.2), if_neg (fun q => c3 q.2), if_neg (fun q => absurd q.2 (by omega))]
      · rw [if_neg (fun q => c1 q.1), if_neg (fun q => c1 q.1), if_neg (fun q => c1 q.1)]
    rw [e]) (fun rec => by
    unfold f_X8_bringsBack_L2
    rw [if_pos (show (816 : Int32) ≤ nI 816 from by decide)]) (fuel := ce_FU) (by rw [ms_FU]; omega)
  unfold f_X8_bringsBack
  conv => lhs; rw [e0]
  exact h
def sp_k1 (M : ce_M) (c i : Nat) : ce_M := (fun a j => if a = 416 ∧ 816 * c ≤ j ∧ j < 816 * c + i then M.1 417 (j - 816 * c) else M.1 a j, M.2)
def sp_k2 (M : ce_M) (i : Nat) : ce_M := (fun a j => if a = 416 ∧ j < i then M.1 416 (j + 816) else M.1 a j, M.2)
theorem ms_k1_row {M : ce_M} {c i q : Nat} (h : q ≠ 416) : ce_rd (sp_k1 M c i) q = ce_rd M q := funext fun _ => if_neg (fun z => h z.1)
theorem ms_k2_row {M : ce_M} {i q : Nat} (h : q ≠ 416) : ce_rd (sp_k2 M i) q = ce_rd M q := funext fun _ => if_neg (fun z => h z.1)
theorem ms_k1 (M : ce_M) {c : Nat} (hc : ce_rd M 414 3 = nI c) (hc2 : c ≤ 3) (u : ce_M → Option ce_M) : ce_lp2 (f_X8_keeps_L51 414 u) ce_FU M 0 = u (sp_k1 M c 816) := by
  have e0 : M = sp_k1 M c 0 := ms_ext (fun a i => (if_neg (fun q => absurd q.2 (by omega))).symm) rfl
  have h := ms_f2 (F := f_X8_keeps_L51 414 u) (fun i => sp_k1 M c i) (fun i => nI i) (r := u (sp_k1 M c 816)) 816 (fun i hi rec => by
    unfold f_X8_keeps_L51
    have h3 : ce_rd (sp_k1 M c i) 414 3 = nI c := hc
    have em : 816 * nI c + nI i = nI (816 * c + i) := by
      show nI 816 * nI c + nI i = _
      rw [pk_mul, nI_add]
    rw [if_neg (show ¬ (816 : Int32) ≤ nI i from nI_ge (b := 816) hi (by omega)), ms_gi (show i < 816 by omega) (show 816 < 2 ^ 31 by omega), ms_nm, h3, em, ms_gi (show 816 * c + i < 3264 by omega) (by omega), ms_nm, ms_nm, nI_clamp (show i < 2 ^ 31 by omega), nI_clamp (show 816 * c + i < 2 ^ 31 by omega), nI_1]
    have e : ce_wr (sp_k1 M c i) (414 + 2) (816 * c + i) (ce_rd (sp_k1 M c i) (414 + 3) i) = sp_k1 M c (i + 1) := by
      refine ms_ext (fun a j => ?_) rfl
      show (if a = 416 ∧ j = 816 * c + i then M.1 417 i else if a = 416 ∧ 816 * c ≤ j ∧ j < 816 * c + i then M.1 417 (j - 816 * c) else M.1 a j) = if a = 416 ∧ 816 * c ≤ j ∧ j < 816 * c + (i + 1) then M.1 417 (j - 816 * c) else M.1 a j
      by_cases c1 : a = 416
      · by_cases c2 : j = 816 * c + i
        · rw [if_pos ⟨c1, c2⟩, if_pos ⟨c1, by omega, by omega⟩, c2, Nat.add_sub_cancel_left]
        · by_cases c3 : 816 * c ≤ j ∧ j < 816 * c + i
          · rw [if_neg (fun q => c2 q.2), if_pos ⟨c1, c3⟩, if_pos ⟨c1, by omega, by omega⟩]
          · rw [if_neg (fun q => c2 q.2), if_neg (fun q => c3 q.2), if_neg (fun q => c3 ⟨q.2.1, by omega⟩)]
      · rw [if_neg (fun q => c1 q.1), if_neg (fun q => c1 q.1), if_neg (fun q => c1 q.1)]
    rw [e]) (fun rec => by
    unfold f_X8_keeps_L51
    rw [if_pos (show (816 : Int32) ≤ nI 816 from by decide)]) (fuel := ce_FU) (by rw [ms_FU]; omega)
  conv => lhs; rw [e0]
  exact h
theorem ms_k2 (M : ce_M) (u : ce_M → Option ce_M) : ce_lp2 (f_X8_keeps_L10 414 u) ce_FU M 0 = u (sp_k2 M 2448) := by
  have e0 : M = sp_k2 M 0 := ms_ext (fun a i => (if_neg (fun q => absurd q.2 (by omega))).symm) rfl
  have h := ms_f2 (F := f_X8_keeps_L10 414 u) (fun i => sp_k2 M i) (fun i => nI i) (r := u (sp_k2 M 2448)) 2448 (fun i hi rec => by
    unfold f_X8_keeps_L10
    rw [if_neg (show ¬ (2448 : Int32) ≤ nI i from nI_ge (b := 2448) hi (by omega)), show nI i + 816 = nI (i + 816) from nI_add i 816, ms_gi (show i + 816 < 3264 by omega) (by omega), ms_nm, ms_gi (show i < 3264 by omega) (show 3264 < 2 ^ 31 by omega), ms_nm, ms_nm, nI_clamp (show i < 2 ^ 31 by omega), nI_clamp (show i + 816 < 2 ^ 31 by omega), nI_1]
    have e : ce_wr (sp_k2 M i) (414 + 2) i (ce_rd (sp_k2 M i) (414 + 2) (i + 816)) = sp_k2 M (i + 1) := by
      refine ms_ext (fun a j => ?_) rfl
      show (if a = 416 ∧ j = i then (if 416 = 416 ∧ i + 816 < i then M.1 416 (i + 816 + 816) else M.1 416 (i + 816)) else if a = 416 ∧ j < i then M.1 416 (j + 816) else M.1 a j) = if a = 416 ∧ j < i + 1 then M.1 416 (j + 816) else M.1 a j
      by_cases c1 : a = 416
      · by_cases c2 : j = i
        · rw [if_pos ⟨c1, c2⟩, if_neg (show ¬ (416 = 416 ∧ i + 816 < i) by omega), if_pos ⟨c1, by omega⟩, c2]
        · by_cases c3 : j < i
          · rw [if_neg (fun q => c2 q.2), if_pos ⟨c1, c3⟩, if_pos ⟨c1, by omega⟩]
          · rw [if_neg (fun q => c2 q.2), if_neg (fun q => c3 q.2), if_neg (fun q => absurd q.2 (by omega))]
      · rw [if_neg (fun q => c1 q.1), if_neg (fun q => c1 q.1), if_neg (fun q => c1 q.1)]
    rw [e]) (fun rec => by
    unfold f_X8_keeps_L10
    rw [if_pos (show (2448 : Int32) ≤ nI 2448 from by decide)]) (fuel := ce_FU) (by rw [ms_FU]; omega)
  conv => lhs; rw [e0]
  exact h
theorem ms_keeps {M : ce_M} {c : Nat} (hc : ce_rd M 414 3 = nI c) (hc2 : c ≤ 4) : ∃ M', f_X8_keeps 414 M = some M' ∧ M'.2 = M.2 ∧ (∀ q, q ≠ 414 → q ≠ 416 → ce_rd M' q = ce_rd M q) ∧ (∀ j, j ≠ 3 → ce_rd M' 414 j = ce_rd M 414 j) ∧ ce_rd M' 414 3 = nI (if c < 4 then c + 1 else 4) ∧ (∀ i x, i < 4 → x < 816 → ce_rd M' 416 (816 * i + x) = if i = (if c < 4 then c else 3) then ce_rd M 417 x else if c < 4 then ce_rd M 416 (816 * i + x) else ce_rd M 416 (816 * (i + 1) + x)) := by
  unfold f_X8_keeps
  rw [ms_nm]
  by_cases c4 : c = 4
  · subst c4
    have h3 : ce_rd (sp_k2 M 2448) 414 3 = nI 4 := hc
    rw [if_pos (show ce_rd M 414 3 = 4 from hc), ms_nm, ms_k2, ms_nm, h3, show nI 4 - 1 = nI 3 from rfl]
    show ∃ M', ce_nm _ _ = some M' ∧ _
    rw [ms_nm, ms_k1 _ (c := 3) (ms_rw1 rfl rfl) (by omega), ms_nm]
    refine ⟨_, rfl, rfl, fun q h1 h2 => ?_, fun j hj => ?_, ?_, fun i x hi hx => ?_⟩
    · rw [ms_row h1, ms_k1_row h2, ms_row h1, ms_k2_row h2]
    · rw [ms_rw3 hj, ms_k1_row (by omega), ms_rw3 hj, ms_k2_row (by omega)]
    · rw [ms_ww]
      rfl
    · rw [ms_row (by omega)]
      show (if 416 = 416 ∧ 816 * 3 ≤ 816 * i + x ∧ 816 * i + x < 816 * 3 + 816 then M.1 417 (816 * i + x - 816 * 3) else if 416 = 414 ∧ 816 * i + x = 3 then nI 3 else if 416 = 416 ∧ 816 * i + x < 2448 then M.1 416 (816 * i + x + 816) else M.1 416 (816 * i + x)) = if i = 3 then M.1 417 x else M.1 416 (816 * (i + 1) + x)
      by_cases d : i = 3
      · rw [if_pos ⟨rfl, by omega, by omega⟩, if_pos d]
        exact congrArg (M.1 417) (by omega)
      · rw [if_neg (fun z => d (by omega)), if_neg (fun z => absurd z.1 (by omega)), if_pos ⟨rfl, by omega⟩, if_neg d]
        exact congrArg (M.1 416) (by omega)
  · have hlt : c < 4 := by omega
    rw [if_neg (show ¬ ce_rd M 414 3 = 4 from fun q => c4 (ms_nI (hc.symm.trans q) (by omega) (by omega)))]
    show ∃ M', ce_nm _ _ = some M' ∧ _
    rw [ms_nm, ms_k1 _ hc (by omega), ms_nm]
    have h3 : ce_rd (sp_k1 M c 816) 414 3 = nI c := hc
    rw [h3, nI_1]
    refine ⟨_, rfl, rfl, fun q h1 h2 => ?_, fun j hj => ?_, ?_, fun i x hi hx => ?_⟩
    · rw [ms_row h1, ms_k1_row h2]
    · rw [ms_rw3 hj, ms_k1_row (by omega)]
    · rw [ms_ww, if_pos hlt]
    · rw [ms_row (by omega), if_pos hlt, if_pos hlt]
      show (if 416 = 416 ∧ 816 * c ≤ 816 * i + x ∧ 816 * i + x < 816 * c + 816 then M.1 417 (816 * i + x - 816 * c) else M.1 416 (816 * i + x)) = if i = c then M.1 417 x else M.1 416 (816 * i + x)
      by_cases d : i = c
      · rw [if_pos ⟨rfl, by omega, by omega⟩, if_pos d]
        exact congrArg (M.1 417) (by omega)
      · rw [if_neg (fun z => d (by omega)), if_neg d]
