/-! the numbers of commands -/
theorem ms_wr_cm {M : ce_M} {k j k2 j2 : Nat} {v x : Int32} (h : k ≠ k2) : ce_wr (ce_wr M k j v) k2 j2 x = ce_wr (ce_wr M k2 j2 x) k j v := by
  refine ms_ext (fun a i => ?_) rfl
  show (if a = k2 ∧ i = j2 then x else if a = k ∧ i = j then v else M.1 a i) = if a = k ∧ i = j then v else if a = k2 ∧ i = j2 then x else M.1 a i
  by_cases c : a = k2 ∧ i = j2
  · rw [if_pos c, if_pos c, if_neg (fun z => h (z.1.symm.trans c.1))]
  · rw [if_neg c, if_neg c]
def sp_vv (tx : Nat → Nat) (s : Nat) : Nat → Nat
  | 0 => 0
  | i + 1 => 10 * sp_vv tx s i + tx (s + i) - 48
def sp_dc (tx : Nat → Nat) (len s : Nat) : Nat := sp_run (sp_in tx 48 57) (min len (s + 3)) s - s
theorem sp_dc_v {tx : Nat → Nat} {len s : Nat} (hs : s ≤ len) : sp_dc tx len s ≤ 3 ∧ s + sp_dc tx len s ≤ len ∧ (∀ i, i < sp_dc tx len s → s + i < len ∧ 48 ≤ tx (s + i) ∧ tx (s + i) ≤ 57) ∧ (sp_dc tx len s < 3 → ¬ (s + sp_dc tx len s < len ∧ sp_in tx 48 57 (s + sp_dc tx len s) = true)) := by
  obtain ⟨a1, a2, a3, a4⟩ := sp_run_v (sp_in tx 48 57) (min len (s + 3)) s
  have b2 := a2 (by omega)
  unfold sp_dc
  generalize sp_run (sp_in tx 48 57) (min len (s + 3)) s = r at a1 a2 a3 a4 b2 ⊢
  refine ⟨by omega, by omega, fun i hi => ?_, fun hc => ?_⟩
  · obtain ⟨c1, c2⟩ := a3 (s + i) (by omega) (by omega)
    have := sp_in_t.mp c2
    omega
  · rw [show s + (r - s) = r by omega]
    exact fun z => a4 ⟨by omega, z.2⟩
def sp_num (tx : Nat → Nat) (len p : Nat) : Nat × Nat × Nat := if p < len ∧ sp_in tx 32 32 p = true then (if sp_dc tx len (sp_run (sp_in tx 32 32) len p) = 0 then (0, sp_run (sp_in tx 32 32) len p, 0) else if sp_run (sp_in tx 32 32) len p + sp_dc tx len (sp_run (sp_in tx 32 32) len p) < len ∧ sp_in tx 48 57 (sp_run (sp_in tx 32 32) len p + sp_dc tx len (sp_run (sp_in tx 32 32) len p)) = true then (0, sp_run (sp_in tx 32 32) len p + sp_dc tx len (sp_run (sp_in tx 32 32) len p), 0) else (1, sp_run (sp_in tx 32 32) len p + sp_dc tx len (sp_run (sp_in tx 32 32) len p), sp_vv tx (sp_run (sp_in tx 32 32) len p) (sp_dc tx len (sp_run (sp_in tx 32 32) len p)))) else (0, p, 0)
theorem sp_num_v {tx : Nat → Nat} {len p : Nat} (hp : p ≤ len) : ((sp_num tx len p).1 = 0 ∨ (sp_num tx len p).1 = 1) ∧ p ≤ (sp_num tx len p).2.1 ∧ (sp_num tx len p).2.1 ≤ len := by
  obtain ⟨a1, a2, a3, a4⟩ := sp_run_v (sp_in tx 32 32) len p
  have b := sp_dc_v (tx := tx) (a2 hp)
  unfold sp_num
  by_cases c : p < len ∧ sp_in tx 32 32 p = true
  · rw [if_pos c]
    by_cases d : sp_dc tx len (sp_run (sp_in tx 32 32) len p) = 0
    · rw [if_pos d]; exact ⟨Or.inl rfl, a1, a2 hp⟩
    · rw [if_neg d]
      by_cases e : sp_run (sp_in tx 32 32) len p + sp_dc tx len (sp_run (sp_in tx 32 32) len p) < len ∧ sp_in tx 48 57 (sp_run (sp_in tx 32 32) len p + sp_dc tx len (sp_run (sp_in tx 32 32) len p)) = true
      · rw [if_pos e]; exact ⟨Or.inl rfl, by show p ≤ _ + _; omega, b.2.1⟩
      · rw [if_neg e]; exact ⟨Or.inr rfl, by show p ≤ _ + _; omega, b.2.1⟩
  · rw [if_neg c]; exact ⟨Or.inl rfl, Nat.le_refl p, hp⟩
section
variable {M : ce_M} {tx : Nat → Nat} {len p : Nat}
theorem cs_digits (h : TC M tx len p) (hl : len ≤ 150) (ht : ∀ i, i < len → tx i < 128) (hp : p ≤ len) (u : ce_M → Int32 → Int32 → Option (ce_M × Int32)) : ce_lp3 (f_X0_readNumber_L26 411 u) ce_FU M 0 0 = u (ce_wr M 411 2 (nI (p + sp_dc tx len p))) (nI (sp_dc tx len p)) (nI (sp_vv tx p (sp_dc tx len p))) := by
  obtain ⟨a1, a2, a3, a4⟩ := sp_dc_v (tx := tx) hp
  generalize sp_dc tx len p = c at a1 a2 a3 a4 ⊢
  have e0 : M = ce_wr M 411 2 (nI (p + 0)) := (ms_wr_id h.2.1).symm
  have hk := ms_f3 (F := f_X0_readNumber_L26 411 u) (fun i => ce_wr M 411 2 (nI (p + i))) (fun i => nI i) (fun i => nI (sp_vv tx p i)) (r := u (ce_wr M 411 2 (nI (p + c))) (nI c) (nI (sp_vv tx p c))) c (fun i hi rec => by
    obtain ⟨b1, b2, b3⟩ := a3 i hi
    have hT := TC_w (p2 := p + i) h
    unfold f_X0_readNumber_L26
    rw [if_neg (show ¬ (3 : Int32) ≤ nI i from nI_ge (b := 3) (by omega) (by omega)), show f_X0_isWithin 411 (ce_wr M 411 2 (nI (p + i))) 48 57 = _ from cs_within (a := 48) (b := 57) hT hl ht (by omega) (by omega) (by omega), if_pos ⟨b1, sp_in_t.mpr ⟨b2, b3⟩⟩, ms_b1, if_neg (by decide), ms_ww, ms_gi (show (p+i) < 150 by omega) (show 150 < 2 ^ 31 by omega), nI_clamp (show (p+i) < 2 ^ 31 by omega), hT.2.2 _ b1, ms_nm, nI_1, nI_1, ms_nm, ms_nm, ms_nm, ms_wr_wr, show 10 * nI (sp_vv tx p i) = nI (10 * sp_vv tx p i) from pk_mul 10 _, nI_add, show nI (10 * sp_vv tx p i + tx (p + i)) - 48 = nI (10 * sp_vv tx p i + tx (p + i) - 48) from ms_sub (b := 48) (by omega)]
    rfl) (fun rec => by
    have hT := TC_w (p2 := p + c) h
    unfold f_X0_readNumber_L26
    by_cases d : c = 3
    · rw [d, if_pos (show (3 : Int32) ≤ nI 3 from by decide)]
    · rw [if_neg (show ¬ (3 : Int32) ≤ nI c from nI_ge (b := 3) (by omega) (by omega)), show f_X0_isWithin 411 (ce_wr M 411 2 (nI (p + c))) 48 57 = _ from cs_within (a := 48) (b := 57) hT hl ht (by omega) (by omega) (by omega), if_neg (a4 (by omega)), ms_b1, if_pos (by decide)]) (fuel := ce_FU) (by rw [ms_FU]; omega)
  conv => lhs; rw [e0]
  exact hk
theorem cs_number (h : TC M tx len p) (hl : len ≤ 150) (ht : ∀ i, i < len → tx i < 128) (hp : p ≤ len) {i : Nat} (hi : i < 3) : ∃ M' b, f_X0_readNumber 411 M (nI i) = some (M', b) ∧ FC M M' ∧ ce_rd M' 411 3 = ce_rd M 411 3 ∧ ((sp_num tx len p).1 = 1 → b = 1 ∧ ce_rd M' 411 2 = nI (sp_num tx len p).2.1 ∧ ce_rd M' 411 5 = ce_rd M 411 5 ∧ ce_rd M' 413 i = nI (sp_num tx len p).2.2 ∧ (∀ j, j ≠ i → ce_rd M' 413 j = ce_rd M 413 j)) ∧ ((sp_num tx len p).1 = 0 → (b = 0 ∧ ce_rd M' 411 5 = nI (sp_num tx len p).2.1) ∨ (b = 1 ∧ ce_rd M' 411 2 = nI (sp_num tx len p).2.1 ∧ ce_rd M' 411 5 = ce_rd M 411 5 ∧ (sp_num tx len p).2.1 < len ∧ sp_in tx 48 57 (sp_num tx len p).2.1 = true)) := by
  obtain ⟨a1, a2, a3, a4⟩ := sp_run_v (sp_in tx 32 32) len p
  have b9 := sp_dc_v (tx := tx) (a2 hp)
  have hat : f_X0_isAt 411 M 32 = some (nI (if p < len ∧ tx p = 32 then 1 else 0)) := cs_at (a := 32) h hl ht hp (by omega)
  unfold f_X0_readNumber sp_num
  rw [hat, ms_b1]
  by_cases c : p < len ∧ sp_in tx 32 32 p = true
  · have hx : tx p = 32 := by have := sp_in_t.mp c.2; omega
    have hS := TC_w (p2 := sp_run (sp_in tx 32 32) len p) h
    rw [if_pos (⟨c.1, hx⟩ : p < len ∧ tx p = 32), if_neg (by decide), cs_skip h hl ht hp, ms_b1, ms_nm, cs_digits hS hl ht (a2 hp)]
    simp only [if_pos c]
    generalize sp_run (sp_in tx 32 32) len p = s at a1 a2 a3 a4 b9 hS ⊢
    obtain ⟨d1, d2, d3, d4⟩ := b9
    generalize sp_dc tx len s = k at d1 d2 d3 d4 ⊢
    rw [ms_gi (show i < 3 by omega) (show 3 < 2 ^ 31 by omega), nI_clamp (show i < 2 ^ 31 by omega), ms_nm, ms_wr_wr]
    by_cases d : k = 0
    · subst d
      simp only [if_true]
      rw [if_neg (show ¬ (0 : Int32) < nI 0 from by decide)]
      refine ⟨ce_wr (ce_wr (ce_wr M 411 2 (nI (s + 0))) (411 + 2) i (nI (sp_vv tx s 0))) 411 5 (nI s), 0, ?_, FC_t (FC_t (FC_w (by omega)) FC_n) (FC_w (by omega)), ?_, fun z => absurd z (by decide), fun _ => Or.inl ⟨rfl, ms_ww⟩⟩
      · rw [show ce_rd (ce_wr (ce_wr M 411 2 (nI (s + 0))) (411 + 2) i (nI (sp_vv tx s 0))) 411 2 = nI s from (congrFun (ms_row (by omega)) 2).trans ms_ww]
        rfl
      · rw [ms_rw3 (by omega), ms_row (by omega), ms_rw3 (by omega)]
    · simp only [if_neg d]
      rw [if_pos (show (0 : Int32) < nI k from nI_lt (a := 0) (by omega) (by omega))]
      refine ⟨_, 1, rfl, FC_t (FC_w (by omega)) FC_n, ?_, fun z => ?_, fun z => ?_⟩
      · rw [ms_row (by omega), ms_rw3 (by omega)]
      · by_cases e : s + k < len ∧ sp_in tx 48 57 (s + k) = true
        · rw [if_pos e] at z; exact absurd z (show ¬ (0 : Nat) = 1 by decide)
        · rw [if_neg e]
          refine ⟨rfl, ?_, ?_, ?_, fun j hj => ?_⟩
          · rw [ms_row (by omega), ms_ww]
          · rw [ms_row (by omega), ms_rw3 (by omega)]
          · exact ms_ww (k := 413)
          · exact (ms_rw3 (k := 413) hj).trans (congrFun (ms_row (by omega)) j)
      · by_cases e : s + k < len ∧ sp_in tx 48 57 (s + k) = true
        · rw [if_pos e]
          refine Or.inr ⟨rfl, ?_, ?_, e.1, e.2⟩
          · rw [ms_row (by omega), ms_ww]
          · rw [ms_row (by omega), ms_rw3 (by omega)]
        · rw [if_neg e] at z; exact absurd z (show ¬ (1 : Nat) = 0 by decide)
  · have hx : ¬ (p < len ∧ tx p = 32) := fun z => c ⟨z.1, sp_in_t.mpr (by omega)⟩
    rw [if_neg hx, if_pos (show nI 0 = 0 from rfl), h.2.1]
    simp only [if_neg c]
    exact ⟨ce_wr M 411 5 (nI p), 0, rfl, FC_w (by omega), ms_rw3 (by omega), fun z => absurd z (by decide), fun _ => Or.inl ⟨rfl, ms_ww⟩⟩
theorem ms_digits (h : TM M tx len p) (hl : len ≤ 150) (ht : ∀ i, i < len → tx i < 128) (hp : p ≤ len) {i : Nat} (hi : i < 3) (u : ce_M → Option (ce_M × Int32)) : ce_lp1 (f_X8_takesNumber_L29 414 (nI p) (nI i) u) ce_FU (ce_wr M 420 i 0) = u (ce_wr (ce_wr M 420 i (nI (sp_vv tx p (sp_dc tx len p)))) 414 9 (nI (p + sp_dc tx len p))) := by
  obtain ⟨a1, a2, a3, a4⟩ := sp_dc_v (tx := tx) hp
  generalize sp_dc tx len p = c at a1 a2 a3 a4 ⊢
  have e0 : ce_wr M 420 i 0 = ce_wr (ce_wr M 420 i (nI (sp_vv tx p 0))) 414 9 (nI (p + 0)) := (ms_wr_id ((congrFun (ms_row (by omega)) 9).trans h.2.1)).symm
  have hk := ms_f1 (F := f_X8_takesNumber_L29 414 (nI p) (nI i) u) (fun j => ce_wr (ce_wr M 420 i (nI (sp_vv tx p j))) 414 9 (nI (p + j))) (r := u (ce_wr (ce_wr M 420 i (nI (sp_vv tx p c))) 414 9 (nI (p + c)))) c (fun j hj rec => by
    obtain ⟨b1, b2, b3⟩ := a3 j hj
    have hT : TM (ce_wr (ce_wr M 420 i (nI (sp_vv tx p j))) 414 9 (nI (p + j))) tx len (p + j) := TM_mk h (FM_t FM_n (FM_w (Or.inl rfl))) ms_ww
    unfold f_X8_takesNumber_L29
    rw [show f_X8_isAt 414 (ce_wr (ce_wr M 420 i (nI (sp_vv tx p j))) 414 9 (nI (p + j))) 48 57 = _ from ms_at (a := 48) (b := 57) hT hl ht (by omega) (by omega) (by omega), if_pos ⟨b1, sp_in_t.mpr ⟨b2, b3⟩⟩, ms_b1, if_neg (by decide), ms_ww, show nI p + 3 = nI (p + 3) from nI_add p 3, if_neg (nI_ge (show p + j < p + 3 by omega) (by omega)), ms_gi (show i < 3 by omega) (show 3 < 2 ^ 31 by omega), ms_nm, ms_gi (show (p+j) < 150 by omega) (show 150 < 2 ^ 31 by omega), nI_clamp (show (p+j) < 2 ^ 31 by omega), ms_nm, ms_gi (show i < 3 by omega) (show 3 < 2 ^ 31 by omega), ms_nm, hT.2.2 _ b1, nI_clamp (show i < 2 ^ 31 by omega)]
    rw [show ce_rd (ce_wr (ce_wr M 420 i (nI (sp_vv tx p j))) 414 9 (nI (p + j))) (414 + 6) i = nI (sp_vv tx p j) from (congrFun (ms_row (by omega)) i).trans ms_ww, show 10 * nI (sp_vv tx p j) = nI (10 * sp_vv tx p j) from pk_mul 10 _, nI_add, show nI (10 * sp_vv tx p j + tx (p + j)) - 48 = nI (10 * sp_vv tx p j + tx (p + j) - 48) from ms_sub (b := 48) (by omega)]
    rw [show ce_rd (ce_wr (ce_wr (ce_wr M 420 i (nI (sp_vv tx p j))) 414 9 (nI (p + j))) (414 + 6) i (nI (10 * sp_vv tx p j + tx (p + j) - 48))) 414 9 = nI (p + j) from (congrFun (ms_row (by omega)) 9).trans ms_ww, nI_1, ms_nm]
    rw [show ce_wr (ce_wr (ce_wr (ce_wr M 420 i (nI (sp_vv tx p j))) 414 9 (nI (p + j))) (414 + 6) i (nI (10 * sp_vv tx p j + tx (p + j) - 48))) 414 9 (nI (p + j + 1)) = ce_wr (ce_wr M 420 i (nI (sp_vv tx p (j + 1)))) 414 9 (nI (p + (j + 1))) from by
      rw [ms_wr_cm (k := 414) (k2 := 414 + 6) (by omega), ms_wr_wr, show (414 + 6 : Nat) = 420 from rfl, ms_wr_wr]
      rfl]) (fun rec => by
    have hT : TM (ce_wr (ce_wr M 420 i (nI (sp_vv tx p c))) 414 9 (nI (p + c))) tx len (p + c) := TM_mk h (FM_t FM_n (FM_w (Or.inl rfl))) ms_ww
    unfold f_X8_takesNumber_L29
    rw [show f_X8_isAt 414 (ce_wr (ce_wr M 420 i (nI (sp_vv tx p c))) 414 9 (nI (p + c))) 48 57 = _ from ms_at (a := 48) (b := 57) hT hl ht (by omega) (by omega) (by omega), ms_b1]
    by_cases d : c = 3
    · by_cases e : p + c < len ∧ sp_in tx 48 57 (p + c) = true
      · rw [if_pos e, if_neg (by decide), ms_ww, show nI p + 3 = nI (p + 3) from nI_add p 3, if_pos (nI_le (show p + 3 ≤ p + c by omega) (by omega))]
      · rw [if_neg e, if_pos (by decide)]
    · rw [if_neg (a4 (by omega)), if_pos (by decide)]) (fuel := ce_FU) (by rw [ms_FU]; omega)
  rw [e0]
  exact hk
theorem ms_number (h : TM M tx len p) (hl : len ≤ 150) (ht : ∀ i, i < len → tx i < 128) (hp : p ≤ len) {i : Nat} (hi : i < 3) : ∃ M', f_X8_takesNumber 414 M (nI i) = some (M', nI (sp_num tx len p).1) ∧ FM M M' ∧ ce_rd M' 414 9 = nI (sp_num tx len p).2.1 ∧ ce_rd M' 414 10 = ce_rd M 414 10 ∧ ((sp_num tx len p).1 = 1 → ce_rd M' 420 i = nI (sp_num tx len p).2.2) ∧ (∀ j, j ≠ i → ce_rd M' 420 j = ce_rd M 420 j) := by
  obtain ⟨a1, a2, a3, a4⟩ := sp_run_v (sp_in tx 32 32) len p
  have b9 := sp_dc_v (tx := tx) (a2 hp)
  unfold f_X8_takesNumber sp_num
  rw [show f_X8_isAt 414 M 32 32 = _ from ms_at (a := 32) (b := 32) h hl ht hp (by omega) (by omega), ms_b1]
  by_cases c : p < len ∧ sp_in tx 32 32 p = true
  · have hS := TM_w (p2 := sp_run (sp_in tx 32 32) len p) h
    rw [if_pos c, if_neg (by decide), ms_skip h hl ht hp, ms_b1, ms_ww, ms_nm, ms_gi (show i < 3 by omega) (show 3 < 2 ^ 31 by omega), nI_clamp (show i < 2 ^ 31 by omega), ms_nm, ms_nm, show (414 + 6 : Nat) = 420 from rfl, ms_digits hS hl ht (a2 hp) hi]
    simp only [if_pos c]
    generalize sp_run (sp_in tx 32 32) len p = s at a1 a2 a3 a4 b9 hS ⊢
    obtain ⟨d1, d2, d3, d4⟩ := b9
    generalize sp_dc tx len s = k at d1 d2 d3 d4 ⊢
    have hT : TM (ce_wr (ce_wr (ce_wr M 414 9 (nI s)) 420 i (nI (sp_vv tx s k))) 414 9 (nI (s + k))) tx len (s + k) := TM_mk hS (FM_t FM_n (FM_w (Or.inl rfl))) ms_ww
    have f9 : FM M (ce_wr (ce_wr (ce_wr M 414 9 (nI s)) 420 i (nI (sp_vv tx s k))) 414 9 (nI (s + k))) := FM_t (FM_w (Or.inl rfl)) (FM_t FM_n (FM_w (Or.inl rfl)))
    have f10 : ce_rd (ce_wr (ce_wr (ce_wr M 414 9 (nI s)) 420 i (nI (sp_vv tx s k))) 414 9 (nI (s + k))) 414 10 = ce_rd M 414 10 := by rw [ms_rw3 (by omega), ms_row (by omega), ms_rw3 (by omega)]
    have f20 : ∀ j, j ≠ i → ce_rd (ce_wr (ce_wr (ce_wr M 414 9 (nI s)) 420 i (nI (sp_vv tx s k))) 414 9 (nI (s + k))) 420 j = ce_rd M 420 j := fun j hj => by rw [ms_row (by omega), ms_rw3 hj, ms_row (by omega)]
    have g20 : ce_rd (ce_wr (ce_wr (ce_wr M 414 9 (nI s)) 420 i (nI (sp_vv tx s k))) 414 9 (nI (s + k))) 420 i = nI (sp_vv tx s k) := by rw [ms_row (by omega), ms_ww]
    by_cases d : k = 0
    · subst d
      simp only [if_true]
      refine ⟨_, ?_, f9, ms_ww, f10, fun z => absurd z (by decide), f20⟩
      rw [ms_ww, if_pos (nI_le (show s + 0 ≤ s by omega) (by omega))]
      rfl
    · simp only [if_neg d]
      by_cases e : s + k < len ∧ sp_in tx 48 57 (s + k) = true
      · simp only [if_pos e]
        refine ⟨_, ?_, f9, ms_ww, f10, fun z => absurd z (by decide), f20⟩
        rw [ms_ww, if_neg (nI_ge (show s < s + k by omega) (by omega)), show f_X8_isAt 414 (ce_wr (ce_wr (ce_wr M 414 9 (nI s)) 420 i (nI (sp_vv tx s k))) 414 9 (nI (s + k))) 48 57 = _ from ms_at (a := 48) (b := 57) hT hl ht (by omega) (by omega) (by omega), if_pos e, ms_b1, if_neg (by decide)]
        rfl
      · simp only [if_neg e]
        refine ⟨_, ?_, f9, ms_ww, f10, fun z => g20, f20⟩
        rw [ms_ww, if_neg (nI_ge (show s < s + k by omega) (by omega)), show f_X8_isAt 414 (ce_wr (ce_wr (ce_wr M 414 9 (nI s)) 420 i (nI (sp_vv tx s k))) 414 9 (nI (s + k))) 48 57 = _ from ms_at (a := 48) (b := 57) hT hl ht (by omega) (by omega) (by omega), if_neg e, ms_b1, if_pos (by decide)]
        rfl
  · rw [if_neg c, if_pos (show nI 0 = 0 from rfl)]
    simp only [if_neg c]
    exact ⟨M, rfl, FM_r, h.2.1, rfl, fun z => absurd z (by decide), fun _ _ => rfl⟩
end
