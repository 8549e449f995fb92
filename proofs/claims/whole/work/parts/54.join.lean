/-! subscribe -/
theorem ms_upd_id {f : Nat → Int32} {k : Nat} {v : Int32} (h : f k = v) : upd f k v = f := funext fun j => by
  by_cases c : j = k
  · rw [ms_u1 c, c, h]
  · rw [ms_u2 c]
theorem ms_zero (M : ce_M) {σ : Nat → Int32} {a : Nat} (ha : a < 8) (h : ∀ k, k < 54 → σ (24 + 54 * a + k) = nI 0) (u : ce_M → Option (ce_M × Int32)) : ce_lp2 (f_X8_subscribes_L61 414 (nI a) u) ce_FU (ms_S M σ) 0 = u (ms_S M σ) := by
  refine ms_f2 (F := f_X8_subscribes_L61 414 (nI a) u) (fun _ => ms_S M σ) (fun i => nI i) 54 (fun i hi rec => ?_) (fun rec => ?_) (by rw [ms_FU]; omega)
  · unfold f_X8_subscribes_L61
    simp only [ms_lit, if_neg (nI_ge (show i < 54 by omega) (show 54 < 2 ^ 31 by omega)), ms_put M σ ha hi, ms_b1, ms_nm, nI_add, ms_upd_id (h i hi)]
  · unfold f_X8_subscribes_L61
    rw [if_pos (show (54 : Int32) ≤ nI 54 by decide)]
def sp_j0 (σ : Nat → Int32) (a : Nat) (so le po : Int32) : Nat → Int32 := upd (upd (upd (upd (upd σ (24 + 54 * a + 0) so) (24 + 54 * a + 1) le) (24 + 54 * a + 2) po) (24 + 54 * a + 3) (σ 0)) (24 + 54 * a + 5) (nI 1)
def sp_j1 (σ : Nat → Int32) (a : Nat) (so le po : Int32) : Nat → Int32 := sp_bs (sp_j0 σ a so le po) a po 0
theorem sp_j1_one (σ : Nat → Int32) (a : Nat) (so le po v : Int32) : sp_j1 (upd σ 1 v) a so le po = upd (sp_j1 σ a so le po) 1 v := by
  unfold sp_j1 sp_bs
  rw [if_pos (by omega), if_pos (by omega)]
  unfold sp_bs0 sp_j0
  rw [ms_u2 (f := upd _ _ _) (show 0 ≠ 24 + 54 * a + 5 by omega), ms_u2 (f := upd _ _ _) (show 0 ≠ 24 + 54 * a + 5 by omega), ms_u2 (f := upd _ _ _) (show 0 ≠ 24 + 54 * a + 3 by omega), ms_u2 (f := upd _ _ _) (show 0 ≠ 24 + 54 * a + 3 by omega), ms_u2 (f := upd _ _ _) (show 0 ≠ 24 + 54 * a + 2 by omega), ms_u2 (f := upd _ _ _) (show 0 ≠ 24 + 54 * a + 2 by omega), ms_u2 (f := upd _ _ _) (show 0 ≠ 24 + 54 * a + 1 by omega), ms_u2 (f := upd _ _ _) (show 0 ≠ 24 + 54 * a + 1 by omega), ms_u2 (f := upd _ _ _) (show 0 ≠ 24 + 54 * a + 0 by omega), ms_u2 (show 0 ≠ 24 + 54 * a + 0 by omega), ms_u2 (show 0 ≠ 1 by omega)]
  refine funext fun j => ?_
  by_cases c : j = 1
  · subst c
    rw [ms_u1 (f := upd _ _ _) (show 1 = 1 from rfl)]
    rw [ms_u2 (by omega), ms_u2 (by omega), ms_u2 (by omega), ms_u2 (by omega), ms_u2 (by omega), ms_u2 (by omega), ms_u2 (by omega), ms_u2 (by omega), ms_u2 (by omega), ms_u2 (by omega), ms_u1 rfl]
  · simp only [upd, if_neg c]
theorem ms_subs_v (Mm : ce_M) {σ : Nat → Int32} {n so le po : Nat} (I1 : σ 1 = nI n) (hn : n < 8) (I9 : ∀ k, k < 54 → σ (24 + 54 * n + k) = nI 0) (hso : so < 3) (hle : le < 3) (hpo : po < 16) : f_X8_subscribes 414 (ms_S Mm σ) (nI so) (nI le) (nI po) = some (ms_S (ce_wr Mm 414 5 (nI n)) (upd (sp_j1 σ n (nI so) (nI le) (nI po)) 1 (nI (n + 1))), 0) := by
  unfold f_X8_subscribes
  rw [ms_leaf_y _ hpo, ms_b1, if_neg (by decide), show f_X8_in (ms_S Mm σ) (nI so) 0 2 = some 1 from ms_in_y (m := 2) _ (by omega) (by omega), ms_b1, if_neg (by decide), ms_level_y _ hle, ms_b1, if_neg (by decide)]
  have h9 : ∀ k, k < 54 → upd σ 1 (nI (n + 1)) (24 + 54 * n + k) = nI 0 := fun k hk => by rw [ms_u2 (by omega)]; exact I9 k hk
  have hne : (nI n = nI 8) = False := by
    refine propext ⟨fun q => ?_, False.elim⟩
    have := ms_nI q (by omega) (by omega)
    omega
  have z : ∀ u, ce_lp2 (f_X8_subscribes_L61 414 (nI n) u) ce_FU (ms_S Mm (upd σ 1 (nI (n + 1)))) (nI 0) = u (ms_S Mm (upd σ 1 (nI (n + 1)))) := fun u => ms_zero Mm hn h9 u
  simp only [ms_lit, ms_gi (show 1 < 816 by omega) (show 816 < 2 ^ 31 by omega), nI_clamp (show 1 < 2 ^ 31 by omega), ms_rd1, ms_nm, I1, hne, if_false, ms_wr1, nI_add, z, ms_put _ _ hn (show 0 < 54 by omega), ms_put _ _ hn (show 1 < 54 by omega), ms_put _ _ hn (show 2 < 54 by omega), ms_put _ _ hn (show 3 < 54 by omega), ms_put _ _ hn (show 5 < 54 by omega), ms_b1, ms_gi (show 0 < 816 by omega) (show 816 < 2 ^ 31 by omega), nI_clamp (show 0 < 2 ^ 31 by omega)]
  rw [ms_begin (c := 0) _ hn (by rw [ms_u2 (by omega), ms_u2 (by omega), ms_u2 (by omega), ms_u2 (by omega), ms_u2 (by omega), h9 11 (by omega)]) (by omega), ms_b1, ms_wr' _ _ (show (414 : Nat) ≠ 415 by omega), ← sp_j1_one]
  unfold sp_j1 sp_j0
  rw [ms_u2 (show 0 ≠ 24 + 54 * n + 2 by omega), ms_u2 (show 0 ≠ 24 + 54 * n + 1 by omega), ms_u2 (show 0 ≠ 24 + 54 * n + 0 by omega)]
theorem cs_p0 (w : Nat) (M : ce_M) (x y z : Int32) : f_X6_perform w M 0 x y z = ce_b2 (f_X6_join w M x y z) (fun (M28 : ce_M) (x29 : Int32) => some (M28, x29)) := by
  unfold f_X6_perform
  rw [if_pos rfl]
theorem cs_begin {M : ce_M} {k a : Nat} {σ : Nat → Int32} {so le po : Int32} (ha : a < 8) (hS : ms_SR M k σ a) (i11 : σ (24 + 54 * a + 11) = nI 0) : ∃ M', f_X4_begin k M so le po (σ 0) = some M' ∧ (ms_SR M' k (sp_j1 σ a so le po) a ∧ ms_fr k (k + 7) M M' ∧ ce_rd M' k 11 = ce_rd M k 11) := by
  unfold f_X4_begin
  have s1 := cs_F7 ha (cs_F6 ha (cs_F5 ha (cs_F4 ha (cs_F3 ha (cs_F2 ha hS so) le) po) (σ 0)) po) 1
  have hc : ce_rd (ce_wr (ce_wr (ce_wr (ce_wr (ce_wr (ce_wr M k 2 so) k 3 le) k 4 po) k 5 (σ 0)) k 6 po) k 7 1) (k + 1) 3 = nI 0 := by
    rw [ms_row (by omega), ms_row (by omega), ms_row (by omega), ms_row (by omega), ms_row (by omega), ms_row (by omega)]
    exact hS.2.2.2.2.2.2.2.2.2.2.2.1.trans i11
  obtain ⟨M', e', f1, f2, f3, f4, f5, f6⟩ := cs_open (k := k + 1) hc (by omega) po (σ 0)
  simp only [ms_nm, e', ms_b1]
  have p : ∀ j, j ≠ 24 + 54 * a + 0 → j ≠ 24 + 54 * a + 1 → j ≠ 24 + 54 * a + 2 → j ≠ 24 + 54 * a + 3 → j ≠ 24 + 54 * a + 5 → sp_j0 σ a so le po j = σ j := fun j q1 q2 q3 q4 q5 => by
    unfold sp_j0
    rw [ms_u2 q5, ms_u2 q4, ms_u2 q3, ms_u2 q2, ms_u2 q1]
  refine ⟨M', rfl, cs_SR_open s1 (c := 0) (by rw [ms_u2 (by omega), ms_u2 (by omega), ms_u2 (by omega), ms_u2 (by omega), ms_u2 (by omega), ms_u2 (by omega)]; exact i11) (by omega) f2 f3 f4 f5 f6 (fun j q1 q2 => ?_) sp_bs_11 (fun j hj => ?_) (sp_rt_eq 60 (fun e he => ?_)), ⟨f1, fun q hq => ?_⟩, ?_⟩
  · by_cases q4 : j = 4
    · subst q4
      rw [ms_u2 (by omega), ms_u1 rfl]
      exact sp_bs_4
    · unfold sp_j1
      rw [sp_bs_o (by omega) (by omega) (by omega) (by omega)]
      unfold sp_j0
      by_cases q5 : j = 5
      · subst q5; rw [ms_u1 rfl, ms_u1 rfl]; rfl
      · rw [ms_u2 (by omega), ms_u2 (by omega)]
        rw [ms_u2 (k := 24 + 54 * a + 4) (by omega)]
  · have q0 : j = 0 := by
      rw [if_pos (by omega)] at hj
      omega
    have h3 := sp_bs_st (σ := sp_j0 σ a so le po) (a := a) (c := 0) (lf := po) (by omega) hj
    rw [p 0 (by omega) (by omega) (by omega) (by omega) (by omega)] at h3
    obtain ⟨h31, h32, h33⟩ := h3
    subst q0
    simp only [if_true] at h31 h32 h33 ⊢
    exact ⟨h31, h32, h33⟩
  · unfold sp_j1
    rw [sp_bs_o (by omega) (by omega) (by omega) (by omega), p _ (by omega) (by omega) (by omega) (by omega) (by omega), ms_u2 (by omega), ms_u2 (by omega), ms_u2 (by omega), ms_u2 (by omega), ms_u2 (by omega), ms_u2 (by omega)]
  · rw [f2 q (by omega), ms_row (by omega), ms_row (by omega), ms_row (by omega), ms_row (by omega), ms_row (by omega), ms_row (by omega)]
  · rw [f2 k (by omega), ms_rw3 (by omega), ms_rw3 (by omega), ms_rw3 (by omega), ms_rw3 (by omega), ms_rw3 (by omega), ms_rw3 (by omega)]
