/-! subscribe -/
theorem ms_upd_id {f : Nat → Int32} {k : Nat} {v : Int32} (h : f k = v) : upd f k v = f := funext fun j => by
  by_cases c : j = k
  · rw [ms_u1 c, c, h]
  · rw [ms_u2 c]
theorem ms_zero (M : ce_M) {σ : Nat → Int32} {a : Nat} (ha : a < 8) (h : ∀ k, k < 54 → σ (24 + 54 * a + k) = nI 0) (u : ce_M → Option (ce_M × Int32)) : ce_lp2 (f_X8_subscribes_L61 414 (nI a) u) ce_FU (ms_S M σ) 0 = u (ms_S M σ) := by
  refine ms_f2 (F := f_X8_subscribes_L61 414 (nI a) u) (fun _ => ms_S M σ) (fun i => nI i) 54 (fun i hi rec => ?_) (fun rec => ?_) (by rw [ms_FU]; omega)
  · unfold f_X8_subscribes_L61
    simp only [ms_lit, if_neg (nI_ge (show i < 54 by omega) (show 54 < 2 ^ 31 by omega)), ms_put M σ ha hi, ms_b1, ms_nm, nI_add, ms_upd_id (h i hi)]
  · unfold f_X8_subscribes_L61
    rw [if_pos (show (54 : Int32) ≤ nI 54 by decide)]
def sp_j0 (σ : Nat → Int32) (a : Nat) (so le po : Int32) : Nat → Int32 := upd (upd (upd (upd (upd σ (24 + 54 * a + 0) so) (24 + 54 * a + 1) le) (24 + 54 * a + 2) po) (24 + 54 * a + 3) (σ 0)) (24 + 54 * a + 5) (nI 1)
def sp_j1 (σ : Nat → Int32) (a : Nat) (so le po : Int32) : Nat → Int32 := sp_bs (sp_j0 σ a so le po) a po 0
theorem sp_j1_one (σ : Nat → Int32) (a : Nat) (so le po v : Int32) : sp_j1 (upd σ 1 v) a so le po = upd (sp_j1 σ a so le po) 1 v := by
  unfold sp_j1 sp_bs
  rw [if_pos (by omega), if_pos (by omega)]
  unfold sp_bs0 sp_j0
  rw [ms_u2 (f := upd _ _ _) (show 0 ≠ 24 + 54 * a + 5 by omega), ms_u2 (f := upd _ _ _) (show 0 ≠ 24 + 54 * a + 5 by omega), ms_u2 (f := upd _ _ _) (show 0 ≠ 24 + 54 * a + 3 by omega), ms_u2 (f := upd _ _ _) (show 0 ≠ 24 + 54 * a + 3 by omega), ms_u2 (f := upd _ _ _) (show 0 ≠ 24 + 54 * a + 2 by omega), ms_u2 (f := upd _ _ _) (show 0 ≠ 24 + 54 * a + 2 by omega), ms_u2 (f := upd _ _ _) (show 0 ≠ 24 + 54 * a + 1 by omega), ms_u2 (f := upd _ _ _) (show 0 ≠ 24 + 54 * a + 1 by omega), ms_u2 (f := upd _ _ _) (show 0 ≠ 24 + 54 * a + 0 by omega), ms_u2 (show 0 ≠ 24 + 54 * a + 0 by omega), ms_u2 (show 0 ≠ 1 by omega)]
  refine funext fun j => ?_
  by_cases c : j = 1
  · subst c
    rw [ms_u1 (f := upd _ _ _) (show 1 = 1 from rfl)]
    rw [ms_u2 (by omega), ms_u2 (by omega), ms_u2 (by omega), ms_u2 (by omega), ms_u2 (by omega), ms_u2 (by omega), ms_u2 (by omega), ms_u2 (by omega), ms_u2 (by omega), ms_u2 (by omega), ms_u1 rfl]
  · simp only [upd, if_neg c]
theorem ms_subs_v (Mm : ce_M) {σ : Nat → Int32} {n so le po : Nat} (I1 : σ 1 = nI n) (hn : n < 8) (I9 : ∀ k, k < 54 → σ (24 + 54 * n + k) = nI 0) (hso : so < 3) (hle : le < 3) (hpo : po < 16) : f_X8_subscribes 414 (ms_S Mm σ) (nI so) (nI le) (nI po) = some (ms_S (ce_wr Mm 414 5 (nI n)) (upd (sp_j1 σ n (nI so) (nI le) (nI po)) 1 (nI (n + 1))), 0) := by
  unfold f_X8_subscribes
  rw [ms_leaf_y _ hpo, ms_b1, if_neg (by decide), show f_X8_in (ms_S Mm σ) (nI so) 0 2 = some 1 from ms_in_y (m := 2) _ (by omega) (by omega), ms_b1, if_neg (by decide), ms_level_y _ hle, ms_b1, if_neg (by decide)]
  have h9 : ∀ k, k < 54 → upd σ 1 (nI (n + 1)) (24 + 54 * n + k) = nI 0 := fun k hk => by rw [ms_u2 (by omega)]; exact I9 k hk
  have hne : (nI n = nI 8) = False := by
    refine propext ⟨fun q => ?_, False.elim⟩
    have := ms_nI q (by omega) (by omega)
    omega
  have z : ∀ u, ce_lp2 (f_X8_subscribes_L61 414 (nI n) u) ce_FU (ms_S Mm (upd σ 1 (nI (n + 1)))) (nI 0) = u (ms_S Mm (upd σ 1 (nI (n + 1)))) := fun u => ms_zero Mm hn h9 u
  simp only [ms_lit, ms_gi (show 1 < 816 by omega) (show 816 < 2 ^ 31 by omega), nI_clamp (show 1 < 2 ^ 31 by omega), ms_rd1, ms_nm, I1, hne, if_false, ms_wr1, nI_add, z, ms_put _ _ hn (show 0 < 54 by omega), ms_put _ _ hn (show 1 < 54 by omega), ms_put _ _ hn (show 2 < 54 by omega), ms_put _ _ hn (show 3 < 54 by omega), ms_put _ _ hn (show 5 < 54 by omega), ms_b1, ms_gi (show 0 < 816 by omega) (show 816 < 2 ^ 31 by omega), nI_clamp (show 0 < 2 ^ 31 by omega)]
  rw [ms_begin (c := 0) _ hn (by rw [ms_u2 (by omega), ms_u2 (by omega), ms_u2 (by omega), ms_u2 (by omega), ms_u2 (by omega), h9 11 (by omega)]) (by omega), ms_b1, ms_wr' _ _ (show (414 : Nat) ≠ 415 by omega), ← sp_j1_one]
  unfold sp_j1 sp_j0
  rw [ms_u2 (show 0 ≠ 24 + 54 * n + 2 by omega), ms_u2 (show 0 ≠ 24 + 54 * n + 1 by omega), ms_u2 (show 0 ≠ 24 + 54 * n + 0 by omega)]
theorem cs_p0 (w : Nat) (M : ce_M) (x y z : Int32) : f_X6_perform w M 0 x y z = ce_b2 (f_X6_join w M x y z) (fun (M28 : ce_M) (x29 : Int32) => some (M28, x29)) := by
  unfold f_X6_perform
  rw [if_pos rfl]
theorem cs_begin {M : ce_M} {k a : Nat} {σ : Nat → Int32} {so le po : Int32} (ha : a < 8) (hS : ms_SR M k σ a) (i11 : σ (24 + 54 * a + 11) = nI 0) : ∃ M', f_X4_begin k M so le po (σ 0) = some M' ∧ (ms_SR M' k (sp_j1 σ a so le po) a ∧ ms_fr k (k + 7) M M' ∧ ce_rd M' k 11 = ce_rd M k 11) := by
  unfold f_X4_begin
  have s1 := cs_F7 ha (cs_F6 ha (cs_F5 ha (cs_F4 ha (cs_F3 ha (cs_F2 ha hS so) le) po) (σ 0)) po) 1
  have hc : ce_rd (ce_wr (ce_wr (ce_wr (ce_wr (ce_wr (ce_wr M k 2 so) k 3 le) k 4 po) k 5 (σ 0)) k 6 po) k 7 1) (k + 1) 3 = nI 0 := by
    rw [ms_row (by omega), ms_row (by omega), ms_row (by omega), ms_row (by omega), ms_row (by omega), ms_row (by omega)]
    exact hS.2.2.2.2.2.2.2.2.2.2.2.1.trans i11
  obtain ⟨M', e', f1, f2, f3, f4, f5, f6⟩ := cs_open (k := k + 1) hc (by omega) po (σ 0)
  simp only [ms_nm, e', ms_b1]
  have p : ∀ j, j ≠ 24 + 54 * a + 0 → j ≠ 24 + 54 * a + 1 → j ≠ 24 + 54 * a + 2 → j ≠ 24 + 54 * a + 3 → j ≠ 24 + 54 * a + 5 → sp_j0 σ a so le po j = σ j := fun j q1 q2 q3 q4 q5 => by
    unfold sp_j0
    rw [ms_u2 q5, ms_u2 q4, ms_u2 q3, ms_u2 q2, ms_u2 q1]
  refine ⟨M', rfl, cs_SR_open s1 (c := 0) (by rw [ms_u2 (by omega), ms_u2 (by omega), ms_u2 (by omega), ms_u2 (by omega), ms_u2 (by omega), ms_u2 (by omega)]; exact i11) (by omega) f2 f3 f4 f5 f6 (fun j q1 q2 => ?_) sp_bs_11 (fun j hj => ?_) (sp_rt_eq 60 (fun e he => ?_)), ⟨f1, fun q hq => ?_⟩, ?_⟩
  · by_cases q4 : j = 4
    · subst q4
      rw [ms_u2 (by omega), ms_u1 rfl]
      exact sp_bs_4
    · unfold sp_j1
      rw [sp_bs_o (by omega) (by omega) (by omega) (by omega)]
      unfold sp_j0
      by_cases q5 : j = 5
      · subst q5; rw [ms_u1 rfl, ms_u1 rfl]; rfl
      · rw [ms_u2 (k := 24 + 54 * a + 5) (v := nI 1) (by omega), ms_u2 (k := 24 + 54 * a + 5) (v := 1) (by omega), ms_u2 (k := 24 + 54 * a + 4) (v := po) (by omega)]
  · have q0 : j = 0 := by
      rw [if_pos (by omega)] at hj
      omega
    have h3 := sp_bs_st (σ := sp_j0 σ a so le po) (a := a) (c := 0) (lf := po) (by omega) hj
    rw [p 0 (by omega) (by omega) (by omega) (by omega) (by omega)] at h3
    obtain ⟨h31, h32, h33⟩ := h3
    subst q0
    simp only [if_true] at h31 h32 h33 ⊢
    exact ⟨h31, h32, h33⟩
  · unfold sp_j1
    rw [sp_bs_o (by omega) (by omega) (by omega) (by omega), p _ (by omega) (by omega) (by omega) (by omega) (by omega), ms_u2 (by omega), ms_u2 (by omega), ms_u2 (by omega), ms_u2 (by omega), ms_u2 (by omega), ms_u2 (by omega)]
  · rw [f2 q (by omega), ms_row (by omega), ms_row (by omega), ms_row (by omega), ms_row (by omega), ms_row (by omega), ms_row (by omega)]
  · rw [f2 k (by omega), ms_rw3 (by omega), ms_rw3 (by omega), ms_rw3 (by omega), ms_rw3 (by omega), ms_rw3 (by omega), ms_rw3 (by omega)]
theorem cs_W5 {M : ce_M} {w n : Nat} {σ : Nat → Int32} (hR : ms_WR M w σ) (h1 : σ 1 = nI n) (hn : n < 8) : ms_WR (ce_wr M w 5 (nI (n + 1))) w (upd σ 1 (nI (n + 1))) := by
  obtain ⟨R0, R1, R2, R3, R4, R5, R6, R7, R8⟩ := hR
  refine ⟨by rw [ms_rw3 (by omega), ms_u2 (by omega)]; exact R0, by rw [ms_rw1 rfl rfl, ms_u1 rfl], by rw [ms_row (by omega), ms_u2 (by omega)]; exact R2, fun i hi => by rw [ms_row (by omega), ms_u2 (by omega)]; exact R3 i hi, fun l hl => by rw [ms_row (by omega), ms_u2 (by omega)]; exact R4 l hl, fun a ha => ms_SR_fr (R5 a ha) (fun q h1 h2 => ms_row (by omega)) (fun k hk => ms_u2 (by omega)) (sp_rt_eq 60 (fun e he => ms_u2 (by omega))), fun e he => ?_, ?_, fun m q1 q2 a q3 q4 => ?_⟩
  · rw [ms_row (by omega), ms_row (by omega), ms_row (by omega), ms_row (by omega), ms_row (by omega), ms_row (by omega), ms_u2 (by omega), ms_u2 (by omega), ms_u2 (by omega), ms_u2 (by omega), ms_u2 (by omega), ms_u2 (by omega)]
    exact R6 e he
  · rw [ms_u2 (by omega), ← R7]
    exact sp_lost_eq 8 (fun b hb => congrFun (ms_row (by omega)) 11)
  · rw [ms_u1 rfl] at q1
    have := ms_nI q1 (by omega) (by omega)
    rw [ms_row (by omega)]
    exact R8 n h1 (by omega) a (by omega) q4
theorem act_join {T t n en w : Nat} {M : ce_M} {σ : Nat → Int32} (hR : ms_WR M w σ) (hI : ms_IN σ t n en) (ht : t ≤ T) (x y z : Int32) : ms_OK T M w σ (f_X6_againstJoining w M x y z) (f_X6_perform w M 0 x y z) (fun Mm => f_X8_subscribes 414 Mm x y z) (fun ca cm => (ca = 1 ∧ cm = 1) ∨ (ca = 2 ∧ cm = 2) ∨ (ca = 3 ∧ cm = 3)) := by
  have hI0 := hI
  have hR0 := hR
  obtain ⟨R0, R1, R2, R3, R4, R5, R6, R7, R8⟩ := hR
  obtain ⟨I0, I1, I1', I2, I2', I3, I4, I5, I6, I7, I8, I9, I10⟩ := hI
  have hn : ce_rd M w 5 = nI n := R1.trans I1
  rcases ms_ix z 16 with hz | ⟨po, hpo, rfl⟩
  · refine Or.inl ⟨1, 1, Or.inl ⟨rfl, rfl⟩, ?_, fun Mm => ?_⟩
    · unfold f_X6_againstJoining
      rw [show f_X7_isBelow M z 16 = some 0 from cs_below_n (n := 16) M hz]; rfl
    · show f_X8_subscribes 414 (ms_S Mm σ) x y z = _
      unfold f_X8_subscribes
      rw [ms_leaf_n _ hz]; rfl
  · have b16 : f_X7_isBelow M (nI po) 16 = some 1 := cs_below_y (n := 16) M hpo (by omega)
    rcases ms_ix x 3 with hx | ⟨so, hso, rfl⟩
    · refine Or.inl ⟨2, 2, Or.inr (Or.inl ⟨rfl, rfl⟩), ?_, fun Mm => ?_⟩
      · unfold f_X6_againstJoining
        rw [b16, ms_b1, if_neg (by decide), show f_X7_isBelow M x 3 = some 0 from cs_below_n (n := 3) M hx]; rfl
      · show f_X8_subscribes 414 (ms_S Mm σ) x y (nI po) = _
        unfold f_X8_subscribes
        rw [ms_leaf_y _ hpo, ms_b1, if_neg (by decide), show f_X8_in (ms_S Mm σ) x 0 2 = some 0 from ms_in_n (m := 2) _ hx]; rfl
    · have b3 : f_X7_isBelow M (nI so) 3 = some 1 := cs_below_y (n := 3) M hso (by omega)
      rcases ms_ix y 3 with hy | ⟨le, hle, rfl⟩
      · refine Or.inl ⟨2, 2, Or.inr (Or.inl ⟨rfl, rfl⟩), ?_, fun Mm => ?_⟩
        · unfold f_X6_againstJoining
          rw [b16, ms_b1, if_neg (by decide), b3, ms_b1, if_neg (by decide), show f_X7_isBelow M y 3 = some 0 from cs_below_n (n := 3) M hy]; rfl
        · show f_X8_subscribes 414 (ms_S Mm σ) (nI so) y (nI po) = _
          unfold f_X8_subscribes
          rw [ms_leaf_y _ hpo, ms_b1, if_neg (by decide), show f_X8_in (ms_S Mm σ) (nI so) 0 2 = some 1 from ms_in_y (m := 2) _ (by omega) (by omega), ms_b1, if_neg (by decide), ms_level_n _ hy]; rfl
      · have bl : f_X7_isBelow M (nI le) 3 = some 1 := cs_below_y (n := 3) M hle (by omega)
        by_cases c8 : n = 8
        · subst c8
          refine Or.inl ⟨3, 3, Or.inr (Or.inr ⟨rfl, rfl⟩), ?_, fun Mm => ?_⟩
          · unfold f_X6_againstJoining
            rw [b16, ms_b1, if_neg (by decide), b3, ms_b1, if_neg (by decide), bl, ms_b1, if_neg (by decide), hn, if_pos (by decide)]
          · show f_X8_subscribes 414 (ms_S Mm σ) (nI so) (nI le) (nI po) = _
            unfold f_X8_subscribes
            rw [ms_leaf_y _ hpo, ms_b1, if_neg (by decide), show f_X8_in (ms_S Mm σ) (nI so) 0 2 = some 1 from ms_in_y (m := 2) _ (by omega) (by omega), ms_b1, if_neg (by decide), ms_level_y _ hle, ms_b1, if_neg (by decide), show ∀ K : Option (ce_M × Int32), ce_gi 1 816 K = K from fun K => ms_gi (n := 1) (by omega) (by omega), show ce_rd (ms_S Mm σ) (414 + 1) (Int32.toNatClampNeg 1) = nI 8 from I1, ms_nm, if_pos (by decide)]
        · have hn8 : n < 8 := by omega
          have hz9 := I9 n (Nat.le_refl n) hn8
          obtain ⟨M', e', s', f', l'⟩ := cs_begin (so := nI so) (le := nI le) (po := nI po) hn8 (R5 n hn8) (hz9 11 (by omega))
          have p : ∀ j, (j < 24 + 54 * n ∨ 24 + 54 * n + 54 ≤ j) → sp_j1 σ n (nI so) (nI le) (nI po) j = σ j := fun j q => by
            unfold sp_j1
            rw [sp_bs_o (by omega) (by omega) (by omega) (by omega)]
            unfold sp_j0
            rw [ms_u2 (by omega), ms_u2 (by omega), ms_u2 (by omega), ms_u2 (by omega), ms_u2 (by omega)]
          have p5 : ∀ j, 5 < j → j < 24 → j ≠ 11 → sp_j1 σ n (nI so) (nI le) (nI po) (24 + 54 * n + j) = nI 0 := fun j q1 q2 q3 => by
            unfold sp_j1
            rw [sp_bs_o (by omega) (by omega) (by omega) (by omega)]
            unfold sp_j0
            rw [ms_u2 (by omega), ms_u2 (by omega), ms_u2 (by omega), ms_u2 (by omega), ms_u2 (by omega)]
            exact hz9 j (by omega)
          have pj : ∀ j, j < 4 → sp_j1 σ n (nI so) (nI le) (nI po) (24 + 54 * n + j) = sp_j0 σ n (nI so) (nI le) (nI po) (24 + 54 * n + j) := fun j q1 => by
            unfold sp_j1
            rw [sp_bs_o (by omega) (by omega) (by omega) (by omega)]
          have hW := cs_WR_one hR0 hn8 f' s' (fun j hj => p j (by omega)) (fun l hl => p _ (by omega)) (fun b hb hne j hj => p _ (by omega)) (fun e he k hk => p _ (by omega)) (by
            rw [p 7 (by omega), ← R7]
            refine sp_lost_eq 8 (fun b hb => ?_)
            by_cases q : b = n
            · rw [q]; exact l'
            · exact congrFun (f'.2 _ (by omega)) 11) (fun m q1 q2 => Or.inr l')
          have hW2 := cs_W5 hW (by rw [p 1 (by omega)]; exact I1) hn8
          refine Or.inr ⟨?_, _, nI n, _, ⟨t, n + 1, en, ht, ?_⟩, ?_, hW2, ms_fr_t (ms_fr_up f' (by omega) (by omega)) (ms_fr_w (by omega) (by omega)), fun Mm => ⟨_, ms_subs_v Mm I1 hn8 hz9 hso hle hpo, ms_MF_w Mm _⟩⟩
          · unfold f_X6_againstJoining
            rw [b16, ms_b1, if_neg (by decide), b3, ms_b1, if_neg (by decide), bl, ms_b1, if_neg (by decide), hn, if_neg (show ¬ (8 : Int32) ≤ nI n from nI_ge (show n < 8 by omega) (show 8 < 2 ^ 31 by omega))]
          · have u : ∀ j, j ≠ 1 → upd (sp_j1 σ n (nI so) (nI le) (nI po)) 1 (nI (n + 1)) j = sp_j1 σ n (nI so) (nI le) (nI po) j := fun j q => ms_u2 q
            have e11 : upd (sp_j1 σ n (nI so) (nI le) (nI po)) 1 (nI (n + 1)) (24 + 54 * n + 11) = nI 1 := by
              rw [u _ (by omega)]
              exact sp_bs_11
            refine ⟨by rw [u 0 (by omega), p 0 (by omega)]; exact I0, ms_u1 rfl, by omega, by rw [u 2 (by omega), p 2 (by omega)]; exact I2, I2', by rw [u 3 (by omega), p 3 (by omega)]; exact I3, by rw [u 4 (by omega), p 4 (by omega)]; exact I4, by rw [u 5 (by omega), p 5 (by omega)]; exact I5, by rw [u 6 (by omega), p 6 (by omega)]; exact I6, fun a ha => ?_, fun a ha => ?_, fun a h1 h2 k hk => ?_, fun e h1 h2 k hk => ?_⟩
            · by_cases q : a = n
              · subst q
                refine ⟨so, le, po, t, po, 1, 0, 1, ?_, by omega, ?_, hle, ?_, hpo, ?_, Nat.le_refl t, ?_, hpo, ?_, by omega, ?_, by omega, e11, by omega, fun q => by omega, fun _ => rfl, fun i hi => by omega, fun i j q1 q2 => by omega, fun j hj => ⟨po, hpo, ?_⟩⟩
                · rw [u _ (by omega), pj 0 (by omega)]; unfold sp_j0; rw [ms_u2 (by omega), ms_u2 (by omega), ms_u2 (by omega), ms_u2 (by omega), ms_u1 rfl]
                · rw [u _ (by omega), pj 1 (by omega)]; unfold sp_j0; rw [ms_u2 (by omega), ms_u2 (by omega), ms_u2 (by omega), ms_u1 rfl]
                · rw [u _ (by omega), pj 2 (by omega)]; unfold sp_j0; rw [ms_u2 (by omega), ms_u2 (by omega), ms_u1 rfl]
                · rw [u _ (by omega), pj 3 (by omega)]; unfold sp_j0; rw [ms_u2 (by omega), ms_u1 rfl]; exact I0
                · rw [u _ (by omega)]; exact sp_bs_4
                · rw [u _ (by omega)]
                  unfold sp_j1
                  rw [sp_bs_o (by omega) (by omega) (by omega) (by omega)]
                  unfold sp_j0
                  rw [ms_u1 rfl]
                · rw [u _ (by omega), p5 6 (by omega) (by omega) (by omega)]
                · have j0 : j = 0 := by omega
                  subst j0
                  rw [u _ (by omega)]
                  exact (sp_bs_st (σ := sp_j0 σ a (nI so) (nI le) (nI po)) (a := a) (c := 0) (j := 0) (lf := nI po) (by omega) (by decide)).1
              · exact ms_SI_cg (I7 a ha) (fun k hk => by rw [u _ (by omega), p _ (by omega)])
            · by_cases q : a = n
              · subst q; exact ⟨1, by omega, by omega, e11⟩
              · rw [u _ (by omega), p _ (by omega)]; exact I8 a (by omega)
            · rw [u _ (by omega), p _ (by omega)]; exact I9 a (by omega) h2 k hk
            · rw [u _ (by omega), p _ (by omega)]; exact I10 e h1 h2 k hk
          · rw [cs_p0]
            unfold f_X6_join
            rw [hn, ms_nm, ms_gi hn8 (by omega), nI_clamp (show n < 2 ^ 31 by omega), ms_nm, R0, e', ms_b1, f'.2 w (by omega), hn]
            simp only [ms_nm, nI_1, ms_b2]
