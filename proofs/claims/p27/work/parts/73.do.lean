/-! the calls that act, with what they leave -/
theorem cs_a0 (M : ce_M) (w : Nat) (x y z : Int32) : f_X6_against w M 0 x y z = f_X6_againstJoining w M x y z := by
  unfold f_X6_against
  rw [if_pos rfl, ms_b1s]
theorem cs_a1 (M : ce_M) (w : Nat) (x y z : Int32) : f_X6_against w M 1 x y z = f_X6_againstMoving w M x y := by
  unfold f_X6_against
  rw [if_neg (by decide), if_pos rfl, ms_b1s]
theorem cs_a2 (M : ce_M) (w : Nat) (x y z : Int32) : f_X6_against w M 2 x y z = f_X6_againstLeaving w M x := by
  unfold f_X6_against
  rw [if_neg (by decide), if_neg (by decide), if_pos rfl, ms_b1s]
theorem cs_a3 (M : ce_M) (w : Nat) (x y z : Int32) : f_X6_against w M 3 x y z = f_X6_againstPublishing w M x y 0 := by
  unfold f_X6_against
  rw [if_neg (by decide), if_neg (by decide), if_neg (by decide), if_pos rfl, ms_b1s]
theorem cs_a4 (M : ce_M) (w : Nat) (x y z : Int32) : f_X6_against w M 4 x y z = f_X6_againstPublishing w M x y z := by
  unfold f_X6_against
  rw [if_neg (by decide), if_neg (by decide), if_neg (by decide), if_neg (by decide), if_pos rfl, ms_b1s]
theorem cs_a5 (M : ce_M) (w : Nat) (x y z : Int32) : f_X6_against w M 5 x y z = f_X6_againstSetting w M x y := by
  unfold f_X6_against
  rw [if_neg (by decide), if_neg (by decide), if_neg (by decide), if_neg (by decide), if_neg (by decide), if_pos rfl, ms_b1s]
theorem cs_a6 (M : ce_M) (w : Nat) (x y z : Int32) : f_X6_against w M 6 x y z = f_X6_againstPassing w M x := by
  unfold f_X6_against
  rw [if_neg (by decide), if_neg (by decide), if_neg (by decide), if_neg (by decide), if_neg (by decide), if_neg (by decide), if_pos rfl, ms_b1s]
theorem cs_a7 (M : ce_M) (w : Nat) (x y z : Int32) : f_X6_against w M 7 x y z = f_X6_againstRelevelling w M x y := by
  unfold f_X6_against
  rw [if_neg (by decide), if_neg (by decide), if_neg (by decide), if_neg (by decide), if_neg (by decide), if_neg (by decide), if_neg (by decide), if_pos rfl, ms_b1s]
theorem q_exact {T : Nat} {M : ce_M} {w : Nat} {σ : Nat → Int32} {C : Option Int32} {P : Option (ce_M × Int32)} {G : ce_M → Option (ce_M × Int32)} {cd : Int32 → Int32 → Prop} {r0 : Int32} {τ0 : Nat → Int32} (h : ms_OK T M w σ C P G cd) (hG : G (ms_S M σ) = some (ms_S (ce_wr M 414 5 r0) τ0, 0)) (hcd : ∀ ca cm, cd ca cm → cm ≠ 0) : C = some 0 ∧ ∃ M', P = some (M', r0) ∧ ms_WR M' w τ0 ∧ ms_fr w (w + 68) M M' ∧ ms_IT T τ0 := by
  rcases h with ⟨ca, cm, h1, h2, h3⟩ | ⟨h2, τ, r, M', hT, hP, hW, hf, hg⟩
  · have q := (h3 M).symm.trans hG
    exact absurd (congrArg Prod.snd (Option.some.inj q)) (hcd ca cm h1)
  · obtain ⟨M2, g1, g2, g3, g4, g5⟩ := hg M
    have q := congrArg Prod.fst (Option.some.inj (g1.symm.trans hG))
    have q : ms_S M2 τ = ms_S (ce_wr M 414 5 r0) τ0 := q
    have e1 : τ = τ0 := funext fun j => by
      have := congrArg (fun N => ce_rd N 415 j) q
      rw [ms_rd, ms_rd] at this
      exact this
    have e2 : r = r0 := by
      have := congrArg (fun N => ce_rd N 414 5) q
      rw [ms_rd' _ _ (by omega), ms_rd' _ _ (by omega), g4, ms_rw1 rfl rfl] at this
      exact this
    subst e1; subst e2
    exact ⟨h2, M', hP, hW, hf, hT⟩
theorem q_refuse {T : Nat} {M : ce_M} {w : Nat} {σ : Nat → Int32} {C : Option Int32} {P : Option (ce_M × Int32)} {G : ce_M → Option (ce_M × Int32)} {cd : Int32 → Int32 → Prop} {N : ce_M} {cm0 : Int32} (h : ms_OK T M w σ C P G cd) (hG : G (ms_S M σ) = some (N, cm0)) (h0 : cm0 ≠ 0) : ∃ ca, cd ca cm0 ∧ C = some ca := by
  rcases h with ⟨ca, cm, h1, h2, h3⟩ | ⟨h2, τ, r, M', hT, hP, hW, hf, hg⟩
  · have q := congrArg Prod.snd (Option.some.inj ((h3 M).symm.trans hG))
    have q : cm = cm0 := q
    exact ⟨ca, q ▸ h1, h2⟩
  · obtain ⟨M2, g1, _⟩ := hg M
    exact absurd (congrArg Prod.snd (Option.some.inj (g1.symm.trans hG))).symm h0
theorem ms_goes_v (Mm : ce_M) {σ : Nat → Int32} {n a l so th po : Nat} (I1 : σ 1 = nI n) (I1' : n ≤ 8) (ha : a < n) (hl : l < 16) (i5 : σ (24 + 54 * a + 5) = nI th) (i0 : σ (24 + 54 * a + 0) = nI so) (i2 : σ (24 + 54 * a + 2) = nI po) : f_X8_goes 414 (ms_S Mm σ) (nI a) (nI l) = if nI th = nI 0 then some (ms_S Mm σ, 2) else if nI so = nI 2 then some (ms_S Mm σ, 2) else if nI po = nI l then some (ms_S Mm σ, 2) else some (ms_S (ce_wr Mm 414 5 (nI po)) (sp_go σ a (nI l)), 0) := by
  have ha8 : a < 8 := by omega
  unfold f_X8_goes
  rw [ms_one_y Mm I1 I1' ha, ms_b1, if_neg (by decide), ms_leaf_y _ hl, ms_b1, if_neg (by decide)]
  simp only [ms_lit, ms_of Mm σ ha8 (show 5 < 54 by omega), ms_of Mm σ ha8 (show 0 < 54 by omega), ms_of Mm σ ha8 (show 2 < 54 by omega), ms_b1, i5, i0, i2, ms_wr' Mm σ (show (414 : Nat) ≠ 415 by omega), ms_put _ _ ha8 (show 2 < 54 by omega), ms_put _ _ ha8 (show 3 < 54 by omega), ms_gi (show 0 < 816 by omega) (show 816 < 2 ^ 31 by omega), nI_clamp (show 0 < 2 ^ 31 by omega), ms_rd1, ms_nm]
  rw [ms_u2 (show 0 ≠ 24 + 54 * a + 2 by omega)]
  rfl
theorem q_L {M M' : ce_M} {A : Option (ce_M × Int32 × Nat)} {r : Int32} {tc : Nat} {F : ce_M → Int32 → Nat → Option (ce_M × Int32)} (h : A = some (M', r, tc)) : ce_b3 A F = F M' r tc := by rw [h]; rfl
theorem q_go {M : ce_M} {σ : Nat → Int32} {ps : List (Nat → Int32)} {t n en : Nat} (hS : q_S M σ ps) (hI : ms_IN σ t n en) (ht : t ≤ 9999) {a l so th po : Nat} (ha : a < n) (hl : l < 16) (i5 : σ (24 + 54 * a + 5) = nI th) (i0 : σ (24 + 54 * a + 0) = nI so) (i2 : σ (24 + 54 * a + 2) = nI po) (c1 : nI th ≠ nI 0) (c2 : nI so ≠ nI 2) (c3 : nI po ≠ nI l) : ∃ M', f_L_goes M 0 (nI a) (nI l) = some (M', nI po) ∧ q_S M' (sp_go σ a (nI l)) ((σ :: ps).take 4) ∧ ms_IT 9999 (sp_go σ a (nI l)) := by
  have hG : ∀ N : ce_M, f_X8_goes 414 (ms_S N σ) (nI a) (nI l) = some (ms_S (ce_wr N 414 5 (nI po)) (sp_go σ a (nI l)), 0) := fun N => by
    rw [ms_goes_v N hI.2.1 hI.2.2.1 ha hl i5 i0 i2, if_neg c1, if_neg c2, if_neg c3]
  have hcd : ∀ ca cm : Int32, (ca = 1 ∧ cm = 1) ∨ (ca = 3 ∧ cm = 2) → cm ≠ 0 := fun ca cm q => by
    rcases q with ⟨_, rfl⟩ | ⟨_, rfl⟩ <;> decide
  obtain ⟨e1, M9, _, _, _, e2⟩ := q_exact (act_go hS.1 hI ht (nI a) (nI l) 0) (hG M) hcd
  obtain ⟨M', f1, f2⟩ := q_act_yes (op := 1) (x := nI a) (y := nI l) (z := 0) (r := nI po) (τ := sp_go σ a (nI l)) hS hI ((cs_a1 M 1 _ _ _).trans e1) (fun M1 hW1 => by
    obtain ⟨_, M2, g1, g2, g3, _⟩ := q_exact (act_go hW1 hI ht (nI a) (nI l) 0) (hG M1) hcd
    exact ⟨M2, g1, g2, g3⟩)
  refine ⟨M', ?_, f2, e2⟩
  unfold f_L_goes f_X7_move
  rw [f1]
  rfl
theorem q_go_no {M : ce_M} {σ : Nat → Int32} {ps : List (Nat → Int32)} {t n en : Nat} (hS : q_S M σ ps) (hI : ms_IN σ t n en) (ht : t ≤ 9999) {a l so th po : Nat} (ha : a < n) (hl : l < 16) (i5 : σ (24 + 54 * a + 5) = nI th) (i0 : σ (24 + 54 * a + 0) = nI so) (i2 : σ (24 + 54 * a + 2) = nI po) (c : nI th = nI 0 ∨ nI so = nI 2 ∨ nI po = nI l) : f_L_goes M 0 (nI a) (nI l) = some (M, -900000002) := by
  have hG : f_X8_goes 414 (ms_S M σ) (nI a) (nI l) = some (ms_S M σ, 2) := by
    rw [ms_goes_v M hI.2.1 hI.2.2.1 ha hl i5 i0 i2]
    by_cases c1 : nI th = nI 0
    · rw [if_pos c1]
    · rw [if_neg c1]
      by_cases c2 : nI so = nI 2
      · rw [if_pos c2]
      · rw [if_neg c2, if_pos (c.resolve_left c1 |>.resolve_left c2)]
  obtain ⟨ca, h1, h2⟩ := q_refuse (act_go hS.1 hI ht (nI a) (nI l) 0) hG (by decide)
  have e : ca = 3 := by
    rcases h1 with ⟨_, q⟩ | ⟨q, _⟩
    · exact absurd q (by decide)
    · exact q
  subst e
  unfold f_L_goes f_X7_move
  rw [cs_act_no ((cs_a1 M 1 _ _ _).trans h2) (by decide)]
  rfl
theorem q_quit {M : ce_M} {σ : Nat → Int32} {ps : List (Nat → Int32)} {t n en : Nat} (hS : q_S M σ ps) (hI : ms_IN σ t n en) (ht : t ≤ 9999) {a wz c : Nat} (ha : a < n) (i5 : σ (24 + 54 * a + 5) = nI 1) (i6 : σ (24 + 54 * a + 6) = nI wz) (i11 : σ (24 + 54 * a + 11) = nI c) (hc1 : 1 ≤ c) (hc2 : c ≤ 10) : ∃ M', f_L_quits M 0 (nI a) = some (M', nI wz) ∧ q_S M' (sp_qt σ a wz c) ((σ :: ps).take 4) ∧ ms_IT 9999 (sp_qt σ a wz c) := by
  have hG : ∀ N : ce_M, f_X8_quits 414 (ms_S N σ) (nI a) = some (ms_S (ce_wr N 414 5 (nI wz)) (sp_qt σ a wz c), 0) := fun N => ms_quits N hI.2.1 hI.2.2.1 ha i5 i6 i11 hc1 hc2
  have hcd : ∀ ca cm : Int32, (ca = 1 ∧ cm = 1) ∨ (ca = 3 ∧ cm = 2) → cm ≠ 0 := fun ca cm q => by
    rcases q with ⟨_, rfl⟩ | ⟨_, rfl⟩ <;> decide
  obtain ⟨e1, M9, _, _, _, e2⟩ := q_exact (act_quit hS.1 hI ht (nI a) 0 0) (hG M) hcd
  obtain ⟨M', f1, f2⟩ := q_act_yes (op := 2) (x := nI a) (y := 0) (z := 0) (r := nI wz) (τ := sp_qt σ a wz c) hS hI ((cs_a2 M 1 _ _ _).trans e1) (fun M1 hW1 => by
    obtain ⟨_, M2, g1, g2, g3, _⟩ := q_exact (act_quit hW1 hI ht (nI a) 0 0) (hG M1) hcd
    exact ⟨M2, g1, g2, g3⟩)
  refine ⟨M', ?_, f2, e2⟩
  unfold f_L_quits f_X7_leave
  rw [f1]
  rfl
theorem q_quit_no {M : ce_M} {σ : Nat → Int32} {ps : List (Nat → Int32)} {t n en : Nat} (hS : q_S M σ ps) (hI : ms_IN σ t n en) {a : Nat} (ha : a < n) (i5 : σ (24 + 54 * a + 5) = nI 0) : f_L_quits M 0 (nI a) = some (M, -900000002) := by
  have hn : ce_rd M 1 5 = nI n := hS.1.2.1.trans hI.2.1
  have hn8 : n ≤ 8 := hI.2.2.1
  have r5 : ce_rd M (1 + 2 + (10 + 7 * a)) 7 = nI 0 := ((hS.1.2.2.2.2.2.1 a (by omega)).2.2.2.2.2.1).trans i5
  have h : f_X6_against 1 M 2 (nI a) 0 0 = some 3 := by
    rw [cs_a2]
    unfold f_X6_againstLeaving
    rw [cs_sub_y hn hn8 ha, ms_b1, if_neg (by decide), ms_gi (show a < 8 by omega) (show 8 < 2 ^ 31 by omega), nI_clamp (show a < 2 ^ 31 by omega), ms_nm, r5, if_pos (by decide)]
  unfold f_L_quits f_X7_leave
  rw [cs_act_no h (by decide)]
  rfl
theorem q_set {M : ce_M} {σ : Nat → Int32} {ps : List (Nat → Int32)} {t n en : Nat} (hS : q_S M σ ps) (hI : ms_IN σ t n en) (ht : t ≤ 9999) {j v : Nat} (hj : j < 4) (h1 : sp_lo j ≤ v) (h2 : v ≤ sp_hi j) : ∃ M', f0_L_sets M 0 (nI j) (nI v) = some (M', σ (3 + j)) ∧ q_S M' (upd σ (3 + j) (nI v)) ((σ :: ps).take 4) ∧ ms_IT 9999 (upd σ (3 + j) (nI v)) := by
  have hh : sp_hi j ≤ 20 := by unfold sp_hi; split <;> omega
  have hG : ∀ N : ce_M, f_X8_sets 414 (ms_S N σ) (nI j) (nI v) = some (ms_S (ce_wr N 414 5 (σ (3 + j))) (upd σ (3 + j) (nI v)), 0) := fun N => by
    rw [ms_sets_v N hj, if_neg (nI_nlt h1 (by omega)), if_neg (nI_nlt h2 (by omega))]
  have hcd : ∀ ca cm : Int32, (ca = 2 ∧ cm = 1) → cm ≠ 0 := fun ca cm q => by
    rcases q with ⟨_, rfl⟩; decide
  obtain ⟨e1, M9, _, _, _, e2⟩ := q_exact (act_set hS.1 hI ht (nI j) (nI v) 0) (hG M) hcd
  obtain ⟨M', f1, f2⟩ := q_act_yes (op := 5) (x := nI j) (y := nI v) (z := 0) (r := σ (3 + j)) (τ := upd σ (3 + j) (nI v)) hS hI ((cs_a5 M 1 _ _ _).trans e1) (fun M1 hW1 => by
    obtain ⟨_, M2, g1, g2, g3, _⟩ := q_exact (act_set hW1 hI ht (nI j) (nI v) 0) (hG M1) hcd
    exact ⟨M2, g1, g2, g3⟩)
  refine ⟨M', ?_, f2, e2⟩
  unfold f0_L_sets f_X7_set
  rw [f1]
  rfl
theorem q_join {M : ce_M} {σ : Nat → Int32} {ps : List (Nat → Int32)} {t n en : Nat} (hS : q_S M σ ps) (hI : ms_IN σ t n en) (ht : t ≤ 9999) {so le po : Nat} (hn : n < 8) (hso : so < 3) (hle : le < 3) (hpo : po < 16) : ∃ M', f_X7_act 0 M 0 (nI so) (nI le) (nI po) = some (M', nI n, 0) ∧ q_S M' (upd (sp_j1 σ n (nI so) (nI le) (nI po)) 1 (nI (n + 1))) ((σ :: ps).take 4) ∧ ms_IT 9999 (upd (sp_j1 σ n (nI so) (nI le) (nI po)) 1 (nI (n + 1))) := by
  have hG : ∀ N : ce_M, f_X8_subscribes 414 (ms_S N σ) (nI so) (nI le) (nI po) = some (ms_S (ce_wr N 414 5 (nI n)) (upd (sp_j1 σ n (nI so) (nI le) (nI po)) 1 (nI (n + 1))), 0) := fun N => ms_subs_v N hI.2.1 hn (fun k hk => hI.2.2.2.2.2.2.2.2.2.2.2.1 n (Nat.le_refl _) hn k hk) hso hle hpo
  have hcd : ∀ ca cm : Int32, (ca = 1 ∧ cm = 1) ∨ (ca = 2 ∧ cm = 2) ∨ (ca = 3 ∧ cm = 3) → cm ≠ 0 := fun ca cm q => by
    rcases q with ⟨_, rfl⟩ | ⟨_, rfl⟩ | ⟨_, rfl⟩ <;> decide
  obtain ⟨e1, M9, _, _, _, e2⟩ := q_exact (act_join hS.1 hI ht (nI so) (nI le) (nI po)) (hG M) hcd
  obtain ⟨M', f1, f2⟩ := q_act_yes (op := 0) (x := nI so) (y := nI le) (z := nI po) (r := nI n) (τ := upd (sp_j1 σ n (nI so) (nI le) (nI po)) 1 (nI (n + 1))) hS hI ((cs_a0 M 1 _ _ _).trans e1) (fun M1 hW1 => by
    obtain ⟨_, M2, g1, g2, g3, _⟩ := q_exact (act_join hW1 hI ht (nI so) (nI le) (nI po)) (hG M1) hcd
    exact ⟨M2, g1, g2, g3⟩)
  exact ⟨M', f1, f2, e2⟩
theorem q_join_no {M : ce_M} {σ : Nat → Int32} {ps : List (Nat → Int32)} {t en : Nat} (hS : q_S M σ ps) (hI : ms_IN σ t 8 en) {so le po : Nat} (hso : so < 3) (hle : le < 3) (hpo : po < 16) : f_L_joins M 0 (nI so) (nI le) (nI po) = some (M, -900000002) := by
  have hn : ce_rd M 1 5 = nI 8 := hS.1.2.1.trans hI.2.1
  have h : f_X6_against 1 M 0 (nI so) (nI le) (nI po) = some 3 := by
    rw [cs_a0]
    unfold f_X6_againstJoining
    rw [show f_X7_isBelow M (nI po) 16 = some 1 from cs_below_y (n := 16) M hpo (by omega), ms_b1, if_neg (by decide), show f_X7_isBelow M (nI so) 3 = some 1 from cs_below_y (n := 3) M hso (by omega), ms_b1, if_neg (by decide), show f_X7_isBelow M (nI le) 3 = some 1 from cs_below_y (n := 3) M hle (by omega), ms_b1, if_neg (by decide), hn, if_pos (by decide)]
  unfold f_L_joins f_X7_subscribe
  rw [cs_act_no h (by decide)]
  rfl
theorem q_pub {M : ce_M} {σ : Nat → Int32} {ps : List (Nat → Int32)} {t n en : Nat} (hS : q_S M σ ps) (hI : ms_IN σ t n en) (ht : t ≤ 9999) {l v d : Nat} (hl : l < 16) (hv : v < 3) (hd : d < 2 ^ 31) (hen : en < 60) (htl : sp_tl σ (nI d) = nI 0) : ∃ M', f_L_sends M 0 (nI l) (nI v) (nI d) = some (M', nI en) ∧ q_S M' (sp_arr (sp_pb σ en (nI l) (nI v) (nI d) (sp_rb σ l v (σ 0 - nI d) n)) (sp_rb σ l v (σ 0 - nI d) n) (nI en) n) ((σ :: ps).take 4) ∧ ms_IT 9999 (sp_arr (sp_pb σ en (nI l) (nI v) (nI d) (sp_rb σ l v (σ 0 - nI d) n)) (sp_rb σ l v (σ 0 - nI d) n) (nI en) n) := by
  have hG := fun N : ce_M => ms_pubs_v N hI hl hv (nI_pos' hd) hen htl
  have hcd : ∀ ca cm : Int32, (ca = 1 ∧ cm = 1) ∨ (ca = 2 ∧ cm = 2) ∨ (ca = 3 ∧ cm = 3) → cm ≠ 0 := fun ca cm q => by
    rcases q with ⟨_, rfl⟩ | ⟨_, rfl⟩ | ⟨_, rfl⟩ <;> decide
  have hp : ∀ N : ce_M, f_X6_perform 1 N 4 (nI l) (nI v) (nI d) = f_X6_publishEvent 1 N (nI l) (nI v) (nI d) := fun N => (cs_p4 1 N _ _ _).trans (ms_b2s _)
  obtain ⟨e1, M9, _, _, _, e2⟩ := q_exact (act_pub hS.1 hI ht (nI l) (nI v) (nI d)) (hG M) hcd
  obtain ⟨M', f1, f2⟩ := q_act_yes (op := 4) (x := nI l) (y := nI v) (z := nI d) (r := nI en) (τ := sp_arr (sp_pb σ en (nI l) (nI v) (nI d) (sp_rb σ l v (σ 0 - nI d) n)) (sp_rb σ l v (σ 0 - nI d) n) (nI en) n) hS hI ((cs_a4 M 1 _ _ _).trans e1) (fun M1 hW1 => by
    obtain ⟨_, M2, g1, g2, g3, _⟩ := q_exact (act_pub hW1 hI ht (nI l) (nI v) (nI d)) (hG M1) hcd
    exact ⟨M2, (hp M1).trans g1, g2, g3⟩)
  refine ⟨M', ?_, f2, e2⟩
  unfold f_L_sends f_X7_publish
  rw [f1]
  rfl
theorem q_pub_no {M : ce_M} {σ : Nat → Int32} {ps : List (Nat → Int32)} {t n en : Nat} (hS : q_S M σ ps) (hI : ms_IN σ t n en) {l v d : Nat} (hl : l < 16) (hv : v < 3) (hd : d < 2 ^ 31) (h : en = 60 ∨ ¬ sp_tl σ (nI d) = 0) : f_L_sends M 0 (nI l) (nI v) (nI d) = some (M, -900000002) := by
  have hn : ce_rd M (1 + 3) 6 = nI en := hS.1.2.2.1.trans hI.2.2.2.1
  have h9 : f_X6_against 1 M 4 (nI l) (nI v) (nI d) = some 3 := by
    rw [cs_a4]
    unfold f_X6_againstPublishing
    rw [show f_X7_isBelow M (nI l) 16 = some 1 from cs_below_y (n := 16) M hl (by omega), ms_b1, if_neg (by decide), show f_X7_isBelow M (nI v) 3 = some 1 from cs_below_y (n := 3) M hv (by omega), ms_b1, if_neg (by decide), if_pos (nI_pos' hd), hn]
    by_cases c : en = 60
    · subst c
      rw [if_pos (by decide)]
    · have h60 : en ≤ 60 := hI.2.2.2.2.1
      rw [if_neg (show ¬ (60 : Int32) ≤ nI en from nI_ge (b := 60) (by omega) (by omega)), show f_X6_isTooLate 1 M (nI d) = some (sp_tl σ (nI d)) from cs_tooLate hS.1 _, ms_b1, if_neg (h.resolve_left c)]
  unfold f_L_sends f_X7_publish
  rw [cs_act_no h9 (by decide)]
  rfl
theorem q_pass {M : ce_M} {σ : Nat → Int32} {ps : List (Nat → Int32)} {t n en k : Nat} (hS : q_S M σ ps) (hI : ms_IN σ t n en) (hk0 : 1 ≤ k) (hk : k ≤ 50) (ht : t + k ≤ 9999) : ∃ M', f0_L_passes M 0 (nI k) = some (M', (sp_ps σ n k).2) ∧ q_S M' (sp_ps σ n k).1 ((σ :: ps).take 4) := by
  have h0 : ce_rd M 1 6 = nI t := hS.1.1.trans hI.1
  have hC : f_X6_against 1 M 6 (nI k) 0 0 = some 0 := by
    rw [cs_a6]
    unfold f_X6_againstPassing
    rw [if_neg (show ¬ nI k < 1 from nI_nlt (b := 1) hk0 (by omega)), if_pos (show nI k ≤ 50 from nI_le (b := 50) hk (by omega)), h0, nI_add, if_neg (show ¬ (9999 : Int32) < nI (t + k) from nI_nlt (a := 9999) ht (by omega))]
  obtain ⟨M', f1, f2⟩ := q_act_yes (op := 6) (x := nI k) (y := 0) (z := 0) (r := (sp_ps σ n k).2) (τ := (sp_ps σ n k).1) hS hI hC (fun M1 hW1 => by
    obtain ⟨M2, g1, g2, g3⟩ := cs_passTicks hW1 hI hk
    exact ⟨M2, by rw [cs_p6, g1]; rfl, g2, g3⟩)
  refine ⟨M', ?_, f2⟩
  unfold f0_L_passes f_X7_pass
  rw [f1]
  rfl
theorem q_rel {M : ce_M} {σ : Nat → Int32} {ps : List (Nat → Int32)} {t n en : Nat} (hS : q_S M σ ps) (hI : ms_IN σ t n en) {a l : Nat} (ha : a < n) (hl : l < 3) : ∃ M', f0_L_levels M 0 (nI a) (nI l) = some (M', σ (24 + 54 * a + 1)) ∧ q_S M' (sp_rl σ a l) ((σ :: ps).take 4) := by
  have hn : ce_rd M 1 5 = nI n := hS.1.2.1.trans hI.2.1
  have hn8 : n ≤ 8 := hI.2.2.1
  have hC : f_X6_against 1 M 7 (nI a) (nI l) 0 = some 0 := by
    rw [cs_a7]
    unfold f_X6_againstRelevelling
    rw [cs_sub_y hn hn8 ha, ms_b1, if_neg (by decide), show f_X7_isBelow M (nI l) 3 = some 1 from cs_below_y (n := 3) M hl (by omega), ms_b1, if_neg (by decide)]
  obtain ⟨M', f1, f2⟩ := q_act_yes (op := 7) (x := nI a) (y := nI l) (z := 0) (r := σ (24 + 54 * a + 1)) (τ := sp_rl σ a l) hS hI hC (fun M1 hW1 => cs_rel hW1 hI ha 0)
  refine ⟨M', ?_, f2⟩
  unfold f0_L_levels f_X7_setLevel
  rw [f1]
  rfl
theorem q_back {M : ce_M} {σ τ : Nat → Int32} {ps : List (Nat → Int32)} (hS : q_S M σ (τ :: ps)) : ∃ M', f0_L_back M 0 = some (M', nI ps.length) ∧ q_S M' τ ps := by
  obtain ⟨M', f1, f2⟩ := q_undo hS
  refine ⟨M', ?_, f2⟩
  unfold f0_L_back
  rw [f1]
  rfl
