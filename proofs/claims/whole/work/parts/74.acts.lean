/-! the acts of the law -/
def LW (Lf Rf : ce_M → Option (ce_M × Int32)) : Prop := ∀ M, GI M → ∃ M2 c M3 r, Lf M = some (M2, c) ∧ Rf M2 = some (M3, r) ∧ ce_rd M3 414 4 = c ∧ (c = 0 → ce_rl M3 1 = Int32.toInt64 r) ∧ GI M3
theorem ms_b1s {α : Type} (o : Option α) : ce_b1 o (fun x => some x) = o := by cases o <;> rfl
theorem ms_b2s {α β : Type} (o : Option (α × β)) : ce_b2 o (fun x y => some (x, y)) = o := by cases o <;> rfl
theorem cs_a0 (M : ce_M) (w : Nat) (x y z : Int32) : f_X6_against w M 0 x y z = f_X6_againstJoining w M x y z := by
  unfold f_X6_against
  rw [if_pos rfl, ms_b1s]
theorem cs_a1 (M : ce_M) (w : Nat) (x y z : Int32) : f_X6_against w M 1 x y z = f_X6_againstMoving w M x y := by
  unfold f_X6_against
  rw [if_neg (by decide), if_pos rfl, ms_b1s]
theorem cs_a2 (M : ce_M) (w : Nat) (x y z : Int32) : f_X6_against w M 2 x y z = f_X6_againstLeaving w M x := by
  unfold f_X6_against
  rw [if_neg (by decide), if_neg (by decide), if_pos rfl, ms_b1s]
theorem cs_a3 (M : ce_M) (w : Nat) (x y z : Int32) : f_X6_against w M 3 x y z = f_X6_againstPublishing w M x y 0 := by
  unfold f_X6_against
  rw [if_neg (by decide), if_neg (by decide), if_neg (by decide), if_pos rfl, ms_b1s]
theorem cs_a4 (M : ce_M) (w : Nat) (x y z : Int32) : f_X6_against w M 4 x y z = f_X6_againstPublishing w M x y z := by
  unfold f_X6_against
  rw [if_neg (by decide), if_neg (by decide), if_neg (by decide), if_neg (by decide), if_pos rfl, ms_b1s]
theorem cs_a5 (M : ce_M) (w : Nat) (x y z : Int32) : f_X6_against w M 5 x y z = f_X6_againstSetting w M x y := by
  unfold f_X6_against
  rw [if_neg (by decide), if_neg (by decide), if_neg (by decide), if_neg (by decide), if_neg (by decide), if_pos rfl, ms_b1s]
theorem cs_a6 (M : ce_M) (w : Nat) (x y z : Int32) : f_X6_against w M 6 x y z = f_X6_againstPassing w M x := by
  unfold f_X6_against
  rw [if_neg (by decide), if_neg (by decide), if_neg (by decide), if_neg (by decide), if_neg (by decide), if_neg (by decide), if_pos rfl, ms_b1s]
theorem cs_a7 (M : ce_M) (w : Nat) (x y z : Int32) : f_X6_against w M 7 x y z = f_X6_againstRelevelling w M x y := by
  unfold f_X6_against
  rw [if_neg (by decide), if_neg (by decide), if_neg (by decide), if_neg (by decide), if_neg (by decide), if_neg (by decide), if_neg (by decide), if_pos rfl, ms_b1s]
theorem LW_of {op x y z : Int32} {G : ce_M → Option (ce_M × Int32)} {cd : Int32 → Int32 → Prop} (hOK : ∀ (M : ce_M) (σ : Nat → Int32) (t n en : Nat), ms_WR M 1 σ → ms_IN σ t n en → t ≤ 9999 → ms_OK 9999 M 1 σ (f_X6_against 1 M op x y z) (f_X6_perform 1 M op x y z) G cd) (hcd : ∀ ca cm, cd ca cm → ms_c ca cm) {Lf Rf : ce_M → Option (ce_M × Int32)} (hR : ∀ M, Rf M = ms_E G M) (h1 : ∀ M M1 r, f_X7_act 0 M op x y z = some (M1, r, 0) → Lf M = some (ce_wl M1 1 (Int32.toInt64 r), 0)) (h2 : ∀ M ca cm, cd ca cm → f_X7_act 0 M op x y z = some (M, 0, ca.toNatClampNeg) → Lf M = some (M, cm)) : LW Lf Rf := by
  intro M hG
  rcases act_main hOK hcd hG with ⟨ca, cm, M3, c1, e1, e2, e3, e4⟩ | ⟨M1, r, e1, e2⟩
  · obtain ⟨_, m, m1, m2, rfl⟩ := hcd ca cm c1
    exact ⟨M, nI m, M3, 0, h2 M ca _ c1 e1, (hR M).trans e2, e3, fun q => absurd (ms_nI (a := m) (b := 0) q (by omega) (by omega)) (by omega), e4⟩
  · obtain ⟨M3, e3, e4, e5, e6⟩ := e2 (Int32.toInt64 r)
    exact ⟨_, 0, M3, r, h1 M M1 r e1, (hR _).trans e3, e4, fun _ => e5, e6⟩
theorem LW_subscribe (x y z : Int32) : LW (fun M => f_L_subscribe M 0 x y z 421) (fun M => f_X8_subscribe 414 M x y z) := by
  refine LW_of (op := 0) (x := x) (y := y) (z := z) (G := fun Mm => f_X8_subscribes 414 Mm x y z) (cd := fun ca cm => (ca = 1 ∧ cm = 1) ∨ (ca = 2 ∧ cm = 2) ∨ (ca = 3 ∧ cm = 3)) (fun M σ t n en hR hI ht => by rw [cs_a0]; exact act_join hR hI ht x y z) ?_ (fun M => rfl) (fun M M1 r h => ?_) (fun M ca cm hc h => ?_)
  · rintro ca cm (⟨rfl, rfl⟩ | ⟨rfl, rfl⟩ | ⟨rfl, rfl⟩)
    · exact ⟨Or.inl rfl, 1, by omega, by omega, rfl⟩
    · exact ⟨Or.inr (Or.inl rfl), 2, by omega, by omega, rfl⟩
    · exact ⟨Or.inr (Or.inr rfl), 3, by omega, by omega, rfl⟩
  · show f_L_subscribe M 0 x y z 421 = _
    unfold f_L_subscribe f_X7_subscribe
    rw [h]; rfl
  · show f_L_subscribe M 0 x y z 421 = _
    unfold f_L_subscribe f_X7_subscribe
    rw [h]
    rcases hc with ⟨rfl, rfl⟩ | ⟨rfl, rfl⟩ | ⟨rfl, rfl⟩ <;> rfl
theorem LW_move (x y : Int32) : LW (fun M => f_L_move M 0 x y 421) (fun M => f_X8_move 414 M x y) := by
  refine LW_of (op := 1) (x := x) (y := y) (z := 0) (G := fun Mm => f_X8_goes 414 Mm x y) (cd := fun ca cm => (ca = 1 ∧ cm = 1) ∨ (ca = 3 ∧ cm = 2)) (fun M σ t n en hR hI ht => by rw [cs_a1]; exact act_go hR hI ht x y 0) ?_ (fun M => rfl) (fun M M1 r h => ?_) (fun M ca cm hc h => ?_)
  · rintro ca cm (⟨rfl, rfl⟩ | ⟨rfl, rfl⟩)
    · exact ⟨Or.inl rfl, 1, by omega, by omega, rfl⟩
    · exact ⟨Or.inr (Or.inr rfl), 2, by omega, by omega, rfl⟩
  · show f_L_move M 0 x y 421 = _
    unfold f_L_move f_X7_move
    rw [h]; rfl
  · show f_L_move M 0 x y 421 = _
    unfold f_L_move f_X7_move
    rw [h]
    rcases hc with ⟨rfl, rfl⟩ | ⟨rfl, rfl⟩ <;> rfl
theorem LW_leave (x : Int32) : LW (fun M => f_L_leave M 0 x 421) (fun M => f_X8_leave 414 M x) := by
  refine LW_of (op := 2) (x := x) (y := 0) (z := 0) (G := fun Mm => f_X8_quits 414 Mm x) (cd := fun ca cm => (ca = 1 ∧ cm = 1) ∨ (ca = 3 ∧ cm = 2)) (fun M σ t n en hR hI ht => by rw [cs_a2]; exact act_quit hR hI ht x 0 0) ?_ (fun M => rfl) (fun M M1 r h => ?_) (fun M ca cm hc h => ?_)
  · rintro ca cm (⟨rfl, rfl⟩ | ⟨rfl, rfl⟩)
    · exact ⟨Or.inl rfl, 1, by omega, by omega, rfl⟩
    · exact ⟨Or.inr (Or.inr rfl), 2, by omega, by omega, rfl⟩
  · show f_L_leave M 0 x 421 = _
    unfold f_L_leave f_X7_leave
    rw [h]; rfl
  · show f_L_leave M 0 x 421 = _
    unfold f_L_leave f_X7_leave
    rw [h]
    rcases hc with ⟨rfl, rfl⟩ | ⟨rfl, rfl⟩ <;> rfl
theorem LW_set (x y : Int32) : LW (fun M => f_L_set M 0 x y 421) (fun M => f_X8_set 414 M x y) := by
  refine LW_of (op := 5) (x := x) (y := y) (z := 0) (G := fun Mm => f_X8_sets 414 Mm x y) (cd := fun ca cm => ca = 2 ∧ cm = 1) (fun M σ t n en hR hI ht => by rw [cs_a5]; exact act_set hR hI ht x y 0) ?_ (fun M => rfl) (fun M M1 r h => ?_) (fun M ca cm hc h => ?_)
  · rintro ca cm ⟨rfl, rfl⟩
    exact ⟨Or.inr (Or.inl rfl), 1, by omega, by omega, rfl⟩
  · show f_L_set M 0 x y 421 = _
    unfold f_L_set f_X7_set
    rw [h]; rfl
  · show f_L_set M 0 x y 421 = _
    unfold f_L_set f_X7_set
    rw [h]
    rcases hc with ⟨rfl, rfl⟩
    rfl
theorem LW_publish (x y z : Int32) : LW (fun M => f_L_publish M 0 x y z 421) (fun M => f_X8_publish 414 M x y z) := by
  refine LW_of (op := 4) (x := x) (y := y) (z := z) (G := fun Mm => f_X8_publishes 414 Mm x y z) (cd := fun ca cm => (ca = 1 ∧ cm = 1) ∨ (ca = 2 ∧ cm = 2) ∨ (ca = 3 ∧ cm = 3)) (fun M σ t n en hR hI ht => by rw [cs_a4, cs_p4, ms_b2s]; exact act_pub hR hI ht x y z) ?_ (fun M => rfl) (fun M M1 r h => ?_) (fun M ca cm hc h => ?_)
  · rintro ca cm (⟨rfl, rfl⟩ | ⟨rfl, rfl⟩ | ⟨rfl, rfl⟩)
    · exact ⟨Or.inl rfl, 1, by omega, by omega, rfl⟩
    · exact ⟨Or.inr (Or.inl rfl), 2, by omega, by omega, rfl⟩
    · exact ⟨Or.inr (Or.inr rfl), 3, by omega, by omega, rfl⟩
  · show f_L_publish M 0 x y z 421 = _
    unfold f_L_publish f_X7_publish
    rw [h]; rfl
  · show f_L_publish M 0 x y z 421 = _
    unfold f_L_publish f_X7_publish
    rw [h]
    rcases hc with ⟨rfl, rfl⟩ | ⟨rfl, rfl⟩ | ⟨rfl, rfl⟩ <;> rfl
theorem LW_pass (x : Int32) : LW (fun M => f_L_pass M 0 x 421) (fun M => f_X8_pass 414 M x) := by
  refine LW_of (op := 6) (x := x) (y := 0) (z := 0) (G := fun Mm => f_X8_passes 414 Mm x) (cd := fun ca cm => (ca = 2 ∧ cm = 1) ∨ (ca = 3 ∧ cm = 2)) (fun M σ t n en hR hI ht => by rw [cs_a6]; exact act_pass hR hI ht x 0 0) ?_ (fun M => rfl) (fun M M1 r h => ?_) (fun M ca cm hc h => ?_)
  · rintro ca cm (⟨rfl, rfl⟩ | ⟨rfl, rfl⟩)
    · exact ⟨Or.inr (Or.inl rfl), 1, by omega, by omega, rfl⟩
    · exact ⟨Or.inr (Or.inr rfl), 2, by omega, by omega, rfl⟩
  · show f_L_pass M 0 x 421 = _
    unfold f_L_pass f_X7_pass
    rw [h]; rfl
  · show f_L_pass M 0 x 421 = _
    unfold f_L_pass f_X7_pass
    rw [h]
    rcases hc with ⟨rfl, rfl⟩ | ⟨rfl, rfl⟩ <;> rfl
theorem LW_setLevel (x y : Int32) : LW (fun M => f_L_setLevel M 0 x y 421) (fun M => f_X8_setLevel 414 M x y) := by
  intro M hG
  have hG0 := hG
  obtain ⟨⟨hW, t, n, en, ht, hI⟩, ⟨c, nx, hU⟩, len, hGT⟩ := hG
  have hU0 := hU
  obtain ⟨a1, a2, a3, a4, a5, a6⟩ := hU
  have hn : ce_rd M 1 5 = nI n := hW.2.1.trans hI.2.1
  have hs : ∀ N : ce_M, ce_rd N 415 = ce_rd M 415 → N = ms_S N (ce_rd M 415) := fun N h => by
    have q := (ms_S_self N).symm
    rw [h] at q
    exact q
  rcases cs_rel0 (M := M) (w := 1) (x := x) (y := y) hn hI.2.2.1 with ⟨h1, h2⟩ | ⟨⟨a, ha, rfl⟩, ⟨h1, h2⟩ | ⟨h1, l, hl, rfl⟩⟩
  · refine ⟨M, 1, ce_wr M 414 4 1, 0, ?_, ?_, ms_ww, fun q => absurd q (by decide), GI_m hG0 _ (by omega) (by omega)⟩
    · show f_L_setLevel M 0 x y 421 = _
      unfold f_L_setLevel f_X7_setLevel
      rw [cs_act_no ((cs_a7 M 1 x y 0).trans h1) (Or.inl rfl)]; rfl
    · show f_X8_setLevel 414 M x y = _
      unfold f_X8_setLevel
      rw [show f_X8_isOne 414 M x = some 0 from by rw [hs M rfl]; exact ms_one_n _ hI.2.1 hI.2.2.1 h2]; rfl
  · refine ⟨M, 2, ce_wr M 414 4 2, 0, ?_, ?_, ms_ww, fun q => absurd q (by decide), GI_m hG0 _ (by omega) (by omega)⟩
    · show f_L_setLevel M 0 (nI a) y 421 = _
      unfold f_L_setLevel f_X7_setLevel
      rw [cs_act_no ((cs_a7 M 1 (nI a) y 0).trans h1) (Or.inr (Or.inl rfl))]; rfl
    · show f_X8_setLevel 414 M (nI a) y = _
      unfold f_X8_setLevel
      rw [show f_X8_isOne 414 M (nI a) = some 1 from by rw [hs M rfl]; exact ms_one_y _ hI.2.1 hI.2.2.1 ha, ms_b1, if_neg (by decide), ms_level_n _ h2]; rfl
  · have ha8 : a < 8 := by have := hI.2.2.1; omega
    obtain ⟨M1, k1, k0, k2, k3, k4, k5⟩ := cs_keep hW hI a1 a2 a4 a5
    have hW1 : ms_WR M1 1 (ce_rd M 415) := ms_WR_al hW (fun q q1 q2 => k3 q (by omega) (by omega))
    obtain ⟨M2, p1, p2, p3⟩ := cs_rel (l := l) hW1 hI ha 0
    have hact := cs_act_yes ((cs_a7 M 1 (nI a) (nI l) 0).trans h1) k1 p1
    have f0 : ce_rd M2 415 = ce_rd M 415 := (p3.2 415 (by omega)).trans (k3 415 (by omega) (by omega))
    generalize hN : ce_wl M2 1 (Int32.toInt64 (ce_rd M 415 (24 + 54 * a + 1))) = N
    have n415 : ce_rd N 415 = ce_rd M 415 := by rw [← hN]; exact f0
    obtain ⟨M3, e1, e2, e3, e4⟩ := ms_yes0 (M5 := ce_cp N 415 417 816) (r := ce_rd M 415 (24 + 54 * a + 1)) hG0 hU0 hI ht k2 k3 k4 k5 ⟨t, n, en, ht, ms_IN_rl hI ha hl⟩ p2 p3 hN rfl (fun _ _ _ => rfl) (fun _ _ => rfl)
    refine ⟨N, 0, M3, ce_rd M 415 (24 + 54 * a + 1), ?_, ?_, e2, fun _ => e3, e4⟩
    · show f_L_setLevel M 0 (nI a) (nI l) 421 = _
      unfold f_L_setLevel f_X7_setLevel
      rw [hact, ← hN]; rfl
    · show f_X8_setLevel 414 N (nI a) (nI l) = _
      unfold f_X8_setLevel
      have c1 : f_X8_isOne 414 N (nI a) = some 1 := by rw [hs N n415]; exact ms_one_y _ hI.2.1 hI.2.2.1 ha
      have c3 : ce_cp N 415 417 816 = ms_S (ce_cp N 415 417 816) (ce_rd M 415) := hs _ ((cp_row (by omega)).trans n415)
      have c2 : f_X8_of 414 (ce_cp N 415 417 816) (nI a) 1 = some (ce_rd M 415 (24 + 54 * a + 1)) := by
        rw [c3]
        exact ms_of (k := 1) _ _ ha8 (by omega)
      have c5 : f_X8_put 414 (ce_cp N 415 417 816) (nI a) 1 (nI l) = some (ms_S (ce_cp N 415 417 816) (sp_rl (ce_rd M 415) a l)) := by
        have q := ms_put (k := 1) (v := nI l) (ce_cp N 415 417 816) (ce_rd M 415) ha8 (by omega)
        rw [← c3] at q
        exact q
      rw [c1, ms_b1, if_neg (by decide), ms_level_y _ hl, ms_b1, if_neg (by decide), ms_lays, ms_b1, c2, ms_b1, c5, ms_b1, e1, ms_b2]
