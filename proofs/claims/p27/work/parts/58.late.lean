/-! publish: what stands against it, and both together -/
theorem sp_bit_d : ∀ n, n < 8 → ∀ m, m < 2 ^ n → ∀ b, b < 8 → sp_bit (nI (m + 2 ^ n)) b = if b = n then nI 1 else sp_bit (nI m) b := by decide +kernel
theorem sp_rb_bit {σ : Nat → Int32} {l v : Nat} {time : Int32} : ∀ n, n ≤ 8 → ∀ b, b < 8 → sp_bit (sp_rb σ l v time n) b = nI 1 → b < n ∧ sp_rc σ b l v time = true := by
  intro n
  induction n with
  | zero =>
    intro _ b hb h
    rw [show sp_rb σ l v time 0 = nI 0 from rfl, sp_bit0 0 b hb] at h
    exact absurd h (by decide)
  | succ n ih =>
    intro hn b hb h
    obtain ⟨m, h1, h2⟩ := sp_rb_v (σ := σ) (l := l) (v := v) (time := time) n (by omega)
    by_cases c : sp_rc σ n l v time = true
    · have e : sp_rb σ l v time (n + 1) = nI (m + 2 ^ n) := by
        show (if sp_rc σ n l v time = true then sp_rb σ l v time n ||| (nI 1 <<< (nI n &&& nI 31)) else sp_rb σ l v time n) = _
        rw [if_pos c, h2, sp_or_d n (by omega) m h1]
      rw [e, sp_bit_d n (by omega) m h1 b hb] at h
      by_cases q : b = n
      · subst q; exact ⟨by omega, c⟩
      · rw [if_neg q, ← h2] at h
        obtain ⟨x1, x2⟩ := ih (by omega) b hb h
        exact ⟨by omega, x2⟩
    · have e : sp_rb σ l v time (n + 1) = sp_rb σ l v time n := if_neg c
      rw [e] at h
      obtain ⟨x1, x2⟩ := ih (by omega) b hb h
      exact ⟨by omega, x2⟩
theorem cs_logadd {M : ce_M} {w en : Nat} (h : ce_rd M (w + 3) 6 = nI en) (hen : en < 60) (a b c d e : Int32) : f_X1_add (w + 3) M a b c d e = some (ce_wr (ce_wr (ce_wr (ce_wr (ce_wr (ce_wr M (w + 3 + 1) en a) (w + 3 + 2) en b) (w + 3 + 3) en c) (w + 3 + 4) en d) (w + 3 + 5) en e) (w + 3) 6 (nI (en + 1)), nI en) := by
  unfold f_X1_add
  have h2 : ∀ x1 x2 x3 x4 x5, ce_rd (ce_wr (ce_wr (ce_wr (ce_wr (ce_wr M (w + 3 + 1) en x1) (w + 3 + 2) en x2) (w + 3 + 3) en x3) (w + 3 + 4) en x4) (w + 3 + 5) en x5) (w + 3) 6 = nI en := fun x1 x2 x3 x4 x5 => by
    rw [ms_row (by omega), ms_row (by omega), ms_row (by omega), ms_row (by omega), ms_row (by omega)]; exact h
  rw [h, if_pos (show nI en < 60 from nI_lt (show en < 60 by omega) (show 60 < 2 ^ 31 by omega))]
  simp only [ms_nm, ms_gi (show en < 60 by omega) (show 60 < 2 ^ 31 by omega), nI_clamp (show en < 2 ^ 31 by omega), h2, nI_1]
theorem act_pub {T t n en w : Nat} {M : ce_M} {σ : Nat → Int32} (hR : ms_WR M w σ) (hI : ms_IN σ t n en) (ht : t ≤ T) (x y z : Int32) : ms_OK T M w σ (f_X6_againstPublishing w M x y z) (f_X6_publishEvent w M x y z) (fun Mm => f_X8_publishes 414 Mm x y z) (fun ca cm => (ca = 1 ∧ cm = 1) ∨ (ca = 2 ∧ cm = 2) ∨ (ca = 3 ∧ cm = 3)) := by
  have hI0 := hI
  have hR0 := hR
  obtain ⟨R0, R1, R2, R3, R4, R5, R6, R7, R8⟩ := hR
  obtain ⟨I0, I1, I1', I2, I2', I3, I4, I5, I6, I7, I8, I9, I10⟩ := hI
  rcases ms_ix x 16 with hx | ⟨l, hl, rfl⟩
  · refine Or.inl ⟨1, 1, Or.inl ⟨rfl, rfl⟩, ?_, fun Mm => ?_⟩
    · unfold f_X6_againstPublishing
      rw [show f_X7_isBelow M x 16 = some 0 from cs_below_n (n := 16) M hx]; rfl
    · show f_X8_publishes 414 (ms_S Mm σ) x y z = _
      unfold f_X8_publishes
      rw [ms_leaf_n _ hx]; rfl
  · have b16 : f_X7_isBelow M (nI l) 16 = some 1 := cs_below_y (n := 16) M hl (by omega)
    rcases ms_ix y 3 with hy | ⟨v, hv, rfl⟩
    · refine Or.inl ⟨2, 2, Or.inr (Or.inl ⟨rfl, rfl⟩), ?_, fun Mm => ?_⟩
      · unfold f_X6_againstPublishing
        rw [b16, ms_b1, if_neg (by decide), show f_X7_isBelow M y 3 = some 0 from cs_below_n (n := 3) M hy]; rfl
      · show f_X8_publishes 414 (ms_S Mm σ) (nI l) y z = _
        unfold f_X8_publishes
        rw [ms_leaf_y _ hl, ms_b1, if_neg (by decide), ms_level_n _ hy]; rfl
    · have b3 : f_X7_isBelow M (nI v) 3 = some 1 := cs_below_y (n := 3) M hv (by omega)
      by_cases hz : 0 ≤ z
      · have eC : f_X6_againstPublishing w M (nI l) (nI v) z = if 60 ≤ nI en then some 3 else if sp_tl σ z = 0 then some 0 else some 3 := by
          unfold f_X6_againstPublishing
          rw [b16, ms_b1, if_neg (by decide), b3, ms_b1, if_neg (by decide), if_pos hz, R2, I2, cs_tooLate hR0 z, ms_b1]
        have eM : ∀ Mm : ce_M, f_X8_publishes 414 (ms_S Mm σ) (nI l) (nI v) z = (ce_gi 2 816 (ce_nm (ce_rd (ms_S Mm σ) (414 + 1) (Int32.toNatClampNeg 2)) (fun (x8 : Int32) => if x8 = 60 then some (ms_S Mm σ, 3) else ce_b1 (f_X8_isTooLate 414 (ms_S Mm σ) z) (fun (x12 : Int32) => if x12 = 0 then f_X8_publishes 414 (ms_S Mm σ) (nI l) (nI v) z else some (ms_S Mm σ, 3))))) := fun Mm => by
          rw [ms_tooLate]
          by_cases q1 : ce_rd (ms_S Mm σ) (414 + 1) (Int32.toNatClampNeg 2) = 60
          · unfold f_X8_publishes
            rw [ms_leaf_y _ hl, ms_b1, if_neg (by decide), ms_level_y _ hv, ms_b1, if_neg (by decide), if_pos hz]
            simp only [ms_nm, q1, if_true]
          · by_cases q2 : sp_tl σ z = 0
            · simp only [ms_nm, q1, if_false, ms_b1, q2, if_true]
              exact (ms_gi (n := 2) (by omega) (by omega)).symm
            · unfold f_X8_publishes
              rw [ms_leaf_y _ hl, ms_b1, if_neg (by decide), ms_level_y _ hv, ms_b1, if_neg (by decide), if_pos hz, ms_tooLate]
              simp only [ms_nm, q1, if_false, ms_b1, q2]
        have g2 : ∀ K : Option (ce_M × Int32), ce_gi 2 816 K = K := fun K => ms_gi (n := 2) (by omega) (by omega)
        have e2 : ∀ Mm : ce_M, ce_rd (ms_S Mm σ) (414 + 1) (Int32.toNatClampNeg 2) = nI en := fun Mm => I2
        by_cases c60 : en = 60
        · subst c60
          refine Or.inl ⟨3, 3, Or.inr (Or.inr ⟨rfl, rfl⟩), by rw [eC, if_pos (by decide)], fun Mm => (eM Mm).trans ?_⟩
          rw [g2, e2, ms_nm, if_pos (by decide)]
        · have hen : en < 60 := by omega
          have hne : ¬ nI en = 60 := fun q => c60 (ms_nI (b := 60) q (by omega) (by omega))
          have hnl : ¬ (60 : Int32) ≤ nI en := nI_ge (show en < 60 by omega) (show 60 < 2 ^ 31 by omega)
          by_cases htl : sp_tl σ z = nI 0
          · refine Or.inr ⟨by rw [eC, if_neg hnl, if_pos (show sp_tl σ z = 0 from htl)], ?_⟩
            have hm := fun Mm => ms_pubs_v Mm hI0 hl hv hz hen htl
            generalize hrb : sp_rb σ l v (σ 0 - z) n = rb at hm
            obtain ⟨m, m1, m2⟩ := sp_rb_v (σ := σ) (l := l) (v := v) (time := σ 0 - z) n I1'
            rw [hrb] at m2
            have m256 : m < 256 := Nat.lt_of_lt_of_le m1 (Nat.pow_le_pow_right (n := 2) (by omega) I1')
            have p : ∀ j, j ≠ 2 → (j < 456 + 6 * en ∨ 456 + 6 * en + 6 ≤ j) → sp_pb σ en (nI l) (nI v) z rb j = σ j := fun j q1 q2 => by
              unfold sp_pb
              rw [ms_u2 (by omega), ms_u2 (by omega), ms_u2 (by omega), ms_u2 (by omega), ms_u2 (by omega), ms_u2 (by omega), ms_u2 (by omega)]
            have hw : ∀ a, a < 8 → ∃ w, w ≤ 12 ∧ sp_pb σ en (nI l) (nI v) z rb (24 + 54 * a + 6) = nI w := fun a ha => by
              obtain ⟨so, le, po, ca, se, th, wz, c, i0, i0', i1, i1', i2, i2', i3, i3', i4, i4', i5, i5', i6, i6', i11, i11', iw, ip, ib, ix, is⟩ := I7 a ha
              exact ⟨wz, i6', by rw [p _ (by omega) (by omega)]; exact i6⟩
            have ro : ∀ j, (j < 24 ∨ 456 ≤ j) → sp_arr (sp_pb σ en (nI l) (nI v) z rb) rb (nI en) n j = sp_pb σ en (nI l) (nI v) z rb j := fun j q => sp_arr_o hw n I1' j (by omega)
            have h01 : ∀ b, b < 8 → sp_bit rb b = nI 0 ∨ sp_bit rb b = nI 1 := fun b hb => by rw [m2]; exact sp_bit_01 m m256 b hb
            have hhi : ∀ b, b < 8 → n ≤ b → sp_bit rb b = nI 0 := fun b hb hbn => by rw [m2]; exact sp_bit_hi n (by omega) m m1 b hb hbn
            have hρ : ∀ b, b < 8 → ∀ wz, σ (24 + 54 * b + 6) = nI wz → wz ≤ 12 → ∀ j, j < 54 → sp_arr (sp_pb σ en (nI l) (nI v) z rb) rb (nI en) n (24 + 54 * b + j) = if sp_bit rb b = nI 1 then sp_ar1 σ b wz (nI en) (24 + 54 * b + j) else σ (24 + 54 * b + j) := fun b hb wz h6 h12 j hj => by
              by_cases q : b < n
              · rw [sp_arr_b hw n I1' b q j hj, p (24 + 54 * b + 6) (by omega) (by omega), h6, nI_clamp (show wz < 2 ^ 31 by omega), p (24 + 54 * b + j) (by omega) (by omega)]
                by_cases q1 : sp_bit rb b = nI 1
                · rw [if_pos q1, if_pos q1]
                  unfold sp_ar1
                  by_cases q2 : wz = 12
                  · rw [if_pos q2, if_pos q2, p (24 + 54 * b + 8) (by omega) (by omega)]
                    by_cases q3 : j = 8
                    · subst q3; rw [ms_u1 rfl, ms_u1 rfl]
                    · rw [ms_u2 (by omega), ms_u2 (by omega), p _ (by omega) (by omega)]
                  · rw [if_neg q2, if_neg q2]
                    by_cases q3 : j = 6
                    · subst q3; rw [ms_u1 rfl, ms_u1 rfl]
                    · rw [ms_u2 (by omega), ms_u2 (k := 24 + 54 * b + 6) (by omega)]
                      by_cases q4 : j = 12 + wz
                      · subst q4; rw [ms_u1 rfl, ms_u1 rfl]
                      · rw [ms_u2 (by omega), ms_u2 (by omega), p _ (by omega) (by omega)]
                · rw [if_neg q1, if_neg q1]
              · rw [hhi b hb (by omega), if_neg (by decide), sp_arr_o hw n I1' _ (by omega), p _ (by omega) (by omega)]
            have p4 : sp_pb σ en (nI l) (nI v) z rb (456 + 6 * en + 4) = rb := by unfold sp_pb; rw [ms_u2 (by omega), ms_u1 rfl]
            have hr : ∀ b, b < 8 → sp_rt (sp_arr (sp_pb σ en (nI l) (nI v) z rb) rb (nI en) n) b 60 = sp_rt σ b 60 + sp_bit rb b := fun b hb => sp_rt_add hb (fun e h1 h2 => by rw [ro _ (by omega), p _ (by omega) (by omega)]) (by rw [ro _ (by omega)]; exact p4) (I10 en (Nat.le_refl en) hen 4 (by omega)) 60 (by omega) hen
            have hn : ce_rd M w 5 = nI n := R1.trans I1
            obtain ⟨r, e1, e2, f1, s1, l1⟩ := cs_publoop (M := ce_wr (ce_wr (ce_wr (ce_wr (ce_wr (ce_wr M (w + 3 + 1) en (nI l)) (w + 3 + 2) en (nI v)) (w + 3 + 3) en (σ 0 - z)) (w + 3 + 4) en (σ 0)) (w + 3 + 5) en rb) (w + 3) 6 (nI (en + 1))) (w := w) (e := nI en) (by rw [ms_row (by omega), ms_row (by omega), ms_row (by omega), ms_row (by omega), ms_row (by omega), ms_row (by omega)]; exact hn) I1' I7 (fun a ha => ms_SR_fr (R5 a ha) (fun q q1 q2 => by rw [ms_row (by omega), ms_row (by omega), ms_row (by omega), ms_row (by omega), ms_row (by omega), ms_row (by omega)]) (fun _ _ => rfl) rfl) h01 hhi hρ hr
            have fm : ms_fr w (w + 68) M (ce_wr (ce_wr (ce_wr (ce_wr (ce_wr (ce_wr M (w + 3 + 1) en (nI l)) (w + 3 + 2) en (nI v)) (w + 3 + 3) en (σ 0 - z)) (w + 3 + 4) en (σ 0)) (w + 3 + 5) en rb) (w + 3) 6 (nI (en + 1))) := ms_fr_t (ms_fr_w (by omega) (by omega)) (ms_fr_t (ms_fr_w (by omega) (by omega)) (ms_fr_t (ms_fr_w (by omega) (by omega)) (ms_fr_t (ms_fr_w (by omega) (by omega)) (ms_fr_t (ms_fr_w (by omega) (by omega)) (ms_fr_w (by omega) (by omega))))))
            refine ⟨sp_arr (sp_pb σ en (nI l) (nI v) z rb) rb (nI en) n, nI en, r.1, ⟨t, n, en + 1, ht, ?_⟩, ?_, ?_, ms_fr_t fm (ms_fr_up f1 (by omega) (by omega)), fun Mm => ⟨_, hm Mm, ms_MF_w Mm _⟩⟩
            · have q0 : ∀ j, j < 24 → j ≠ 2 → sp_arr (sp_pb σ en (nI l) (nI v) z rb) rb (nI en) n j = σ j := fun j h1 h2 => by rw [ro j (by omega), p j h2 (by omega)]
              refine ⟨by rw [q0 0 (by omega) (by omega)]; exact I0, by rw [q0 1 (by omega) (by omega)]; exact I1, I1', ?_, by omega, by rw [q0 3 (by omega) (by omega)]; exact I3, by rw [q0 4 (by omega) (by omega)]; exact I4, by rw [q0 5 (by omega) (by omega)]; exact I5, by rw [q0 6 (by omega) (by omega)]; exact I6, fun a ha => ?_, fun a ha => ?_, fun a h1 h2 k hk => ?_, fun e h1 h2 k hk => ?_⟩
              · rw [ro 2 (by omega)]; unfold sp_pb
                rw [ms_u2 (by omega), ms_u2 (by omega), ms_u2 (by omega), ms_u2 (by omega), ms_u2 (by omega), ms_u2 (by omega), ms_u1 rfl]
              · have hS := I7 a ha
                obtain ⟨so, le, po, ca, se, th, wz, c, i0, i0', i1, i1', i2, i2', i3, i3', i4, i4', i5, i5', i6, i6', i11, i11', iw, ip, ib, ix, is⟩ := I7 a ha
                by_cases q1 : sp_bit rb a = nI 1
                · have hth : σ (24 + 54 * a + 5) = nI 1 := by
                    have q2 := (sp_rb_bit n I1' a ha (by rw [hrb]; exact q1)).2
                    unfold sp_rc at q2
                    rw [Bool.and_eq_true] at q2
                    exact of_decide_eq_true q2.1
                  exact ms_SI_ar1 hS i6 i6' hth (fun j hj => by rw [hρ a ha wz i6 i6' j hj, if_pos q1]) hen
                · exact ms_SI_up (ms_SI_cg hS (fun j hj => by rw [hρ a ha wz i6 i6' j hj, if_neg q1])) (Nat.le_refl t) (by omega)
              · obtain ⟨so, le, po, ca, se, th, wz, c, i0, i0', i1, i1', i2, i2', i3, i3', i4, i4', i5, i5', i6, i6', i11, i11', iw, ip, ib, ix, is⟩ := I7 a (by omega)
                rw [hρ a (by omega) wz i6 i6' 11 (by omega)]
                have : sp_ar1 σ a wz (nI en) (24 + 54 * a + 11) = σ (24 + 54 * a + 11) := by
                  unfold sp_ar1
                  by_cases q2 : wz = 12
                  · rw [if_pos q2, ms_u2 (by omega)]
                  · rw [if_neg q2, ms_u2 (by omega), ms_u2 (by omega)]
                rw [this, ite_self]
                exact I8 a ha
              · rw [sp_arr_o hw n I1' _ (by omega), p _ (by omega) (by omega)]; exact I9 a h1 h2 k hk
              · rw [ro _ (by omega), p _ (by omega) (by omega)]; exact I10 e (by omega) h2 k hk
            · unfold f_X6_publishEvent
              rw [R0, ms_nm, cs_reachedBy hR0 hI0 hl hv, hrb, ms_b1, cs_logadd (R2.trans I2) hen, ms_b2, e1, ← e2]
            · have f5 : ∀ q, q < w + 12 → ce_rd r.1 q = _ := fun q hq => f1.2 q (by omega)
              refine ⟨?_, ?_, ?_, fun i hi => ?_, fun l2 hl2 => ?_, s1, fun e he => ?_, ?_, fun m3 h1 h2 a h3 h4 => ?_⟩
              · rw [f5 w (by omega), ro 0 (by omega), p 0 (by omega) (by omega), ms_row (by omega), ms_row (by omega), ms_row (by omega), ms_row (by omega), ms_row (by omega), ms_row (by omega)]; exact R0
              · rw [f5 w (by omega), ro 1 (by omega), p 1 (by omega) (by omega), ms_row (by omega), ms_row (by omega), ms_row (by omega), ms_row (by omega), ms_row (by omega), ms_row (by omega)]; exact R1
              · rw [f5 (w + 3) (by omega), ro 2 (by omega), ms_rw1 rfl rfl]; unfold sp_pb
                rw [ms_u2 (by omega), ms_u2 (by omega), ms_u2 (by omega), ms_u2 (by omega), ms_u2 (by omega), ms_u2 (by omega), ms_u1 rfl]
              · rw [f5 (w + 1) (by omega), ro _ (by omega), p _ (by omega) (by omega), ms_row (by omega), ms_row (by omega), ms_row (by omega), ms_row (by omega), ms_row (by omega), ms_row (by omega)]; exact R3 i hi
              · rw [f5 (w + 10) (by omega), ro _ (by omega), p _ (by omega) (by omega), ms_row (by omega), ms_row (by omega), ms_row (by omega), ms_row (by omega), ms_row (by omega), ms_row (by omega)]; exact R4 l2 hl2
              · obtain ⟨x0, x1, x2, x3, x4, x5⟩ := R6 e he
                rw [f5 (w + 3 + 1) (by omega), f5 (w + 3 + 2) (by omega), f5 (w + 3 + 3) (by omega), f5 (w + 3 + 4) (by omega), f5 (w + 3 + 5) (by omega), f5 (w + 3 + 6) (by omega), ro _ (by omega), ro _ (by omega), ro _ (by omega), ro _ (by omega), ro _ (by omega), ro _ (by omega)]
                by_cases q : e = en
                · subst q
                  have z5 : ce_rd M (w + 3 + 6) e = nI 0 := x5.trans (I10 e (Nat.le_refl e) he 5 (by omega))
                  unfold sp_pb
                  refine ⟨?_, ?_, ?_, ?_, ?_, ?_⟩
                  · rw [ms_row (by omega), ms_row (by omega), ms_row (by omega), ms_row (by omega), ms_row (by omega), ms_rw1 rfl rfl, ms_u2 (by omega), ms_u2 (by omega), ms_u2 (by omega), ms_u2 (by omega), ms_u2 (by omega), ms_u1 rfl]
                  · rw [ms_row (by omega), ms_row (by omega), ms_row (by omega), ms_row (by omega), ms_rw1 rfl rfl, ms_u2 (by omega), ms_u2 (by omega), ms_u2 (by omega), ms_u2 (by omega), ms_u1 rfl]
                  · rw [ms_row (by omega), ms_row (by omega), ms_row (by omega), ms_rw1 rfl rfl, ms_u2 (by omega), ms_u2 (by omega), ms_u2 (by omega), ms_u1 rfl]
                  · rw [ms_row (by omega), ms_row (by omega), ms_rw1 rfl rfl, ms_u2 (by omega), ms_u2 (by omega), ms_u1 rfl]
                  · rw [ms_row (by omega), ms_rw1 rfl rfl, ms_u2 (by omega), ms_u1 rfl]
                  · rw [ms_row (by omega), ms_row (by omega), ms_row (by omega), ms_row (by omega), ms_row (by omega), ms_row (by omega), ms_u1 rfl]; exact z5
                · rw [p _ (by omega) (by omega), p _ (by omega) (by omega), p _ (by omega) (by omega), p _ (by omega) (by omega), p _ (by omega) (by omega), p _ (by omega) (by omega)]
                  refine ⟨?_, ?_, ?_, ?_, ?_, ?_⟩
                  · rw [ms_row (by omega), ms_row (by omega), ms_row (by omega), ms_row (by omega), ms_row (by omega), ms_rw3 q]; exact x0
                  · rw [ms_row (by omega), ms_row (by omega), ms_row (by omega), ms_row (by omega), ms_rw3 q, ms_row (by omega)]; exact x1
                  · rw [ms_row (by omega), ms_row (by omega), ms_row (by omega), ms_rw3 q, ms_row (by omega), ms_row (by omega)]; exact x2
                  · rw [ms_row (by omega), ms_row (by omega), ms_rw3 q, ms_row (by omega), ms_row (by omega), ms_row (by omega)]; exact x3
                  · rw [ms_row (by omega), ms_rw3 q, ms_row (by omega), ms_row (by omega), ms_row (by omega), ms_row (by omega)]; exact x4
                  · rw [ms_row (by omega), ms_row (by omega), ms_row (by omega), ms_row (by omega), ms_row (by omega), ms_row (by omega)]; exact x5
              · rw [ro 7 (by omega), p 7 (by omega) (by omega), ← R7]
                refine sp_lost_eq 8 (fun b hb => ?_)
                rw [l1 b hb, ms_row (by omega), ms_row (by omega), ms_row (by omega), ms_row (by omega), ms_row (by omega), ms_row (by omega)]
              · rw [ro 1 (by omega), p 1 (by omega) (by omega)] at h1
                rw [l1 a h4, ms_row (by omega), ms_row (by omega), ms_row (by omega), ms_row (by omega), ms_row (by omega), ms_row (by omega)]
                exact R8 m3 h1 h2 a h3 h4
          · refine Or.inl ⟨3, 3, Or.inr (Or.inr ⟨rfl, rfl⟩), by rw [eC, if_neg hnl, if_neg (show ¬ sp_tl σ z = 0 from htl)], fun Mm => (eM Mm).trans ?_⟩
            rw [g2, e2, ms_nm, if_neg hne, ms_tooLate, ms_b1, if_neg (show ¬ sp_tl σ z = 0 from htl)]
      · refine Or.inl ⟨2, 2, Or.inr (Or.inl ⟨rfl, rfl⟩), ?_, fun Mm => ?_⟩
        · unfold f_X6_againstPublishing
          rw [b16, ms_b1, if_neg (by decide), b3, ms_b1, if_neg (by decide), if_neg hz]
        · show f_X8_publishes 414 (ms_S Mm σ) (nI l) (nI v) z = _
          unfold f_X8_publishes
          rw [ms_leaf_y _ hl, ms_b1, if_neg (by decide), ms_level_y _ hv, ms_b1, if_neg (by decide), if_neg hz]
theorem cs_p3 (w : Nat) (M : ce_M) (x y z : Int32) : f_X6_perform w M 3 x y z = ce_b2 (f_X6_publishEvent w M x y 0) (fun (M28 : ce_M) (x29 : Int32) => some (M28, x29)) := by
  unfold f_X6_perform
  rw [if_neg (by decide), if_neg (by decide), if_neg (by decide), if_pos rfl]
theorem cs_p4 (w : Nat) (M : ce_M) (x y z : Int32) : f_X6_perform w M 4 x y z = ce_b2 (f_X6_publishEvent w M x y z) (fun (M28 : ce_M) (x29 : Int32) => some (M28, x29)) := by
  unfold f_X6_perform
  rw [if_neg (by decide), if_neg (by decide), if_neg (by decide), if_neg (by decide), if_pos rfl]
