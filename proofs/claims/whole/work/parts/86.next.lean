/-! one command: the class reads it, the model takes it -/
section
variable {M : ce_M} {tx : Nat → Nat} {len p : Nat}
theorem cs_word (h : TC M tx len p) (hl : len ≤ 150) (ht : ∀ i, i < len → tx i < 128) (hp : p ≤ len) : f_X0_readWord 411 M = if sp_ky tx len p = 7 then some (ce_wr (ce_wr (ce_wr M 411 2 (nI (sp_wd tx len p))) 411 3 (-1)) 411 5 (nI p), 0) else some (ce_wr (ce_wr M 411 2 (nI (sp_wd tx len p))) 411 3 (nI (sp_ky tx len p)), 1) := by
  obtain ⟨a1, a2, a3, a4⟩ := sp_run_v (sp_in tx 97 122) len p
  have b2 := a2 hp
  unfold f_X0_readWord
  rw [h.2.1, ms_nm, ms_nm, cs_letters h hl ht hp]
  unfold sp_ky sp_wd
  generalize sp_run (sp_in tx 97 122) len p = q at a1 a2 a3 a4 b2 ⊢
  have hk := cs_kindOf (p := p) (m := q - p) (TC_w (p2 := q) h) hl ht (by omega)
  rw [show p + (q - p) = q by omega] at hk
  rw [ms_ww, hk, ms_b1, ms_nm, ms_ww]
  have hle : sp_kd tx p (q - p) ≤ 7 := sp_k7_le 7 0 rfl
  by_cases c : sp_kd tx p (q - p) = 7
  · rw [if_pos c, if_pos c, if_pos rfl]
    rfl
  · rw [if_neg c, if_neg c, if_neg (show ¬ nI (sp_kd tx p (q - p)) = -1 from fun z => by rw [ms_nN (by omega)] at z; exact z)]
theorem cs_semi (h : TC M tx len p) (hl : len ≤ 150) (ht : ∀ i, i < len → tx i < 128) (hp : p ≤ len) : f_X0_readSemicolon 411 M = if sp_sk tx len p < len ∧ sp_in tx 59 59 (sp_sk tx len p) = true then some (ce_wr M 411 2 (nI (sp_sk tx len p + 1)), 1) else some (ce_wr (ce_wr M 411 2 (nI (sp_sk tx len p))) 411 5 (nI (sp_sk tx len p)), 0) := by
  obtain ⟨a1, a2, a3, a4⟩ := sp_run_v (sp_in tx 32 32) len p
  have b2 := a2 hp
  unfold f_X0_readSemicolon
  rw [cs_skip h hl ht hp, ms_b1]
  unfold sp_sk
  generalize sp_run (sp_in tx 32 32) len p = s at a1 a2 a3 a4 b2 ⊢
  have hat : f_X0_isAt 411 (ce_wr M 411 2 (nI s)) 59 = some (nI (if s < len ∧ tx s = 59 then 1 else 0)) := cs_at (a := 59) (TC_w (p2 := s) h) hl ht b2 (by omega)
  rw [hat, ms_b1, ms_ww, nI_1]
  by_cases c : s < len ∧ sp_in tx 59 59 s = true
  · have hx : s < len ∧ tx s = 59 := ⟨c.1, by have := sp_in_t.mp c.2; omega⟩
    rw [if_pos c, if_pos hx, if_neg (by decide), ms_nm, ms_wr_wr]
  · have hx : ¬ (s < len ∧ tx s = 59) := fun z => c ⟨z.1, sp_in_t.mpr (by omega)⟩
    rw [if_neg c, if_neg hx, if_pos (show nI 0 = 0 from rfl)]
    rfl
theorem sp_sk_v (tx : Nat → Nat) (len p : Nat) : p ≤ sp_sk tx len p ∧ (p ≤ len → sp_sk tx len p ≤ len) := ⟨(sp_run_v (sp_in tx 32 32) len p).1, (sp_run_v (sp_in tx 32 32) len p).2.1⟩
theorem sp_wd_v (tx : Nat → Nat) (len p : Nat) : p ≤ sp_wd tx len p ∧ (p ≤ len → sp_wd tx len p ≤ len) := ⟨(sp_run_v (sp_in tx 97 122) len p).1, (sp_run_v (sp_in tx 97 122) len p).2.1⟩
theorem sp_ky_le (tx : Nat → Nat) (len p : Nat) : sp_ky tx len p ≤ 7 := sp_k7_le 7 0 rfl
theorem sp_cmd_v (hp : p ≤ len) : ((sp_cmd tx len p).1 = 0 ∨ (sp_cmd tx len p).1 = 1) ∧ p ≤ (sp_cmd tx len p).2 ∧ (sp_cmd tx len p).2 ≤ len ∧ ((sp_cmd tx len p).1 = 1 → p < (sp_cmd tx len p).2 ∧ sp_ky tx len p < 7) := by
  have hk := sp_ky_le tx len p
  obtain ⟨w1, w2⟩ := sp_wd_v tx len p
  obtain ⟨n1, n2, n3⟩ := sp_nf_v (tx := tx) (sp_cn (sp_ky tx len p)) (sp_wd tx len p) (w2 hp)
  obtain ⟨s1, s2⟩ := sp_sk_v tx len (sp_cr tx len p).2.1
  have s3 := s2 n3
  unfold sp_cmd
  have n2' : sp_wd tx len p ≤ (sp_cr tx len p).2.1 := n2
  have n3' : (sp_cr tx len p).2.1 ≤ len := n3
  by_cases c : sp_ky tx len p = 7
  · rw [if_pos c]; exact ⟨Or.inl rfl, Nat.le_refl p, hp, fun z => absurd z (show ¬ (0 : Nat) = 1 by decide)⟩
  · rw [if_neg c]
    by_cases d : (sp_cr tx len p).1 = 0
    · rw [if_pos d]; exact ⟨Or.inl rfl, Nat.le_trans w1 n2', n3', fun z => absurd z (show ¬ (0 : Nat) = 1 by decide)⟩
    · rw [if_neg d]
      by_cases e : sp_sk tx len (sp_cr tx len p).2.1 < len ∧ sp_in tx 59 59 (sp_sk tx len (sp_cr tx len p).2.1) = true
      · rw [if_pos e]
        refine ⟨Or.inr rfl, ?_, ?_, fun _ => ⟨?_, by omega⟩⟩
        · show p ≤ _ + 1; omega
        · show _ + 1 ≤ len; omega
        · show p < _ + 1; omega
      · rw [if_neg e]; exact ⟨Or.inl rfl, by show p ≤ sp_sk _ _ _; omega, s3, fun z => absurd z (show ¬ (0 : Nat) = 1 by decide)⟩
theorem cs_next (h : TC M tx len p) (hl : len ≤ 150) (ht : ∀ i, i < len → tx i < 128) (hp : p ≤ len) (hlt : sp_sk tx len p < len) : ∃ M' b, f_X0_readNext 411 M = some (M', b) ∧ FC M M' ∧ ((sp_cmd tx len (sp_sk tx len p)).1 = 1 → b = 1 ∧ ce_rd M' 411 2 = nI (sp_cmd tx len (sp_sk tx len p)).2 ∧ ce_rd M' 411 5 = ce_rd M 411 5 ∧ ce_rd M' 411 3 = nI (sp_ky tx len (sp_sk tx len p)) ∧ ∀ j, j < sp_cn (sp_ky tx len (sp_sk tx len p)) → ce_rd M' 413 j = nI ((sp_cr tx len (sp_sk tx len p)).2.2 j)) ∧ ((sp_cmd tx len (sp_sk tx len p)).1 = 0 → b = 0 ∧ ce_rd M' 411 5 = nI (sp_cmd tx len (sp_sk tx len p)).2) := by
  have hsk : f_X0_skipSpaces 411 M = some (ce_wr M 411 2 (nI (sp_sk tx len p))) := cs_skip h hl ht hp
  unfold f_X0_readNext
  rw [hsk, ms_b1]
  generalize hq : sp_sk tx len p = s at hlt ⊢
  have hT := TC_w (p2 := s) h
  have hk := sp_ky_le tx len s
  have hs : s ≤ len := by omega
  obtain ⟨w1, w2⟩ := sp_wd_v tx len s
  rw [ms_ww, hT.1, if_pos (nI_lt hlt (by omega)), cs_word hT hl ht hs, ms_wr_wr]
  unfold sp_cmd
  by_cases c : sp_ky tx len s = 7
  · rw [if_pos c, if_pos c, ms_b2, if_pos rfl]
    exact ⟨_, 0, rfl, FC_t (FC_t (FC_w (by omega)) (FC_w (by omega))) (FC_w (by omega)), fun z => absurd z (show ¬ (0 : Nat) = 1 by decide), fun _ => ⟨rfl, ms_ww⟩⟩
  · rw [if_neg c, if_neg c, ms_b2, if_neg (show ¬ (1 : Int32) = 0 by decide)]
    have hk7 : sp_ky tx len s < 7 := by omega
    obtain ⟨cn1, cn2, cn3, cn4⟩ := sp_cn_v _ hk7
    have hT2 : TC (ce_wr (ce_wr M 411 2 (nI (sp_wd tx len s))) 411 3 (nI (sp_ky tx len s))) tx len (sp_wd tx len s) := TC_mk h (FC_t (FC_w (by omega)) (FC_w (by omega))) ((ms_rw3 (by omega)).trans ms_ww)
    have hF2 : FC M (ce_wr (ce_wr M 411 2 (nI (sp_wd tx len s))) 411 3 (nI (sp_ky tx len s))) := FC_t (FC_w (by omega)) (FC_w (by omega))
    have h5 : ce_rd (ce_wr (ce_wr M 411 2 (nI (sp_wd tx len s))) 411 3 (nI (sp_ky tx len s))) 411 5 = ce_rd M 411 5 := by rw [ms_rw3 (by omega), ms_rw3 (by omega)]
    have h3 : ce_rd (ce_wr (ce_wr M 411 2 (nI (sp_wd tx len s))) 411 3 (nI (sp_ky tx len s))) 411 3 = nI (sp_ky tx len s) := ms_ww
    generalize ce_wr (ce_wr M 411 2 (nI (sp_wd tx len s))) 411 3 (nI (sp_ky tx len s)) = M2 at hT2 hF2 h5 h3 ⊢
    obtain ⟨M3, b, e1, f1, k1, g1, g0⟩ := cs_nums hl ht cn1 (sp_cn (sp_ky tx len s)) 0 M2 _ (by omega) hT2 (w2 hs) ce_FU (by rw [ms_FU]; omega)
    have hN : f_X0_readNumbers 411 M2 = some (M3, b) := by
      unfold f_X0_readNumbers
      rw [h3, cs_numbersOf M2 hk7, ms_b1]
      exact e1
    rw [hN, ms_b2]
    obtain ⟨n1, n2, n3⟩ := sp_nf_v (tx := tx) (sp_cn (sp_ky tx len s)) (sp_wd tx len s) (w2 hs)
    have hcr : sp_nf tx len (sp_cn (sp_ky tx len s)) (sp_wd tx len s) = sp_cr tx len s := rfl
    rw [hcr] at n1 n2 n3 g1 g0
    by_cases d : (sp_cr tx len s).1 = 0
    · rw [if_pos d]
      rcases g0 d with ⟨rfl, x5⟩ | ⟨rfl, x2, x5, xl, xd⟩
      · rw [if_pos rfl]
        exact ⟨M3, 0, rfl, FC_t hF2 f1, fun z => absurd z (show ¬ (0 : Nat) = 1 by decide), fun _ => ⟨rfl, x5⟩⟩
      · have hT3 := TC_mk hT2 f1 x2
        have y1 : sp_sk tx len (sp_cr tx len s).2.1 = (sp_cr tx len s).2.1 := sp_run_id (fun z => by
          have := sp_in_t.mp z.2
          have := sp_in_t.mp xd
          omega)
        have y2 : ¬ ((sp_cr tx len s).2.1 < len ∧ sp_in tx 59 59 (sp_cr tx len s).2.1 = true) := fun z => by
          have := sp_in_t.mp z.2
          have := sp_in_t.mp xd
          omega
        rw [if_neg (show ¬ (1 : Int32) = 0 by decide), cs_semi hT3 hl ht n3, y1, if_neg y2, ms_b2, if_pos rfl]
        exact ⟨_, 0, rfl, FC_t (FC_t hF2 f1) (FC_t (FC_w (by omega)) (FC_w (by omega))), fun z => absurd z (show ¬ (0 : Nat) = 1 by decide), fun _ => ⟨rfl, ms_ww⟩⟩
    · obtain ⟨rfl, x2, x5, xv, _⟩ := g1 (by omega)
      have hT3 := TC_mk hT2 f1 x2
      rw [if_neg d, if_neg (show ¬ (1 : Int32) = 0 by decide), cs_semi hT3 hl ht n3]
      by_cases e : sp_sk tx len (sp_cr tx len s).2.1 < len ∧ sp_in tx 59 59 (sp_sk tx len (sp_cr tx len s).2.1) = true
      · rw [if_pos e, if_pos e, ms_b2, if_neg (show ¬ (1 : Int32) = 0 by decide)]
        refine ⟨_, 1, rfl, FC_t (FC_t hF2 f1) (FC_w (by omega)), fun _ => ⟨rfl, ms_ww, (ms_rw3 (by omega)).trans (x5.trans h5), (ms_rw3 (by omega)).trans (k1.trans h3), fun j hj => ?_⟩, fun z => absurd z (show ¬ (1 : Nat) = 0 by decide)⟩
        have q := xv j hj
        rw [Nat.zero_add] at q
        exact (congrFun (ms_row (by omega)) j).trans q
      · rw [if_neg e, if_neg e, ms_b2, if_pos rfl]
        exact ⟨_, 0, rfl, FC_t (FC_t hF2 f1) (FC_t (FC_w (by omega)) (FC_w (by omega))), fun z => absurd z (show ¬ (0 : Nat) = 1 by decide), fun _ => ⟨rfl, ms_ww⟩⟩
theorem cs_next_end (h : TC M tx len p) (hl : len ≤ 150) (ht : ∀ i, i < len → tx i < 128) (hp : p ≤ len) (hlt : ¬ sp_sk tx len p < len) : f_X0_readNext 411 M = some (ce_wr M 411 2 (nI (sp_sk tx len p)), 0) := by
  have hsk : f_X0_skipSpaces 411 M = some (ce_wr M 411 2 (nI (sp_sk tx len p))) := cs_skip h hl ht hp
  have := (sp_sk_v tx len p).2 hp
  unfold f_X0_readNext
  rw [hsk, ms_b1, ms_ww, (TC_w (p2 := sp_sk tx len p) h).1, if_neg (nI_nlt (by omega) (by omega))]
theorem ms_take (h : TM M tx len p) (hl : len ≤ 150) (ht : ∀ i, i < len → tx i < 128) (hp : p ≤ len) : ∃ M', f_X8_takesCommand 414 M = some (M', nI (sp_cmd tx len p).1) ∧ FM M M' ∧ ((sp_cmd tx len p).1 = 1 → ce_rd M' 414 9 = nI (sp_sk tx len (sp_cmd tx len p).2) ∧ ce_rd M' 414 10 = nI (sp_mu (sp_ky tx len p)) ∧ ∀ j, j < sp_cn (sp_ky tx len p) → ce_rd M' 420 j = nI ((sp_cr tx len p).2.2 j)) ∧ ((sp_cmd tx len p).1 = 0 → ce_rd M' 414 9 = nI (sp_cmd tx len p).2) := by
  have hk := sp_ky_le tx len p
  obtain ⟨w1, w2⟩ := sp_wd_v tx len p
  have hw := w2 hp
  have hlet : ∀ i, i < sp_wd tx len p - p → 97 ≤ tx (p + i) ∧ tx (p + i) ≤ 122 := fun i hi => sp_in_t.mp ((sp_run_v (sp_in tx 97 122) len p).2.2.1 (p + i) (by omega) (by show p + i < sp_wd tx len p; omega)).2
  unfold f_X8_takesCommand
  rw [h.2.1, ms_nm, ms_nm, ms_letters h hl ht hp]
  rw [show sp_run (sp_in tx 97 122) len p = sp_wd tx len p from rfl, ms_ww, ms_sub w1, ms_nm]
  have hu : ∀ u11 : Int32 → Option (ce_M × Int32), (if nI (sp_wd tx len p - p) ≤ (5 : Int32) then ce_b1 (f_X8_wordOf (ce_wr M 414 9 (nI (sp_wd tx len p))) (nI (sp_hh tx p (sp_wd tx len p - p)))) (fun (x47 : Int32) => u11 x47) else u11 (-1)) = u11 (if sp_ky tx len p = 7 then -1 else nI (sp_mu (sp_ky tx len p))) := fun u11 => by
    by_cases c : sp_wd tx len p - p ≤ 5
    · have h1 := sp_hh_lt (tx := tx) (p := p) _ c hlet
      have h2 : 32 ^ (sp_wd tx len p - p) ≤ 32 ^ 5 := Nat.pow_le_pow_right (by omega) c
      have h3 : sp_wv (sp_hh tx p (sp_wd tx len p - p)) = sp_mu (sp_ky tx len p) := sp_kh c hlet
      rw [if_pos (show nI (sp_wd tx len p - p) ≤ (5 : Int32) from nI_le (b := 5) c (by omega)), ms_wordOf _ (by omega), ms_b1, h3]
      by_cases d : sp_ky tx len p = 7
      · rw [d]; rfl
      · have := (sp_cn_v _ (show sp_ky tx len p < 7 by omega)).2.2.1
        rw [if_neg d, if_neg (by omega)]
    · have d : sp_ky tx len p = 7 := sp_kd_long (by omega)
      rw [if_neg (show ¬ nI (sp_wd tx len p - p) ≤ (5 : Int32) from nI_ge (a := 5) (by omega) (by omega)), if_pos d]
  rw [hu]
  unfold sp_cmd
  by_cases c : sp_ky tx len p = 7
  · simp only [if_pos c]
    rw [ms_nm, ms_ww, if_pos rfl, ms_nm]
    refine ⟨_, rfl, FM_t (FM_t (FM_w (Or.inl rfl)) (FM_w (Or.inr rfl))) (FM_w (Or.inl rfl)), fun z => absurd z (show ¬ (0 : Nat) = 1 by decide), fun _ => ms_ww⟩
  · have hk7 : sp_ky tx len p < 7 := by omega
    obtain ⟨cn1, cn2, cn3, cn4⟩ := sp_cn_v _ hk7
    have hcnt : ∀ u16 : Int32 → Option (ce_M × Int32), (if (2 : Int32) ≤ nI (sp_mu (sp_ky tx len p)) then (if (5 : Int32) ≤ nI (sp_mu (sp_ky tx len p)) then u16 1 else u16 2) else u16 3) = u16 (nI (sp_cn (sp_ky tx len p))) := fun u16 => by
      rw [← cn4]
      by_cases d : (2 : Int32) ≤ nI (sp_mu (sp_ky tx len p))
      · rw [if_pos d, if_pos d]
        by_cases e : (5 : Int32) ≤ nI (sp_mu (sp_ky tx len p))
        · rw [if_pos e, if_pos e]
        · rw [if_neg e, if_neg e]
      · rw [if_neg d, if_neg d]
    have hcnt2 : ∀ K : Int32 → Option (ce_M × Int32), ce_nm K (fun (u16 : Int32 → Option (ce_M × Int32)) => if (2 : Int32) ≤ nI (sp_mu (sp_ky tx len p)) then (if (5 : Int32) ≤ nI (sp_mu (sp_ky tx len p)) then u16 1 else u16 2) else u16 3) = K (nI (sp_cn (sp_ky tx len p))) := fun K => by
      rw [ms_nm]
      exact hcnt K
    simp only [if_neg c]
    rw [ms_nm, ms_ww, if_neg (show ¬ nI (sp_mu (sp_ky tx len p)) = -1 from fun z => by rw [ms_nN (by omega)] at z; exact z), hcnt2, ms_nm]
    have hT2 : TM (ce_wr (ce_wr M 414 9 (nI (sp_wd tx len p))) 414 10 (nI (sp_mu (sp_ky tx len p)))) tx len (sp_wd tx len p) := TM_mk h (FM_t (FM_w (Or.inl rfl)) (FM_w (Or.inr rfl))) ((ms_rw3 (by omega)).trans ms_ww)
    have hF2 : FM M (ce_wr (ce_wr M 414 9 (nI (sp_wd tx len p))) 414 10 (nI (sp_mu (sp_ky tx len p)))) := FM_t (FM_w (Or.inl rfl)) (FM_w (Or.inr rfl))
    have h10 : ce_rd (ce_wr (ce_wr M 414 9 (nI (sp_wd tx len p))) 414 10 (nI (sp_mu (sp_ky tx len p)))) 414 10 = nI (sp_mu (sp_ky tx len p)) := ms_ww
    generalize ce_wr (ce_wr M 414 9 (nI (sp_wd tx len p))) 414 10 (nI (sp_mu (sp_ky tx len p))) = M2 at hT2 hF2 h10 ⊢
    obtain ⟨n1, n2, n3⟩ := sp_nf_v (tx := tx) (sp_cn (sp_ky tx len p)) (sp_wd tx len p) hw
    have hcr : sp_nf tx len (sp_cn (sp_ky tx len p)) (sp_wd tx len p) = sp_cr tx len p := rfl
    obtain ⟨M3, f1, g9, g10, _, g1, g0⟩ := ms_nums hl ht cn1 (fun (M21 : ce_M) => ce_b1 (f_X8_skips 414 M21) (fun (M23 : ce_M) => ce_b1 (f_X8_isAt 414 M23 59 59) (fun (x25 : Int32) => if x25 = 0 then some (M23, 0) else ce_nm (ce_wr M23 414 9 ((ce_rd M23 414 9) + 1)) (fun (M28 : ce_M) => ce_b1 (f_X8_skips 414 M28) (fun (M30 : ce_M) => some (M30, 1)))))) (sp_cn (sp_ky tx len p)) 0 M2 _ (by omega) hT2 hw ce_FU (by rw [ms_FU]; omega)
    rw [hcr] at n1 n2 n3 g9 g1 g0
    by_cases d : (sp_cr tx len p).1 = 0
    · simp only [if_pos d]
      exact ⟨M3, g0 d, FM_t hF2 f1, fun z => absurd z (show ¬ (0 : Nat) = 1 by decide), fun _ => g9⟩
    · simp only [if_neg d]
      obtain ⟨x1, xv⟩ := g1 (by omega)
      have hT3 := TM_mk hT2 f1 g9
      have s2 := (sp_sk_v tx len (sp_cr tx len p).2.1).2 n3
      have hT4 := TM_w (p2 := sp_sk tx len (sp_cr tx len p).2.1) hT3
      have hx : ce_lp2 (f_X8_takesCommand_L130 (nI (sp_cn (sp_ky tx len p))) 414 (fun (M21 : ce_M) => ce_b1 (f_X8_skips 414 M21) (fun (M23 : ce_M) => ce_b1 (f_X8_isAt 414 M23 59 59) (fun (x25 : Int32) => if x25 = 0 then some (M23, 0) else ce_nm (ce_wr M23 414 9 ((ce_rd M23 414 9) + 1)) (fun (M28 : ce_M) => ce_b1 (f_X8_skips 414 M28) (fun (M30 : ce_M) => some (M30, 1))))))) ce_FU M2 0 = ce_b1 (f_X8_isAt 414 (ce_wr M3 414 9 (nI (sp_sk tx len (sp_cr tx len p).2.1))) 59 59) (fun (x25 : Int32) => if x25 = 0 then some (ce_wr M3 414 9 (nI (sp_sk tx len (sp_cr tx len p).2.1)), 0) else ce_b1 (f_X8_skips 414 (ce_wr M3 414 9 (nI (sp_sk tx len (sp_cr tx len p).2.1 + 1)))) (fun (M30 : ce_M) => some (M30, 1))) := by
        refine x1.trans ?_
        rw [show f_X8_skips 414 M3 = _ from ms_skip hT3 hl ht n3, ms_b1, ms_ww, nI_1, ms_nm, ms_wr_wr]
        rfl
      rw [hx, show f_X8_isAt 414 (ce_wr M3 414 9 (nI (sp_sk tx len (sp_cr tx len p).2.1))) 59 59 = _ from ms_at (a := 59) (b := 59) hT4 hl ht s2 (by omega) (by omega), ms_b1]
      by_cases e : sp_sk tx len (sp_cr tx len p).2.1 < len ∧ sp_in tx 59 59 (sp_sk tx len (sp_cr tx len p).2.1) = true
      · simp only [if_pos e]
        have hT5 := TM_w (p2 := sp_sk tx len (sp_cr tx len p).2.1 + 1) hT3
        rw [if_neg (by decide), show f_X8_skips 414 (ce_wr M3 414 9 (nI (sp_sk tx len (sp_cr tx len p).2.1 + 1))) = _ from ms_skip hT5 hl ht (by omega), ms_b1, ms_wr_wr]
        refine ⟨_, rfl, FM_t (FM_t hF2 f1) (FM_w (Or.inl rfl)), fun _ => ⟨ms_ww, (ms_rw3 (by omega)).trans (g10.trans h10), fun j hj => ?_⟩, fun z => absurd z (show ¬ (1 : Nat) = 0 by decide)⟩
        have q := xv j hj
        rw [Nat.zero_add] at q
        exact (congrFun (ms_row (by omega)) j).trans q
      · simp only [if_neg e]
        rw [if_pos (show nI 0 = 0 from rfl)]
        exact ⟨_, rfl, FM_t (FM_t hF2 f1) (FM_w (Or.inl rfl)), fun z => absurd z (show ¬ (0 : Nat) = 1 by decide), fun _ => ms_ww⟩
end
