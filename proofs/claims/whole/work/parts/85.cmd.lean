/-! one command -/
def sp_nf (tx : Nat → Nat) (len : Nat) : Nat → Nat → Nat × Nat × (Nat → Nat)
  | 0, p => (1, p, fun _ => 0)
  | m + 1, p => if (sp_num tx len p).1 = 1 then ((sp_nf tx len m (sp_num tx len p).2.1).1, (sp_nf tx len m (sp_num tx len p).2.1).2.1, fun j => if j = 0 then (sp_num tx len p).2.2 else (sp_nf tx len m (sp_num tx len p).2.1).2.2 (j - 1)) else (0, (sp_num tx len p).2.1, fun _ => 0)
theorem sp_nf_v {tx : Nat → Nat} {len : Nat} : ∀ m p, p ≤ len → ((sp_nf tx len m p).1 = 0 ∨ (sp_nf tx len m p).1 = 1) ∧ p ≤ (sp_nf tx len m p).2.1 ∧ (sp_nf tx len m p).2.1 ≤ len := by
  intro m
  induction m with
  | zero => intro p hp; exact ⟨Or.inr rfl, Nat.le_refl p, hp⟩
  | succ m ih =>
    intro p hp
    obtain ⟨a1, a2, a3⟩ := sp_num_v (tx := tx) hp
    obtain ⟨b1, b2, b3⟩ := ih _ a3
    by_cases c : (sp_num tx len p).1 = 1
    · have e : sp_nf tx len (m + 1) p = _ := if_pos c
      rw [e]
      exact ⟨b1, Nat.le_trans a2 b2, b3⟩
    · have e : sp_nf tx len (m + 1) p = _ := if_neg c
      rw [e]
      exact ⟨Or.inl rfl, a2, a3⟩
section
variable {tx : Nat → Nat} {len : Nat}
theorem ms_nums (hl : len ≤ 150) (ht : ∀ i, i < len → tx i < 128) {cnt : Nat} (hc : cnt ≤ 3) (u : ce_M → Option (ce_M × Int32)) : ∀ m i (M : ce_M) p, i + m = cnt → TM M tx len p → p ≤ len → ∀ fuel, m < fuel → ∃ M', FM M M' ∧ ce_rd M' 414 9 = nI (sp_nf tx len m p).2.1 ∧ ce_rd M' 414 10 = ce_rd M 414 10 ∧ (∀ j, j < i → ce_rd M' 420 j = ce_rd M 420 j) ∧ ((sp_nf tx len m p).1 = 1 → ce_lp2 (f_X8_takesCommand_L130 (nI cnt) 414 u) fuel M (nI i) = u M' ∧ ∀ j, j < m → ce_rd M' 420 (i + j) = nI ((sp_nf tx len m p).2.2 j)) ∧ ((sp_nf tx len m p).1 = 0 → ce_lp2 (f_X8_takesCommand_L130 (nI cnt) 414 u) fuel M (nI i) = some (M', 0)) := by
  intro m
  induction m with
  | zero =>
    intro i M p h1 hT hp fuel hf
    obtain ⟨f, rfl⟩ : ∃ f, fuel = f + 1 := ⟨fuel - 1, by omega⟩
    have e : i = cnt := by omega
    subst e
    refine ⟨M, FM_r, hT.2.1, rfl, fun _ _ => rfl, fun _ => ⟨?_, fun j hj => absurd hj (by omega)⟩, fun z => absurd z (show ¬ (1 : Nat) = 0 by decide)⟩
    show f_X8_takesCommand_L130 (nI i) 414 u _ _ _ = _
    unfold f_X8_takesCommand_L130
    rw [if_pos (nI_le (show i ≤ i by omega) (show i < 2 ^ 31 by omega))]
  | succ m ih =>
    intro i M p h1 hT hp fuel hf
    obtain ⟨f, rfl⟩ : ∃ f, fuel = f + 1 := ⟨fuel - 1, by omega⟩
    obtain ⟨M1, e1, f1, n9, n10, n20, n21⟩ := ms_number hT hl ht hp (show i < 3 by omega)
    obtain ⟨a1, a2, a3⟩ := sp_num_v (tx := tx) hp
    by_cases c : (sp_num tx len p).1 = 1
    · have e : sp_nf tx len (m + 1) p = _ := if_pos c
      have hb := n20 c
      obtain ⟨M2, g1, g2, g3, g4, g5, g6⟩ := ih (i + 1) M1 _ (by omega) (TM_mk hT f1 n9) a3 f (by omega)
      have step : ce_lp2 (f_X8_takesCommand_L130 (nI cnt) 414 u) (f + 1) M (nI i) = ce_lp2 (f_X8_takesCommand_L130 (nI cnt) 414 u) f M1 (nI (i + 1)) := by
        show f_X8_takesCommand_L130 (nI cnt) 414 u _ _ _ = _
        unfold f_X8_takesCommand_L130
        rw [if_neg (nI_ge (show i < cnt by omega) (show cnt < 2 ^ 31 by omega)), e1, ms_b2, c, if_neg (by decide), ms_nm, nI_1]
      rw [e, step]
      refine ⟨M2, FM_t f1 g1, g2, g3.trans n10, fun j hj => (g4 j (by omega)).trans (n21 j (by omega)), fun z => ⟨(g5 z).1, fun j hj => ?_⟩, g6⟩
      by_cases j0 : j = 0
      · subst j0
        refine (g4 i (by omega)).trans ?_
        rw [hb]
        rfl
      · have q := (g5 z).2 (j - 1) (by omega)
        rw [show i + 1 + (j - 1) = i + j by omega] at q
        rw [q]
        exact congrArg nI (if_neg j0).symm
    · have e : sp_nf tx len (m + 1) p = _ := if_neg c
      have c0 : (sp_num tx len p).1 = 0 := by omega
      rw [e]
      refine ⟨M1, f1, n9, n10, fun j hj => n21 j (by omega), fun z => absurd z (show ¬ (0 : Nat) = 1 by decide), fun _ => ?_⟩
      show f_X8_takesCommand_L130 (nI cnt) 414 u _ _ _ = _
      unfold f_X8_takesCommand_L130
      rw [if_neg (nI_ge (show i < cnt by omega) (show cnt < 2 ^ 31 by omega)), e1, ms_b2, c0, if_pos (show nI 0 = 0 from rfl)]
theorem cs_tail {cnt : Nat} (hc : cnt ≤ 3) : ∀ m i (M : ce_M), i + m = 3 → cnt ≤ i → ∀ fuel, m < fuel → ∃ M', ce_lp2 (f_X0_readNumbers_L10 411 (nI cnt)) fuel M (nI i) = some (M', 1) ∧ FC M M' ∧ ce_rd M' 411 = ce_rd M 411 ∧ (∀ j, j < i → ce_rd M' 413 j = ce_rd M 413 j) := by
  intro m
  induction m with
  | zero =>
    intro i M h1 h2 fuel hf
    obtain ⟨f, rfl⟩ : ∃ f, fuel = f + 1 := ⟨fuel - 1, by omega⟩
    have e : i = 3 := by omega
    subst e
    refine ⟨M, ?_, FC_r, rfl, fun _ _ => rfl⟩
    show f_X0_readNumbers_L10 411 (nI cnt) _ _ _ = _
    unfold f_X0_readNumbers_L10
    rw [if_pos (show (3 : Int32) ≤ nI 3 from by decide)]
  | succ m ih =>
    intro i M h1 h2 fuel hf
    obtain ⟨f, rfl⟩ : ∃ f, fuel = f + 1 := ⟨fuel - 1, by omega⟩
    obtain ⟨M2, g1, g2, g3, g4⟩ := ih (i + 1) (ce_wr M 413 i 0) (by omega) (by omega) f (by omega)
    refine ⟨M2, ?_, FC_t FC_n g2, g3.trans (ms_row (by omega)), fun j hj => (g4 j (by omega)).trans (ms_rw3 (by omega))⟩
    show f_X0_readNumbers_L10 411 (nI cnt) _ _ _ = _
    unfold f_X0_readNumbers_L10
    rw [if_neg (show ¬ (3 : Int32) ≤ nI i from nI_ge (b := 3) (by omega) (by omega)), ms_gi (show i < 3 by omega) (show 3 < 2 ^ 31 by omega), nI_clamp (show i < 2 ^ 31 by omega), ms_nm, if_pos (nI_le (show cnt ≤ i by omega) (show i < 2 ^ 31 by omega)), ms_nm, nI_1]
    exact g1
theorem cs_nums (hl : len ≤ 150) (ht : ∀ i, i < len → tx i < 128) {cnt : Nat} (hc : cnt ≤ 3) : ∀ m i (M : ce_M) p, i + m = cnt → TC M tx len p → p ≤ len → ∀ fuel, 3 - i < fuel → ∃ M' b, ce_lp2 (f_X0_readNumbers_L10 411 (nI cnt)) fuel M (nI i) = some (M', b) ∧ FC M M' ∧ ce_rd M' 411 3 = ce_rd M 411 3 ∧ ((sp_nf tx len m p).1 = 1 → b = 1 ∧ ce_rd M' 411 2 = nI (sp_nf tx len m p).2.1 ∧ ce_rd M' 411 5 = ce_rd M 411 5 ∧ (∀ j, j < m → ce_rd M' 413 (i + j) = nI ((sp_nf tx len m p).2.2 j)) ∧ (∀ j, j < i → ce_rd M' 413 j = ce_rd M 413 j)) ∧ ((sp_nf tx len m p).1 = 0 → (b = 0 ∧ ce_rd M' 411 5 = nI (sp_nf tx len m p).2.1) ∨ (b = 1 ∧ ce_rd M' 411 2 = nI (sp_nf tx len m p).2.1 ∧ ce_rd M' 411 5 = ce_rd M 411 5 ∧ (sp_nf tx len m p).2.1 < len ∧ sp_in tx 48 57 (sp_nf tx len m p).2.1 = true)) := by
  intro m
  induction m with
  | zero =>
    intro i M p h1 hT hp fuel hf
    obtain ⟨M2, g1, g2, g3, g4⟩ := cs_tail hc (3 - i) i M (by omega) (by omega) fuel (by omega)
    exact ⟨M2, 1, g1, g2, congrFun g3 3, fun _ => ⟨rfl, (congrFun g3 2).trans hT.2.1, congrFun g3 5, fun j hj => absurd hj (by omega), g4⟩, fun z => absurd z (show ¬ (1 : Nat) = 0 by decide)⟩
  | succ m ih =>
    intro i M p h1 hT hp fuel hf
    obtain ⟨f, rfl⟩ : ∃ f, fuel = f + 1 := ⟨fuel - 1, by omega⟩
    have hT0 : TC (ce_wr M 413 i 0) tx len p := TC_mk hT FC_n ((congrFun (ms_row (by omega)) 2).trans hT.2.1)
    obtain ⟨M1, b1, e1, f1, k1, s1, s0⟩ := cs_number hT0 hl ht hp (show i < 3 by omega)
    obtain ⟨a1, a2, a3⟩ := sp_num_v (tx := tx) hp
    have w3 : ∀ j, ce_rd (ce_wr M 413 i 0) 411 j = ce_rd M 411 j := fun j => congrFun (ms_row (by omega)) j
    have hstep : ∀ K, ce_lp2 (f_X0_readNumbers_L10 411 (nI cnt)) (f + 1) M (nI i) = K ↔ (if b1 = 0 then some (M1, 0) else ce_lp2 (f_X0_readNumbers_L10 411 (nI cnt)) f M1 (nI (i + 1))) = K := fun K => by
      have q : ce_lp2 (f_X0_readNumbers_L10 411 (nI cnt)) (f + 1) M (nI i) = (if b1 = 0 then some (M1, 0) else ce_lp2 (f_X0_readNumbers_L10 411 (nI cnt)) f M1 (nI (i + 1))) := by
        show f_X0_readNumbers_L10 411 (nI cnt) _ _ _ = _
        unfold f_X0_readNumbers_L10
        rw [if_neg (show ¬ (3 : Int32) ≤ nI i from nI_ge (b := 3) (by omega) (by omega)), ms_gi (show i < 3 by omega) (show 3 < 2 ^ 31 by omega), nI_clamp (show i < 2 ^ 31 by omega), ms_nm, if_neg (nI_ge (show i < cnt by omega) (show cnt < 2 ^ 31 by omega)), show (411 + 2 : Nat) = 413 from rfl, e1, ms_b2, ms_nm, nI_1]
      rw [q]
    by_cases c : (sp_num tx len p).1 = 1
    · have e : sp_nf tx len (m + 1) p = _ := if_pos c
      obtain ⟨rfl, t2, t5, tv, to⟩ := s1 c
      obtain ⟨M2, b2, g1, g2, g3, g4, g5⟩ := ih (i + 1) M1 _ (by omega) (TC_mk hT0 f1 t2) a3 f (by omega)
      rw [e]
      refine ⟨M2, b2, ?_, FC_t FC_n (FC_t f1 g2), g3.trans (k1.trans (w3 3)), fun z => ?_, fun z => ?_⟩
      · rw [hstep, if_neg (by decide)]; exact g1
      · obtain ⟨x1, x2, x3, x4, x5⟩ := g4 z
        refine ⟨x1, x2, x3.trans (t5.trans (w3 5)), fun j hj => ?_, fun j hj => (x5 j (by omega)).trans ((to j (by omega)).trans (ms_rw3 (by omega)))⟩
        by_cases j0 : j = 0
        · subst j0
          refine (x5 i (by omega)).trans ?_
          rw [tv]
          rfl
        · have q := x4 (j - 1) (by omega)
          rw [show i + 1 + (j - 1) = i + j by omega] at q
          rw [q]
          exact congrArg nI (if_neg j0).symm
      · rcases g5 z with ⟨x1, x2⟩ | ⟨x1, x2, x3, x4, x5⟩
        · exact Or.inl ⟨x1, x2⟩
        · exact Or.inr ⟨x1, x2, x3.trans (t5.trans (w3 5)), x4, x5⟩
    · have e : sp_nf tx len (m + 1) p = _ := if_neg c
      have c0 : (sp_num tx len p).1 = 0 := by omega
      rw [e]
      rcases s0 c0 with ⟨rfl, t5⟩ | ⟨rfl, t2, t5, tl, td⟩
      · refine ⟨M1, 0, ?_, FC_t FC_n f1, k1.trans (w3 3), fun z => absurd z (show ¬ (0 : Nat) = 1 by decide), fun _ => Or.inl ⟨rfl, t5⟩⟩
        rw [hstep, if_pos rfl]
      · obtain ⟨M2, b2, g1, g2, g3, g4, g5⟩ := ih (i + 1) M1 _ (by omega) (TC_mk hT0 f1 t2) a3 f (by omega)
        refine ⟨M2, b2, ?_, FC_t FC_n (FC_t f1 g2), g3.trans (k1.trans (w3 3)), fun z => absurd z (show ¬ (0 : Nat) = 1 by decide), fun _ => ?_⟩
        · rw [hstep, if_neg (by decide)]; exact g1
        · have nsp : ¬ ((sp_num tx len p).2.1 < len ∧ sp_in tx 32 32 (sp_num tx len p).2.1 = true) := fun z => by
            have := sp_in_t.mp z.2
            have := sp_in_t.mp td
            omega
          have en : sp_num tx len (sp_num tx len p).2.1 = (0, (sp_num tx len p).2.1, 0) := if_neg nsp
          cases m with
          | zero =>
            obtain ⟨x1, x2, x3, x4, x5⟩ := g4 rfl
            exact Or.inr ⟨x1, x2, x3.trans (t5.trans (w3 5)), tl, td⟩
          | succ m =>
            have e3 : sp_nf tx len (m + 1) (sp_num tx len p).2.1 = (0, (sp_num tx len p).2.1, fun _ => 0) := by
              show (if (sp_num tx len (sp_num tx len p).2.1).1 = 1 then _ else _) = _
              rw [en]
              rfl
            rw [e3] at g5
            rcases g5 rfl with ⟨x1, x2⟩ | ⟨x1, x2, x3, x4, x5⟩
            · exact Or.inl ⟨x1, x2⟩
            · exact Or.inr ⟨x1, x2, x3.trans (t5.trans (w3 5)), x4, x5⟩
end
def sp_cn (k : Nat) : Nat := ([3, 2, 1, 2, 3, 2, 1] : List Nat).getD k 0
def sp_sk (tx : Nat → Nat) (len p : Nat) : Nat := sp_run (sp_in tx 32 32) len p
def sp_wd (tx : Nat → Nat) (len p : Nat) : Nat := sp_run (sp_in tx 97 122) len p
def sp_ky (tx : Nat → Nat) (len p : Nat) : Nat := sp_kd tx p (sp_wd tx len p - p)
def sp_cr (tx : Nat → Nat) (len p : Nat) : Nat × Nat × (Nat → Nat) := sp_nf tx len (sp_cn (sp_ky tx len p)) (sp_wd tx len p)
def sp_cmd (tx : Nat → Nat) (len p : Nat) : Nat × Nat := if sp_ky tx len p = 7 then (0, p) else if (sp_cr tx len p).1 = 0 then (0, (sp_cr tx len p).2.1) else if sp_sk tx len (sp_cr tx len p).2.1 < len ∧ sp_in tx 59 59 (sp_sk tx len (sp_cr tx len p).2.1) = true then (1, sp_sk tx len (sp_cr tx len p).2.1 + 1) else (0, sp_sk tx len (sp_cr tx len p).2.1)
theorem cs_numbersOf (M : ce_M) {k : Nat} (hk : k < 7) : f_X0_numbersOf M (nI k) = some (nI (sp_cn k)) := by
  have h : k = 0 ∨ k = 1 ∨ k = 2 ∨ k = 3 ∨ k = 4 ∨ k = 5 ∨ k = 6 := by omega
  rcases h with rfl | rfl | rfl | rfl | rfl | rfl | rfl <;> rfl
theorem sp_cn_v : ∀ k, k < 7 → sp_cn k ≤ 3 ∧ 1 ≤ sp_cn k ∧ sp_mu k < 7 ∧ (if (2 : Int32) ≤ nI (sp_mu k) then (if (5 : Int32) ≤ nI (sp_mu k) then (1 : Int32) else 2) else 3) = nI (sp_cn k) := by decide
