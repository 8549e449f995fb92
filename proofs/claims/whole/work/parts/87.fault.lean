/-! the first fault of a text -/
def sp_fl (tx : Nat → Nat) (len : Nat) : Nat → Nat → Option Nat
  | 0, _ => none
  | m + 1, p => if p < len then (if (sp_cmd tx len p).1 = 0 then some (sp_cmd tx len p).2 else sp_fl tx len m (sp_sk tx len (sp_cmd tx len p).2)) else none
def sp_fv (o : Option Nat) : Int32 := match o with
  | none => -1
  | some f => nI f
section
variable {tx : Nat → Nat} {len : Nat}
theorem sp_fl_le : ∀ m p, p ≤ len → ∀ f, sp_fl tx len m p = some f → f ≤ len := by
  intro m
  induction m with
  | zero => intro p _ f h; cases h
  | succ m ih =>
    intro p hp f h
    obtain ⟨a1, a2, a3, a4⟩ := sp_cmd_v (tx := tx) hp
    by_cases c : p < len
    · have e : sp_fl tx len (m + 1) p = if (sp_cmd tx len p).1 = 0 then some (sp_cmd tx len p).2 else sp_fl tx len m (sp_sk tx len (sp_cmd tx len p).2) := if_pos c
      rw [e] at h
      by_cases d : (sp_cmd tx len p).1 = 0
      · rw [if_pos d] at h
        cases h
        exact a3
      · rw [if_neg d] at h
        exact ih _ ((sp_sk_v tx len _).2 a3) f h
    · have e : sp_fl tx len (m + 1) p = none := if_neg c
      rw [e] at h
      cases h
theorem cs_fl (hl : len ≤ 150) (ht : ∀ i, i < len → tx i < 128) : ∀ m i (M : ce_M) p, i + m = 150 → TC M tx len p → p ≤ len → i ≤ p → ce_rd M 411 5 = -1 → ∀ fuel, m < fuel → ∃ M', ce_lp2 (f_X0_findFault_L6 411) fuel M (nI i) = some (M', sp_fv (sp_fl tx len (m + 1) (sp_sk tx len p))) ∧ FC M M' := by
  intro m
  induction m with
  | zero =>
    intro i M p h1 hT hp hip h5 fuel hf
    obtain ⟨f, rfl⟩ : ∃ f, fuel = f + 1 := ⟨fuel - 1, by omega⟩
    have e : i = 150 := by omega
    subst e
    have hs := (sp_sk_v tx len p).1
    have e2 : sp_fl tx len (0 + 1) (sp_sk tx len p) = none := if_neg (by omega)
    refine ⟨M, ?_, FC_r⟩
    rw [e2]
    show f_X0_findFault_L6 411 _ _ _ = _
    unfold f_X0_findFault_L6
    rw [if_pos (show (150 : Int32) ≤ nI 150 from by decide), h5]
    rfl
  | succ m ih =>
    intro i M p h1 hT hp hip h5 fuel hf
    obtain ⟨f, rfl⟩ : ∃ f, fuel = f + 1 := ⟨fuel - 1, by omega⟩
    have hs := sp_sk_v tx len p
    have hs2 := hs.2 hp
    by_cases c : sp_sk tx len p < len
    · obtain ⟨M1, b, e1, f1, g1, g0⟩ := cs_next hT hl ht hp c
      obtain ⟨a1, a2, a3, a4⟩ := sp_cmd_v (tx := tx) hs2
      have e : sp_fl tx len (m + 1 + 1) (sp_sk tx len p) = if (sp_cmd tx len (sp_sk tx len p)).1 = 0 then some (sp_cmd tx len (sp_sk tx len p)).2 else sp_fl tx len (m + 1) (sp_sk tx len (sp_cmd tx len (sp_sk tx len p)).2) := if_pos c
      rw [e]
      by_cases d : (sp_cmd tx len (sp_sk tx len p)).1 = 0
      · obtain ⟨rfl, x5⟩ := g0 d
        rw [if_pos d]
        refine ⟨M1, ?_, f1⟩
        show f_X0_findFault_L6 411 _ _ _ = _
        unfold f_X0_findFault_L6
        rw [if_neg (show ¬ (150 : Int32) ≤ nI i from nI_ge (b := 150) (by omega) (by omega)), e1, ms_b2, if_pos rfl, x5]
        rfl
      · have d1 : (sp_cmd tx len (sp_sk tx len p)).1 = 1 := by omega
        obtain ⟨rfl, x2, x5, _, _⟩ := g1 d1
        have a5 := (a4 d1).1
        rw [if_neg d]
        obtain ⟨M2, e2, f2⟩ := ih (i + 1) M1 _ (by omega) (TC_mk hT f1 x2) a3 (by omega) (x5.trans h5) f (by omega)
        refine ⟨M2, ?_, FC_t f1 f2⟩
        show f_X0_findFault_L6 411 _ _ _ = _
        unfold f_X0_findFault_L6
        rw [if_neg (show ¬ (150 : Int32) ≤ nI i from nI_ge (b := 150) (by omega) (by omega)), e1, ms_b2, if_neg (show ¬ (1 : Int32) = 0 by decide), ms_nm, nI_1]
        exact e2
    · have e : sp_fl tx len (m + 1 + 1) (sp_sk tx len p) = none := if_neg c
      rw [e]
      refine ⟨_, ?_, FC_w (j := 2) (v := nI (sp_sk tx len p)) (by omega)⟩
      show f_X0_findFault_L6 411 _ _ _ = _
      unfold f_X0_findFault_L6
      rw [if_neg (show ¬ (150 : Int32) ≤ nI i from nI_ge (b := 150) (by omega) (by omega)), cs_next_end hT hl ht hp c, ms_b2, if_pos rfl, ms_rw3 (by omega), h5]
      rfl
theorem ms_fl (hl : len ≤ 150) (ht : ∀ i, i < len → tx i < 128) (u11 u9 : ce_M → Option (ce_M × Int32)) : ∀ m (M : ce_M) p, TM M tx len p → p ≤ len → len - p ≤ m → ∀ fuel, m < fuel → ∃ M', FM M M' ∧ (sp_fl tx len (m + 1) p = none → ce_lp1 (f_X8_runCommands_L9 414 u11 u9) fuel M = u11 M') ∧ (∀ f, sp_fl tx len (m + 1) p = some f → ce_lp1 (f_X8_runCommands_L9 414 u11 u9) fuel M = u9 M' ∧ ce_rd M' 414 9 = nI f) := by
  intro m
  induction m with
  | zero =>
    intro M p hT hp hm fuel hf
    obtain ⟨f, rfl⟩ : ∃ f, fuel = f + 1 := ⟨fuel - 1, by omega⟩
    have e : sp_fl tx len (0 + 1) p = none := if_neg (by omega)
    rw [e]
    refine ⟨M, FM_r, fun _ => ?_, fun f h => (by cases h)⟩
    show f_X8_runCommands_L9 414 u11 u9 _ _ = _
    unfold f_X8_runCommands_L9
    rw [hT.1, hT.2.1, if_pos (nI_le (show len ≤ p by omega) (show p < 2 ^ 31 by omega))]
  | succ m ih =>
    intro M p hT hp hm fuel hf
    obtain ⟨f, rfl⟩ : ∃ f, fuel = f + 1 := ⟨fuel - 1, by omega⟩
    by_cases c : p < len
    · obtain ⟨M1, e1, f1, g1, g0⟩ := ms_take hT hl ht hp
      obtain ⟨a1, a2, a3, a4⟩ := sp_cmd_v (tx := tx) hp
      have e : sp_fl tx len (m + 1 + 1) p = if (sp_cmd tx len p).1 = 0 then some (sp_cmd tx len p).2 else sp_fl tx len (m + 1) (sp_sk tx len (sp_cmd tx len p).2) := if_pos c
      rw [e]
      by_cases d : (sp_cmd tx len p).1 = 0
      · rw [if_pos d]
        refine ⟨M1, f1, fun h => (by cases h), fun k hk => ?_⟩
        cases hk
        refine ⟨?_, g0 d⟩
        show f_X8_runCommands_L9 414 u11 u9 _ _ = _
        unfold f_X8_runCommands_L9
        rw [hT.1, hT.2.1, if_neg (nI_ge (show p < len by omega) (show len < 2 ^ 31 by omega)), e1, ms_b2, d, if_pos (show nI 0 = 0 from rfl)]
      · have d1 : (sp_cmd tx len p).1 = 1 := by omega
        obtain ⟨x9, _, _⟩ := g1 d1
        have a5 := (a4 d1).1
        have s := sp_sk_v tx len (sp_cmd tx len p).2
        obtain ⟨M2, f2, h1, h2⟩ := ih M1 _ (TM_mk hT f1 x9) (s.2 a3) (by omega) f (by omega)
        have step : ce_lp1 (f_X8_runCommands_L9 414 u11 u9) (f + 1) M = ce_lp1 (f_X8_runCommands_L9 414 u11 u9) f M1 := by
          show f_X8_runCommands_L9 414 u11 u9 _ _ = _
          unfold f_X8_runCommands_L9
          rw [hT.1, hT.2.1, if_neg (nI_ge (show p < len by omega) (show len < 2 ^ 31 by omega)), e1, ms_b2, d1, if_neg (show ¬ nI 1 = 0 by decide)]
        rw [if_neg d, step]
        exact ⟨M2, FM_t f1 f2, h1, h2⟩
    · have e : sp_fl tx len (m + 1 + 1) p = none := if_neg c
      rw [e]
      refine ⟨M, FM_r, fun _ => ?_, fun f h => (by cases h)⟩
      show f_X8_runCommands_L9 414 u11 u9 _ _ = _
      unfold f_X8_runCommands_L9
      rw [hT.1, hT.2.1, if_pos (nI_le (show len ≤ p by omega) (show p < 2 ^ 31 by omega))]
end
