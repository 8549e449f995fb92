/-! passing time -/
def sp_ps (σ : Nat → Int32) (n : Nat) : Nat → (Nat → Int32) × Int32
  | 0 => (σ, nI 0)
  | k + 1 => (sp_tick (sp_ps σ n k).1 n, (sp_ps σ n k).2 + (sp_tz (sp_ps σ n k).1 n).2.2)
theorem ms_IN_ps {σ : Nat → Int32} {t n en : Nat} (hI : ms_IN σ t n en) : ∀ k, ms_IN (sp_ps σ n k).1 (t + k) n en := by
  intro k
  induction k with
  | zero => exact hI
  | succ k ih => exact (sp_tz_v ih).1
theorem ms_passloop (M : ce_M) {σ : Nat → Int32} {t n en k : Nat} (hI : ms_IN σ t n en) (hk : k ≤ 50) (u : ce_M → Int32 → Option (ce_M × Int32)) : ∃ M1, ce_lp3 (f_X8_passes_L32 (nI k) 414 u) ce_FU (ms_S M σ) 0 0 = u (ms_S M1 (sp_ps σ n k).1) (sp_ps σ n k).2 ∧ M1.2 = M.2 ∧ (∀ q, q ≠ 418 → ce_rd M1 q = ce_rd M q) := by
  have key : ∀ m i M1, i + m = k → M1.2 = M.2 → (∀ q, q ≠ 418 → ce_rd M1 q = ce_rd M q) → ∀ fuel, m < fuel → ∃ M3, ce_lp3 (f_X8_passes_L32 (nI k) 414 u) fuel (ms_S M1 (sp_ps σ n i).1) (sp_ps σ n i).2 (nI i) = u (ms_S M3 (sp_ps σ n k).1) (sp_ps σ n k).2 ∧ M3.2 = M.2 ∧ (∀ q, q ≠ 418 → ce_rd M3 q = ce_rd M q) := by
    intro m
    induction m with
    | zero =>
      intro i M1 h1 h2 h3 fuel hf
      obtain ⟨f, rfl⟩ : ∃ f, fuel = f + 1 := ⟨fuel - 1, by omega⟩
      have e : i = k := by omega
      subst e
      refine ⟨M1, ?_, h2, h3⟩
      show f_X8_passes_L32 (nI i) 414 u _ _ _ _ = _
      unfold f_X8_passes_L32
      rw [if_pos (nI_le (show i ≤ i by omega) (show i < 2 ^ 31 by omega))]
    | succ m ih =>
      intro i M1 h1 h2 h3 fuel hf
      obtain ⟨f, rfl⟩ : ∃ f, fuel = f + 1 := ⟨fuel - 1, by omega⟩
      obtain ⟨M2, e1, e2, e3⟩ := ms_tick M1 (ms_IN_ps hI i)
      obtain ⟨M3, x1, x2, x3⟩ := ih (i + 1) M2 (by omega) (e2.trans h2) (fun q hq => (e3 q hq).trans (h3 q hq)) f (by omega)
      refine ⟨M3, ?_, x2, x3⟩
      show f_X8_passes_L32 (nI k) 414 u _ _ _ _ = _
      unfold f_X8_passes_L32
      rw [if_neg (nI_ge (show i < k by omega) (show k < 2 ^ 31 by omega)), e1, ms_b2, ms_nm, ms_nm, nI_1]
      exact x1
  exact key k 0 M (by omega) rfl (fun _ _ => rfl) ce_FU (by rw [ms_FU]; omega)
theorem cs_passTicks {M : ce_M} {w t n en k : Nat} {σ : Nat → Int32} (hR : ms_WR M w σ) (hI : ms_IN σ t n en) (hk : k ≤ 50) : ∃ M', f_X6_passTicks w M (nI k) = some (M', (sp_ps σ n k).2) ∧ ms_WR M' w (sp_ps σ n k).1 ∧ ms_fr w (w + 68) M M' := by
  have hJ := ms_p3 (F := f_X6_passTicks_L4 (nI k) w) (fun m M1 y x => ∃ i, x = nI i ∧ i + m = k ∧ y = (sp_ps σ n i).2 ∧ ms_WR M1 w (sp_ps σ n i).1 ∧ ms_fr w (w + 68) M M1) (fun r => r.2 = (sp_ps σ n k).2 ∧ ms_WR r.1 w (sp_ps σ n k).1 ∧ ms_fr w (w + 68) M r.1) (fun m rec M1 y x hrec hJ => by
    obtain ⟨i, rfl, him, rfl, j1, j2⟩ := hJ
    unfold f_X6_passTicks_L4
    by_cases c0 : m = 0
    · have e : i = k := by omega
      subst e
      rw [if_pos (nI_le (show i ≤ i by omega) (show i < 2 ^ 31 by omega))]
      exact ⟨_, rfl, rfl, j1, j2⟩
    · obtain ⟨M2, e2, w2, f2⟩ := cs_tick j1 (ms_IN_ps hI i)
      rw [if_neg (nI_ge (show i < k by omega) (show k < 2 ^ 31 by omega)), e2, ms_b2, ms_nm, ms_nm]
      exact hrec (m - 1) (by omega) _ _ _ ⟨i + 1, nI_1 i, by omega, rfl, w2, ms_fr_t j2 f2⟩) k ce_FU M 0 0 (by rw [ms_FU]; omega) ⟨0, rfl, by omega, rfl, hR, ms_fr_r⟩
  obtain ⟨r, e1, e2, e3, e4⟩ := hJ
  refine ⟨r.1, ?_, e3, e4⟩
  unfold f_X6_passTicks
  rw [e1, ← e2]
theorem cs_p6 (w : Nat) (M : ce_M) (x y z : Int32) : f_X6_perform w M 6 x y z = ce_b2 (f_X6_passTicks w M x) (fun (M28 : ce_M) (x29 : Int32) => some (M28, x29)) := by
  unfold f_X6_perform
  rw [if_neg (by decide), if_neg (by decide), if_neg (by decide), if_neg (by decide), if_neg (by decide), if_neg (by decide), if_pos rfl]
theorem act_pass {t n en w : Nat} {M : ce_M} {σ : Nat → Int32} (hR : ms_WR M w σ) (hI : ms_IN σ t n en) (ht : t ≤ 9999) (x y z : Int32) : ms_OK 9999 M w σ (f_X6_againstPassing w M x) (f_X6_perform w M 6 x y z) (fun Mm => f_X8_passes 414 Mm x) (fun ca cm => (ca = 2 ∧ cm = 1) ∨ (ca = 3 ∧ cm = 2)) := by
  have h6 : ce_rd M w 6 = nI t := hR.1.trans hI.1
  have hin : ∀ Mm : ce_M, ∀ b : Int32, f_X8_in (ms_S Mm σ) x 1 50 = some b → f_X8_passes 414 (ms_S Mm σ) x = if b = 0 then some (ms_S Mm σ, 1) else if nI t + x ≤ 9999 then ce_lp3 (f_X8_passes_L32 x 414 (fun (M13 : ce_M) (x14 : Int32) => some (ce_wr M13 414 5 x14, 0))) ce_FU (ms_S Mm σ) 0 0 else some (ms_S Mm σ, 2) := fun Mm b hb => by
    unfold f_X8_passes
    rw [hb, ms_b1, show ∀ K : Option (ce_M × Int32), ce_gi 0 816 K = K from fun K => ms_gi (n := 0) (by omega) (by omega), ms_nm, show ce_rd (ms_S Mm σ) (414 + 1) (Int32.toNatClampNeg 0) = nI t from hI.1, ms_nm]
    rfl
  by_cases c1 : x < 1
  · refine Or.inl ⟨2, 1, Or.inl ⟨rfl, rfl⟩, ?_, fun Mm => ?_⟩
    · unfold f_X6_againstPassing
      rw [if_pos c1]
    · exact hin Mm 0 (by unfold f_X8_in; rw [if_pos c1])
  · by_cases c2 : x ≤ 50
    · obtain ⟨k, hk, rfl⟩ := nI_of (show ¬ x < 0 from fun q => c1 (Int32.lt_of_lt_of_le q (by decide)))
      have hk2 : k ≤ 50 := by
        refine Nat.le_of_not_lt (fun q => ?_)
        exact nI_ge (show 50 < k from q) hk c2
      have hA : f_X6_againstPassing w M (nI k) = if 9999 < nI (t + k) then some 3 else some 0 := by
        unfold f_X6_againstPassing
        rw [if_neg c1, if_pos c2, h6, nI_add]
      have hB : ∀ Mm : ce_M, f_X8_in (ms_S Mm σ) (nI k) 1 50 = some 1 := fun Mm => by
        unfold f_X8_in
        rw [if_neg c1, if_neg (Int32.not_lt.mpr c2)]
      by_cases c3 : t + k ≤ 9999
      · refine Or.inr ⟨?_, (sp_ps σ n k).1, (sp_ps σ n k).2, ?_⟩
        · rw [hA, if_neg (show ¬ (9999 : Int32) < nI (t + k) from nI_nlt (a := 9999) c3 (by omega))]
        · obtain ⟨M', e1, w1, f1⟩ := cs_passTicks hR hI hk2
          refine ⟨M', ⟨t + k, n, en, c3, ms_IN_ps hI k⟩, by rw [cs_p6, e1, ms_b2], w1, f1, fun Mm => ?_⟩
          obtain ⟨M1, e2, x2, x3⟩ := ms_passloop Mm hI hk2 (fun (M13 : ce_M) (x14 : Int32) => some (ce_wr M13 414 5 x14, 0))
          refine ⟨ce_wr M1 414 5 (sp_ps σ n k).2, ?_, x2, fun q q1 q2 => (ms_row q1).trans (x3 q q2), ms_rw1 rfl rfl, fun j hj => (ms_rw3 hj).trans (congrFun (x3 414 (by omega)) j)⟩
          show f_X8_passes 414 (ms_S Mm σ) (nI k) = _
          rw [hin Mm 1 (hB Mm), if_neg (by decide), nI_add, if_pos (show nI (t + k) ≤ (9999 : Int32) from nI_le (b := 9999) c3 (by omega)), e2]
          show some (ce_wr (ms_S M1 _) 414 5 _, (0 : Int32)) = _
          rw [ms_wr' _ _ (by omega)]
      · refine Or.inl ⟨3, 2, Or.inr ⟨rfl, rfl⟩, ?_, fun Mm => ?_⟩
        · rw [hA, if_pos (show (9999 : Int32) < nI (t + k) from nI_lt (a := 9999) (by omega) (by omega))]
        · show f_X8_passes 414 (ms_S Mm σ) (nI k) = _
          rw [hin Mm 1 (hB Mm), if_neg (by decide), nI_add, if_neg (show ¬ nI (t + k) ≤ (9999 : Int32) from nI_ge (a := 9999) (show 9999 < t + k by omega) (by omega))]
    · refine Or.inl ⟨2, 1, Or.inl ⟨rfl, rfl⟩, ?_, fun Mm => ?_⟩
      · unfold f_X6_againstPassing
        rw [if_neg c1, if_neg c2]
      · exact hin Mm 0 (by unfold f_X8_in; rw [if_neg c1, if_pos (Int32.not_le.mp c2)])
