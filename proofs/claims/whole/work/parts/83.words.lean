/-! the words of commands -/
def sp_wc (k i : Nat) : Nat := (([[106, 111, 105, 110], [103, 111], [113, 117, 105, 116], [101, 118, 101, 110, 116], [108, 97, 116, 101], [115, 101, 116], [116, 105, 99, 107, 115]] : List (List Nat)).getD k []).getD i 0
def sp_wn (k : Nat) : Nat := ce_slen.getD k 0
theorem sp_wc_v : ∀ k, k < 7 → ∀ i, i < 5 → i < sp_wn k → ce_schr k i = nI (sp_wc k i) ∧ sp_wc k i < 128 := by decide
theorem sp_wn_v : ∀ k, k < 7 → sp_wn k ≤ 5 ∧ 2 ≤ sp_wn k := by decide
def sp_sw (tx : Nat → Nat) (p k : Nat) : Nat → Nat → Bool
  | 0, _ => true
  | r + 1, i => decide (tx (p + i) = sp_wc k i) && sp_sw tx p k r (i + 1)
def sp_s1 (tx : Nat → Nat) (p m k : Nat) : Bool := decide (sp_wn k = m) && sp_sw tx p k (sp_wn k) 0
theorem sp_sw_t {tx : Nat → Nat} {p k : Nat} : ∀ r i, sp_sw tx p k r i = true ↔ ∀ j, i ≤ j → j < i + r → tx (p + j) = sp_wc k j := by
  intro r
  induction r with
  | zero => intro i; exact ⟨fun _ j h1 h2 => absurd h2 (by omega), fun _ => rfl⟩
  | succ r ih =>
    intro i
    show (decide (tx (p + i) = sp_wc k i) && sp_sw tx p k r (i + 1)) = true ↔ _
    rw [Bool.and_eq_true, decide_eq_true_eq, ih (i + 1)]
    constructor
    · intro ⟨h1, h2⟩ j h3 h4
      by_cases c : j = i
      · rw [c]; exact h1
      · exact h2 j (by omega) (by omega)
    · intro h
      exact ⟨h i (by omega) (by omega), fun j h1 h2 => h j (by omega) (by omega)⟩
theorem sp_s1_t {tx : Nat → Nat} {p m k : Nat} : sp_s1 tx p m k = true ↔ sp_wn k = m ∧ ∀ j, j < m → tx (p + j) = sp_wc k j := by
  unfold sp_s1
  rw [Bool.and_eq_true, decide_eq_true_eq, sp_sw_t]
  constructor
  · intro ⟨h1, h2⟩
    exact ⟨h1, fun j hj => h2 j (by omega) (by omega)⟩
  · intro ⟨h1, h2⟩
    exact ⟨h1, fun j _ hj => h2 j (by omega)⟩
def sp_k7 (st : Nat → Bool) : Nat → Nat → Nat
  | 0, _ => 7
  | r + 1, i => if st i = true then i else sp_k7 st r (i + 1)
theorem sp_k7_no {st : Nat → Bool} : ∀ r i, (∀ k, i ≤ k → k < i + r → ¬ st k = true) → sp_k7 st r i = 7 := by
  intro r
  induction r with
  | zero => intro i _; rfl
  | succ r ih =>
    intro i h
    show (if st i = true then i else sp_k7 st r (i + 1)) = 7
    rw [if_neg (h i (by omega) (by omega))]
    exact ih (i + 1) (fun k h1 h2 => h k (by omega) (by omega))
theorem sp_k7_yes {st : Nat → Bool} {k : Nat} (hk : st k = true) : ∀ r i, i ≤ k → k < i + r → (∀ j, i ≤ j → j < k → ¬ st j = true) → sp_k7 st r i = k := by
  intro r
  induction r with
  | zero => intro i h1 h2; exact absurd h2 (by omega)
  | succ r ih =>
    intro i h1 h2 h
    show (if st i = true then i else sp_k7 st r (i + 1)) = k
    by_cases c : i = k
    · rw [c, if_pos hk]
    · rw [if_neg (h i (by omega) (by omega))]
      exact ih (i + 1) (by omega) (by omega) (fun j h3 h4 => h j (by omega) h4)
theorem sp_k7_le {st : Nat → Bool} : ∀ r i, i + r = 7 → sp_k7 st r i ≤ 7 := by
  intro r
  induction r with
  | zero => intro i _; exact Nat.le_refl 7
  | succ r ih =>
    intro i h
    show (if st i = true then i else sp_k7 st r (i + 1)) ≤ 7
    by_cases c : st i = true
    · rw [if_pos c]; omega
    · rw [if_neg c]; exact ih (i + 1) (by omega)
def sp_kd (tx : Nat → Nat) (p m : Nat) : Nat := sp_k7 (sp_s1 tx p m) 7 0
def sp_mu (k : Nat) : Nat := ([0, 2, 5, 3, 1, 4, 6] : List Nat).getD k 7
def sp_wv (h : Nat) : Nat := if h = 239 then 2 else if h = 19636 then 4 else if h = 343342 then 0 else if h = 394885 then 1 else if h = 578868 then 5 else if h = 5969364 then 3 else if h = 21269875 then 6 else 7
theorem ms_wordOf (M : ce_M) {h : Nat} (hh : h < 2 ^ 31) : f_X8_wordOf M (nI h) = some (if sp_wv h = 7 then -1 else nI (sp_wv h)) := by
  have ne : ∀ c : Nat, c < 2 ^ 31 → h ≠ c → ¬ nI h = nI c := fun c hc q z => q (ms_nI z hh hc)
  unfold f_X8_wordOf sp_wv
  by_cases c239 : h = 239
  · subst c239; rfl
  · rw [if_neg (show ¬ nI h = 239 from ne 239 (by omega) c239), if_neg c239]
    by_cases c19636 : h = 19636
    · subst c19636; rfl
    · rw [if_neg (show ¬ nI h = 19636 from ne 19636 (by omega) c19636), if_neg c19636]
      by_cases c343342 : h = 343342
      · subst c343342; rfl
      · rw [if_neg (show ¬ nI h = 343342 from ne 343342 (by omega) c343342), if_neg c343342]
        by_cases c394885 : h = 394885
        · subst c394885; rfl
        · rw [if_neg (show ¬ nI h = 394885 from ne 394885 (by omega) c394885), if_neg c394885]
          by_cases c578868 : h = 578868
          · subst c578868; rfl
          · rw [if_neg (show ¬ nI h = 578868 from ne 578868 (by omega) c578868), if_neg c578868]
            by_cases c5969364 : h = 5969364
            · subst c5969364; rfl
            · rw [if_neg (show ¬ nI h = 5969364 from ne 5969364 (by omega) c5969364), if_neg c5969364]
              by_cases c21269875 : h = 21269875
              · subst c21269875; rfl
              · rw [if_neg (show ¬ nI h = 21269875 from ne 21269875 (by omega) c21269875), if_neg c21269875]
                rfl
theorem cs_stands {M : ce_M} {tx : Nat → Nat} {len p0 p m k : Nat} (h : TC M tx len p0) (hl : len ≤ 150) (ht : ∀ i, i < len → tx i < 128) (hp : p + m ≤ len) (hk : k < 7) : f_X0_stands 411 M k (nI p) (nI (p + m)) = some (nI (if sp_s1 tx p m k = true then 1 else 0)) := by
  have hw := sp_wn_v k hk
  unfold f_X0_stands
  rw [ms_nm, show ce_slenF k = nI (sp_wn k) from rfl, ms_sub (show p ≤ p + m by omega), show p + m - p = m by omega]
  by_cases c : sp_wn k = m
  · rw [if_pos (by rw [c])]
    have hk2 := ms_r1 (F := f_X0_stands_L15 k (nI p) M 411) (fun r => nI (sp_wn k - r)) (fun r => some (nI (if sp_sw tx p k r (sp_wn k - r) = true then 1 else 0))) (sp_wn k) (fun rec => by
      unfold f_X0_stands_L15
      rw [ms_nm, show ce_slenF k = nI (sp_wn k) from rfl, Nat.sub_zero, if_pos (nI_le (Nat.le_refl _) (by omega))]
      rfl) (fun r hr rec hrec => by
      have q1 := ht (p + (sp_wn k - (r + 1))) (by omega)
      obtain ⟨q2, q3⟩ := sp_wc_v k hk (sp_wn k - (r + 1)) (by omega) (by omega)
      unfold f_X0_stands_L15
      rw [ms_nm, show ce_slenF k = nI (sp_wn k) from rfl, if_neg (nI_ge (show sp_wn k - (r + 1) < sp_wn k by omega) (by omega)), nI_add, ms_gi (show p + (sp_wn k - (r + 1)) < 150 by omega) (by omega), nI_clamp (show p + (sp_wn k - (r + 1)) < 2 ^ 31 by omega), ms_nm, h.2.2 _ (show p + (sp_wn k - (r + 1)) < len by omega), show ce_slen.getD k 0 = sp_wn k from rfl, ms_gi (show sp_wn k - (r + 1) < sp_wn k by omega) (by omega), nI_clamp (show sp_wn k - (r + 1) < 2 ^ 31 by omega), ms_nm, q2, nI_1, ms_nm, show sp_wn k - (r + 1) + 1 = sp_wn k - r by omega, hrec]
      show _ = some (nI (if (decide (tx (p + (sp_wn k - (r + 1))) = sp_wc k (sp_wn k - (r + 1))) && sp_sw tx p k r (sp_wn k - (r + 1) + 1)) = true then 1 else 0))
      rw [show sp_wn k - (r + 1) + 1 = sp_wn k - r by omega]
      by_cases d : tx (p + (sp_wn k - (r + 1))) = sp_wc k (sp_wn k - (r + 1))
      · rw [if_pos (by rw [d]), decide_eq_true d, Bool.true_and]
      · rw [if_neg (fun z => d (ms_nI z (by omega) (by omega))), decide_eq_false d, Bool.false_and]
        rfl)
    have h2 := hk2 (sp_wn k) (Nat.le_refl _) ce_FU (by rw [ms_FU]; omega)
    rw [Nat.sub_self] at h2
    refine h2.trans ?_
    unfold sp_s1
    rw [decide_eq_true c, Bool.true_and]
  · rw [if_neg (fun z => c (ms_nI z (by omega) (by omega)))]
    unfold sp_s1
    rw [decide_eq_false c, Bool.false_and]
    rfl
theorem cs_wordOf (M : ce_M) {j : Nat} (hj : j < 7) : f_X0_wordOf M (nI j) = some j := by
  have h : j = 0 ∨ j = 1 ∨ j = 2 ∨ j = 3 ∨ j = 4 ∨ j = 5 ∨ j = 6 := by omega
  rcases h with rfl | rfl | rfl | rfl | rfl | rfl | rfl <;> rfl
theorem cs_kindOf {M : ce_M} {tx : Nat → Nat} {len p0 p m : Nat} (h : TC M tx len p0) (hl : len ≤ 150) (ht : ∀ i, i < len → tx i < 128) (hp : p + m ≤ len) : f_X0_kindOf 411 M (nI p) (nI (p + m)) = some (if sp_kd tx p m = 7 then -1 else nI (sp_kd tx p m)) := by
  have hk2 := ms_r1 (F := f_X0_kindOf_L2 M 411 (nI p) (nI (p + m))) (fun r => nI (7 - r)) (fun r => some (if sp_k7 (sp_s1 tx p m) r (7 - r) = 7 then -1 else nI (sp_k7 (sp_s1 tx p m) r (7 - r)))) 7 (fun rec => by
    unfold f_X0_kindOf_L2
    rfl) (fun r hr rec hrec => by
    unfold f_X0_kindOf_L2
    rw [if_neg (show ¬ (7 : Int32) ≤ nI (7 - (r + 1)) from nI_ge (b := 7) (by omega) (by omega)), cs_wordOf M (show 7 - (r + 1) < 7 by omega), ms_b1, cs_stands h hl ht hp (show 7 - (r + 1) < 7 by omega), ms_b1, nI_1, ms_nm, show 7 - (r + 1) + 1 = 7 - r by omega, hrec]
    show _ = some (if (if sp_s1 tx p m (7 - (r + 1)) = true then 7 - (r + 1) else sp_k7 (sp_s1 tx p m) r (7 - (r + 1) + 1)) = 7 then -1 else nI (if sp_s1 tx p m (7 - (r + 1)) = true then 7 - (r + 1) else sp_k7 (sp_s1 tx p m) r (7 - (r + 1) + 1)))
    rw [show 7 - (r + 1) + 1 = 7 - r by omega]
    by_cases d : sp_s1 tx p m (7 - (r + 1)) = true
    · simp only [d, if_true]
      rw [if_neg (by decide), if_neg (show ¬ 7 - (r + 1) = 7 by omega)]
    · simp only [d, Bool.false_eq_true, if_false]
      rw [if_pos (show nI 0 = 0 from rfl)])
  exact hk2 7 (Nat.le_refl 7) ce_FU (by rw [ms_FU]; omega)
theorem sp_hh_s {tx : Nat → Nat} {p i : Nat} (h : i < 6) : sp_hh tx p (i + 1) = 32 * sp_hh tx p i + tx (p + i) - 96 := if_neg (by omega)
theorem sp_kd_long {tx : Nat → Nat} {p m : Nat} (h : 5 < m ∨ m < 2) : sp_kd tx p m = 7 := sp_k7_no 7 0 (fun k _ h2 z => by
  have := (sp_s1_t.mp z).1
  have := sp_wn_v k (by omega)
  omega)
theorem sp_hh_lt {tx : Nat → Nat} {p : Nat} : ∀ m, m ≤ 5 → (∀ i, i < m → 97 ≤ tx (p + i) ∧ tx (p + i) ≤ 122) → sp_hh tx p m < 32 ^ m := by
  intro m
  induction m with
  | zero => intro _ _; exact Nat.one_pos
  | succ m ih =>
    intro h1 h2
    have a := ih (by omega) (fun i hi => h2 i (by omega))
    have b := h2 m (by omega)
    rw [sp_hh_s (by omega), Nat.pow_succ]
    omega
theorem sp_kh2 {tx : Nat → Nat} {p : Nat} (h : ∀ i, i < 2 → 97 ≤ tx (p + i) ∧ tx (p + i) ≤ 122) : sp_wv (sp_hh tx p 2) = sp_mu (sp_kd tx p 2) := by
  have l0 := h 0 (by omega)
  have l1 := h 1 (by omega)
  have e : sp_hh tx p 2 = 32 * (32 * (0) + tx (p + 0) - 96) + tx (p + 1) - 96 := by
    rw [sp_hh_s (show 1 < 6 by omega), sp_hh_s (show 0 < 6 by omega)]
    rfl
  rw [e]
  have w : ∀ k j, j < 2 → sp_s1 tx p 2 k = true → tx (p + j) = sp_wc k j := fun k j hj z => (sp_s1_t.mp z).2 j hj
  have wn : ∀ k, sp_s1 tx p 2 k = true → sp_wn k = 2 := fun k z => (sp_s1_t.mp z).1
  by_cases c1 : tx (p + 0) = 103 ∧ tx (p + 1) = 111
  · obtain ⟨x0, x1⟩ := c1
    have ek : sp_kd tx p 2 = 1 := by
      refine sp_k7_yes (k := 1) ((sp_s1_t (m := 2) (k := 1)).mpr ⟨rfl, fun j hj => ?_⟩) 7 0 (by omega) (by omega) (fun j _ hj z => ?_)
      · have : j = 0 ∨ j = 1 := by omega
        rcases this with rfl | rfl
        · exact x0
        · exact x1
      · have : j = 0 := by omega
        rcases this with rfl
        · exact absurd (wn 0 z) (by decide)
    rw [ek, x0, x1]
    rfl
  · have d1 : ¬ sp_s1 tx p 2 1 = true := fun z => c1 ⟨w 1 0 (by omega) z, w 1 1 (by omega) z⟩
    have ek : sp_kd tx p 2 = 7 := by
      refine sp_k7_no 7 0 (fun j _ hj z => ?_)
      have : j = 0 ∨ j = 1 ∨ j = 2 ∨ j = 3 ∨ j = 4 ∨ j = 5 ∨ j = 6 := by omega
      rcases this with rfl | rfl | rfl | rfl | rfl | rfl | rfl
      · exact absurd (wn 0 z) (by decide)
      · exact d1 z
      · exact absurd (wn 2 z) (by decide)
      · exact absurd (wn 3 z) (by decide)
      · exact absurd (wn 4 z) (by decide)
      · exact absurd (wn 5 z) (by decide)
      · exact absurd (wn 6 z) (by decide)
    rw [ek]
    unfold sp_wv
    rw [if_neg (by omega), if_neg (by omega), if_neg (by omega), if_neg (by omega), if_neg (by omega), if_neg (by omega), if_neg (by omega)]
    rfl
theorem sp_kh3 {tx : Nat → Nat} {p : Nat} (h : ∀ i, i < 3 → 97 ≤ tx (p + i) ∧ tx (p + i) ≤ 122) : sp_wv (sp_hh tx p 3) = sp_mu (sp_kd tx p 3) := by
  have l0 := h 0 (by omega)
  have l1 := h 1 (by omega)
  have l2 := h 2 (by omega)
  have e : sp_hh tx p 3 = 32 * (32 * (32 * (0) + tx (p + 0) - 96) + tx (p + 1) - 96) + tx (p + 2) - 96 := by
    rw [sp_hh_s (show 2 < 6 by omega), sp_hh_s (show 1 < 6 by omega), sp_hh_s (show 0 < 6 by omega)]
    rfl
  rw [e]
  have w : ∀ k j, j < 3 → sp_s1 tx p 3 k = true → tx (p + j) = sp_wc k j := fun k j hj z => (sp_s1_t.mp z).2 j hj
  have wn : ∀ k, sp_s1 tx p 3 k = true → sp_wn k = 3 := fun k z => (sp_s1_t.mp z).1
  by_cases c5 : tx (p + 0) = 115 ∧ tx (p + 1) = 101 ∧ tx (p + 2) = 116
  · obtain ⟨x0, x1, x2⟩ := c5
    have ek : sp_kd tx p 3 = 5 := by
      refine sp_k7_yes (k := 5) ((sp_s1_t (m := 3) (k := 5)).mpr ⟨rfl, fun j hj => ?_⟩) 7 0 (by omega) (by omega) (fun j _ hj z => ?_)
      · have : j = 0 ∨ j = 1 ∨ j = 2 := by omega
        rcases this with rfl | rfl | rfl
        · exact x0
        · exact x1
        · exact x2
      · have : j = 0 ∨ j = 1 ∨ j = 2 ∨ j = 3 ∨ j = 4 := by omega
        rcases this with rfl | rfl | rfl | rfl | rfl
        · exact absurd (wn 0 z) (by decide)
        · exact absurd (wn 1 z) (by decide)
        · exact absurd (wn 2 z) (by decide)
        · exact absurd (wn 3 z) (by decide)
        · exact absurd (wn 4 z) (by decide)
    rw [ek, x0, x1, x2]
    rfl
  · have d5 : ¬ sp_s1 tx p 3 5 = true := fun z => c5 ⟨w 5 0 (by omega) z, w 5 1 (by omega) z, w 5 2 (by omega) z⟩
    have ek : sp_kd tx p 3 = 7 := by
      refine sp_k7_no 7 0 (fun j _ hj z => ?_)
      have : j = 0 ∨ j = 1 ∨ j = 2 ∨ j = 3 ∨ j = 4 ∨ j = 5 ∨ j = 6 := by omega
      rcases this with rfl | rfl | rfl | rfl | rfl | rfl | rfl
      · exact absurd (wn 0 z) (by decide)
      · exact absurd (wn 1 z) (by decide)
      · exact absurd (wn 2 z) (by decide)
      · exact absurd (wn 3 z) (by decide)
      · exact absurd (wn 4 z) (by decide)
      · exact d5 z
      · exact absurd (wn 6 z) (by decide)
    rw [ek]
    unfold sp_wv
    rw [if_neg (by omega), if_neg (by omega), if_neg (by omega), if_neg (by omega), if_neg (by omega), if_neg (by omega), if_neg (by omega)]
    rfl
theorem sp_kh4 {tx : Nat → Nat} {p : Nat} (h : ∀ i, i < 4 → 97 ≤ tx (p + i) ∧ tx (p + i) ≤ 122) : sp_wv (sp_hh tx p 4) = sp_mu (sp_kd tx p 4) := by
  have l0 := h 0 (by omega)
  have l1 := h 1 (by omega)
  have l2 := h 2 (by omega)
  have l3 := h 3 (by omega)
  have e : sp_hh tx p 4 = 32 * (32 * (32 * (32 * (0) + tx (p + 0) - 96) + tx (p + 1) - 96) + tx (p + 2) - 96) + tx (p + 3) - 96 := by
    rw [sp_hh_s (show 3 < 6 by omega), sp_hh_s (show 2 < 6 by omega), sp_hh_s (show 1 < 6 by omega), sp_hh_s (show 0 < 6 by omega)]
    rfl
  rw [e]
  have w : ∀ k j, j < 4 → sp_s1 tx p 4 k = true → tx (p + j) = sp_wc k j := fun k j hj z => (sp_s1_t.mp z).2 j hj
  have wn : ∀ k, sp_s1 tx p 4 k = true → sp_wn k = 4 := fun k z => (sp_s1_t.mp z).1
  by_cases c0 : tx (p + 0) = 106 ∧ tx (p + 1) = 111 ∧ tx (p + 2) = 105 ∧ tx (p + 3) = 110
  · obtain ⟨x0, x1, x2, x3⟩ := c0
    have ek : sp_kd tx p 4 = 0 := by
      refine sp_k7_yes (k := 0) ((sp_s1_t (m := 4) (k := 0)).mpr ⟨rfl, fun j hj => ?_⟩) 7 0 (by omega) (by omega) (fun j _ hj z => ?_)
      · have : j = 0 ∨ j = 1 ∨ j = 2 ∨ j = 3 := by omega
        rcases this with rfl | rfl | rfl | rfl
        · exact x0
        · exact x1
        · exact x2
        · exact x3
      · omega
    rw [ek, x0, x1, x2, x3]
    rfl
  · have d0 : ¬ sp_s1 tx p 4 0 = true := fun z => c0 ⟨w 0 0 (by omega) z, w 0 1 (by omega) z, w 0 2 (by omega) z, w 0 3 (by omega) z⟩
    by_cases c2 : tx (p + 0) = 113 ∧ tx (p + 1) = 117 ∧ tx (p + 2) = 105 ∧ tx (p + 3) = 116
    · obtain ⟨x0, x1, x2, x3⟩ := c2
      have ek : sp_kd tx p 4 = 2 := by
        refine sp_k7_yes (k := 2) ((sp_s1_t (m := 4) (k := 2)).mpr ⟨rfl, fun j hj => ?_⟩) 7 0 (by omega) (by omega) (fun j _ hj z => ?_)
        · have : j = 0 ∨ j = 1 ∨ j = 2 ∨ j = 3 := by omega
          rcases this with rfl | rfl | rfl | rfl
          · exact x0
          · exact x1
          · exact x2
          · exact x3
        · have : j = 0 ∨ j = 1 := by omega
          rcases this with rfl | rfl
          · have y : tx (p + 0) = 106 := w 0 0 (by omega) z
            omega
          · exact absurd (wn 1 z) (by decide)
      rw [ek, x0, x1, x2, x3]
      rfl
    · have d2 : ¬ sp_s1 tx p 4 2 = true := fun z => c2 ⟨w 2 0 (by omega) z, w 2 1 (by omega) z, w 2 2 (by omega) z, w 2 3 (by omega) z⟩
      by_cases c4 : tx (p + 0) = 108 ∧ tx (p + 1) = 97 ∧ tx (p + 2) = 116 ∧ tx (p + 3) = 101
      · obtain ⟨x0, x1, x2, x3⟩ := c4
        have ek : sp_kd tx p 4 = 4 := by
          refine sp_k7_yes (k := 4) ((sp_s1_t (m := 4) (k := 4)).mpr ⟨rfl, fun j hj => ?_⟩) 7 0 (by omega) (by omega) (fun j _ hj z => ?_)
          · have : j = 0 ∨ j = 1 ∨ j = 2 ∨ j = 3 := by omega
            rcases this with rfl | rfl | rfl | rfl
            · exact x0
            · exact x1
            · exact x2
            · exact x3
          · have : j = 0 ∨ j = 1 ∨ j = 2 ∨ j = 3 := by omega
            rcases this with rfl | rfl | rfl | rfl
            · have y : tx (p + 0) = 106 := w 0 0 (by omega) z
              omega
            · exact absurd (wn 1 z) (by decide)
            · have y : tx (p + 0) = 113 := w 2 0 (by omega) z
              omega
            · exact absurd (wn 3 z) (by decide)
        rw [ek, x0, x1, x2, x3]
        rfl
      · have d4 : ¬ sp_s1 tx p 4 4 = true := fun z => c4 ⟨w 4 0 (by omega) z, w 4 1 (by omega) z, w 4 2 (by omega) z, w 4 3 (by omega) z⟩
        have ek : sp_kd tx p 4 = 7 := by
          refine sp_k7_no 7 0 (fun j _ hj z => ?_)
          have : j = 0 ∨ j = 1 ∨ j = 2 ∨ j = 3 ∨ j = 4 ∨ j = 5 ∨ j = 6 := by omega
          rcases this with rfl | rfl | rfl | rfl | rfl | rfl | rfl
          · exact d0 z
          · exact absurd (wn 1 z) (by decide)
          · exact d2 z
          · exact absurd (wn 3 z) (by decide)
          · exact d4 z
          · exact absurd (wn 5 z) (by decide)
          · exact absurd (wn 6 z) (by decide)
        rw [ek]
        unfold sp_wv
        rw [if_neg (by omega), if_neg (by omega), if_neg (by omega), if_neg (by omega), if_neg (by omega), if_neg (by omega), if_neg (by omega)]
        rfl
theorem sp_kh5 {tx : Nat → Nat} {p : Nat} (h : ∀ i, i < 5 → 97 ≤ tx (p + i) ∧ tx (p + i) ≤ 122) : sp_wv (sp_hh tx p 5) = sp_mu (sp_kd tx p 5) := by
  have l0 := h 0 (by omega)
  have l1 := h 1 (by omega)
  have l2 := h 2 (by omega)
  have l3 := h 3 (by omega)
  have l4 := h 4 (by omega)
  have e : sp_hh tx p 5 = 32 * (32 * (32 * (32 * (32 * (0) + tx (p + 0) - 96) + tx (p + 1) - 96) + tx (p + 2) - 96) + tx (p + 3) - 96) + tx (p + 4) - 96 := by
    rw [sp_hh_s (show 4 < 6 by omega), sp_hh_s (show 3 < 6 by omega), sp_hh_s (show 2 < 6 by omega), sp_hh_s (show 1 < 6 by omega), sp_hh_s (show 0 < 6 by omega)]
    rfl
  rw [e]
  have w : ∀ k j, j < 5 → sp_s1 tx p 5 k = true → tx (p + j) = sp_wc k j := fun k j hj z => (sp_s1_t.mp z).2 j hj
  have wn : ∀ k, sp_s1 tx p 5 k = true → sp_wn k = 5 := fun k z => (sp_s1_t.mp z).1
  by_cases c3 : tx (p + 0) = 101 ∧ tx (p + 1) = 118 ∧ tx (p + 2) = 101 ∧ tx (p + 3) = 110 ∧ tx (p + 4) = 116
  · obtain ⟨x0, x1, x2, x3, x4⟩ := c3
    have ek : sp_kd tx p 5 = 3 := by
      refine sp_k7_yes (k := 3) ((sp_s1_t (m := 5) (k := 3)).mpr ⟨rfl, fun j hj => ?_⟩) 7 0 (by omega) (by omega) (fun j _ hj z => ?_)
      · have : j = 0 ∨ j = 1 ∨ j = 2 ∨ j = 3 ∨ j = 4 := by omega
        rcases this with rfl | rfl | rfl | rfl | rfl
        · exact x0
        · exact x1
        · exact x2
        · exact x3
        · exact x4
      · have : j = 0 ∨ j = 1 ∨ j = 2 := by omega
        rcases this with rfl | rfl | rfl
        · exact absurd (wn 0 z) (by decide)
        · exact absurd (wn 1 z) (by decide)
        · exact absurd (wn 2 z) (by decide)
    rw [ek, x0, x1, x2, x3, x4]
    rfl
  · have d3 : ¬ sp_s1 tx p 5 3 = true := fun z => c3 ⟨w 3 0 (by omega) z, w 3 1 (by omega) z, w 3 2 (by omega) z, w 3 3 (by omega) z, w 3 4 (by omega) z⟩
    by_cases c6 : tx (p + 0) = 116 ∧ tx (p + 1) = 105 ∧ tx (p + 2) = 99 ∧ tx (p + 3) = 107 ∧ tx (p + 4) = 115
    · obtain ⟨x0, x1, x2, x3, x4⟩ := c6
      have ek : sp_kd tx p 5 = 6 := by
        refine sp_k7_yes (k := 6) ((sp_s1_t (m := 5) (k := 6)).mpr ⟨rfl, fun j hj => ?_⟩) 7 0 (by omega) (by omega) (fun j _ hj z => ?_)
        · have : j = 0 ∨ j = 1 ∨ j = 2 ∨ j = 3 ∨ j = 4 := by omega
          rcases this with rfl | rfl | rfl | rfl | rfl
          · exact x0
          · exact x1
          · exact x2
          · exact x3
          · exact x4
        · have : j = 0 ∨ j = 1 ∨ j = 2 ∨ j = 3 ∨ j = 4 ∨ j = 5 := by omega
          rcases this with rfl | rfl | rfl | rfl | rfl | rfl
          · exact absurd (wn 0 z) (by decide)
          · exact absurd (wn 1 z) (by decide)
          · exact absurd (wn 2 z) (by decide)
          · have y : tx (p + 0) = 101 := w 3 0 (by omega) z
            omega
          · exact absurd (wn 4 z) (by decide)
          · exact absurd (wn 5 z) (by decide)
      rw [ek, x0, x1, x2, x3, x4]
      rfl
    · have d6 : ¬ sp_s1 tx p 5 6 = true := fun z => c6 ⟨w 6 0 (by omega) z, w 6 1 (by omega) z, w 6 2 (by omega) z, w 6 3 (by omega) z, w 6 4 (by omega) z⟩
      have ek : sp_kd tx p 5 = 7 := by
        refine sp_k7_no 7 0 (fun j _ hj z => ?_)
        have : j = 0 ∨ j = 1 ∨ j = 2 ∨ j = 3 ∨ j = 4 ∨ j = 5 ∨ j = 6 := by omega
        rcases this with rfl | rfl | rfl | rfl | rfl | rfl | rfl
        · exact absurd (wn 0 z) (by decide)
        · exact absurd (wn 1 z) (by decide)
        · exact absurd (wn 2 z) (by decide)
        · exact d3 z
        · exact absurd (wn 4 z) (by decide)
        · exact absurd (wn 5 z) (by decide)
        · exact d6 z
      rw [ek]
      unfold sp_wv
      rw [if_neg (by omega), if_neg (by omega), if_neg (by omega), if_neg (by omega), if_neg (by omega), if_neg (by omega), if_neg (by omega)]
      rfl
theorem sp_kh {tx : Nat → Nat} {p m : Nat} (hm : m ≤ 5) (h : ∀ i, i < m → 97 ≤ tx (p + i) ∧ tx (p + i) ≤ 122) : sp_wv (sp_hh tx p m) = sp_mu (sp_kd tx p m) := by
  have : m = 0 ∨ m = 1 ∨ m = 2 ∨ m = 3 ∨ m = 4 ∨ m = 5 := by omega
  rcases this with rfl | rfl | rfl | rfl | rfl | rfl
  · rw [sp_kd_long (by omega)]; rfl
  · rw [sp_kd_long (by omega), sp_hh_s (by omega)]
    have := h 0 (by omega)
    rw [show sp_hh tx p 0 = 0 from rfl]
    unfold sp_wv
    rw [if_neg (by omega), if_neg (by omega), if_neg (by omega), if_neg (by omega), if_neg (by omega), if_neg (by omega), if_neg (by omega)]
    rfl
  · exact sp_kh2 h
  · exact sp_kh3 h
  · exact sp_kh4 h
  · exact sp_kh5 h
