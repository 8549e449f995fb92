/-! all fits: loops and sums -/
theorem ms_f6 {A0 A1 A2 A3 A4 A5 α : Type} {F : (A0 → A1 → A2 → A3 → A4 → A5 → Option α) → A0 → A1 → A2 → A3 → A4 → A5 → Option α} (x0 : Nat → A0) (x1 : Nat → A1) (x2 : Nat → A2) (x3 : Nat → A3) (x4 : Nat → A4) (x5 : Nat → A5) {r : Option α} (N : Nat) (hs : ∀ i, i < N → ∀ rec, F rec (x0 i) (x1 i) (x2 i) (x3 i) (x4 i) (x5 i) = rec (x0 (i + 1)) (x1 (i + 1)) (x2 (i + 1)) (x3 (i + 1)) (x4 (i + 1)) (x5 (i + 1))) (he : ∀ rec, F rec (x0 N) (x1 N) (x2 N) (x3 N) (x4 N) (x5 N) = r) {fuel : Nat} (hf : N < fuel) : ce_lp6 F fuel (x0 0) (x1 0) (x2 0) (x3 0) (x4 0) (x5 0) = r := by
  have key : ∀ m i fuel, i + m = N → m < fuel → ce_lp6 F fuel (x0 i) (x1 i) (x2 i) (x3 i) (x4 i) (x5 i) = r := by
    intro m
    induction m with
    | zero =>
      intro i fuel h1 h2
      obtain ⟨f, rfl⟩ : ∃ f, fuel = f + 1 := ⟨fuel - 1, by omega⟩
      have e : i = N := by omega
      subst e
      exact he _
    | succ m ih =>
      intro i fuel h1 h2
      obtain ⟨f, rfl⟩ : ∃ f, fuel = f + 1 := ⟨fuel - 1, by omega⟩
      exact (hs i (by omega) _).trans (ih (i + 1) f (by omega) (by omega))
  exact key N 0 fuel (by omega) hf
theorem ms_f8 {A0 A1 A2 A3 A4 A5 A6 A7 α : Type} {F : (A0 → A1 → A2 → A3 → A4 → A5 → A6 → A7 → Option α) → A0 → A1 → A2 → A3 → A4 → A5 → A6 → A7 → Option α} (x0 : Nat → A0) (x1 : Nat → A1) (x2 : Nat → A2) (x3 : Nat → A3) (x4 : Nat → A4) (x5 : Nat → A5) (x6 : Nat → A6) (x7 : Nat → A7) {r : Option α} (N : Nat) (hs : ∀ i, i < N → ∀ rec, F rec (x0 i) (x1 i) (x2 i) (x3 i) (x4 i) (x5 i) (x6 i) (x7 i) = rec (x0 (i + 1)) (x1 (i + 1)) (x2 (i + 1)) (x3 (i + 1)) (x4 (i + 1)) (x5 (i + 1)) (x6 (i + 1)) (x7 (i + 1))) (he : ∀ rec, F rec (x0 N) (x1 N) (x2 N) (x3 N) (x4 N) (x5 N) (x6 N) (x7 N) = r) {fuel : Nat} (hf : N < fuel) : ce_lp8 F fuel (x0 0) (x1 0) (x2 0) (x3 0) (x4 0) (x5 0) (x6 0) (x7 0) = r := by
  have key : ∀ m i fuel, i + m = N → m < fuel → ce_lp8 F fuel (x0 i) (x1 i) (x2 i) (x3 i) (x4 i) (x5 i) (x6 i) (x7 i) = r := by
    intro m
    induction m with
    | zero =>
      intro i fuel h1 h2
      obtain ⟨f, rfl⟩ : ∃ f, fuel = f + 1 := ⟨fuel - 1, by omega⟩
      have e : i = N := by omega
      subst e
      exact he _
    | succ m ih =>
      intro i fuel h1 h2
      obtain ⟨f, rfl⟩ : ∃ f, fuel = f + 1 := ⟨fuel - 1, by omega⟩
      exact (hs i (by omega) _).trans (ih (i + 1) f (by omega) (by omega))
  exact key N 0 fuel (by omega) hf
theorem q_sm_addf (f g : Nat → Int32) : ∀ n, sp_sm (fun a => f a + g a) n = sp_sm f n + sp_sm g n
  | 0 => rfl
  | n + 1 => by
    show sp_sm (fun a => f a + g a) n + (f n + g n) = sp_sm f n + f n + (sp_sm g n + g n)
    rw [q_sm_addf f g n, Int32.add_assoc, Int32.add_assoc, ← Int32.add_assoc (sp_sm g n), Int32.add_comm (sp_sm g n) (f n), Int32.add_assoc]
theorem q_sm_z : ∀ n, sp_sm (fun _ => nI 0) n = nI 0
  | 0 => rfl
  | n + 1 => by
    show sp_sm (fun _ => nI 0) n + nI 0 = nI 0
    rw [q_sm_z n]; rfl
theorem q_sm_x (g : Nat → Nat → Int32) (n : Nat) : ∀ m, sp_sm (fun p => sp_sm (g p) n) m = sp_sm (fun a => sp_sm (fun p => g p a) m) n
  | 0 => (q_sm_z n).symm
  | m + 1 => by
    show sp_sm (fun p => sp_sm (g p) n) m + sp_sm (g m) n = sp_sm (fun a => sp_sm (fun p => g p a) m + g m a) n
    rw [q_sm_x g n m, q_sm_addf (fun a => sp_sm (fun p => g p a) m) (fun a => g m a)]
theorem q_hot {P : Prop} [Decidable P] {v x : Int32} {s : Nat} (hs : s < 16) (hx : x = nI s) : sp_sm (fun p => if P ∧ x = nI p then v else nI 0) 16 = if P then v else nI 0 := by
  subst hx
  have key : ∀ m, m ≤ 16 → sp_sm (fun p => if P ∧ nI s = nI p then v else nI 0) m = if P ∧ s < m then v else nI 0 := by
    intro m
    induction m with
    | zero => intro _; rw [if_neg (fun q => absurd q.2 (by omega))]; rfl
    | succ m ih =>
      intro hm
      show sp_sm _ m + (if P ∧ nI s = nI m then v else nI 0) = _
      rw [ih (by omega)]
      by_cases c : P
      · by_cases q : s < m
        · rw [if_pos ⟨c, q⟩, if_neg (fun z => absurd (ms_nI z.2 (by omega) (by omega)) (by omega)), if_pos ⟨c, by omega⟩, ms_add0]
        · by_cases q2 : s = m
          · subst q2
            rw [if_neg (fun z => q z.2), if_pos ⟨c, rfl⟩, if_pos ⟨c, by omega⟩, Int32.add_comm, ms_add0]
          · rw [if_neg (fun z => q z.2), if_neg (fun z => absurd (ms_nI z.2 (by omega) (by omega)) q2), if_neg (fun z => absurd z.2 (by omega)), ms_add0]
      · rw [if_neg (fun z => c z.1), if_neg (fun z => c z.1), if_neg (fun z => c z.1), ms_add0]
  rw [key 16 (Nat.le_refl _)]
  by_cases c : P
  · rw [if_pos c, if_pos ⟨c, hs⟩]
  · rw [if_neg c, if_neg (fun z => c z.1)]
theorem q_sm_b {f : Nat → Int32} {k : Nat} : ∀ n, (∀ a, a < n → ∃ v, v ≤ k ∧ f a = nI v) → ∃ v, v ≤ k * n ∧ sp_sm f n = nI v
  | 0, _ => ⟨0, by omega, rfl⟩
  | n + 1, h => by
    obtain ⟨v, v1, v2⟩ := q_sm_b n (fun a ha => h a (by omega))
    obtain ⟨x, x1, x2⟩ := h n (by omega)
    refine ⟨v + x, by rw [Nat.mul_succ]; omega, ?_⟩
    show sp_sm f n + f n = _
    rw [v2, x2, nI_add]
theorem q_bz {f : Nat → Int32} (hf : ∀ l, l < 16 → ∃ v, v < 2 ^ 31 ∧ f l = nI v) : ∀ m, m ≤ 16 → ((sp_bz f m).2 = nI 0 ∧ (sp_bz f m).1 = -1) ∨ (∃ l, l < m ∧ (sp_bz f m).1 = nI l ∧ (sp_bz f m).2 = f l ∧ f l ≠ nI 0)
  | 0, _ => Or.inl ⟨rfl, rfl⟩
  | m + 1, h => by
    obtain ⟨v, v1, v2⟩ := hf m (by omega)
    show ((if f m ≤ (sp_bz f m).2 then sp_bz f m else (nI m, f m)).2 = nI 0 ∧ (if f m ≤ (sp_bz f m).2 then sp_bz f m else (nI m, f m)).1 = -1) ∨ (∃ l, l < m + 1 ∧ (if f m ≤ (sp_bz f m).2 then sp_bz f m else (nI m, f m)).1 = nI l ∧ (if f m ≤ (sp_bz f m).2 then sp_bz f m else (nI m, f m)).2 = f l ∧ f l ≠ nI 0)
    by_cases c : f m ≤ (sp_bz f m).2
    · rw [if_pos c]
      rcases q_bz hf m (by omega) with q | ⟨l, l1, l2⟩
      · exact Or.inl q
      · exact Or.inr ⟨l, by omega, l2⟩
    · rw [if_neg c]
      refine Or.inr ⟨m, by omega, rfl, rfl, fun q => c ?_⟩
      rw [q]
      rcases q_bz hf m (by omega) with ⟨q1, _⟩ | ⟨l, l1, l2, l3, l4⟩
      · rw [q1]; exact Int32.le_refl _
      · obtain ⟨x, x1, x2⟩ := hf l (by omega)
        rw [l3, x2]
        exact nI_le (by omega) x1
theorem q_abs (x y : Int32) : (x ||| y) &&& x = x := by
  apply Int32.toBitVec_inj.1
  apply BitVec.eq_of_getLsbD_eq
  intro i hi
  simp
  intro h
  exact Or.inl h
theorem q_rb_or {σ : Nat → Int32} {l v v' : Nat} {time : Int32} : ∀ n, (∀ a, a < n → sp_rc σ a l v time = true → sp_rc σ a l v' time = true) → sp_rb σ l v time n ||| sp_rb σ l v' time n = sp_rb σ l v' time n
  | 0, _ => by show nI 0 ||| nI 0 = nI 0; decide
  | n + 1, h => by
    have ih := q_rb_or n (fun a ha => h a (by omega))
    show (if sp_rc σ n l v time = true then sp_rb σ l v time n ||| _ else sp_rb σ l v time n) ||| (if sp_rc σ n l v' time = true then sp_rb σ l v' time n ||| _ else sp_rb σ l v' time n) = (if sp_rc σ n l v' time = true then sp_rb σ l v' time n ||| _ else sp_rb σ l v' time n)
    generalize (nI 1 <<< (nI n &&& nI 31)) = x
    by_cases c : sp_rc σ n l v time = true
    · rw [if_pos c, if_pos (h n (by omega) c), Int32.or_assoc, Int32.or_comm x, Int32.or_assoc, Int32.or_self, ← Int32.or_assoc, ih]
    · rw [if_neg c]
      by_cases c2 : sp_rc σ n l v' time = true
      · rw [if_pos c2, ← Int32.or_assoc, ih]
      · rw [if_neg c2, ih]
