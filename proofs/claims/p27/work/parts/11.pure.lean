/-! WHAT A METHOD DOES, as a function: none where the machine itself would throw -/
def ce_FU : Nat := 100000
theorem ce_it {α : Type} {c : Prop} {d : Decidable c} {a b y : α} (hc : c) (h : @ite α c d a b = y) : a = y := by rw [if_pos hc] at h; exact h
theorem ce_ie {α : Type} {c : Prop} {d : Decidable c} {a b y : α} (hc : ¬ c) (h : @ite α c d a b = y) : b = y := by rw [if_neg hc] at h; exact h
def ce_nm {α β : Type} (e : α) (K : α → β) : β := K e
theorem ce_nm_e {α β : Type} {e : α} {K : α → β} {y : β} (h : ce_nm e K = y) : ∃ x, e = x ∧ K x = y := ⟨e, rfl, h⟩
def ce_gi {α : Type} (i : Int32) (n : Nat) (K : Option α) : Option α := if i < 0 ∨ n ≤ i.toNatClampNeg then none else K
theorem ce_gi_e {α : Type} {i : Int32} {n : Nat} {K : Option α} {y : α} (h : ce_gi i n K = some y) : vp_in i n ∧ K = some y := by
  unfold ce_gi at h
  by_cases c : i < 0 ∨ n ≤ i.toNatClampNeg
  · rw [if_pos c] at h; cases h
  · rw [if_neg c] at h; exact ⟨c, h⟩
theorem ce_gi_i {α : Type} {i : Int32} {n : Nat} {K : Option α} (h : vp_in i n) : ce_gi i n K = K := if_neg h
theorem ce_in_lt {i : Int32} {n : Nat} (h : vp_in i n) : i.toNatClampNeg < n := Nat.not_le.mp fun q => h (Or.inr q)
def ce_gz {α : Type} (z : Int32) (K : Option α) : Option α := if z = 0 ∨ z = 1 then K else none
theorem ce_gz_e {α : Type} {z : Int32} {K : Option α} {y : α} (h : ce_gz z K = some y) : (z = 0 ∨ z = 1) ∧ K = some y := by
  unfold ce_gz at h
  by_cases c : z = 0 ∨ z = 1
  · rw [if_pos c] at h; exact ⟨c, h⟩
  · rw [if_neg c] at h; cases h
def ce_b1 {α β : Type} (o : Option α) (K : α → Option β) : Option β := match o with
  | none => none
  | some x => K x
def ce_b2 {α γ β : Type} (o : Option (α × γ)) (K : α → γ → Option β) : Option β := match o with
  | none => none
  | some x => K x.1 x.2
def ce_b3 {α γ δ β : Type} (o : Option (α × γ × δ)) (K : α → γ → δ → Option β) : Option β := match o with
  | none => none
  | some x => K x.1 x.2.1 x.2.2
theorem ce_b1_e {α β : Type} {o : Option α} {K : α → Option β} {y : β} (h : ce_b1 o K = some y) : ∃ x, o = some x ∧ K x = some y := by
  cases o with
  | none => cases h
  | some x => exact ⟨x, rfl, h⟩
theorem ce_b2_e {α γ β : Type} {o : Option (α × γ)} {K : α → γ → Option β} {y : β} (h : ce_b2 o K = some y) : ∃ x z, o = some (x, z) ∧ K x z = some y := by
  cases o with
  | none => cases h
  | some x => exact ⟨x.1, x.2, rfl, h⟩
theorem ce_b3_e {α γ δ β : Type} {o : Option (α × γ × δ)} {K : α → γ → δ → Option β} {y : β} (h : ce_b3 o K = some y) : ∃ x z t, o = some (x, z, t) ∧ K x z t = some y := by
  cases o with
  | none => cases h
  | some x => exact ⟨x.1, x.2.1, x.2.2, rfl, h⟩
/-- copying a whole row's first n places -/
def ce_cp (M : ce_M) (ks kd n : Nat) : ce_M := (fun a i => if a = kd ∧ i < n then M.1 ks i else M.1 a i, M.2)
theorem ce_rd_cp (M : ce_M) (ks kd n a i : Nat) : ce_rd (ce_cp M ks kd n) a i = if a = kd ∧ i < n then ce_rd M ks i else ce_rd M a i := rfl
theorem ce_rl_cp (M : ce_M) (ks kd n a : Nat) : ce_rl (ce_cp M ks kd n) a = ce_rl M a := rfl
def ce_lp1 {A0 α : Type} (F : (A0 → Option α) → A0 → Option α) : Nat → A0 → Option α
  | 0 => fun _ => none
  | n + 1 => F (ce_lp1 F n)
theorem ce_lp1_i {A0 α : Type} {F : (A0 → Option α) → A0 → Option α} {y : α} {P : A0 → Prop} (step : ∀ rec, (∀ a0, rec a0 = some y → P a0) → ∀ a0, F rec a0 = some y → P a0) : ∀ n a0, ce_lp1 F n a0 = some y → P a0 := by
  intro n
  induction n with
  | zero => intro a0 h; cases h
  | succ n ih => exact step _ ih
def ce_lp2 {A0 A1 α : Type} (F : (A0 → A1 → Option α) → A0 → A1 → Option α) : Nat → A0 → A1 → Option α
  | 0 => fun _ _ => none
  | n + 1 => F (ce_lp2 F n)
theorem ce_lp2_i {A0 A1 α : Type} {F : (A0 → A1 → Option α) → A0 → A1 → Option α} {y : α} {P : A0 → A1 → Prop} (step : ∀ rec, (∀ a0 a1, rec a0 a1 = some y → P a0 a1) → ∀ a0 a1, F rec a0 a1 = some y → P a0 a1) : ∀ n a0 a1, ce_lp2 F n a0 a1 = some y → P a0 a1 := by
  intro n
  induction n with
  | zero => intro a0 a1 h; cases h
  | succ n ih => exact step _ ih
def ce_lp3 {A0 A1 A2 α : Type} (F : (A0 → A1 → A2 → Option α) → A0 → A1 → A2 → Option α) : Nat → A0 → A1 → A2 → Option α
  | 0 => fun _ _ _ => none
  | n + 1 => F (ce_lp3 F n)
theorem ce_lp3_i {A0 A1 A2 α : Type} {F : (A0 → A1 → A2 → Option α) → A0 → A1 → A2 → Option α} {y : α} {P : A0 → A1 → A2 → Prop} (step : ∀ rec, (∀ a0 a1 a2, rec a0 a1 a2 = some y → P a0 a1 a2) → ∀ a0 a1 a2, F rec a0 a1 a2 = some y → P a0 a1 a2) : ∀ n a0 a1 a2, ce_lp3 F n a0 a1 a2 = some y → P a0 a1 a2 := by
  intro n
  induction n with
  | zero => intro a0 a1 a2 h; cases h
  | succ n ih => exact step _ ih
def ce_lp4 {A0 A1 A2 A3 α : Type} (F : (A0 → A1 → A2 → A3 → Option α) → A0 → A1 → A2 → A3 → Option α) : Nat → A0 → A1 → A2 → A3 → Option α
  | 0 => fun _ _ _ _ => none
  | n + 1 => F (ce_lp4 F n)
theorem ce_lp4_i {A0 A1 A2 A3 α : Type} {F : (A0 → A1 → A2 → A3 → Option α) → A0 → A1 → A2 → A3 → Option α} {y : α} {P : A0 → A1 → A2 → A3 → Prop} (step : ∀ rec, (∀ a0 a1 a2 a3, rec a0 a1 a2 a3 = some y → P a0 a1 a2 a3) → ∀ a0 a1 a2 a3, F rec a0 a1 a2 a3 = some y → P a0 a1 a2 a3) : ∀ n a0 a1 a2 a3, ce_lp4 F n a0 a1 a2 a3 = some y → P a0 a1 a2 a3 := by
  intro n
  induction n with
  | zero => intro a0 a1 a2 a3 h; cases h
  | succ n ih => exact step _ ih
def ce_lp5 {A0 A1 A2 A3 A4 α : Type} (F : (A0 → A1 → A2 → A3 → A4 → Option α) → A0 → A1 → A2 → A3 → A4 → Option α) : Nat → A0 → A1 → A2 → A3 → A4 → Option α
  | 0 => fun _ _ _ _ _ => none
  | n + 1 => F (ce_lp5 F n)
theorem ce_lp5_i {A0 A1 A2 A3 A4 α : Type} {F : (A0 → A1 → A2 → A3 → A4 → Option α) → A0 → A1 → A2 → A3 → A4 → Option α} {y : α} {P : A0 → A1 → A2 → A3 → A4 → Prop} (step : ∀ rec, (∀ a0 a1 a2 a3 a4, rec a0 a1 a2 a3 a4 = some y → P a0 a1 a2 a3 a4) → ∀ a0 a1 a2 a3 a4, F rec a0 a1 a2 a3 a4 = some y → P a0 a1 a2 a3 a4) : ∀ n a0 a1 a2 a3 a4, ce_lp5 F n a0 a1 a2 a3 a4 = some y → P a0 a1 a2 a3 a4 := by
  intro n
  induction n with
  | zero => intro a0 a1 a2 a3 a4 h; cases h
  | succ n ih => exact step _ ih
def ce_lp6 {A0 A1 A2 A3 A4 A5 α : Type} (F : (A0 → A1 → A2 → A3 → A4 → A5 → Option α) → A0 → A1 → A2 → A3 → A4 → A5 → Option α) : Nat → A0 → A1 → A2 → A3 → A4 → A5 → Option α
  | 0 => fun _ _ _ _ _ _ => none
  | n + 1 => F (ce_lp6 F n)
theorem ce_lp6_i {A0 A1 A2 A3 A4 A5 α : Type} {F : (A0 → A1 → A2 → A3 → A4 → A5 → Option α) → A0 → A1 → A2 → A3 → A4 → A5 → Option α} {y : α} {P : A0 → A1 → A2 → A3 → A4 → A5 → Prop} (step : ∀ rec, (∀ a0 a1 a2 a3 a4 a5, rec a0 a1 a2 a3 a4 a5 = some y → P a0 a1 a2 a3 a4 a5) → ∀ a0 a1 a2 a3 a4 a5, F rec a0 a1 a2 a3 a4 a5 = some y → P a0 a1 a2 a3 a4 a5) : ∀ n a0 a1 a2 a3 a4 a5, ce_lp6 F n a0 a1 a2 a3 a4 a5 = some y → P a0 a1 a2 a3 a4 a5 := by
  intro n
  induction n with
  | zero => intro a0 a1 a2 a3 a4 a5 h; cases h
  | succ n ih => exact step _ ih
def ce_lp7 {A0 A1 A2 A3 A4 A5 A6 α : Type} (F : (A0 → A1 → A2 → A3 → A4 → A5 → A6 → Option α) → A0 → A1 → A2 → A3 → A4 → A5 → A6 → Option α) : Nat → A0 → A1 → A2 → A3 → A4 → A5 → A6 → Option α
  | 0 => fun _ _ _ _ _ _ _ => none
  | n + 1 => F (ce_lp7 F n)
theorem ce_lp7_i {A0 A1 A2 A3 A4 A5 A6 α : Type} {F : (A0 → A1 → A2 → A3 → A4 → A5 → A6 → Option α) → A0 → A1 → A2 → A3 → A4 → A5 → A6 → Option α} {y : α} {P : A0 → A1 → A2 → A3 → A4 → A5 → A6 → Prop} (step : ∀ rec, (∀ a0 a1 a2 a3 a4 a5 a6, rec a0 a1 a2 a3 a4 a5 a6 = some y → P a0 a1 a2 a3 a4 a5 a6) → ∀ a0 a1 a2 a3 a4 a5 a6, F rec a0 a1 a2 a3 a4 a5 a6 = some y → P a0 a1 a2 a3 a4 a5 a6) : ∀ n a0 a1 a2 a3 a4 a5 a6, ce_lp7 F n a0 a1 a2 a3 a4 a5 a6 = some y → P a0 a1 a2 a3 a4 a5 a6 := by
  intro n
  induction n with
  | zero => intro a0 a1 a2 a3 a4 a5 a6 h; cases h
  | succ n ih => exact step _ ih
def ce_lp8 {A0 A1 A2 A3 A4 A5 A6 A7 α : Type} (F : (A0 → A1 → A2 → A3 → A4 → A5 → A6 → A7 → Option α) → A0 → A1 → A2 → A3 → A4 → A5 → A6 → A7 → Option α) : Nat → A0 → A1 → A2 → A3 → A4 → A5 → A6 → A7 → Option α
  | 0 => fun _ _ _ _ _ _ _ _ => none
  | n + 1 => F (ce_lp8 F n)
theorem ce_lp8_i {A0 A1 A2 A3 A4 A5 A6 A7 α : Type} {F : (A0 → A1 → A2 → A3 → A4 → A5 → A6 → A7 → Option α) → A0 → A1 → A2 → A3 → A4 → A5 → A6 → A7 → Option α} {y : α} {P : A0 → A1 → A2 → A3 → A4 → A5 → A6 → A7 → Prop} (step : ∀ rec, (∀ a0 a1 a2 a3 a4 a5 a6 a7, rec a0 a1 a2 a3 a4 a5 a6 a7 = some y → P a0 a1 a2 a3 a4 a5 a6 a7) → ∀ a0 a1 a2 a3 a4 a5 a6 a7, F rec a0 a1 a2 a3 a4 a5 a6 a7 = some y → P a0 a1 a2 a3 a4 a5 a6 a7) : ∀ n a0 a1 a2 a3 a4 a5 a6 a7, ce_lp8 F n a0 a1 a2 a3 a4 a5 a6 a7 = some y → P a0 a1 a2 a3 a4 a5 a6 a7 := by
  intro n
  induction n with
  | zero => intro a0 a1 a2 a3 a4 a5 a6 a7 h; cases h
  | succ n ih => exact step _ ih
