/-! THE PURE PART: loops, the row of the model, places in it -/
/-! told by Eq.trans, so that simp takes them as equations and not as unfoldings -/
theorem ms_lit (n : Nat) : (@OfNat.ofNat Int32 n _) = nI n := Eq.trans (Eq.refl _) (Eq.refl _)
theorem ms_gi {α : Type} {n N : Nat} {K : Option α} (h : n < N) (hN : N < 2 ^ 31) : ce_gi (nI n) N K = K := if_neg (nI_in h hN)
theorem ms_gz0 {α : Type} {K : Option α} : ce_gz (nI 0) K = K := if_pos (Or.inl rfl)
theorem ms_gz1 {α : Type} {K : Option α} : ce_gz (nI 1) K = K := if_pos (Or.inr rfl)
theorem ms_nm {α β : Type} (e : α) (K : α → β) : ce_nm e K = K e := Eq.trans (Eq.refl _) (Eq.refl _)
theorem ms_b1 {α β : Type} (x : α) (K : α → Option β) : ce_b1 (some x) K = K x := Eq.trans (Eq.refl _) (Eq.refl _)
theorem ms_b2 {α γ β : Type} (x : α) (y : γ) (K : α → γ → Option β) : ce_b2 (some (x, y)) K = K x y := Eq.trans (Eq.refl _) (Eq.refl _)
theorem ms_b3 {α γ δ β : Type} (x : α) (y : γ) (z : δ) (K : α → γ → δ → Option β) : ce_b3 (some (x, y, z)) K = K x y z := Eq.trans (Eq.refl _) (Eq.refl _)
theorem ms_sub {a b : Nat} (h : b ≤ a) : nI a - nI b = nI (a - b) := by
  have h2 : a = (a - b) + b := by omega
  rw [h2, ← nI_add, Nat.add_sub_cancel]
  exact Int32.add_sub_cancel _ _
theorem ms_neg1 : (-nI 1) = -1 := rfl
theorem ms_lt0 {n : Nat} (h : n < 2 ^ 31) : nI n < 0 ↔ False := ⟨fun q => nI_pos h q, False.elim⟩
def ms_S (M : ce_M) (σ : Nat → Int32) : ce_M := (fun a i => if a = 415 then σ i else M.1 a i, M.2)
theorem ms_S_self (M : ce_M) : ms_S M (ce_rd M 415) = M := by
  refine Prod.ext (funext fun a => funext fun i => ?_) rfl
  show (if a = 415 then M.1 415 i else M.1 a i) = M.1 a i
  by_cases h : a = 415
  · rw [if_pos h, h]
  · rw [if_neg h]
theorem ms_rd (M : ce_M) (σ : Nat → Int32) (j : Nat) : ce_rd (ms_S M σ) 415 j = σ j := Eq.trans (Eq.refl _) (Eq.refl _)
theorem ms_rd' (M : ce_M) (σ : Nat → Int32) {k : Nat} (h : k ≠ 415) (j : Nat) : ce_rd (ms_S M σ) k j = ce_rd M k j := if_neg h
theorem ms_wr (M : ce_M) (σ : Nat → Int32) (j : Nat) (v : Int32) : ce_wr (ms_S M σ) 415 j v = ms_S M (upd σ j v) := by
  refine Prod.ext (funext fun a => funext fun i => ?_) rfl
  show (if a = 415 ∧ i = j then v else (if a = 415 then σ i else M.1 a i)) = (if a = 415 then (if i = j then v else σ i) else M.1 a i)
  by_cases h : a = 415
  · by_cases h2 : i = j
    · rw [if_pos ⟨h, h2⟩, if_pos h, if_pos h2]
    · rw [if_neg (fun q => h2 q.2), if_pos h, if_pos h, if_neg h2]
  · rw [if_neg (fun q => h q.1), if_neg h, if_neg h]
theorem ms_wr' (M : ce_M) (σ : Nat → Int32) {k : Nat} (h : k ≠ 415) (j : Nat) (v : Int32) : ce_wr (ms_S M σ) k j v = ms_S (ce_wr M k j v) σ := by
  refine Prod.ext (funext fun a => funext fun i => ?_) rfl
  show (if a = k ∧ i = j then v else (if a = 415 then σ i else M.1 a i)) = (if a = 415 then σ i else (if a = k ∧ i = j then v else M.1 a i))
  by_cases h1 : a = 415
  · rw [if_pos h1, if_pos h1, if_neg (fun q => h (q.1.symm.trans h1))]
  · rw [if_neg h1, if_neg h1]
theorem ms_u1 {f : Nat → Int32} {k j : Nat} {v : Int32} (h : j = k) : upd f k v j = v := if_pos h
theorem ms_u2 {f : Nat → Int32} {k j : Nat} {v : Int32} (h : j ≠ k) : upd f k v j = f j := if_neg h
theorem ms_rw1 {M : ce_M} {k j a i : Nat} {v : Int32} (h : a = k) (h2 : i = j) : ce_rd (ce_wr M k j v) a i = v := if_pos ⟨h, h2⟩
theorem ms_rw2 {M : ce_M} {k j a i : Nat} {v : Int32} (h : a ≠ k) : ce_rd (ce_wr M k j v) a i = ce_rd M a i := if_neg (fun q => h q.1)
theorem ms_rw3 {M : ce_M} {k j a i : Nat} {v : Int32} (h : i ≠ j) : ce_rd (ce_wr M k j v) a i = ce_rd M a i := if_neg (fun q => h q.2)
theorem ms_r1 {A0 α : Type} {F : (A0 → Option α) → A0 → Option α} (x0 : Nat → A0) (r : Nat → Option α) (N : Nat) (h0 : ∀ rec, F rec (x0 0) = r 0) (hs : ∀ m, m < N → ∀ rec, rec (x0 m) = r m → F rec (x0 (m + 1)) = r (m + 1)) : ∀ m, m ≤ N → ∀ fuel, m < fuel → ce_lp1 F fuel (x0 m) = r m := by
  intro m
  induction m with
  | zero =>
    intro _ fuel h
    obtain ⟨f, rfl⟩ : ∃ f, fuel = f + 1 := ⟨fuel - 1, by omega⟩
    exact h0 _
  | succ m ih =>
    intro h fuel hf
    obtain ⟨f, rfl⟩ : ∃ f, fuel = f + 1 := ⟨fuel - 1, by omega⟩
    exact hs m (by omega) _ (ih (by omega) f (by omega))
theorem ms_f1 {A0 α : Type} {F : (A0 → Option α) → A0 → Option α} (x0 : Nat → A0) {r : Option α} (N : Nat) (hs : ∀ i, i < N → ∀ rec, F rec (x0 i) = rec (x0 (i + 1))) (he : ∀ rec, F rec (x0 N) = r) {fuel : Nat} (hf : N < fuel) : ce_lp1 F fuel (x0 0) = r := by
  have h : ∀ m, m ≤ N → ∀ fuel, m < fuel → ce_lp1 F fuel (x0 (N - m)) = r := ms_r1 (F := F) (fun m => x0 (N - m)) (fun _ => r) N (fun rec => he rec) (fun m hm rec hr => by
    show F rec (x0 (N - (m + 1))) = r
    rw [hs (N - (m + 1)) (by omega) rec]
    have e : N - (m + 1) + 1 = N - m := by omega
    rw [e]
    exact hr)
  have h2 := h N (Nat.le_refl N) fuel hf
  rw [Nat.sub_self] at h2
  exact h2
theorem ms_p1 {A0 α : Type} {F : (A0 → Option α) → A0 → Option α} (I : Nat → A0 → Prop) (P : α → Prop) (hs : ∀ m rec y0, (∀ m', m' < m → ∀ z0, I m' z0 → ∃ r, rec z0 = some r ∧ P r) → I m y0 → ∃ r, F rec y0 = some r ∧ P r) : ∀ m fuel y0, m < fuel → I m y0 → ∃ r, ce_lp1 F fuel y0 = some r ∧ P r := by
  intro m
  induction m using Nat.strongRecOn with
  | ind m ih =>
    intro fuel y0 hf hI
    obtain ⟨f, rfl⟩ : ∃ f, fuel = f + 1 := ⟨fuel - 1, by omega⟩
    exact hs m _ y0 (fun m' hm z0 hz => ih m' hm f z0 (by omega) hz) hI
theorem ms_r2 {A0 A1 α : Type} {F : (A0 → A1 → Option α) → A0 → A1 → Option α} (x0 : Nat → A0) (x1 : Nat → A1) (r : Nat → Option α) (N : Nat) (h0 : ∀ rec, F rec (x0 0) (x1 0) = r 0) (hs : ∀ m, m < N → ∀ rec, rec (x0 m) (x1 m) = r m → F rec (x0 (m + 1)) (x1 (m + 1)) = r (m + 1)) : ∀ m, m ≤ N → ∀ fuel, m < fuel → ce_lp2 F fuel (x0 m) (x1 m) = r m := by
  intro m
  induction m with
  | zero =>
    intro _ fuel h
    obtain ⟨f, rfl⟩ : ∃ f, fuel = f + 1 := ⟨fuel - 1, by omega⟩
    exact h0 _
  | succ m ih =>
    intro h fuel hf
    obtain ⟨f, rfl⟩ : ∃ f, fuel = f + 1 := ⟨fuel - 1, by omega⟩
    exact hs m (by omega) _ (ih (by omega) f (by omega))
theorem ms_f2 {A0 A1 α : Type} {F : (A0 → A1 → Option α) → A0 → A1 → Option α} (x0 : Nat → A0) (x1 : Nat → A1) {r : Option α} (N : Nat) (hs : ∀ i, i < N → ∀ rec, F rec (x0 i) (x1 i) = rec (x0 (i + 1)) (x1 (i + 1))) (he : ∀ rec, F rec (x0 N) (x1 N) = r) {fuel : Nat} (hf : N < fuel) : ce_lp2 F fuel (x0 0) (x1 0) = r := by
  have h : ∀ m, m ≤ N → ∀ fuel, m < fuel → ce_lp2 F fuel (x0 (N - m)) (x1 (N - m)) = r := ms_r2 (F := F) (fun m => x0 (N - m)) (fun m => x1 (N - m)) (fun _ => r) N (fun rec => he rec) (fun m hm rec hr => by
    show F rec (x0 (N - (m + 1))) (x1 (N - (m + 1))) = r
    rw [hs (N - (m + 1)) (by omega) rec]
    have e : N - (m + 1) + 1 = N - m := by omega
    rw [e]
    exact hr)
  have h2 := h N (Nat.le_refl N) fuel hf
  rw [Nat.sub_self] at h2
  exact h2
theorem ms_p2 {A0 A1 α : Type} {F : (A0 → A1 → Option α) → A0 → A1 → Option α} (I : Nat → A0 → A1 → Prop) (P : α → Prop) (hs : ∀ m rec y0 y1, (∀ m', m' < m → ∀ z0 z1, I m' z0 z1 → ∃ r, rec z0 z1 = some r ∧ P r) → I m y0 y1 → ∃ r, F rec y0 y1 = some r ∧ P r) : ∀ m fuel y0 y1, m < fuel → I m y0 y1 → ∃ r, ce_lp2 F fuel y0 y1 = some r ∧ P r := by
  intro m
  induction m using Nat.strongRecOn with
  | ind m ih =>
    intro fuel y0 y1 hf hI
    obtain ⟨f, rfl⟩ : ∃ f, fuel = f + 1 := ⟨fuel - 1, by omega⟩
    exact hs m _ y0 y1 (fun m' hm z0 z1 hz => ih m' hm f z0 z1 (by omega) hz) hI
theorem ms_r3 {A0 A1 A2 α : Type} {F : (A0 → A1 → A2 → Option α) → A0 → A1 → A2 → Option α} (x0 : Nat → A0) (x1 : Nat → A1) (x2 : Nat → A2) (r : Nat → Option α) (N : Nat) (h0 : ∀ rec, F rec (x0 0) (x1 0) (x2 0) = r 0) (hs : ∀ m, m < N → ∀ rec, rec (x0 m) (x1 m) (x2 m) = r m → F rec (x0 (m + 1)) (x1 (m + 1)) (x2 (m + 1)) = r (m + 1)) : ∀ m, m ≤ N → ∀ fuel, m < fuel → ce_lp3 F fuel (x0 m) (x1 m) (x2 m) = r m := by
  intro m
  induction m with
  | zero =>
    intro _ fuel h
    obtain ⟨f, rfl⟩ : ∃ f, fuel = f + 1 := ⟨fuel - 1, by omega⟩
    exact h0 _
  | succ m ih =>
    intro h fuel hf
    obtain ⟨f, rfl⟩ : ∃ f, fuel = f + 1 := ⟨fuel - 1, by omega⟩
    exact hs m (by omega) _ (ih (by omega) f (by omega))
theorem ms_f3 {A0 A1 A2 α : Type} {F : (A0 → A1 → A2 → Option α) → A0 → A1 → A2 → Option α} (x0 : Nat → A0) (x1 : Nat → A1) (x2 : Nat → A2) {r : Option α} (N : Nat) (hs : ∀ i, i < N → ∀ rec, F rec (x0 i) (x1 i) (x2 i) = rec (x0 (i + 1)) (x1 (i + 1)) (x2 (i + 1))) (he : ∀ rec, F rec (x0 N) (x1 N) (x2 N) = r) {fuel : Nat} (hf : N < fuel) : ce_lp3 F fuel (x0 0) (x1 0) (x2 0) = r := by
  have h : ∀ m, m ≤ N → ∀ fuel, m < fuel → ce_lp3 F fuel (x0 (N - m)) (x1 (N - m)) (x2 (N - m)) = r := ms_r3 (F := F) (fun m => x0 (N - m)) (fun m => x1 (N - m)) (fun m => x2 (N - m)) (fun _ => r) N (fun rec => he rec) (fun m hm rec hr => by
    show F rec (x0 (N - (m + 1))) (x1 (N - (m + 1))) (x2 (N - (m + 1))) = r
    rw [hs (N - (m + 1)) (by omega) rec]
    have e : N - (m + 1) + 1 = N - m := by omega
    rw [e]
    exact hr)
  have h2 := h N (Nat.le_refl N) fuel hf
  rw [Nat.sub_self] at h2
  exact h2
theorem ms_p3 {A0 A1 A2 α : Type} {F : (A0 → A1 → A2 → Option α) → A0 → A1 → A2 → Option α} (I : Nat → A0 → A1 → A2 → Prop) (P : α → Prop) (hs : ∀ m rec y0 y1 y2, (∀ m', m' < m → ∀ z0 z1 z2, I m' z0 z1 z2 → ∃ r, rec z0 z1 z2 = some r ∧ P r) → I m y0 y1 y2 → ∃ r, F rec y0 y1 y2 = some r ∧ P r) : ∀ m fuel y0 y1 y2, m < fuel → I m y0 y1 y2 → ∃ r, ce_lp3 F fuel y0 y1 y2 = some r ∧ P r := by
  intro m
  induction m using Nat.strongRecOn with
  | ind m ih =>
    intro fuel y0 y1 y2 hf hI
    obtain ⟨f, rfl⟩ : ∃ f, fuel = f + 1 := ⟨fuel - 1, by omega⟩
    exact hs m _ y0 y1 y2 (fun m' hm z0 z1 z2 hz => ih m' hm f z0 z1 z2 (by omega) hz) hI
theorem ms_r4 {A0 A1 A2 A3 α : Type} {F : (A0 → A1 → A2 → A3 → Option α) → A0 → A1 → A2 → A3 → Option α} (x0 : Nat → A0) (x1 : Nat → A1) (x2 : Nat → A2) (x3 : Nat → A3) (r : Nat → Option α) (N : Nat) (h0 : ∀ rec, F rec (x0 0) (x1 0) (x2 0) (x3 0) = r 0) (hs : ∀ m, m < N → ∀ rec, rec (x0 m) (x1 m) (x2 m) (x3 m) = r m → F rec (x0 (m + 1)) (x1 (m + 1)) (x2 (m + 1)) (x3 (m + 1)) = r (m + 1)) : ∀ m, m ≤ N → ∀ fuel, m < fuel → ce_lp4 F fuel (x0 m) (x1 m) (x2 m) (x3 m) = r m := by
  intro m
  induction m with
  | zero =>
    intro _ fuel h
    obtain ⟨f, rfl⟩ : ∃ f, fuel = f + 1 := ⟨fuel - 1, by omega⟩
    exact h0 _
  | succ m ih =>
    intro h fuel hf
    obtain ⟨f, rfl⟩ : ∃ f, fuel = f + 1 := ⟨fuel - 1, by omega⟩
    exact hs m (by omega) _ (ih (by omega) f (by omega))
theorem ms_f4 {A0 A1 A2 A3 α : Type} {F : (A0 → A1 → A2 → A3 → Option α) → A0 → A1 → A2 → A3 → Option α} (x0 : Nat → A0) (x1 : Nat → A1) (x2 : Nat → A2) (x3 : Nat → A3) {r : Option α} (N : Nat) (hs : ∀ i, i < N → ∀ rec, F rec (x0 i) (x1 i) (x2 i) (x3 i) = rec (x0 (i + 1)) (x1 (i + 1)) (x2 (i + 1)) (x3 (i + 1))) (he : ∀ rec, F rec (x0 N) (x1 N) (x2 N) (x3 N) = r) {fuel : Nat} (hf : N < fuel) : ce_lp4 F fuel (x0 0) (x1 0) (x2 0) (x3 0) = r := by
  have h : ∀ m, m ≤ N → ∀ fuel, m < fuel → ce_lp4 F fuel (x0 (N - m)) (x1 (N - m)) (x2 (N - m)) (x3 (N - m)) = r := ms_r4 (F := F) (fun m => x0 (N - m)) (fun m => x1 (N - m)) (fun m => x2 (N - m)) (fun m => x3 (N - m)) (fun _ => r) N (fun rec => he rec) (fun m hm rec hr => by
    show F rec (x0 (N - (m + 1))) (x1 (N - (m + 1))) (x2 (N - (m + 1))) (x3 (N - (m + 1))) = r
    rw [hs (N - (m + 1)) (by omega) rec]
    have e : N - (m + 1) + 1 = N - m := by omega
    rw [e]
    exact hr)
  have h2 := h N (Nat.le_refl N) fuel hf
  rw [Nat.sub_self] at h2
  exact h2
theorem ms_p4 {A0 A1 A2 A3 α : Type} {F : (A0 → A1 → A2 → A3 → Option α) → A0 → A1 → A2 → A3 → Option α} (I : Nat → A0 → A1 → A2 → A3 → Prop) (P : α → Prop) (hs : ∀ m rec y0 y1 y2 y3, (∀ m', m' < m → ∀ z0 z1 z2 z3, I m' z0 z1 z2 z3 → ∃ r, rec z0 z1 z2 z3 = some r ∧ P r) → I m y0 y1 y2 y3 → ∃ r, F rec y0 y1 y2 y3 = some r ∧ P r) : ∀ m fuel y0 y1 y2 y3, m < fuel → I m y0 y1 y2 y3 → ∃ r, ce_lp4 F fuel y0 y1 y2 y3 = some r ∧ P r := by
  intro m
  induction m using Nat.strongRecOn with
  | ind m ih =>
    intro fuel y0 y1 y2 y3 hf hI
    obtain ⟨f, rfl⟩ : ∃ f, fuel = f + 1 := ⟨fuel - 1, by omega⟩
    exact hs m _ y0 y1 y2 y3 (fun m' hm z0 z1 z2 z3 hz => ih m' hm f z0 z1 z2 z3 (by omega) hz) hI
theorem ms_FU : ce_FU = 100000 := rfl
theorem ms_of (M : ce_M) (σ : Nat → Int32) {a k : Nat} (ha : a < 8) (hk : k < 54) : f_X8_of 414 (ms_S M σ) (nI a) (nI k) = some (σ (24 + 54 * a + k)) := by
  have e : (24 + (54 * nI a)) + nI k = nI (24 + 54 * a + k) := by
    show (nI 24 + nI 54 * nI a) + nI k = nI (24 + 54 * a + k)
    rw [pk_mul, nI_add, nI_add]
  unfold f_X8_of
  rw [e, ms_gi (by omega) (by omega), nI_clamp (by omega)]
  rfl
theorem ms_put (M : ce_M) (σ : Nat → Int32) {a k : Nat} {v : Int32} (ha : a < 8) (hk : k < 54) : f_X8_put 414 (ms_S M σ) (nI a) (nI k) v = some (ms_S M (upd σ (24 + 54 * a + k) v)) := by
  have e : (24 + (54 * nI a)) + nI k = nI (24 + 54 * a + k) := by
    show (nI 24 + nI 54 * nI a) + nI k = nI (24 + 54 * a + k)
    rw [pk_mul, nI_add, nI_add]
  unfold f_X8_put
  rw [e, ms_gi (by omega) (by omega), nI_clamp (by omega), ms_nm, ms_wr]
theorem ms_adds (M : ce_M) (σ : Nat → Int32) {a k : Nat} {v : Int32} (ha : a < 8) (hk : k < 54) : f_X8_adds 414 (ms_S M σ) (nI a) (nI k) v = some (ms_S M (upd σ (24 + 54 * a + k) (σ (24 + 54 * a + k) + v))) := by
  have e : (24 + (54 * nI a)) + nI k = nI (24 + 54 * a + k) := by
    show (nI 24 + nI 54 * nI a) + nI k = nI (24 + 54 * a + k)
    rw [pk_mul, nI_add, nI_add]
  unfold f_X8_adds
  rw [e, ms_gi (by omega) (by omega), ms_nm, ms_gi (by omega) (by omega), nI_clamp (by omega), ms_nm, ms_wr]
  rfl
theorem ms_ofE (M : ce_M) (σ : Nat → Int32) {e k : Nat} (he : e < 60) (hk : k < 6) : f_X8_ofEvent 414 (ms_S M σ) (nI e) (nI k) = some (σ (456 + 6 * e + k)) := by
  have q : (456 + (6 * nI e)) + nI k = nI (456 + 6 * e + k) := by
    show (nI 456 + nI 6 * nI e) + nI k = nI (456 + 6 * e + k)
    rw [pk_mul, nI_add, nI_add]
  unfold f_X8_ofEvent
  rw [q, ms_gi (by omega) (by omega), nI_clamp (by omega)]
  rfl
theorem ms_set (M : ce_M) (σ : Nat → Int32) {k : Nat} (hk : k < 4) : f_X8_setting 414 (ms_S M σ) (nI k) = some (σ (3 + k)) := by
  have q : 3 + nI k = nI (3 + k) := nI_add 3 k
  unfold f_X8_setting
  rw [q, ms_gi (by omega) (by omega), nI_clamp (by omega)]
  rfl
theorem ms_stA (M : ce_M) (σ : Nat → Int32) {a j k : Nat} (ha : a < 8) (hj : j < 10) (hk : k < 3) : f_X8_stayAt 414 (ms_S M σ) (nI a) (nI j) (nI k) = some (σ (24 + 54 * a + (24 + 3 * j + k))) := by
  have q : (24 + (3 * nI j)) + nI k = nI (24 + 3 * j + k) := by
    show (nI 24 + nI 3 * nI j) + nI k = nI (24 + 3 * j + k)
    rw [pk_mul, nI_add, nI_add]
  unfold f_X8_stayAt
  rw [q, ms_of M σ ha (by omega)]
  rfl
