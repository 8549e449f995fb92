/-! sums over all subscribers -/
def sp_sm (f : Nat → Int32) : Nat → Int32
  | 0 => nI 0
  | a + 1 => sp_sm f a + f a
theorem sp_sm_eq {f g : Nat → Int32} : ∀ n, (∀ a, a < n → f a = g a) → sp_sm f n = sp_sm g n := by
  intro n
  induction n with
  | zero => intro _; rfl
  | succ n ih => intro h; show sp_sm f n + f n = sp_sm g n + g n; rw [ih (fun a ha => h a (by omega)), h n (by omega)]
theorem ms_add0 (x : Int32) : x + nI 0 = x := Int32.add_zero x
theorem cs_v0 (k : Nat) (M : ce_M) : f_X4_valueOf k M (nI 0) = some (ce_rd M k 2) := rfl
theorem cs_v1 (k : Nat) (M : ce_M) : f_X4_valueOf k M (nI 1) = some (ce_rd M k 3) := rfl
theorem cs_v2 (k : Nat) (M : ce_M) : f_X4_valueOf k M (nI 2) = some (ce_rd M k 4) := rfl
theorem cs_v3 (k : Nat) (M : ce_M) : f_X4_valueOf k M (nI 3) = some (ce_rd M k 5) := rfl
theorem cs_v4 (k : Nat) (M : ce_M) : f_X4_valueOf k M (nI 4) = some (ce_rd M k 6) := rfl
theorem cs_v5 {k : Nat} {M : ce_M} {th : Nat} (h : ce_rd M k 7 = nI th) (h2 : th ≤ 1) : f_X4_valueOf k M (nI 5) = some (nI th) := by
  have e : f_X4_valueOf k M (nI 5) = (if (ce_rd M k 7) = 0 then some 0 else some 1) := rfl
  rw [e, h]
  rcases (by omega : th = 0 ∨ th = 1) with rfl | rfl <;> rfl
theorem cs_v6 (k : Nat) (M : ce_M) : f_X4_valueOf k M (nI 6) = some (ce_rd M (k + 5) 1) := rfl
theorem cs_v7 (k : Nat) (M : ce_M) : f_X4_valueOf k M (nI 7) = some (ce_rd M k 8) := rfl
theorem cs_v8 (k : Nat) (M : ce_M) : f_X4_valueOf k M (nI 8) = some (ce_rd M k 9) := rfl
theorem cs_v9 (k : Nat) (M : ce_M) : f_X4_valueOf k M (nI 9) = some (ce_rd M k 10) := rfl
theorem cs_v10 (k : Nat) (M : ce_M) : f_X4_valueOf k M (nI 10) = some (ce_rd M k 12) := rfl
theorem cs_v11 (k : Nat) (M : ce_M) : f_X4_valueOf k M (nI 11) = some (ce_rd M k 13) := rfl
theorem cs_v12 (k : Nat) (M : ce_M) : f_X4_valueOf k M (nI 12) = some (ce_rd M k 11) := rfl
def sp_told (σ : Nat → Int32) (a j : Nat) : Int32 := if j < 7 then σ (24 + 54 * a + j) else if j = 7 then sp_rt σ a 60 else σ (24 + 54 * a + (j - 1))
theorem cs_val {M : ce_M} {k a t en : Nat} {σ : Nat → Int32} (hR : ms_SR M k σ a) (hI : ms_SI σ a t en) {j : Nat} (hj : j < 12) : f_X4_valueOf k M (nI j) = some (sp_told σ a j) := by
  obtain ⟨so, le, po, ca, se, th, wz, c, i0, i0', i1, i1', i2, i2', i3, i3', i4, i4', i5, i5', i6, i6', i11, i11', iw, ip, ib, ix, is⟩ := hI
  obtain ⟨r0, r1, r2, r3, r4, r5, r6, r7, r8, r9, r10, r11, r12, r13, r14⟩ := hR
  rcases (by omega : j = 0 ∨ j = 1 ∨ j = 2 ∨ j = 3 ∨ j = 4 ∨ j = 5 ∨ j = 6 ∨ j = 7 ∨ j = 8 ∨ j = 9 ∨ j = 10 ∨ j = 11) with rfl | rfl | rfl | rfl | rfl | rfl | rfl | rfl | rfl | rfl | rfl | rfl
  · rw [cs_v0, r0]; rfl
  · rw [cs_v1, r1]; rfl
  · rw [cs_v2, r2]; rfl
  · rw [cs_v3, r3]; rfl
  · rw [cs_v4, r4]; rfl
  · rw [cs_v5 (r5.trans i5) i5', ← i5]; rfl
  · rw [cs_v6, r6]; rfl
  · rw [cs_v7, r12]; rfl
  · rw [cs_v8, r7]; rfl
  · rw [cs_v9, r8]; rfl
  · rw [cs_v10, r9]; rfl
  · rw [cs_v11, r10]; rfl
theorem cs_sumOf {M : ce_M} {w n : Nat} {x : Int32} {f : Nat → Int32} (hn : ce_rd M w 5 = nI n) (hn8 : n ≤ 8) (hf : ∀ a, a < n → f_X4_valueOf (w + 2 + (10 + 7 * a)) M x = some (f a)) : f_X6_sumOf w M x = some (sp_sm f n) := by
  refine ms_f2 (F := f_X6_sumOf_L4 M w x) (fun i => sp_sm f i) (fun i => nI i) n (fun i hi rec => ?_) (fun rec => ?_) (by rw [ms_FU]; omega)
  · unfold f_X6_sumOf_L4
    rw [hn, if_neg (nI_ge (show i < n by omega) (show n < 2 ^ 31 by omega)), ms_gi (show i < 8 by omega) (show 8 < 2 ^ 31 by omega), ms_nm, nI_clamp (show i < 2 ^ 31 by omega), hf i hi]
    simp only [ms_b1, ms_nm, ms_lit, nI_add, sp_sm]
  · unfold f_X6_sumOf_L4
    rw [hn, if_pos (nI_le (show n ≤ n by omega) (show n < 2 ^ 31 by omega))]
theorem ms_sumOf (M : ce_M) {n k : Nat} {σ : Nat → Int32} (hn : σ 1 = nI n) (hn8 : n ≤ 8) (hk : k < 54) : f_X8_sumOf 414 (ms_S M σ) (nI k) = some (sp_sm (fun a => σ (24 + 54 * a + k)) n) := by
  refine ms_f2 (F := f_X8_sumOf_L4 (ms_S M σ) 414 (nI k)) (fun i => sp_sm (fun a => σ (24 + 54 * a + k)) i) (fun i => nI i) n (fun i hi rec => ?_) (fun rec => ?_) (by rw [ms_FU]; omega)
  · unfold f_X8_sumOf_L4
    simp only [ms_lit, ms_gi (show 1 < 816 by omega) (show 816 < 2 ^ 31 by omega), nI_clamp (show 1 < 2 ^ 31 by omega), ms_rd1, ms_nm, hn, if_neg (nI_ge (show i < n by omega) (show n < 2 ^ 31 by omega)), ms_of M σ (show i < 8 by omega) hk, ms_b1, nI_add, sp_sm]
  · unfold f_X8_sumOf_L4
    simp only [ms_lit, ms_gi (show 1 < 816 by omega) (show 816 < 2 ^ 31 by omega), nI_clamp (show 1 < 2 ^ 31 by omega), ms_rd1, ms_nm, hn, if_pos (nI_le (show n ≤ n by omega) (show n < 2 ^ 31 by omega))]
theorem sp_bit0 (a : Nat) : ∀ a, a < 8 → sp_bit (nI 0) a = nI 0 := by decide
theorem sp_rt_tail {σ : Nat → Int32} {a en : Nat} (ha : a < 8) (h : ∀ e, en ≤ e → e < 60 → ∀ k, k < 6 → σ (456 + 6 * e + k) = nI 0) : ∀ m, en + m ≤ 60 → sp_rt σ a (en + m) = sp_rt σ a en := by
  intro m
  induction m with
  | zero => intro _; rfl
  | succ m ih =>
    intro hm
    show sp_rt σ a (en + m) + sp_bit (σ (456 + 6 * (en + m) + 4)) a = _
    rw [ih (by omega), h (en + m) (by omega) (by omega) 4 (by omega), sp_bit0 0 a ha, ms_add0]
theorem ms_routedTo (M : ce_M) {a en : Nat} {σ : Nat → Int32} (ha : a < 8) (hn : σ 2 = nI en) (hen : en ≤ 60) (h : ∀ e, en ≤ e → e < 60 → ∀ k, k < 6 → σ (456 + 6 * e + k) = nI 0) : f_X8_routedTo 414 (ms_S M σ) (nI a) = some (sp_rt σ a 60) := by
  have e60 : sp_rt σ a 60 = sp_rt σ a en := by
    have q := sp_rt_tail ha h (60 - en) (by omega)
    rwa [show en + (60 - en) = 60 by omega] at q
  rw [e60]
  refine ms_f2 (F := f_X8_routedTo_L4 (ms_S M σ) 414 (nI a)) (fun i => sp_rt σ a i) (fun i => nI i) en (fun i hi rec => ?_) (fun rec => ?_) (by rw [ms_FU]; omega)
  · unfold f_X8_routedTo_L4
    simp only [ms_lit, ms_gi (show 2 < 816 by omega) (show 816 < 2 ^ 31 by omega), nI_clamp (show 2 < 2 ^ 31 by omega), ms_rd1, ms_nm, hn, if_neg (nI_ge (show i < en by omega) (show en < 2 ^ 31 by omega)), ms_ofE M σ (show i < 60 by omega) (show 4 < 6 by omega), ms_b1, nI_add, sp_rt, sp_bit]
  · unfold f_X8_routedTo_L4
    simp only [ms_lit, ms_gi (show 2 < 816 by omega) (show 816 < 2 ^ 31 by omega), nI_clamp (show 2 < 2 ^ 31 by omega), ms_rd1, ms_nm, hn, if_pos (nI_le (show en ≤ en by omega) (show en < 2 ^ 31 by omega))]
theorem ms_told (M : ce_M) {a en : Nat} {σ : Nat → Int32} (ha : a < 8) (hn : σ 2 = nI en) (hen : en ≤ 60) (h : ∀ e, en ≤ e → e < 60 → ∀ k, k < 6 → σ (456 + 6 * e + k) = nI 0) {j : Nat} (hj : j < 12) : f_X8_told 414 (ms_S M σ) (nI a) (nI j) = some (sp_told σ a j) := by
  unfold f_X8_told sp_told
  by_cases c1 : j < 7
  · rw [if_pos c1, if_neg (show ¬ (7 ≤ nI j) from nI_ge c1 (show 7 < 2 ^ 31 by omega)), ms_of M σ ha (by omega)]
    rfl
  · rw [if_neg c1, if_pos (show (7 ≤ nI j) from nI_le (show 7 ≤ j by omega) (by omega))]
    by_cases c2 : j = 7
    · rw [if_pos c2, c2, if_pos (show nI 7 = 7 from rfl), ms_routedTo M ha hn hen h]
      rfl
    · rw [if_neg c2, if_neg (show ¬ nI j = 7 from fun q => c2 (ms_nI q (by omega) (by omega))), show nI j - 1 = nI (j - 1) from ms_sub (show 1 ≤ j by omega), ms_of M σ ha (by omega)]
      rfl
theorem sp_lost_sm (M : ce_M) (w : Nat) : ∀ n, sp_sm (fun a => ce_rd M (w + 2 + (10 + 7 * a)) 11) n = sp_lost M w n := by
  intro n
  induction n with
  | zero => rfl
  | succ n ih => show sp_sm _ n + _ = sp_lost M w n + _; rw [ih]
theorem sp_lost_tail {M : ce_M} {w n : Nat} (h : ∀ a, n ≤ a → a < 8 → ce_rd M (w + 2 + (10 + 7 * a)) 11 = nI 0) : ∀ m, n + m ≤ 8 → sp_lost M w (n + m) = sp_lost M w n := by
  intro m
  induction m with
  | zero => intro _; rfl
  | succ m ih =>
    intro hm
    show sp_lost M w (n + m) + ce_rd M (w + 2 + (10 + 7 * (n + m))) 11 = _
    rw [ih (by omega), h (n + m) (by omega) (by omega), ms_add0]
