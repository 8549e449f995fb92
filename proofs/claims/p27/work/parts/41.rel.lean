/-! what a state is, and when a World's cells hold it -/
def sp_bit (x : Int32) (a : Nat) : Int32 := (x >>> (nI a &&& nI 31)) &&& nI 1
def sp_rt (σ : Nat → Int32) (a : Nat) : Nat → Int32
  | 0 => nI 0
  | e + 1 => sp_rt σ a e + sp_bit (σ (456 + 6 * e + 4)) a
def sp_la (σ : Nat → Int32) (a : Nat) (time : Int32) : Nat → Int32
  | 0 => -1
  | m + 1 => if time < σ (24 + 54 * a + (24 + 3 * m + 1)) then sp_la σ a time m else if σ (24 + 54 * a + (24 + 3 * m + 2)) = -1 then σ (24 + 54 * a + (24 + 3 * m + 0)) else if σ (24 + 54 * a + (24 + 3 * m + 2)) ≤ time then sp_la σ a time m else σ (24 + 54 * a + (24 + 3 * m + 0))
def sp_lost (M : ce_M) (w : Nat) : Nat → Int32
  | 0 => nI 0
  | a + 1 => sp_lost M w a + ce_rd M (w + 2 + (10 + 7 * a)) 11
def sp_ar (l v : Nat) : Int32 := (f_X7_areaOf ce_M0 (nI l) (nI v)).getD 0
def sp_ov (l v l2 v2 : Nat) : Bool := decide (f_X8_overlap ce_M0 (nI l) (nI v) (nI l2) (nI v2) = some 1)
theorem cs_area (M : ce_M) {l v : Nat} (hl : l < 16) (hv : v < 3) : f_X7_areaOf M (nI l) (nI v) = some (sp_ar l v) := by
  have h : ∀ l, l < 16 → ∀ v, v < 3 → f_X7_areaOf ce_M0 (nI l) (nI v) = some (sp_ar l v) := by decide +kernel
  exact h l hl v hv
theorem ms_ov (M : ce_M) {l v l2 v2 : Nat} (hl : l < 16) (hv : v < 3) (hl2 : l2 < 16) (hv2 : v2 < 3) : f_X8_overlap M (nI l) (nI v) (nI l2) (nI v2) = some (nI (if sp_ov l v l2 v2 = true then 1 else 0)) := by
  have h : ∀ l, l < 16 → ∀ v, v < 3 → ∀ l2, l2 < 16 → ∀ v2, v2 < 3 → f_X8_overlap ce_M0 (nI l) (nI v) (nI l2) (nI v2) = some (nI (if sp_ov l v l2 v2 = true then 1 else 0)) := by decide +kernel
  exact h l hl v hv l2 hl2 v2 hv2
theorem cs_ov {l v l2 v2 : Nat} (hl : l < 16) (hv : v < 3) (hl2 : l2 < 16) (hv2 : v2 < 3) : (sp_ar l v &&& sp_ar l2 v2 = nI 0) = (sp_ov l v l2 v2 = false) := by
  have h : ∀ l, l < 16 → ∀ v, v < 3 → ∀ l2, l2 < 16 → ∀ v2, v2 < 3 → decide (sp_ar l v &&& sp_ar l2 v2 = nI 0) = !(sp_ov l v l2 v2) := by decide +kernel
  have h2 := h l hl v hv l2 hl2 v2 hv2
  refine propext ?_
  cases q : sp_ov l v l2 v2 with
  | false => rw [q] at h2; exact ⟨fun _ => rfl, fun _ => of_decide_eq_true h2⟩
  | true => rw [q] at h2; exact ⟨fun z => absurd z (of_decide_eq_false h2), fun z => nomatch z⟩
def ms_SI (σ : Nat → Int32) (a t en : Nat) : Prop := ∃ so le po ca se th w c : Nat, σ (24 + 54 * a + 0) = nI so ∧ so ≤ 2 ∧ σ (24 + 54 * a + 1) = nI le ∧ le < 3 ∧ σ (24 + 54 * a + 2) = nI po ∧ po < 16 ∧ σ (24 + 54 * a + 3) = nI ca ∧ ca ≤ t ∧ σ (24 + 54 * a + 4) = nI se ∧ se < 16 ∧ σ (24 + 54 * a + 5) = nI th ∧ th ≤ 1 ∧ σ (24 + 54 * a + 6) = nI w ∧ w ≤ 12 ∧ σ (24 + 54 * a + 11) = nI c ∧ c ≤ 10 ∧ (th = 0 → w = 0) ∧ (so = 2 → po = se) ∧ (∀ i, i < w → ∃ e, e < en ∧ σ (24 + 54 * a + (12 + i)) = nI e) ∧ (∀ i j, i < j → j < w → σ (24 + 54 * a + (12 + i)) ≠ σ (24 + 54 * a + (12 + j))) ∧ (∀ j, j < c → ∃ l, l < 16 ∧ σ (24 + 54 * a + (24 + 3 * j + 0)) = nI l)
def ms_IN (σ : Nat → Int32) (t n en : Nat) : Prop := σ 0 = nI t ∧ σ 1 = nI n ∧ n ≤ 8 ∧ σ 2 = nI en ∧ en ≤ 60 ∧ (∃ s, s ≤ 9 ∧ σ 3 = nI s) ∧ (∃ s, 1 ≤ s ∧ s ≤ 9 ∧ σ 4 = nI s) ∧ (∃ s, s ≤ 9 ∧ σ 5 = nI s) ∧ (∃ s, s ≤ 20 ∧ σ 6 = nI s) ∧ (∀ a, a < 8 → ms_SI σ a t en) ∧ (∀ a, a < n → ∃ c, 1 ≤ c ∧ c ≤ 10 ∧ σ (24 + 54 * a + 11) = nI c) ∧ (∀ a, n ≤ a → a < 8 → ∀ k, k < 54 → σ (24 + 54 * a + k) = nI 0) ∧ (∀ e, en ≤ e → e < 60 → ∀ k, k < 6 → σ (456 + 6 * e + k) = nI 0)
def ms_SR (M : ce_M) (k : Nat) (σ : Nat → Int32) (a : Nat) : Prop := ce_rd M k 2 = σ (24 + 54 * a + 0) ∧ ce_rd M k 3 = σ (24 + 54 * a + 1) ∧ ce_rd M k 4 = σ (24 + 54 * a + 2) ∧ ce_rd M k 5 = σ (24 + 54 * a + 3) ∧ ce_rd M k 6 = σ (24 + 54 * a + 4) ∧ ce_rd M k 7 = σ (24 + 54 * a + 5) ∧ ce_rd M (k + 5) 1 = σ (24 + 54 * a + 6) ∧ ce_rd M k 9 = σ (24 + 54 * a + 7) ∧ ce_rd M k 10 = σ (24 + 54 * a + 8) ∧ ce_rd M k 12 = σ (24 + 54 * a + 9) ∧ ce_rd M k 13 = σ (24 + 54 * a + 10) ∧ ce_rd M (k + 1) 3 = σ (24 + 54 * a + 11) ∧ ce_rd M k 8 = sp_rt σ a 60 ∧ (∀ w, σ (24 + 54 * a + 6) = nI w → w ≤ 12 → ∀ i, i < w → ce_rd M (k + 5 + 1) i = σ (24 + 54 * a + (12 + i))) ∧ (∀ c, σ (24 + 54 * a + 11) = nI c → c ≤ 10 → ∀ j, j < c → ce_rd M (k + 1 + 1) j = σ (24 + 54 * a + (24 + 3 * (c - (j + 1)) + 0)) ∧ ce_rd M (k + 1 + 2) j = σ (24 + 54 * a + (24 + 3 * (c - (j + 1)) + 1)) ∧ ce_rd M (k + 1 + 3) j = σ (24 + 54 * a + (24 + 3 * (c - (j + 1)) + 2)))
def ms_WR (M : ce_M) (w : Nat) (σ : Nat → Int32) : Prop := ce_rd M w 6 = σ 0 ∧ ce_rd M w 5 = σ 1 ∧ ce_rd M (w + 3) 6 = σ 2 ∧ (∀ i, i < 4 → ce_rd M (w + 1) i = σ (3 + i)) ∧ (∀ l, l < 16 → ce_rd M (w + 10) l = σ (8 + l)) ∧ (∀ a, a < 8 → ms_SR M (w + 2 + (10 + 7 * a)) σ a) ∧ (∀ e, e < 60 → ce_rd M (w + 3 + 1) e = σ (456 + 6 * e + 0) ∧ ce_rd M (w + 3 + 2) e = σ (456 + 6 * e + 1) ∧ ce_rd M (w + 3 + 3) e = σ (456 + 6 * e + 2) ∧ ce_rd M (w + 3 + 4) e = σ (456 + 6 * e + 3) ∧ ce_rd M (w + 3 + 5) e = σ (456 + 6 * e + 4) ∧ ce_rd M (w + 3 + 6) e = σ (456 + 6 * e + 5)) ∧ sp_lost M w 8 = σ 7 ∧ (∀ n, σ 1 = nI n → n ≤ 8 → ∀ a, n ≤ a → a < 8 → ce_rd M (w + 2 + (10 + 7 * a)) 11 = nI 0)
theorem ms_nI {a b : Nat} (h : nI a = nI b) (ha : a < 2 ^ 31) (hb : b < 2 ^ 31) : a = b := (nI_eq ha hb).mp h
/-! the leaf that served one at a time -/
theorem cs_leafAt {M : ce_M} {k a c : Nat} {σ : Nat → Int32} {time : Int32} (hR : ms_SR M k σ a) (hc : σ (24 + 54 * a + 11) = nI c) (hc2 : c ≤ 10) : f_X3_leafAt (k + 1) M time = some (sp_la σ a time c) := by
  obtain ⟨r0, r1, r2, r3, r4, r5, r6, r7, r8, r9, r10, r11, r12, r13, r14⟩ := hR
  have h := ms_r1 (F := f_X3_leafAt_L2 M (k + 1) time) (fun m => nI (c - m)) (fun m => some (sp_la σ a time m)) c (fun rec => by
    unfold f_X3_leafAt_L2
    rw [if_pos (by rw [r11, hc]; exact nI_le (by omega) (by omega))]
    rfl) (fun m hm rec hr => by
    have e : c - (m + 1) + 1 = c - m := by omega
    have e2 : c - (c - (m + 1) + 1) = m := by omega
    obtain ⟨q1, q2, q3⟩ := r14 c hc hc2 (c - (m + 1)) (by omega)
    rw [e2] at q1 q2 q3
    unfold f_X3_leafAt_L2
    rw [if_neg (by rw [r11, hc]; exact nI_ge (by omega) (by omega))]
    simp only [ms_nm, ms_gi (show c - (m + 1) < 10 by omega) (show 10 < 2 ^ 31 by omega), nI_clamp (show c - (m + 1) < 2 ^ 31 by omega), nI_1, e, hr, q1, q2, q3, sp_la]
    by_cases c1 : time < σ (24 + 54 * a + (24 + 3 * m + 1)) <;> by_cases c2 : σ (24 + 54 * a + (24 + 3 * m + 2)) = -1 <;> by_cases c3 : σ (24 + 54 * a + (24 + 3 * m + 2)) ≤ time <;> simp [c1, c2, c3])
  have h2 := h c (Nat.le_refl c) ce_FU (by rw [ms_FU]; omega)
  rw [Nat.sub_self] at h2
  exact h2
theorem ms_leafAt (M : ce_M) {a c : Nat} {σ : Nat → Int32} {time : Int32} (ha : a < 8) (hc : σ (24 + 54 * a + 11) = nI c) (hc2 : c ≤ 10) : f_X8_leafAt 414 (ms_S M σ) (nI a) time = some (sp_la σ a time c) := by
  refine ms_f2 (F := f_X8_leafAt_L5 414 (ms_S M σ) (nI a) time) (fun i => sp_la σ a time i) (fun i => nI i) c (fun i hi rec => ?_) (fun rec => ?_) (by rw [ms_FU]; omega)
  · unfold f_X8_leafAt_L5
    simp only [ms_lit, ms_of M σ ha (show 11 < 54 by omega), ms_b1, hc, if_neg (nI_ge hi (by omega)), ms_stA M σ ha (show i < 10 by omega) (show 2 < 3 by omega), ms_stA M σ ha (show i < 10 by omega) (show 1 < 3 by omega), ms_stA M σ ha (show i < 10 by omega) (show 0 < 3 by omega), ms_nm, nI_add, sp_la]
    by_cases c1 : time < σ (24 + 54 * a + (24 + 3 * i + 1)) <;> by_cases c2 : σ (24 + 54 * a + (24 + 3 * i + 2)) = -nI 1 <;> by_cases c3 : σ (24 + 54 * a + (24 + 3 * i + 2)) ≤ time <;> simp [c1, c2, c3]
  · unfold f_X8_leafAt_L5
    simp only [ms_lit, ms_of M σ ha (show 11 < 54 by omega), ms_b1, hc, if_pos (nI_le (Nat.le_refl c) (show c < 2 ^ 31 by omega))]
