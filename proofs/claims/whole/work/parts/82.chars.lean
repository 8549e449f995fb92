/-! the text of commands: runs of characters -/
def sp_rn (P : Nat → Bool) (len : Nat) : Nat → Nat → Nat
  | 0, p => p
  | m + 1, p => if p < len ∧ P p = true then sp_rn P len m (p + 1) else p
def sp_run (P : Nat → Bool) (len p : Nat) : Nat := sp_rn P len (len - p) p
theorem sp_rn_v (P : Nat → Bool) (len : Nat) : ∀ m p, len - p ≤ m → p ≤ sp_rn P len m p ∧ (p ≤ len → sp_rn P len m p ≤ len) ∧ (∀ i, p ≤ i → i < sp_rn P len m p → i < len ∧ P i = true) ∧ ¬ (sp_rn P len m p < len ∧ P (sp_rn P len m p) = true) := by
  intro m
  induction m with
  | zero => intro p h; exact ⟨Nat.le_refl p, fun q => q, fun i h1 h2 => absurd h2 (by show ¬ i < p; omega), fun q => absurd q.1 (by show ¬ p < len; omega)⟩
  | succ m ih =>
    intro p h
    by_cases c : p < len ∧ P p = true
    · have e : sp_rn P len (m + 1) p = sp_rn P len m (p + 1) := if_pos c
      obtain ⟨a1, a2, a3, a4⟩ := ih (p + 1) (by omega)
      rw [e]
      refine ⟨by omega, fun _ => a2 (by omega), fun i h1 h2 => ?_, a4⟩
      by_cases d : i = p
      · rw [d]; exact c
      · exact a3 i (by omega) h2
    · have e : sp_rn P len (m + 1) p = p := if_neg c
      rw [e]
      exact ⟨Nat.le_refl p, fun q => q, fun i h1 h2 => absurd h2 (by omega), c⟩
theorem sp_run_v (P : Nat → Bool) (len p : Nat) : p ≤ sp_run P len p ∧ (p ≤ len → sp_run P len p ≤ len) ∧ (∀ i, p ≤ i → i < sp_run P len p → i < len ∧ P i = true) ∧ ¬ (sp_run P len p < len ∧ P (sp_run P len p) = true) := sp_rn_v P len _ p (Nat.le_refl _)
theorem sp_run_id {P : Nat → Bool} {len p : Nat} (h : ¬ (p < len ∧ P p = true)) : sp_run P len p = p := by
  obtain ⟨a1, a2, a3, a4⟩ := sp_run_v P len p
  by_cases c : sp_run P len p = p
  · exact c
  · exact absurd (a3 p (Nat.le_refl p) (by omega)) h
def sp_in (tx : Nat → Nat) (a b i : Nat) : Bool := decide (a ≤ tx i) && decide (tx i ≤ b)
theorem sp_in_t {tx : Nat → Nat} {a b i : Nat} : sp_in tx a b i = true ↔ a ≤ tx i ∧ tx i ≤ b := by
  unfold sp_in
  rw [Bool.and_eq_true, decide_eq_true_eq, decide_eq_true_eq]
def TC (M : ce_M) (tx : Nat → Nat) (len p : Nat) : Prop := ce_rd M 411 1 = nI len ∧ ce_rd M 411 2 = nI p ∧ (∀ i, i < len → ce_rd M 412 i = nI (tx i))
def TM (M : ce_M) (tx : Nat → Nat) (len p : Nat) : Prop := ce_rd M 414 8 = nI len ∧ ce_rd M 414 9 = nI p ∧ (∀ i, i < len → ce_rd M 419 i = nI (tx i))
def FC (M M' : ce_M) : Prop := M'.2 = M.2 ∧ (∀ q, q ≠ 411 → q ≠ 413 → ce_rd M' q = ce_rd M q) ∧ ce_rd M' 411 1 = ce_rd M 411 1
def FM (M M' : ce_M) : Prop := M'.2 = M.2 ∧ (∀ q, q ≠ 414 → q ≠ 420 → ce_rd M' q = ce_rd M q) ∧ (∀ j, j ≠ 9 → j ≠ 10 → ce_rd M' 414 j = ce_rd M 414 j)
theorem FC_r {M : ce_M} : FC M M := ⟨rfl, fun _ _ _ => rfl, rfl⟩
theorem FM_r {M : ce_M} : FM M M := ⟨rfl, fun _ _ _ => rfl, fun _ _ _ => rfl⟩
theorem FC_t {M M1 M2 : ce_M} (h : FC M M1) (h2 : FC M1 M2) : FC M M2 := ⟨h2.1.trans h.1, fun q a b => (h2.2.1 q a b).trans (h.2.1 q a b), h2.2.2.trans h.2.2⟩
theorem FM_t {M M1 M2 : ce_M} (h : FM M M1) (h2 : FM M1 M2) : FM M M2 := ⟨h2.1.trans h.1, fun q a b => (h2.2.1 q a b).trans (h.2.1 q a b), fun j a b => (h2.2.2 j a b).trans (h.2.2 j a b)⟩
theorem FC_w {M : ce_M} {j : Nat} {v : Int32} (h : j ≠ 1) : FC M (ce_wr M 411 j v) := ⟨rfl, fun q a b => ms_row a, ms_rw3 (fun z => h z.symm)⟩
theorem FC_n {M : ce_M} {j : Nat} {v : Int32} : FC M (ce_wr M 413 j v) := ⟨rfl, fun q a b => ms_row b, congrFun (ms_row (by omega)) 1⟩
theorem FM_w {M : ce_M} {j : Nat} {v : Int32} (h : j = 9 ∨ j = 10) : FM M (ce_wr M 414 j v) := ⟨rfl, fun q a b => ms_row a, fun i a b => ms_rw3 (by omega)⟩
theorem FM_n {M : ce_M} {j : Nat} {v : Int32} : FM M (ce_wr M 420 j v) := ⟨rfl, fun q a b => ms_row b, fun i a b => congrFun (ms_row (by omega)) i⟩
theorem TC_mk {M M' : ce_M} {tx : Nat → Nat} {len p p2 : Nat} (h : TC M tx len p) (hf : FC M M') (h2 : ce_rd M' 411 2 = nI p2) : TC M' tx len p2 := ⟨hf.2.2.trans h.1, h2, fun i hi => (congrFun (hf.2.1 412 (by omega) (by omega)) i).trans (h.2.2 i hi)⟩
theorem TM_mk {M M' : ce_M} {tx : Nat → Nat} {len p p2 : Nat} (h : TM M tx len p) (hf : FM M M') (h2 : ce_rd M' 414 9 = nI p2) : TM M' tx len p2 := ⟨(hf.2.2 8 (by omega) (by omega)).trans h.1, h2, fun i hi => (congrFun (hf.2.1 419 (by omega) (by omega)) i).trans (h.2.2 i hi)⟩
theorem TC_w {M : ce_M} {tx : Nat → Nat} {len p p2 : Nat} (h : TC M tx len p) : TC (ce_wr M 411 2 (nI p2)) tx len p2 := TC_mk h (FC_w (by omega)) ms_ww
theorem TM_w {M : ce_M} {tx : Nat → Nat} {len p p2 : Nat} (h : TM M tx len p) : TM (ce_wr M 414 9 (nI p2)) tx len p2 := TM_mk h (FM_w (Or.inl rfl)) ms_ww
section
variable {M : ce_M} {tx : Nat → Nat} {len p : Nat}
theorem cs_within (h : TC M tx len p) (hl : len ≤ 150) (ht : ∀ i, i < len → tx i < 128) (hp : p ≤ len) {a b : Nat} (ha : a < 128) (hb : b < 128) : f_X0_isWithin 411 M (nI a) (nI b) = some (nI (if p < len ∧ sp_in tx a b p = true then 1 else 0)) := by
  obtain ⟨h1, h2, h3⟩ := h
  unfold f_X0_isWithin
  rw [h1, h2]
  by_cases c : p < len
  · have hx := ht p c
    rw [if_neg (nI_ge (show p < len by omega) (show len < 2 ^ 31 by omega)), ms_gi (show p < 150 by omega) (show 150 < 2 ^ 31 by omega), nI_clamp (show p < 2 ^ 31 by omega), h3 p c, ms_nm]
    by_cases d : a ≤ tx p
    · rw [if_neg (nI_nlt d (by omega)), ms_gi (show p < 150 by omega) (show 150 < 2 ^ 31 by omega), ms_nm]
      by_cases e : tx p ≤ b
      · rw [if_neg (nI_nlt e (by omega)), if_pos ⟨c, sp_in_t.mpr ⟨d, e⟩⟩]; rfl
      · rw [if_pos (nI_lt (show b < tx p by omega) (by omega)), if_neg (fun z => e (sp_in_t.mp z.2).2)]; rfl
    · rw [if_pos (nI_lt (show tx p < a by omega) (by omega)), if_neg (fun z => d (sp_in_t.mp z.2).1)]; rfl
  · rw [if_pos (nI_le (show len ≤ p by omega) (show p < 2 ^ 31 by omega)), if_neg (fun z => c z.1)]; rfl
theorem cs_at (h : TC M tx len p) (hl : len ≤ 150) (ht : ∀ i, i < len → tx i < 128) (hp : p ≤ len) {a : Nat} (ha : a < 128) : f_X0_isAt 411 M (nI a) = some (nI (if p < len ∧ tx p = a then 1 else 0)) := by
  obtain ⟨h1, h2, h3⟩ := h
  unfold f_X0_isAt
  rw [h1, h2]
  by_cases c : p < len
  · have hx := ht p c
    rw [if_neg (nI_ge (show p < len by omega) (show len < 2 ^ 31 by omega)), ms_gi (show p < 150 by omega) (show 150 < 2 ^ 31 by omega), nI_clamp (show p < 2 ^ 31 by omega), h3 p c, ms_nm]
    by_cases d : tx p = a
    · rw [d, if_pos rfl, if_pos ⟨c, rfl⟩]; rfl
    · rw [if_neg (fun z => d (ms_nI z (by omega) (by omega))), if_neg (fun z => d z.2)]; rfl
  · rw [if_pos (nI_le (show len ≤ p by omega) (show p < 2 ^ 31 by omega)), if_neg (fun z => c z.1)]; rfl
theorem ms_at (h : TM M tx len p) (hl : len ≤ 150) (ht : ∀ i, i < len → tx i < 128) (hp : p ≤ len) {a b : Nat} (ha : a < 128) (hb : b < 128) : f_X8_isAt 414 M (nI a) (nI b) = some (nI (if p < len ∧ sp_in tx a b p = true then 1 else 0)) := by
  obtain ⟨h1, h2, h3⟩ := h
  unfold f_X8_isAt
  rw [h1, h2]
  by_cases c : p < len
  · have hx := ht p c
    rw [if_neg (nI_ge (show p < len by omega) (show len < 2 ^ 31 by omega)), ms_gi (show p < 150 by omega) (show 150 < 2 ^ 31 by omega), nI_clamp (show p < 2 ^ 31 by omega), h3 p c, ms_nm]
    unfold f_X8_in
    by_cases d : a ≤ tx p
    · rw [if_neg (nI_nlt d (by omega))]
      by_cases e : tx p ≤ b
      · rw [if_neg (nI_nlt e (by omega)), if_pos ⟨c, sp_in_t.mpr ⟨d, e⟩⟩]; rfl
      · rw [if_pos (nI_lt (show b < tx p by omega) (by omega)), if_neg (fun z => e (sp_in_t.mp z.2).2)]; rfl
    · rw [if_pos (nI_lt (show tx p < a by omega) (by omega)), if_neg (fun z => d (sp_in_t.mp z.2).1)]; rfl
  · rw [if_pos (nI_le (show len ≤ p by omega) (show p < 2 ^ 31 by omega)), if_neg (fun z => c z.1)]; rfl
theorem cs_skip (h : TC M tx len p) (hl : len ≤ 150) (ht : ∀ i, i < len → tx i < 128) (hp : p ≤ len) : f_X0_skipSpaces 411 M = some (ce_wr M 411 2 (nI (sp_run (sp_in tx 32 32) len p))) := by
  obtain ⟨a1, a2, a3, a4⟩ := sp_run_v (sp_in tx 32 32) len p
  generalize hr : sp_run (sp_in tx 32 32) len p = r at a1 a2 a3 a4 ⊢
  have e0 : M = ce_wr M 411 2 (nI (p + 0)) := (ms_wr_id h.2.1).symm
  have hk := ms_f1 (F := f_X0_skipSpaces_L0 411) (fun i => ce_wr M 411 2 (nI (p + i))) (r := some (ce_wr M 411 2 (nI r))) (r - p) (fun i hi rec => by
    obtain ⟨b1, b2⟩ := a3 (p + i) (by omega) (by omega)
    have hT := TC_w (p2 := p + i) h
    have hx : tx (p + i) = 32 := by have := sp_in_t.mp b2; omega
    unfold f_X0_skipSpaces_L0
    rw [hT.1, ms_ww, if_neg (nI_ge (show (p+i) < len by omega) (show len < 2 ^ 31 by omega)), ms_gi (show (p+i) < 150 by omega) (show 150 < 2 ^ 31 by omega), nI_clamp (show (p+i) < 2 ^ 31 by omega), hT.2.2 _ b1, ms_nm, hx, if_pos (by decide), nI_1, ms_nm, ms_wr_wr]
    rfl) (fun rec => by
    have hT := TC_w (p2 := r) h
    rw [show p + (r - p) = r by omega]
    unfold f_X0_skipSpaces_L0
    rw [hT.1, ms_ww]
    by_cases c : r < len
    · have hx : ¬ tx r = 32 := fun z => a4 ⟨c, sp_in_t.mpr (by omega)⟩
      have := ht r c
      rw [if_neg (nI_ge (show r < len by omega) (show len < 2 ^ 31 by omega)), ms_gi (show r < 150 by omega) (show 150 < 2 ^ 31 by omega), nI_clamp (show r < 2 ^ 31 by omega), hT.2.2 _ c, ms_nm, if_neg (show ¬ nI (tx r) = 32 from fun z => hx (ms_nI (b := 32) z (by omega) (by omega)))]
    · have := a2 hp
      rw [if_pos (nI_le (show len ≤ r by omega) (show r < 2 ^ 31 by omega))]) (fuel := ce_FU) (by rw [ms_FU]; have := a2 hp; omega)
  unfold f_X0_skipSpaces
  conv => lhs; rw [e0]
  exact hk
theorem ms_skip (h : TM M tx len p) (hl : len ≤ 150) (ht : ∀ i, i < len → tx i < 128) (hp : p ≤ len) : f_X8_skips 414 M = some (ce_wr M 414 9 (nI (sp_run (sp_in tx 32 32) len p))) := by
  obtain ⟨a1, a2, a3, a4⟩ := sp_run_v (sp_in tx 32 32) len p
  generalize hr : sp_run (sp_in tx 32 32) len p = r at a1 a2 a3 a4 ⊢
  have e0 : M = ce_wr M 414 9 (nI (p + 0)) := (ms_wr_id h.2.1).symm
  have hk := ms_f1 (F := f_X8_skips_L0 414) (fun i => ce_wr M 414 9 (nI (p + i))) (r := some (ce_wr M 414 9 (nI r))) (r - p) (fun i hi rec => by
    obtain ⟨b1, b2⟩ := a3 (p + i) (by omega) (by omega)
    have hT := TM_w (p2 := p + i) h
    unfold f_X8_skips_L0
    rw [show f_X8_isAt 414 (ce_wr M 414 9 (nI (p + i))) 32 32 = _ from ms_at (a := 32) (b := 32) hT hl ht (by omega) (by omega) (by omega), if_pos ⟨b1, b2⟩, ms_b1, if_neg (by decide), ms_ww, nI_1, ms_nm, ms_wr_wr]
    rfl) (fun rec => by
    have hT := TM_w (p2 := r) h
    rw [show p + (r - p) = r by omega]
    unfold f_X8_skips_L0
    rw [show f_X8_isAt 414 (ce_wr M 414 9 (nI r)) 32 32 = _ from ms_at (a := 32) (b := 32) hT hl ht (a2 hp) (by omega) (by omega), if_neg a4, ms_b1, if_pos (by decide)]) (fuel := ce_FU) (by rw [ms_FU]; have := a2 hp; omega)
  unfold f_X8_skips
  conv => lhs; rw [e0]
  exact hk
theorem cs_letters (h : TC M tx len p) (hl : len ≤ 150) (ht : ∀ i, i < len → tx i < 128) (hp : p ≤ len) (u : ce_M → Option (ce_M × Int32)) : ce_lp1 (f_X0_readWord_L5 411 u) ce_FU M = u (ce_wr M 411 2 (nI (sp_run (sp_in tx 97 122) len p))) := by
  obtain ⟨a1, a2, a3, a4⟩ := sp_run_v (sp_in tx 97 122) len p
  generalize hr : sp_run (sp_in tx 97 122) len p = r at a1 a2 a3 a4 ⊢
  have e0 : M = ce_wr M 411 2 (nI (p + 0)) := (ms_wr_id h.2.1).symm
  have hk := ms_f1 (F := f_X0_readWord_L5 411 u) (fun i => ce_wr M 411 2 (nI (p + i))) (r := u (ce_wr M 411 2 (nI r))) (r - p) (fun i hi rec => by
    obtain ⟨b1, b2⟩ := a3 (p + i) (by omega) (by omega)
    have hT := TC_w (p2 := p + i) h
    unfold f_X0_readWord_L5
    rw [hT.1, ms_ww, if_neg (nI_ge (show (p+i) < len by omega) (show len < 2 ^ 31 by omega)), show f_X0_isWithin 411 (ce_wr M 411 2 (nI (p + i))) 97 122 = _ from cs_within (a := 97) (b := 122) hT hl ht (by omega) (by omega) (by omega), if_pos ⟨b1, b2⟩, ms_b1, if_neg (by decide), nI_1, ms_nm, ms_wr_wr]
    rfl) (fun rec => by
    have hT := TC_w (p2 := r) h
    have := a2 hp
    rw [show p + (r - p) = r by omega]
    unfold f_X0_readWord_L5
    rw [hT.1, ms_ww]
    by_cases c : r < len
    · rw [if_neg (nI_ge (show r < len by omega) (show len < 2 ^ 31 by omega)), show f_X0_isWithin 411 (ce_wr M 411 2 (nI r)) 97 122 = _ from cs_within (a := 97) (b := 122) hT hl ht (a2 hp) (by omega) (by omega), if_neg a4, ms_b1, if_pos (by decide)]
    · rw [if_pos (nI_le (show len ≤ r by omega) (show r < 2 ^ 31 by omega))]) (fuel := ce_FU) (by rw [ms_FU]; have := a2 hp; omega)
  conv => lhs; rw [e0]
  exact hk
def sp_hh (tx : Nat → Nat) (p : Nat) : Nat → Nat
  | 0 => 0
  | i + 1 => if 6 ≤ i then 0 else 32 * sp_hh tx p i + tx (p + i) - 96
theorem ms_letters (h : TM M tx len p) (hl : len ≤ 150) (ht : ∀ i, i < len → tx i < 128) (hp : p ≤ len) (u : ce_M → Int32 → Option (ce_M × Int32)) : ce_lp2 (f_X8_takesCommand_L7 414 (nI p) u) ce_FU M 0 = u (ce_wr M 414 9 (nI (sp_run (sp_in tx 97 122) len p))) (nI (sp_hh tx p (sp_run (sp_in tx 97 122) len p - p))) := by
  obtain ⟨a1, a2, a3, a4⟩ := sp_run_v (sp_in tx 97 122) len p
  generalize hr : sp_run (sp_in tx 97 122) len p = r at a1 a2 a3 a4 ⊢
  have e0 : M = ce_wr M 414 9 (nI (p + 0)) := (ms_wr_id h.2.1).symm
  have hk := ms_f2 (F := f_X8_takesCommand_L7 414 (nI p) u) (fun i => ce_wr M 414 9 (nI (p + i))) (fun i => nI (sp_hh tx p i)) (r := u (ce_wr M 414 9 (nI r)) (nI (sp_hh tx p (r - p)))) (r - p) (fun i hi rec => by
    obtain ⟨b1, b2⟩ := a3 (p + i) (by omega) (by omega)
    have hT := TM_w (p2 := p + i) h
    have hx := sp_in_t.mp b2
    unfold f_X8_takesCommand_L7
    rw [show f_X8_isAt 414 (ce_wr M 414 9 (nI (p + i))) 97 122 = _ from ms_at (a := 97) (b := 122) hT hl ht (by omega) (by omega) (by omega), if_pos ⟨b1, b2⟩, ms_b1, if_neg (by decide), ms_nm, ms_ww, ms_sub (show p ≤ p + i by omega), show p + i - p = i by omega]
    by_cases c : 6 ≤ i
    · rw [if_pos (show (6 : Int32) ≤ nI i from nI_le (a := 6) c (by omega)), nI_1]
      dsimp only
      rw [ms_nm, ms_wr_wr, show sp_hh tx p (i + 1) = 0 from if_pos c]
      rfl
    · rw [if_neg (show ¬ (6 : Int32) ≤ nI i from nI_ge (b := 6) (by omega) (by omega)), ms_gi (show (p+i) < 150 by omega) (show 150 < 2 ^ 31 by omega), nI_clamp (show (p+i) < 2 ^ 31 by omega), hT.2.2 _ b1, ms_nm, nI_1]
      dsimp only
      rw [ms_nm, ms_wr_wr, show sp_hh tx p (i + 1) = 32 * sp_hh tx p i + tx (p + i) - 96 from if_neg c, show 32 * nI (sp_hh tx p i) = nI (32 * sp_hh tx p i) from pk_mul 32 _, nI_add, show nI (32 * sp_hh tx p i + tx (p + i)) - 96 = nI (32 * sp_hh tx p i + tx (p + i) - 96) from ms_sub (b := 96) (by omega)]
      rfl) (fun rec => by
    have hT := TM_w (p2 := r) h
    rw [show p + (r - p) = r by omega]
    unfold f_X8_takesCommand_L7
    rw [show f_X8_isAt 414 (ce_wr M 414 9 (nI r)) 97 122 = _ from ms_at (a := 97) (b := 122) hT hl ht (a2 hp) (by omega) (by omega), if_neg a4, ms_b1, if_pos (by decide)]) (fuel := ce_FU) (by rw [ms_FU]; have := a2 hp; omega)
  conv => lhs; rw [e0]
  exact hk
end
