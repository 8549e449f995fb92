/-! commands carried out -/
def sp_G (k : Nat) (w0 w1 w2 : Int32) (Mm : ce_M) : Option (ce_M × Int32) := if k = 0 then f_X8_subscribes 414 Mm w0 w1 w2 else if k = 1 then f_X8_goes 414 Mm w0 w1 else if k = 2 then f_X8_quits 414 Mm w0 else if k = 3 then f_X8_publishes 414 Mm w0 w1 0 else if k = 4 then f_X8_publishes 414 Mm w0 w1 w2 else if k = 5 then f_X8_sets 414 Mm w0 w1 else f_X8_passes 414 Mm w0
theorem sp_G1 (w0 w1 w2 : Int32) (Mm : ce_M) : sp_G 1 w0 w1 w2 Mm = f_X8_goes 414 Mm w0 w1 := by
  unfold sp_G
  rw [if_neg (by decide), if_pos rfl]
theorem sp_G2 (w0 w1 w2 : Int32) (Mm : ce_M) : sp_G 2 w0 w1 w2 Mm = f_X8_quits 414 Mm w0 := by
  unfold sp_G
  rw [if_neg (by decide), if_neg (by decide), if_pos rfl]
theorem sp_G3 (w0 w1 w2 : Int32) (Mm : ce_M) : sp_G 3 w0 w1 w2 Mm = f_X8_publishes 414 Mm w0 w1 0 := by
  unfold sp_G
  rw [if_neg (by decide), if_neg (by decide), if_neg (by decide), if_pos rfl]
theorem sp_G5 (w0 w1 w2 : Int32) (Mm : ce_M) : sp_G 5 w0 w1 w2 Mm = f_X8_sets 414 Mm w0 w1 := by
  unfold sp_G
  rw [if_neg (by decide), if_neg (by decide), if_neg (by decide), if_neg (by decide), if_neg (by decide), if_pos rfl]
theorem sp_G6 (w0 w1 w2 : Int32) (Mm : ce_M) : sp_G 6 w0 w1 w2 Mm = f_X8_passes 414 Mm w0 := by
  unfold sp_G
  rw [if_neg (by decide), if_neg (by decide), if_neg (by decide), if_neg (by decide), if_neg (by decide), if_neg (by decide)]
theorem sp_G_cg {k : Nat} (hk : k < 7) {v0 v1 v2 w0 w1 w2 : Int32} (h : ∀ j, j < sp_cn k → (if j = 0 then v0 else if j = 1 then v1 else v2) = (if j = 0 then w0 else if j = 1 then w1 else w2)) (Mm : ce_M) : sp_G k v0 v1 v2 Mm = sp_G k w0 w1 w2 Mm := by
  have hc := sp_cn_v k hk
  have e0 : v0 = w0 := h 0 (by omega)
  subst e0
  have : k = 0 ∨ k = 1 ∨ k = 2 ∨ k = 3 ∨ k = 4 ∨ k = 5 ∨ k = 6 := by omega
  rcases this with rfl | rfl | rfl | rfl | rfl | rfl | rfl
  · have e1 : v1 = w1 := h 1 (by decide)
    have e2 : v2 = w2 := h 2 (by decide)
    rw [e1, e2]
  · have e1 : v1 = w1 := h 1 (by decide)
    rw [e1, sp_G1, sp_G1]
  · rw [sp_G2, sp_G2]
  · have e1 : v1 = w1 := h 1 (by decide)
    rw [e1, sp_G3, sp_G3]
  · have e1 : v1 = w1 := h 1 (by decide)
    have e2 : v2 = w2 := h 2 (by decide)
    rw [e1, e2]
  · have e1 : v1 = w1 := h 1 (by decide)
    rw [e1, sp_G5, sp_G5]
  · rw [sp_G6, sp_G6]
theorem ms_carry {M : ce_M} {k : Nat} (hk : k < 7) (h : ce_rd M 414 10 = nI (sp_mu k)) : f_X8_carriesOut 414 M = sp_G k (ce_rd M 420 0) (ce_rd M 420 1) (ce_rd M 420 2) M := by
  have g0 : ∀ K : Option (ce_M × Int32), ce_gi 0 3 K = K := fun K => ms_gi (n := 0) (by omega) (by omega)
  have g1 : ∀ K : Option (ce_M × Int32), ce_gi 1 3 K = K := fun K => ms_gi (n := 1) (by omega) (by omega)
  have g2 : ∀ K : Option (ce_M × Int32), ce_gi 2 3 K = K := fun K => ms_gi (n := 2) (by omega) (by omega)
  unfold f_X8_carriesOut
  rw [g0, ms_nm, g1, ms_nm, g2, ms_nm, h]
  have : k = 0 ∨ k = 1 ∨ k = 2 ∨ k = 3 ∨ k = 4 ∨ k = 5 ∨ k = 6 := by omega
  rcases this with rfl | rfl | rfl | rfl | rfl | rfl | rfl
  · rw [if_pos (by decide), ms_b2s]; rfl
  · rw [if_neg (by decide), if_neg (by decide), if_pos (by decide), ms_b2s]; rfl
  · rw [if_neg (by decide), if_neg (by decide), if_neg (by decide), if_neg (by decide), if_neg (by decide), if_pos (by decide), ms_b2s]; rfl
  · rw [if_neg (by decide), if_neg (by decide), if_neg (by decide), if_pos (by decide), ms_b2s]; rfl
  · rw [if_neg (by decide), if_pos (by decide), ms_b2s]; rfl
  · rw [if_neg (by decide), if_neg (by decide), if_neg (by decide), if_neg (by decide), if_pos (by decide), ms_b2s]; rfl
  · rw [if_neg (by decide), if_neg (by decide), if_neg (by decide), if_neg (by decide), if_neg (by decide), if_neg (by decide), ms_b2s]; rfl
theorem ms_c1 : ms_c 1 1 := ⟨Or.inl rfl, 1, by omega, by omega, rfl⟩
theorem ms_c2 : ms_c 2 2 := ⟨Or.inr (Or.inl rfl), 2, by omega, by omega, rfl⟩
theorem ms_c3 : ms_c 3 3 := ⟨Or.inr (Or.inr rfl), 3, by omega, by omega, rfl⟩
theorem ms_c32 : ms_c 3 2 := ⟨Or.inr (Or.inr rfl), 2, by omega, by omega, rfl⟩
theorem ms_c21 : ms_c 2 1 := ⟨Or.inr (Or.inl rfl), 1, by omega, by omega, rfl⟩
theorem act_cmd {k : Nat} (hk : k < 7) {M : ce_M} {σ : Nat → Int32} {t n en : Nat} (hR : ms_WR M 1 σ) (hI : ms_IN σ t n en) (ht : t ≤ 9999) (v0 v1 v2 : Int32) : ∃ cd : Int32 → Int32 → Prop, (∀ ca cm, cd ca cm → ms_c ca cm) ∧ ms_OK 9999 M 1 σ (f_X6_against 1 M (nI k) v0 v1 v2) (f_X6_perform 1 M (nI k) v0 v1 v2) (sp_G k v0 v1 v2) cd := by
  have : k = 0 ∨ k = 1 ∨ k = 2 ∨ k = 3 ∨ k = 4 ∨ k = 5 ∨ k = 6 := by omega
  rcases this with rfl | rfl | rfl | rfl | rfl | rfl | rfl
  · refine ⟨fun ca cm => (ca = 1 ∧ cm = 1) ∨ (ca = 2 ∧ cm = 2) ∨ (ca = 3 ∧ cm = 3), ?_, ?_⟩
    · rintro ca cm (⟨rfl, rfl⟩ | ⟨rfl, rfl⟩ | ⟨rfl, rfl⟩)
      · exact ms_c1
      · exact ms_c2
      · exact ms_c3
    · rw [show f_X6_against 1 M (nI 0) v0 v1 v2 = _ from cs_a0 M 1 v0 v1 v2]
      exact act_join hR hI ht v0 v1 v2
  · refine ⟨fun ca cm => (ca = 1 ∧ cm = 1) ∨ (ca = 3 ∧ cm = 2), ?_, ?_⟩
    · rintro ca cm (⟨rfl, rfl⟩ | ⟨rfl, rfl⟩)
      · exact ms_c1
      · exact ms_c32
    · rw [show f_X6_against 1 M (nI 1) v0 v1 v2 = _ from cs_a1 M 1 v0 v1 v2]
      exact act_go hR hI ht v0 v1 v2
  · refine ⟨fun ca cm => (ca = 1 ∧ cm = 1) ∨ (ca = 3 ∧ cm = 2), ?_, ?_⟩
    · rintro ca cm (⟨rfl, rfl⟩ | ⟨rfl, rfl⟩)
      · exact ms_c1
      · exact ms_c32
    · rw [show f_X6_against 1 M (nI 2) v0 v1 v2 = _ from cs_a2 M 1 v0 v1 v2]
      exact act_quit hR hI ht v0 v1 v2
  · refine ⟨fun ca cm => (ca = 1 ∧ cm = 1) ∨ (ca = 2 ∧ cm = 2) ∨ (ca = 3 ∧ cm = 3), ?_, ?_⟩
    · rintro ca cm (⟨rfl, rfl⟩ | ⟨rfl, rfl⟩ | ⟨rfl, rfl⟩)
      · exact ms_c1
      · exact ms_c2
      · exact ms_c3
    · rw [show f_X6_against 1 M (nI 3) v0 v1 v2 = _ from cs_a3 M 1 v0 v1 v2, show f_X6_perform 1 M (nI 3) v0 v1 v2 = _ from cs_p3 1 M v0 v1 v2, ms_b2s]
      exact act_pub hR hI ht v0 v1 0
  · refine ⟨fun ca cm => (ca = 1 ∧ cm = 1) ∨ (ca = 2 ∧ cm = 2) ∨ (ca = 3 ∧ cm = 3), ?_, ?_⟩
    · rintro ca cm (⟨rfl, rfl⟩ | ⟨rfl, rfl⟩ | ⟨rfl, rfl⟩)
      · exact ms_c1
      · exact ms_c2
      · exact ms_c3
    · rw [show f_X6_against 1 M (nI 4) v0 v1 v2 = _ from cs_a4 M 1 v0 v1 v2, show f_X6_perform 1 M (nI 4) v0 v1 v2 = _ from cs_p4 1 M v0 v1 v2, ms_b2s]
      exact act_pub hR hI ht v0 v1 v2
  · refine ⟨fun ca cm => ca = 2 ∧ cm = 1, ?_, ?_⟩
    · rintro ca cm ⟨rfl, rfl⟩
      exact ms_c21
    · rw [show f_X6_against 1 M (nI 5) v0 v1 v2 = _ from cs_a5 M 1 v0 v1 v2]
      exact act_set hR hI ht v0 v1 v2
  · refine ⟨fun ca cm => (ca = 2 ∧ cm = 1) ∨ (ca = 3 ∧ cm = 2), ?_, ?_⟩
    · rintro ca cm (⟨rfl, rfl⟩ | ⟨rfl, rfl⟩)
      · exact ms_c21
      · exact ms_c32
    · rw [show f_X6_against 1 M (nI 6) v0 v1 v2 = _ from cs_a6 M 1 v0 v1 v2]
      exact act_pass hR hI ht v0 v1 v2
def FR (M M' : ce_M) : Prop := M'.2 = M.2 ∧ (∀ q, q = 0 ∨ 69 ≤ q → q ≠ 411 → q ≠ 413 → ce_rd M' q = ce_rd M q) ∧ ce_rd M' 411 1 = ce_rd M 411 1
def FN (M M' : ce_M) : Prop := M'.2 = M.2 ∧ (∀ q, q ≠ 414 → q ≠ 415 → q ≠ 418 → q ≠ 420 → ce_rd M' q = ce_rd M q) ∧ ce_rd M' 414 3 = ce_rd M 414 3 ∧ ce_rd M' 414 8 = ce_rd M 414 8
theorem FR_r {M : ce_M} : FR M M := ⟨rfl, fun _ _ _ _ => rfl, rfl⟩
theorem FR_t {M M1 M2 : ce_M} (h : FR M M1) (h2 : FR M1 M2) : FR M M2 := ⟨h2.1.trans h.1, fun q a b c => (h2.2.1 q a b c).trans (h.2.1 q a b c), h2.2.2.trans h.2.2⟩
theorem FR_c {M M' : ce_M} (h : FC M M') : FR M M' := ⟨h.1, fun q _ b c => h.2.1 q b c, h.2.2⟩
theorem FR_w {M M' : ce_M} (h : ms_fr 1 (1 + 68) M M') : FR M M' := ⟨h.1, fun q a _ _ => h.2 q (by omega), congrFun (h.2 411 (by omega)) 1⟩
theorem FN_r {M : ce_M} : FN M M := ⟨rfl, fun _ _ _ _ _ => rfl, rfl, rfl⟩
theorem FN_t {M M1 M2 : ce_M} (h : FN M M1) (h2 : FN M1 M2) : FN M M2 := ⟨h2.1.trans h.1, fun q a b c d => (h2.2.1 q a b c d).trans (h.2.1 q a b c d), h2.2.2.1.trans h.2.2.1, h2.2.2.2.trans h.2.2.2⟩
theorem FN_m {M M' : ce_M} {σ : Nat → Int32} (h : FM (ms_S M σ) M') : FN M M' := ⟨h.1, fun q a b c d => (h.2.1 q a d).trans (funext fun j => ms_rd' M σ b j), (h.2.2 3 (by omega) (by omega)).trans (ms_rd' M σ (by omega) 3), (h.2.2 8 (by omega) (by omega)).trans (ms_rd' M σ (by omega) 8)⟩
theorem FN_g {M M' : ce_M} {r : Int32} (h : ms_MF M M' r) : FN M M' := ⟨h.1, fun q a b c d => h.2.1 q a c, h.2.2.2 3 (by omega), h.2.2.2 8 (by omega)⟩
theorem TM_S {M : ce_M} {tx : Nat → Nat} {len p : Nat} {σ : Nat → Int32} (h : TM M tx len p) : TM (ms_S M σ) tx len p := ⟨(ms_rd' M σ (by omega) 8).trans h.1, (ms_rd' M σ (by omega) 9).trans h.2.1, fun i hi => (ms_rd' M σ (by omega) i).trans (h.2.2 i hi)⟩
section
variable {u25 : ce_M → Int32 → Option (ce_M × Int32)} {rec3 : ce_M → Int32 → Int32 → Option (ce_M × Int32)} {M M32 M48 : ce_M} {x c : Int32}
theorem L56_0 : f_X8_runCommands_L56 414 u25 rec3 M x 0 = u25 M x := by
  unfold f_X8_runCommands_L56
  rw [if_pos rfl]
theorem L56_end (h : ce_rd M 414 8 ≤ ce_rd M 414 9) : f_X8_runCommands_L56 414 u25 rec3 M x 1 = u25 M x := by
  unfold f_X8_runCommands_L56
  rw [if_neg (by decide), if_pos h]
theorem L56_fail (h : ¬ ce_rd M 414 8 ≤ ce_rd M 414 9) (h1 : f_X8_takesCommand 414 M = some (M32, 0)) : f_X8_runCommands_L56 414 u25 rec3 M x 1 = rec3 M32 (x + 0) 0 := by
  unfold f_X8_runCommands_L56
  rw [if_neg (by decide), if_neg h, h1]
  rfl
theorem L56_no (h : ¬ ce_rd M 414 8 ≤ ce_rd M 414 9) (h1 : f_X8_takesCommand 414 M = some (M32, 1)) (h2 : f_X8_carriesOut 414 M32 = some (M48, c)) (hc : ¬ c = 0) : f_X8_runCommands_L56 414 u25 rec3 M x 1 = rec3 M48 (x + 0) 0 := by
  unfold f_X8_runCommands_L56
  rw [if_neg (by decide), if_neg h, h1, ms_b2, ms_nm, ms_nm, if_neg (by decide), h2, ms_b2, if_neg hc]
  rfl
theorem L56_yes (h : ¬ ce_rd M 414 8 ≤ ce_rd M 414 9) (h1 : f_X8_takesCommand 414 M = some (M32, 1)) (h2 : f_X8_carriesOut 414 M32 = some (M48, 0)) : f_X8_runCommands_L56 414 u25 rec3 M x 1 = rec3 M48 (x + 1) 1 := by
  unfold f_X8_runCommands_L56
  rw [if_neg (by decide), if_neg h, h1, ms_b2, ms_nm, ms_nm, if_neg (by decide), h2, ms_b2, if_pos rfl]
  rfl
variable {rec2 : ce_M → Int32 → Option (ce_M × Int32)} {M8 M24 : ce_M} {r : Int32}
theorem L9_stop (h : ¬ (150 : Int32) ≤ x) (h1 : f_X0_readNext 411 M = some (M8, 0)) : f_X7_carryOutCommands_L9 0 rec2 M x = some (M8, x) := by
  unfold f_X7_carryOutCommands_L9
  rw [if_neg h, show f_X0_readNext (0 + 411) M = some (M8, 0) from h1]
  rfl
theorem L9_no (h : ¬ (150 : Int32) ≤ x) (h1 : f_X0_readNext 411 M = some (M8, 1)) (h2 : f_X6_against 1 M8 (ce_rd M8 411 3) (ce_rd M8 413 0) (ce_rd M8 413 1) (ce_rd M8 413 2) = some c) (hc : ¬ c = 0) : f_X7_carryOutCommands_L9 0 rec2 M x = some (M8, x) := by
  have g0 : ∀ K : Option (ce_M × Int32), ce_gi 0 3 K = K := fun K => ms_gi (n := 0) (by omega) (by omega)
  have g1 : ∀ K : Option (ce_M × Int32), ce_gi 1 3 K = K := fun K => ms_gi (n := 1) (by omega) (by omega)
  have g2 : ∀ K : Option (ce_M × Int32), ce_gi 2 3 K = K := fun K => ms_gi (n := 2) (by omega) (by omega)
  unfold f_X7_carryOutCommands_L9
  rw [if_neg h, show f_X0_readNext (0 + 411) M = some (M8, 1) from h1, ms_b2, if_neg (by decide), g0, ms_nm, g1, ms_nm, g2, ms_nm, show f_X6_against (0 + 1) M8 (ce_rd M8 (0 + 411) 3) (ce_rd M8 (0 + 411 + 2) (Int32.toNatClampNeg 0)) (ce_rd M8 (0 + 411 + 2) (Int32.toNatClampNeg 1)) (ce_rd M8 (0 + 411 + 2) (Int32.toNatClampNeg 2)) = some c from h2, ms_b1, if_neg hc]
theorem L9_yes (h : ¬ (150 : Int32) ≤ x) (h1 : f_X0_readNext 411 M = some (M8, 1)) (h2 : f_X6_against 1 M8 (ce_rd M8 411 3) (ce_rd M8 413 0) (ce_rd M8 413 1) (ce_rd M8 413 2) = some 0) (h3 : f_X6_perform 1 M8 (ce_rd M8 411 3) (ce_rd M8 413 0) (ce_rd M8 413 1) (ce_rd M8 413 2) = some (M24, r)) : f_X7_carryOutCommands_L9 0 rec2 M x = rec2 M24 (x + 1) := by
  have g0 : ∀ K : Option (ce_M × Int32), ce_gi 0 3 K = K := fun K => ms_gi (n := 0) (by omega) (by omega)
  have g1 : ∀ K : Option (ce_M × Int32), ce_gi 1 3 K = K := fun K => ms_gi (n := 1) (by omega) (by omega)
  have g2 : ∀ K : Option (ce_M × Int32), ce_gi 2 3 K = K := fun K => ms_gi (n := 2) (by omega) (by omega)
  unfold f_X7_carryOutCommands_L9
  rw [if_neg h, show f_X0_readNext (0 + 411) M = some (M8, 1) from h1, ms_b2, if_neg (by decide), g0, ms_nm, g1, ms_nm, g2, ms_nm, show f_X6_against (0 + 1) M8 (ce_rd M8 (0 + 411) 3) (ce_rd M8 (0 + 411 + 2) (Int32.toNatClampNeg 0)) (ce_rd M8 (0 + 411 + 2) (Int32.toNatClampNeg 1)) (ce_rd M8 (0 + 411 + 2) (Int32.toNatClampNeg 2)) = some 0 from h2, ms_b1, if_pos rfl, show f_X6_perform (0 + 1) M8 (ce_rd M8 (0 + 411) 3) (ce_rd M8 (0 + 411 + 2) (Int32.toNatClampNeg 0)) (ce_rd M8 (0 + 411 + 2) (Int32.toNatClampNeg 1)) (ce_rd M8 (0 + 411 + 2) (Int32.toNatClampNeg 2)) = some (M24, r) from h3, ms_b2, ms_nm]
end
theorem run_loop {tx : Nat → Nat} {len : Nat} (hl : len ≤ 150) (ht : ∀ i, i < len → tx i < 128) (u25 : ce_M → Int32 → Option (ce_M × Int32)) : ∀ m i (Mc : ce_M) p (σ : Nat → Int32), i + m = 150 → TC Mc tx len p → p ≤ len → i ≤ p → ms_WR Mc 1 σ → ms_IT 9999 σ → ∀ fuel, m < fuel → ∃ Mc' τ cnt, ce_lp2 (f_X7_carryOutCommands_L9 0) fuel Mc (nI i) = some (Mc', cnt) ∧ ms_WR Mc' 1 τ ∧ ms_IT 9999 τ ∧ FR Mc Mc' ∧ ∀ Mm, TM Mm tx len (sp_sk tx len p) → ∀ fuel2, m + 2 < fuel2 → ∃ M2, ce_lp3 (f_X8_runCommands_L56 414 u25) fuel2 (ms_S Mm σ) (nI i) 1 = u25 (ms_S M2 τ) cnt ∧ FN Mm M2 := by
  intro m
  induction m with
  | zero =>
    intro i Mc p σ h1 hT hp hip hW hIT fuel hf
    obtain ⟨f, rfl⟩ : ∃ f, fuel = f + 1 := ⟨fuel - 1, by omega⟩
    have e : i = 150 := by omega
    subst e
    have hs := sp_sk_v tx len p
    have hs2 := hs.2 hp
    refine ⟨Mc, σ, nI 150, ?_, hW, hIT, FR_r, fun Mm hM fuel2 hf2 => ⟨Mm, ?_, FN_r⟩⟩
    · show f_X7_carryOutCommands_L9 0 _ _ _ = _
      unfold f_X7_carryOutCommands_L9
      rw [if_pos (show (150 : Int32) ≤ nI 150 from by decide)]
    · obtain ⟨g, rfl⟩ : ∃ g, fuel2 = g + 1 := ⟨fuel2 - 1, by omega⟩
      have hS := TM_S (σ := σ) hM
      exact L56_end (by rw [hS.1, hS.2.1]; exact nI_le (by omega) (by omega))
  | succ m ih =>
    intro i Mc p σ h1 hT hp hip hW hIT fuel hf
    obtain ⟨f, rfl⟩ : ∃ f, fuel = f + 1 := ⟨fuel - 1, by omega⟩
    have hs := sp_sk_v tx len p
    have hs2 := hs.2 hp
    have ni : ¬ (150 : Int32) ≤ nI i := nI_ge (b := 150) (by omega) (by omega)
    by_cases c : sp_sk tx len p < len
    · obtain ⟨M1, b, e1, f1, g1, g0⟩ := cs_next hT hl ht hp c
      obtain ⟨a1, a2, a3, a4⟩ := sp_cmd_v (tx := tx) hs2
      have hW1 : ms_WR M1 1 σ := ms_WR_al hW (fun q q1 q2 => f1.2.1 q (by omega) (by omega))
      by_cases d : (sp_cmd tx len (sp_sk tx len p)).1 = 0
      · obtain ⟨rfl, x5⟩ := g0 d
        refine ⟨M1, σ, nI i, L9_stop ni e1, hW1, hIT, FR_c f1, fun Mm hM fuel2 hf2 => ?_⟩
        obtain ⟨g, rfl⟩ : ∃ g, fuel2 = g + 1 + 1 := ⟨fuel2 - 2, by omega⟩
        have hS := TM_S (σ := σ) hM
        obtain ⟨M32, t1, t2, _, _⟩ := ms_take hS hl ht hs2
        have t9 : M32 = ms_S M32 σ := by
          have q := (ms_S_self M32).symm
          rw [show ce_rd M32 415 = σ from (t2.2.1 415 (by omega) (by omega)).trans (funext fun j => ms_rd Mm σ j)] at q
          exact q
        rw [d] at t1
        refine ⟨M32, ?_, FN_m t2⟩
        refine (L56_fail (by rw [hS.1, hS.2.1]; exact nI_ge (by omega) (by omega)) t1).trans ?_
        refine L56_0.trans ?_
        rw [← t9, show nI i + 0 = nI i from ms_add0 _]
      · have d1 : (sp_cmd tx len (sp_sk tx len p)).1 = 1 := by omega
        obtain ⟨rfl, x2, x5, x3, xv⟩ := g1 d1
        obtain ⟨a5, hk7⟩ := a4 d1
        obtain ⟨t, n, en, htt, hI⟩ := hIT
        obtain ⟨cd, hcd, hok⟩ := act_cmd hk7 hW1 hI htt (ce_rd M1 413 0) (ce_rd M1 413 1) (ce_rd M1 413 2)
        rw [← x3] at hok
        have hmod : ∀ Mm, TM Mm tx len (sp_sk tx len p) → ∃ M32, f_X8_takesCommand 414 (ms_S Mm σ) = some (ms_S M32 σ, 1) ∧ FN Mm M32 ∧ ¬ ce_rd (ms_S Mm σ) 414 8 ≤ ce_rd (ms_S Mm σ) 414 9 ∧ TM M32 tx len (sp_sk tx len (sp_cmd tx len (sp_sk tx len p)).2) ∧ f_X8_carriesOut 414 (ms_S M32 σ) = sp_G (sp_ky tx len (sp_sk tx len p)) (ce_rd M1 413 0) (ce_rd M1 413 1) (ce_rd M1 413 2) (ms_S M32 σ) := fun Mm hM => by
          have hS := TM_S (σ := σ) hM
          obtain ⟨M32, t1, t2, t3, _⟩ := ms_take hS hl ht hs2
          obtain ⟨y9, y10, yv⟩ := t3 d1
          have t9 : M32 = ms_S M32 σ := by
            have q := (ms_S_self M32).symm
            rw [show ce_rd M32 415 = σ from (t2.2.1 415 (by omega) (by omega)).trans (funext fun j => ms_rd Mm σ j)] at q
            exact q
          refine ⟨M32, ?_, FN_m t2, by rw [hS.1, hS.2.1]; exact nI_ge (by omega) (by omega), TM_mk hS t2 y9, ?_⟩
          · rw [t1, d1, ← t9]; rfl
          · rw [← t9, ms_carry hk7 y10]
            refine sp_G_cg hk7 (fun j hj => ?_) _
            have cn3 := (sp_cn_v _ hk7).1
            have : j = 0 ∨ j = 1 ∨ j = 2 := by omega
            rcases this with rfl | rfl | rfl
            · exact (yv 0 hj).trans (xv 0 hj).symm
            · exact (yv 1 hj).trans (xv 1 hj).symm
            · exact (yv 2 hj).trans (xv 2 hj).symm
        rcases hok with ⟨ca, cm, h2, h3, h4⟩ | ⟨h3, τ, r, M24, hT9, hP, hW9, hf9, hg9⟩
        · obtain ⟨hc, z, z1, z2, rfl⟩ := hcd ca cm h2
          have hca : ¬ ca = 0 := by rcases hc with rfl | rfl | rfl <;> decide
          refine ⟨M1, σ, nI i, L9_no ni e1 h3 hca, hW1, ⟨t, n, en, htt, hI⟩, FR_c f1, fun Mm hM fuel2 hf2 => ?_⟩
          obtain ⟨g, rfl⟩ : ∃ g, fuel2 = g + 1 + 1 := ⟨fuel2 - 2, by omega⟩
          obtain ⟨M32, t1, t2, t3, t4, t5⟩ := hmod Mm hM
          refine ⟨M32, ?_, t2⟩
          refine (L56_no t3 t1 (t5.trans (h4 M32)) (nI_ne0 (by omega) (by omega))).trans ?_
          refine L56_0.trans ?_
          rw [show nI i + 0 = nI i from ms_add0 _]
        · have hT2 : TC M24 tx len (sp_cmd tx len (sp_sk tx len p)).2 := ⟨(congrFun (hf9.2 411 (by omega)) 1).trans (f1.2.2.trans hT.1), (congrFun (hf9.2 411 (by omega)) 2).trans x2, fun j hj => (congrFun ((hf9.2 412 (by omega)).trans (f1.2.1 412 (by omega) (by omega))) j).trans (hT.2.2 j hj)⟩
          obtain ⟨Mc', τ', cnt, r1, r2, r3, r4, r5⟩ := ih (i + 1) M24 _ τ (by omega) hT2 a3 (by omega) hW9 hT9 f (by omega)
          refine ⟨Mc', τ', cnt, ?_, r2, r3, FR_t (FR_c f1) (FR_t (FR_w hf9) r4), fun Mm hM fuel2 hf2 => ?_⟩
          · refine (L9_yes ni e1 h3 hP).trans ?_
            rw [nI_1]
            exact r1
          · obtain ⟨g, rfl⟩ : ∃ g, fuel2 = g + 1 := ⟨fuel2 - 1, by omega⟩
            obtain ⟨M32, t1, t2, t3, t4, t5⟩ := hmod Mm hM
            obtain ⟨M48, y1, y2⟩ := hg9 M32
            have hT48 : TM M48 tx len (sp_sk tx len (sp_cmd tx len (sp_sk tx len p)).2) := ⟨(y2.2.2.2 8 (by omega)).trans t4.1, (y2.2.2.2 9 (by omega)).trans t4.2.1, fun j hj => (congrFun (y2.2.1 419 (by omega) (by omega)) j).trans (t4.2.2 j hj)⟩
            obtain ⟨M2, w1, w2⟩ := r5 M48 hT48 g (by omega)
            refine ⟨M2, ?_, FN_t t2 (FN_t (FN_g y2) w2)⟩
            refine (L56_yes t3 t1 (t5.trans y1)).trans ?_
            rw [nI_1]
            exact w1
    · refine ⟨_, σ, nI i, L9_stop ni (cs_next_end hT hl ht hp c), ms_WR_al hW (fun q q1 q2 => ms_row (by omega)), hIT, FR_c (FC_w (by omega)), fun Mm hM fuel2 hf2 => ⟨Mm, ?_, FN_r⟩⟩
      obtain ⟨g, rfl⟩ : ∃ g, fuel2 = g + 1 := ⟨fuel2 - 1, by omega⟩
      have hS := TM_S (σ := σ) hM
      exact L56_end (by rw [hS.1, hS.2.1]; exact nI_le (by omega) (by omega))
