/-! THE ARENA: all objects that the law makes lie in one row of cells behind the address b; M is what their ints (and longs) hold -/
abbrev ce_M : Type := (Nat → Nat → Int32) × (Nat → Int64)
def ce_rd (M : ce_M) (k j : Nat) : Int32 := M.1 k j
def ce_wr (M : ce_M) (k j : Nat) (v : Int32) : ce_M := (fun a i => if a = k ∧ i = j then v else M.1 a i, M.2)
def ce_rl (M : ce_M) (i : Nat) : Int64 := M.2 i
def ce_wl (M : ce_M) (i : Nat) (v : Int64) : ce_M := (M.1, fun a => if a = i then v else M.2 a)
theorem ce_rd_wr (M : ce_M) (k j : Nat) (v : Int32) (a i : Nat) : ce_rd (ce_wr M k j v) a i = if a = k ∧ i = j then v else ce_rd M a i := rfl
theorem ce_rd_wl (M : ce_M) (k : Nat) (v : Int64) (a i : Nat) : ce_rd (ce_wl M k v) a i = ce_rd M a i := rfl
theorem ce_rl_wr (M : ce_M) (k j : Nat) (v : Int32) (a : Nat) : ce_rl (ce_wr M k j v) a = ce_rl M a := rfl
theorem ce_rl_wl (M : ce_M) (k : Nat) (v : Int64) (a : Nat) : ce_rl (ce_wl M k v) a = if a = k then v else ce_rl M a := rfl
/-- the kinds of the cells, in their order -/
def ce_kds : List Nat := [7, 6, 20, 10, 1, 76, 76, 76, 76, 76, 76, 32, 32, 4, 3, 26, 26, 26, 2, 28, 4, 3, 26, 26, 26, 2, 28, 4, 3, 26, 26, 26, 2, 28, 4, 3, 26, 26, 26, 2, 28, 4, 3, 26, 26, 26, 2, 28, 4, 3, 26, 26, 26, 2, 28, 4, 3, 26, 26, 26, 2, 28, 4, 3, 26, 26, 26, 2, 28, 6, 20, 10, 1, 76, 76, 76, 76, 76, 76, 32, 32, 4, 3, 26, 26, 26, 2, 28, 4, 3, 26, 26, 26, 2, 28, 4, 3, 26, 26, 26, 2, 28, 4, 3, 26, 26, 26, 2, 28, 4, 3, 26, 26, 26, 2, 28, 4, 3, 26, 26, 26, 2, 28, 4, 3, 26, 26, 26, 2, 28, 4, 3, 26, 26, 26, 2, 28, 5, 11, 6, 20, 10, 1, 76, 76, 76, 76, 76, 76, 32, 32, 4, 3, 26, 26, 26, 2, 28, 4, 3, 26, 26, 26, 2, 28, 4, 3, 26, 26, 26, 2, 28, 4, 3, 26, 26, 26, 2, 28, 4, 3, 26, 26, 26, 2, 28, 4, 3, 26, 26, 26, 2, 28, 4, 3, 26, 26, 26, 2, 28, 4, 3, 26, 26, 26, 2, 28, 6, 20, 10, 1, 76, 76, 76, 76, 76, 76, 32, 32, 4, 3, 26, 26, 26, 2, 28, 4, 3, 26, 26, 26, 2, 28, 4, 3, 26, 26, 26, 2, 28, 4, 3, 26, 26, 26, 2, 28, 4, 3, 26, 26, 26, 2, 28, 4, 3, 26, 26, 26, 2, 28, 4, 3, 26, 26, 26, 2, 28, 4, 3, 26, 26, 26, 2, 28, 6, 20, 10, 1, 76, 76, 76, 76, 76, 76, 32, 32, 4, 3, 26, 26, 26, 2, 28, 4, 3, 26, 26, 26, 2, 28, 4, 3, 26, 26, 26, 2, 28, 4, 3, 26, 26, 26, 2, 28, 4, 3, 26, 26, 26, 2, 28, 4, 3, 26, 26, 26, 2, 28, 4, 3, 26, 26, 26, 2, 28, 4, 3, 26, 26, 26, 2, 28, 6, 20, 10, 1, 76, 76, 76, 76, 76, 76, 32, 32, 4, 3, 26, 26, 26, 2, 28, 4, 3, 26, 26, 26, 2, 28, 4, 3, 26, 26, 26, 2, 28, 4, 3, 26, 26, 26, 2, 28, 4, 3, 26, 26, 26, 2, 28, 4, 3, 26, 26, 26, 2, 28, 4, 3, 26, 26, 26, 2, 28, 4, 3, 26, 26, 26, 2, 28, 0, 166, 19]
theorem ce_kds_len : ce_kds.length = 414 := by decide +kernel
def ce_kd (k : Nat) : Nat := ce_kds.getD k 13
theorem ce_kd_lt {k κ : Nat} (h : ce_kd k = κ) (hκ : κ ≠ 13) : k < 414 := by
  apply Nat.lt_of_not_le
  intro hk
  apply hκ
  rw [← h]
  unfold ce_kd
  rw [List.getD_eq_getElem?_getD, List.getElem?_eq_none (by rw [ce_kds_len]; exact hk)]
  rfl
theorem ce_kd_off {κ κ' d : Nat} (hκ : κ ≠ 13) (h : ((ce_kds.zip (ce_kds.drop d ++ List.replicate d 13)).all fun q => !(q.1 == κ) || q.2 == κ') = true) {k : Nat} (hk : ce_kd k = κ) : ce_kd (k + d) = κ' := by
  have hl := ce_kd_lt hk hκ
  have hL : ce_kds.length = 414 := ce_kds_len
  have hk' : ce_kds[k]? = some κ := by
    unfold ce_kd at hk
    rw [List.getD_eq_getElem?_getD] at hk
    rw [List.getElem?_eq_getElem (by omega)] at hk ⊢
    exact congrArg some hk
  have h2 : (ce_kds.drop d ++ List.replicate d 13)[k]? = some (ce_kd (k + d)) := by
    by_cases hd : k + d < 414
    · rw [List.getElem?_append_left (by rw [List.length_drop]; omega), List.getElem?_drop]
      unfold ce_kd
      rw [List.getD_eq_getElem?_getD, Nat.add_comm d k, List.getElem?_eq_getElem (by omega)]
      rfl
    · rw [List.getElem?_append_right (by rw [List.length_drop]; omega), List.getElem?_replicate, if_pos (by rw [List.length_drop]; omega)]
      unfold ce_kd
      rw [List.getD_eq_getElem?_getD, List.getElem?_eq_none (by omega)]
      rfl
  have hz : (ce_kds.zip (ce_kds.drop d ++ List.replicate d 13))[k]? = some (κ, ce_kd (k + d)) := List.getElem?_zip_eq_some.mpr ⟨hk', h2⟩
  have := List.all_eq_true.mp h _ (List.mem_of_getElem? hz)
  simpa using this
theorem ce_kd_one {κ n : Nat} (hκ : κ ≠ 13) (h : ((ce_kds.zip (List.range 414)).all fun q => !(q.1 == κ) || q.2 == n) = true) {k : Nat} (hk : ce_kd k = κ) : k = n := by
  have hl := ce_kd_lt hk hκ
  have hL : ce_kds.length = 414 := ce_kds_len
  have hk' : ce_kds[k]? = some κ := by
    unfold ce_kd at hk
    rw [List.getD_eq_getElem?_getD] at hk
    rw [List.getElem?_eq_getElem (by omega)] at hk ⊢
    exact congrArg some hk
  have hz : (ce_kds.zip (List.range 414))[k]? = some (κ, k) := List.getElem?_zip_eq_some.mpr ⟨hk', List.getElem?_range hl⟩
  have := List.all_eq_true.mp h _ (List.mem_of_getElem? hz)
  simpa using this
theorem ce_kf_0_0 {k : Nat} (h : ce_kd k = 0) : ce_kd (k + 1) = 166 := ce_kd_off (by decide) (by decide +kernel) h
theorem ce_kf_0_4 {k : Nat} (h : ce_kd k = 0) : ce_kd (k + 2) = 19 := ce_kd_off (by decide) (by decide +kernel) h
theorem ce_kf_1_0 {k : Nat} (h : ce_kd k = 1) : ce_kd (k + 1) = 76 := ce_kd_off (by decide) (by decide +kernel) h
theorem ce_kf_1_1 {k : Nat} (h : ce_kd k = 1) : ce_kd (k + 2) = 76 := ce_kd_off (by decide) (by decide +kernel) h
theorem ce_kf_1_2 {k : Nat} (h : ce_kd k = 1) : ce_kd (k + 3) = 76 := ce_kd_off (by decide) (by decide +kernel) h
theorem ce_kf_1_3 {k : Nat} (h : ce_kd k = 1) : ce_kd (k + 4) = 76 := ce_kd_off (by decide) (by decide +kernel) h
theorem ce_kf_1_4 {k : Nat} (h : ce_kd k = 1) : ce_kd (k + 5) = 76 := ce_kd_off (by decide) (by decide +kernel) h
theorem ce_kf_1_5 {k : Nat} (h : ce_kd k = 1) : ce_kd (k + 6) = 76 := ce_kd_off (by decide) (by decide +kernel) h
theorem ce_kf_2_0 {k : Nat} (h : ce_kd k = 2) : ce_kd (k + 1) = 28 := ce_kd_off (by decide) (by decide +kernel) h
theorem ce_kf_3_0 {k : Nat} (h : ce_kd k = 3) : ce_kd (k + 1) = 26 := ce_kd_off (by decide) (by decide +kernel) h
theorem ce_kf_3_1 {k : Nat} (h : ce_kd k = 3) : ce_kd (k + 2) = 26 := ce_kd_off (by decide) (by decide +kernel) h
theorem ce_kf_3_2 {k : Nat} (h : ce_kd k = 3) : ce_kd (k + 3) = 26 := ce_kd_off (by decide) (by decide +kernel) h
theorem ce_kf_4_0 {k : Nat} (h : ce_kd k = 4) : ce_kd (k + 1) = 3 := ce_kd_off (by decide) (by decide +kernel) h
theorem ce_kf_4_1 {k : Nat} (h : ce_kd k = 4) : ce_kd (k + 5) = 2 := ce_kd_off (by decide) (by decide +kernel) h
theorem ce_kf_5_0 {k : Nat} (h : ce_kd k = 5) : ce_kd (k + 1) = 11 := ce_kd_off (by decide) (by decide +kernel) h
theorem ce_kf_6_0 {k : Nat} (h : ce_kd k = 6) : ce_kd (k + 1) = 20 := ce_kd_off (by decide) (by decide +kernel) h
theorem ce_kf_6_1 {k : Nat} (h : ce_kd k = 6) : ce_kd (k + 2) = 10 := ce_kd_off (by decide) (by decide +kernel) h
theorem ce_kf_6_2 {k : Nat} (h : ce_kd k = 6) : ce_kd (k + 3) = 1 := ce_kd_off (by decide) (by decide +kernel) h
theorem ce_kf_6_3 {k : Nat} (h : ce_kd k = 6) : ce_kd (k + 10) = 32 := ce_kd_off (by decide) (by decide +kernel) h
theorem ce_kf_6_4 {k : Nat} (h : ce_kd k = 6) : ce_kd (k + 11) = 32 := ce_kd_off (by decide) (by decide +kernel) h
theorem ce_kf_7_0 {k : Nat} (h : ce_kd k = 7) : ce_kd (k + 1) = 6 := ce_kd_off (by decide) (by decide +kernel) h
theorem ce_kf_7_1 {k : Nat} (h : ce_kd k = 7) : ce_kd (k + 69) = 6 := ce_kd_off (by decide) (by decide +kernel) h
theorem ce_kf_7_2 {k : Nat} (h : ce_kd k = 7) : ce_kd (k + 137) = 5 := ce_kd_off (by decide) (by decide +kernel) h
theorem ce_kf_7_3 {k : Nat} (h : ce_kd k = 7) : ce_kd (k + 411) = 0 := ce_kd_off (by decide) (by decide +kernel) h
theorem ce_kf_8_0 {k : Nat} (h : ce_kd k = 8) : ce_kd (k + 1) = 832 := ce_kd_off (by decide) (by decide +kernel) h
theorem ce_kf_8_1 {k : Nat} (h : ce_kd k = 8) : ce_kd (k + 2) = 3280 := ce_kd_off (by decide) (by decide +kernel) h
theorem ce_kf_8_2 {k : Nat} (h : ce_kd k = 8) : ce_kd (k + 3) = 832 := ce_kd_off (by decide) (by decide +kernel) h
theorem ce_kf_8_6 {k : Nat} (h : ce_kd k = 8) : ce_kd (k + 4) = 32 := ce_kd_off (by decide) (by decide +kernel) h
theorem ce_kf_8_7 {k : Nat} (h : ce_kd k = 8) : ce_kd (k + 5) = 166 := ce_kd_off (by decide) (by decide +kernel) h
theorem ce_kf_8_11 {k : Nat} (h : ce_kd k = 8) : ce_kd (k + 6) = 19 := ce_kd_off (by decide) (by decide +kernel) h
theorem ce_kf_sub0 {k : Nat} (h : ce_kd k = 10) : ce_kd (k + 10) = 4 := ce_kd_off (by decide) (by decide +kernel) h
theorem ce_kf_sub1 {k : Nat} (h : ce_kd k = 10) : ce_kd (k + 17) = 4 := ce_kd_off (by decide) (by decide +kernel) h
theorem ce_kf_sub2 {k : Nat} (h : ce_kd k = 10) : ce_kd (k + 24) = 4 := ce_kd_off (by decide) (by decide +kernel) h
theorem ce_kf_sub3 {k : Nat} (h : ce_kd k = 10) : ce_kd (k + 31) = 4 := ce_kd_off (by decide) (by decide +kernel) h
theorem ce_kf_sub4 {k : Nat} (h : ce_kd k = 10) : ce_kd (k + 38) = 4 := ce_kd_off (by decide) (by decide +kernel) h
theorem ce_kf_sub5 {k : Nat} (h : ce_kd k = 10) : ce_kd (k + 45) = 4 := ce_kd_off (by decide) (by decide +kernel) h
theorem ce_kf_sub6 {k : Nat} (h : ce_kd k = 10) : ce_kd (k + 52) = 4 := ce_kd_off (by decide) (by decide +kernel) h
theorem ce_kf_sub7 {k : Nat} (h : ce_kd k = 10) : ce_kd (k + 59) = 4 := ce_kd_off (by decide) (by decide +kernel) h
theorem ce_kf_world0 {k : Nat} (h : ce_kd k = 11) : ce_kd (k + 1) = 6 := ce_kd_off (by decide) (by decide +kernel) h
theorem ce_kf_world1 {k : Nat} (h : ce_kd k = 11) : ce_kd (k + 69) = 6 := ce_kd_off (by decide) (by decide +kernel) h
theorem ce_kf_world2 {k : Nat} (h : ce_kd k = 11) : ce_kd (k + 137) = 6 := ce_kd_off (by decide) (by decide +kernel) h
theorem ce_kf_world3 {k : Nat} (h : ce_kd k = 11) : ce_kd (k + 205) = 6 := ce_kd_off (by decide) (by decide +kernel) h
theorem ce_kf_sub {k : Nat} (h : ce_kd k = 10) {i : Nat} (hi : i < 8) : ce_kd (k + (10 + 7 * i)) = 4 := by
  rcases (show i = 0 ∨ i = 1 ∨ i = 2 ∨ i = 3 ∨ i = 4 ∨ i = 5 ∨ i = 6 ∨ i = 7 by omega) with rfl | rfl | rfl | rfl | rfl | rfl | rfl | rfl
  · exact ce_kf_sub0 h
  · exact ce_kf_sub1 h
  · exact ce_kf_sub2 h
  · exact ce_kf_sub3 h
  · exact ce_kf_sub4 h
  · exact ce_kf_sub5 h
  · exact ce_kf_sub6 h
  · exact ce_kf_sub7 h
theorem ce_kf_world {k : Nat} (h : ce_kd k = 11) {i : Nat} (hi : i < 4) : ce_kd (k + (1 + 68 * i)) = 6 := by
  rcases (show i = 0 ∨ i = 1 ∨ i = 2 ∨ i = 3 by omega) with rfl | rfl | rfl | rfl
  · exact ce_kf_world0 h
  · exact ce_kf_world1 h
  · exact ce_kf_world2 h
  · exact ce_kf_world3 h
/-- X: the classes' numbers: of the objects, of int[], Subscriber[], World[], long[] -/
abbrev ce_X : Type := va_G × (ClassId × ClassId × ClassId × ClassId)
/-- a cell's entry by its kind -/
def ce_ent (X : ce_X) (b : Nat) (κ k : Nat) (M : ce_M) : va_E := match κ with
  | 0 => .inr (0, [.ref (b + (k + 1)), .int (ce_rd M k 1), .int (ce_rd M k 2), .int (ce_rd M k 3), .ref (b + (k + 2)), .int (ce_rd M k 5)])
  | 1 => .inr (1, [.ref (b + (k + 1)), .ref (b + (k + 2)), .ref (b + (k + 3)), .ref (b + (k + 4)), .ref (b + (k + 5)), .ref (b + (k + 6)), .int (ce_rd M k 6)])
  | 2 => .inr (2, [.ref (b + (k + 1)), .int (ce_rd M k 1)])
  | 3 => .inr (3, [.ref (b + (k + 1)), .ref (b + (k + 2)), .ref (b + (k + 3)), .int (ce_rd M k 3)])
  | 4 => .inr (4, [.ref (b + (k + 1)), .ref (b + (k + 5)), .int (ce_rd M k 2), .int (ce_rd M k 3), .int (ce_rd M k 4), .int (ce_rd M k 5), .int (ce_rd M k 6), .int (ce_rd M k 7), .int (ce_rd M k 8), .int (ce_rd M k 9), .int (ce_rd M k 10), .int (ce_rd M k 11), .int (ce_rd M k 12), .int (ce_rd M k 13)])
  | 5 => .inr (5, [.ref (b + (k + 1)), .int (ce_rd M k 1), .int (ce_rd M k 2)])
  | 6 => .inr (6, [.ref (b + (k + 1)), .ref (b + (k + 2)), .ref (b + (k + 3)), .ref (b + (k + 10)), .ref (b + (k + 11)), .int (ce_rd M k 5), .int (ce_rd M k 6)])
  | 7 => .inr (7, [.ref (b + (k + 1)), .ref (b + (k + 69)), .ref (b + (k + 137)), .ref (b + (k + 411))])
  | 8 => .inr (8, [.ref (b + (k + 1)), .ref (b + (k + 2)), .ref (b + (k + 3)), .int (ce_rd M k 3), .int (ce_rd M k 4), .int (ce_rd M k 5), .ref (b + (k + 4)), .ref (b + (k + 5)), .int (ce_rd M k 8), .int (ce_rd M k 9), .int (ce_rd M k 10), .ref (b + (k + 6)), .long (ce_rl M 0)])
  | 10 => .inl (X.2.2.1, 8, .inr (.inr (.inr (.inr (fun i => some (b + (k + (10 + 7 * i))))))))
  | 11 => .inl (X.2.2.2.1, 4, .inr (.inr (.inr (.inr (fun i => some (b + (k + (1 + 68 * i))))))))
  | 12 => .inl (X.2.2.2.2, 1, .inr (.inl (fun _ => ce_rl M 1)))
  | n => .inl (X.2.1, n - 16, .inl (ce_rd M k))
def ce_Ar (X : ce_X) (b : Nat) (M : ce_M) (H : Heap) : Prop := ∀ k, k < 414 → va_at X.1 vwCl (b + k, ce_ent X b (ce_kd k) k M) H
theorem ce_ent_eq {X : ce_X} {b κ k : Nat} {M M' : ce_M} (h : ∀ j, ce_rd M' k j = ce_rd M k j) (hl : ∀ j, ce_rl M' j = ce_rl M j) : ce_ent X b κ k M' = ce_ent X b κ k M := by
  have h' : ce_rd M' k = ce_rd M k := funext h
  unfold ce_ent
  split <;> simp [h', hl]
theorem ce_ent_wr {X : ce_X} {b κ k a j : Nat} {M : ce_M} {v : Int32} (h : k ≠ a) : ce_ent X b κ k (ce_wr M a j v) = ce_ent X b κ k M := ce_ent_eq (fun i => by rw [ce_rd_wr, if_neg (fun q => h q.1)]) (fun _ => rfl)
/-- kinds of the cells that hold a long -/
theorem ce_ent_wl {X : ce_X} {b κ k i : Nat} {M : ce_M} {v : Int64} (h8 : κ ≠ 8) (h12 : κ ≠ 12) : ce_ent X b κ k (ce_wl M i v) = ce_ent X b κ k M := by
  unfold ce_ent
  split <;> first | rfl | (exact absurd rfl h8) | (exact absurd rfl h12)
theorem ce_Ar.at {X : ce_X} {b : Nat} {M : ce_M} {H : Heap} (h : ce_Ar X b M H) {k κ : Nat} (hk : ce_kd k = κ) (hκ : κ ≠ 13) : va_at X.1 vwCl (b + k, ce_ent X b κ k M) H := by
  have := h k (ce_kd_lt hk hκ)
  rw [hk] at this
  exact this
theorem ce_P1 {D : va_G} {cl : List vw_C} {q : Nat × va_E} {H : Heap} (h : va_at D cl q H) : va_P D cl [q] H := by
  intro k z hz
  match k, hz with
  | 0, hz => cases hz; exact h
theorem ce_Ar.put {X : ce_X} {b : Nat} {M : ce_M} {H H1 : Heap} (h : ce_Ar X b M H) {k κ j : Nat} {v : Int32} (hk : ce_kd k = κ) (hat : va_at X.1 vwCl (b + k, ce_ent X b κ k (ce_wr M k j v)) H1) (oq : ∀ q : Nat, q ≠ b + k → H1[q]? = H[q]?) : ce_Ar X b (ce_wr M k j v) H1 := by
  intro a ha
  by_cases e : a = k
  · subst e; rw [hk]; exact hat
  · rw [ce_ent_wr e]
    exact (h a ha).kept (oq _ (by show b + a ≠ b + k; omega))
theorem ce_Ar.kept {X : ce_X} {b : Nat} {M : ce_M} {H H1 : Heap} (h : ce_Ar X b M H) (oq : ∀ q : Nat, b ≤ q → q < H.size → H1[q]? = H[q]?) : ce_Ar X b M H1 := fun k hk => (h k hk).kept (oq _ (by show b ≤ b + k; omega) (h k hk).lt)
/-- the cells that a method may change -/
def ce_Ab (b : Nat) : Nat → Prop := fun q => b ≤ q ∧ q < b + 414
theorem ce_Ab_in (b : Nat) {k : Nat} (h : k < 414) : ce_Ab b (b + k) := ⟨Nat.le_add_right b k, Nat.add_lt_add_left h b⟩
/-- all that is made behind b -/
def ce_Au (b : Nat) : Nat → Prop := fun q => b ≤ q
theorem ce_Au_in (b k : Nat) : ce_Au b (b + k) := Nat.le_add_right b k
theorem ce_recv {X : ce_X} {b : Nat} {M : ce_M} {H : Heap} {s : State} {tys : List (ClassId × FieldType)} (hK : va_K X.1 vwCl tys s) (hA : ce_Ar X b M H) {k κ ci : Nat} {q : vw_C} {fs : List Value} (hk : ce_kd k = κ) (hκ : κ ≠ 13) (he : ce_ent X b κ k M = .inr (ci, fs)) (hc : vwCl[ci]? = some q) : ∃ cell : Cell, H[b + k]? = some cell ∧ cell.vm.isStatics = false ∧ s.vm.findClass q.1 = some cell.cls :=
  va_recv hK (ce_P1 (by have := hA.at hk hκ; rw [he] at this; exact this)) hc (q0 := 0) rfl
