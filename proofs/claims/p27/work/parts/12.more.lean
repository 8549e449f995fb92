/-! MORE ROWS: a place in a walk; calls by what they answer; copies; min, max -/
theorem ce_wNat : Cond.native arraycopyName ∈ ce_big := ce_b2i 181 rfl rfl
theorem ce_wNatS : Cond.static arraycopyName ∈ ce_big := ce_b2i 180 rfl rfl
theorem ce_wSys : Cond.initialized "java/lang/System" ∈ ce_big := ce_b1i 13 rfl rfl
theorem ce_wMath : Cond.initialized "java/lang/Math" ∈ ce_big := ce_b1i 16 rfl rfl
theorem ce_wMinS : Cond.static Lib.Math.min.name ∈ ce_big := ce_b2i 202 rfl rfl
theorem ce_wMinC : Cond.code Lib.Math.min.name Lib.Math.min.code 2 (some .int) ∈ ce_big := ce_b2i 203 rfl rfl
theorem ce_wMaxS : Cond.static Lib.Math.max.name ∈ ce_big := ce_b4i 31 rfl rfl
theorem ce_wMaxC : Cond.code Lib.Math.max.name Lib.Math.max.code 2 (some .int) ∈ ce_big := ce_b4i 32 rfl rfl
theorem ce_w440 : Cond.methodLink RX1 30 arraycopyName ∈ ce_big := ce_b2i 200 rfl rfl
theorem ce_w435 : Cond.methodLink RX2 15 arraycopyName ∈ ce_big := ce_b2i 195 rfl rfl
theorem ce_w430 : Cond.methodLink RX3 21 arraycopyName ∈ ce_big := ce_b2i 190 rfl rfl
theorem ce_w419 : Cond.methodLink RX6 35 arraycopyName ∈ ce_big := ce_b2i 179 rfl rfl
def ce_min (x y : Int32) : Int32 := if y < x then y else x
def ce_max (x y : Int32) : Int32 := if x < y then y else x
section CEMORE
variable {p : Program} {l : Launch} {e : Env} {R : Room} {s : State} {m : MethodId} {args : Array Value} {below : List Frame} {meth : Method} {c : Code} {H : Heap} {locs : List Loc} {cells slots : Nat} {Q : State → Prop}
variable {cc : ByteArray} {pc : Nat} {ls : Array Slot} {rest : List Value} {X : ce_X} {G : ce_G} {b : Nat} {M M' : ce_M}
/-- a place in a walk, at any heap that holds M -/
def ce_Wg (p : Program) (l : Launch) (e : Env) (R : Room) (s : State) (m : MethodId) (args : Array Value) (below : List Frame) (meth : Method) (c : Code) (cells slots : Nat) (Q : State → Prop) (X : ce_X) (b : Nat) (M : ce_M) (nL : Nat) (lv : List (Nat × Value)) (pc : Nat) (st : List Value) : Prop :=
  ∀ (H : Heap) (locs : List Loc) (ls : Array Slot), ce_Ar X b M H → va_S (ce_Ab b) s.heap H locs → lv_has ls nL lv → W p l e R s m args below meth c H locs cells slots Q (F0 m pc ls st)
theorem ce_topr {k k' : Nat} (h : k = k') (kk : W p l e R s m args below meth c H locs cells slots Q (F0 m pc ls (.ref (b + k') :: rest))) : W p l e R s m args below meth c H locs cells slots Q (F0 m pc ls (.ref (b + k) :: rest)) := h ▸ kk
/-- all cells as a list -/
def ce_ls (X : ce_X) (b : Nat) (M : ce_M) : va_W := (List.range 414).map fun k => (b + k, ce_ent X b (ce_kd k) k M)
theorem ce_ls_get {k : Nat} (hk : k < 414) : (ce_ls X b M)[k]? = some (b + k, ce_ent X b (ce_kd k) k M) := by
  unfold ce_ls
  rw [List.getElem?_map, List.getElem?_range hk]
  rfl
theorem ce_ls_inv {k : Nat} {q : Nat × va_E} (h : (ce_ls X b M)[k]? = some q) : k < 414 ∧ q = (b + k, ce_ent X b (ce_kd k) k M) := by
  have hk : k < 414 := by
    have := (List.getElem?_eq_some_iff.mp h).1
    unfold ce_ls at this
    simpa using this
  rw [ce_ls_get hk] at h
  exact ⟨hk, (Option.some.inj h).symm⟩
theorem ce_ls_P (hA : ce_Ar X b M H) : va_P X.1 vwCl (ce_ls X b M) H := fun k q hq => by
  obtain ⟨hk, rfl⟩ := ce_ls_inv hq
  exact hA k hk
theorem ce_ls_D : va_D (ce_Ab b) (ce_ls X b M) := ⟨fun i j p q hi hj h => by
  obtain ⟨-, rfl⟩ := ce_ls_inv hi
  obtain ⟨-, rfl⟩ := ce_ls_inv hj
  have h : b + i = b + j := h
  omega, fun k q hq => by
  obtain ⟨hk, rfl⟩ := ce_ls_inv hq
  exact ce_Ab_in b hk⟩
theorem ce_copy {nL : Nat} {lv : List (Nat × Value)} (hx : p.tables.exec = Jvm.exec) (hb : c.code = cc) (hml : c.maxLocals = nL) (hl : lv_has ls nL lv) {own : String} {index : Nat} (hown : s.vm.findClass own = some m.cls) (hlink : (Cond.methodLink own index arraycopyName).before args s = true) (hB : ∀ w ∈ ce_big, w.before args s = true) (hK : va_K X.1 vwCl (ce_tys X) s) (hA : ce_Ar X b M H) (hS : va_S (ce_Ab b) s.heap H locs) (n0 n1 : Nat) {k0 k1 : Nat} (h0 : ce_kd k0 = n0 + 16) (h1 : ce_kd k1 = n1 + 16) (n : Nat) {z : Int32} (hz : z = nI n) (hn0 : n ≤ n0) (hn1 : n ≤ n1) (hn : n < 2 ^ 31) (hframes : 1 ≤ R.frames) (hlocals : (rest.map fun v => v.category).sum + (nativeFrameWords "java/lang/System" "arraycopy" 5 + 11) ≤ R.locals) (hdg : decode cc pc = .ok (.invokestatic index, 3)) (hM : ce_cp M k0 k1 n = M')
    (kk : ∀ (H1 : Heap) (locs1 : List Loc), ce_Ar X b M' H1 → va_S (ce_Ab b) s.heap H1 locs1 → W p l e R s m args below meth c H1 locs1 cells slots Q (F0 m (pc + 3) ls rest)) : W p l e R s m args below meth c H locs cells slots Q (F0 m pc ls (.int z :: .int 0 :: .ref (b + k1) :: .int 0 :: .ref (b + k0) :: rest)) := by
  subst hz; subst hM
  have l0 := ce_kd_lt h0 (by omega)
  have l1 := ce_kd_lt h1 (by omega)
  have e0 : (ce_ls X b M)[k0]? = some (b + k0, .inl (X.2.1, n0, .inl (ce_rd M k0))) := by rw [ce_ls_get l0, h0]; rfl
  have e1 : (ce_ls X b M)[k1]? = some (b + k1, .inl (X.2.1, n1, .inl (ce_rd M k1))) := by rw [ce_ls_get l1, h1]; rfl
  have ez : (0 : Int32).toNatClampNeg = 0 := by decide
  refine va_copyi hx hb (hml.trans hl.1.symm) hown hlink (hB _ ce_wNat) (hB _ ce_wNatS) (hB _ ce_wSys) hK (ce_ls_P hA) ce_ls_D hS k0 k1 0 0 e0 e1 rfl rfl rfl (by decide) (by decide) (nI_pos hn) (by rw [nI_clamp hn, ez]; omega) (by rw [nI_clamp hn, ez]; omega) (fun _ _ => rfl) hframes hlocals hdg (fun H1 locs1 hP hD hS1 => kk H1 locs1 (fun a ha => ?_) hS1)
  by_cases e : a = k1
  · subst e
    have := hP a (b + a, _) (by rw [List.getElem?_set_self (List.getElem?_eq_some_iff.mp e1).1])
    rw [h1]
    have e9 : ce_ent X b (n1 + 16) a (ce_cp M k0 a n) = .inl (X.2.1, n1, .inl (va_cpy (ce_rd M k0) (ce_rd M a) (0 : Int32).toNatClampNeg (0 : Int32).toNatClampNeg (nI n).toNatClampNeg)) := by
      rw [ce_ent_arr, nI_clamp hn, ez]
      congr 4
      funext i
      rw [ce_rd_cp]
      unfold va_cpy
      by_cases hi : i < n
      · rw [if_pos ⟨rfl, hi⟩, if_pos ⟨Nat.zero_le _, by omega⟩]
        congr 1
        omega
      · rw [if_neg (fun q => hi q.2), if_neg (fun q => hi (by omega))]
    rw [e9]
    exact this
  · have := hP a (b + a, ce_ent X b (ce_kd a) a M) (by rw [List.getElem?_set_ne (fun q => e q.symm), ce_ls_get ha])
    rw [ce_ent_eq (M := M) (M' := ce_cp M k0 k1 n) (fun j => by rw [ce_rd_cp, if_neg (fun q => e q.1)]) (fun _ => rfl)]
    exact this
theorem ce_mmin {nL : Nat} {lv : List (Nat × Value)} (hx : p.tables.exec = Jvm.exec) (hb : c.code = cc) (hml : c.maxLocals = nL) (hl : lv_has ls nL lv) {own : String} {index : Nat} (hown : s.vm.findClass own = some m.cls) (hlink : (Cond.methodLink own index Lib.Math.min.name).before args s = true) (hB : ∀ w ∈ ce_big, w.before args s = true) (hframes : 1 ≤ R.frames) (hlocals : (rest.map fun v => v.category).sum + 13 ≤ R.locals) {x y : Int32} (hdg : decode cc pc = .ok (.invokestatic index, 3)) (hf : cells ≤ R.cells ∧ slots ≤ R.slots)
    (kk : W p l e R s m args below meth c H locs cells slots Q (F0 m (pc + 3) ls (.int (ce_min x y) :: rest))) : W p l e R s m args below meth c H locs cells slots Q (F0 m pc ls (.int y :: .int x :: rest)) :=
  va_mmin hx hb (hml.trans hl.1.symm) hown hlink (hB _ ce_wMinS) (hB _ ce_wMath) (hB _ ce_wMinC) hframes hlocals hf.1 hf.2 hdg kk
theorem ce_mmax {nL : Nat} {lv : List (Nat × Value)} (hx : p.tables.exec = Jvm.exec) (hb : c.code = cc) (hml : c.maxLocals = nL) (hl : lv_has ls nL lv) {own : String} {index : Nat} (hown : s.vm.findClass own = some m.cls) (hlink : (Cond.methodLink own index Lib.Math.max.name).before args s = true) (hB : ∀ w ∈ ce_big, w.before args s = true) (hframes : 1 ≤ R.frames) (hlocals : (rest.map fun v => v.category).sum + 13 ≤ R.locals) {x y : Int32} (hdg : decode cc pc = .ok (.invokestatic index, 3)) (hf : cells ≤ R.cells ∧ slots ≤ R.slots)
    (kk : W p l e R s m args below meth c H locs cells slots Q (F0 m (pc + 3) ls (.int (ce_max x y) :: rest))) : W p l e R s m args below meth c H locs cells slots Q (F0 m pc ls (.int y :: .int x :: rest)) :=
  va_mmax hx hb (hml.trans hl.1.symm) hown hlink (hB _ ce_wMaxS) (hB _ ce_wMath) (hB _ ce_wMaxC) hframes hlocals hf.1 hf.2 hdg kk
variable {y : MethodName} {bytes : ByteArray} {maxL nL n index fr lo k : Nat} {ret : Option FieldType} {own C : String} {As : List Value} {lv : List (Nat × Value)}
theorem ce_callVi {r : Int32} (hx : p.tables.exec = Jvm.exec) (hb : c.code = cc) (hml : c.maxLocals = nL) (hown : s.vm.findClass own = some m.cls) (hB : ∀ w ∈ ce_big, w.before args s = true) (hM : ce_Ct l y bytes maxL ret fr lo X G b (.ref (b + k) :: As) M (some (.int r)) M') (hy : ce_yV C y bytes maxL ret n) (hlk : Cond.methodLink own index y ∈ ce_big) (hR : fr + 1 ≤ R.frames ∧ 8 + (maxL + 11) + lo ≤ R.locals) (hF : ce_Fx X G b s) (hA : ce_Ar X b M H) (hS : va_S (ce_Ab b) s.heap H locs) (hrc : ∃ cell : Cell, H[b + k]? = some cell ∧ cell.vm.isStatics = false ∧ s.vm.findClass C = some cell.cls) (hl : lv_has ls nL lv) (hn : As.length = n) {st0 : List Value} (hstk : st0 = As.reverse ++ .ref (b + k) :: rest) (hW : (rest.map fun v => v.category).sum ≤ 8) (hdg : decode cc pc = .ok (.invokevirtual index, 3)) (hf : cells ≤ R.cells ∧ slots ≤ R.slots)
    (kk : ∀ (H1 : Heap) (locs1 : List Loc), ce_Ar X b M' H1 → va_S (ce_Ab b) s.heap H1 locs1 → W p l e R s m args below meth c H1 locs1 cells slots Q (F0 m (pc + 3) ls (.int r :: rest))) : W p l e R s m args below meth c H locs cells slots Q (F0 m pc ls st0) :=
  ce_callV hx hb hml hown hB hM hy hlk hR hF hA hS hrc hl hn hstk rfl hW hdg hf kk
theorem ce_callVl {r : Int64} (hx : p.tables.exec = Jvm.exec) (hb : c.code = cc) (hml : c.maxLocals = nL) (hown : s.vm.findClass own = some m.cls) (hB : ∀ w ∈ ce_big, w.before args s = true) (hM : ce_Ct l y bytes maxL ret fr lo X G b (.ref (b + k) :: As) M (some (.long r)) M') (hy : ce_yV C y bytes maxL ret n) (hlk : Cond.methodLink own index y ∈ ce_big) (hR : fr + 1 ≤ R.frames ∧ 8 + (maxL + 11) + lo ≤ R.locals) (hF : ce_Fx X G b s) (hA : ce_Ar X b M H) (hS : va_S (ce_Ab b) s.heap H locs) (hrc : ∃ cell : Cell, H[b + k]? = some cell ∧ cell.vm.isStatics = false ∧ s.vm.findClass C = some cell.cls) (hl : lv_has ls nL lv) (hn : As.length = n) {st0 : List Value} (hstk : st0 = As.reverse ++ .ref (b + k) :: rest) (hW : (rest.map fun v => v.category).sum ≤ 8) (hdg : decode cc pc = .ok (.invokevirtual index, 3)) (hf : cells ≤ R.cells ∧ slots ≤ R.slots)
    (kk : ∀ (H1 : Heap) (locs1 : List Loc), ce_Ar X b M' H1 → va_S (ce_Ab b) s.heap H1 locs1 → W p l e R s m args below meth c H1 locs1 cells slots Q (F0 m (pc + 3) ls (.long r :: rest))) : W p l e R s m args below meth c H locs cells slots Q (F0 m pc ls st0) :=
  ce_callV hx hb hml hown hB hM hy hlk hR hF hA hS hrc hl hn hstk rfl hW hdg hf kk
theorem ce_callVr {r : Nat} (hx : p.tables.exec = Jvm.exec) (hb : c.code = cc) (hml : c.maxLocals = nL) (hown : s.vm.findClass own = some m.cls) (hB : ∀ w ∈ ce_big, w.before args s = true) (hM : ce_Ct l y bytes maxL ret fr lo X G b (.ref (b + k) :: As) M (some (.ref r)) M') (hy : ce_yV C y bytes maxL ret n) (hlk : Cond.methodLink own index y ∈ ce_big) (hR : fr + 1 ≤ R.frames ∧ 8 + (maxL + 11) + lo ≤ R.locals) (hF : ce_Fx X G b s) (hA : ce_Ar X b M H) (hS : va_S (ce_Ab b) s.heap H locs) (hrc : ∃ cell : Cell, H[b + k]? = some cell ∧ cell.vm.isStatics = false ∧ s.vm.findClass C = some cell.cls) (hl : lv_has ls nL lv) (hn : As.length = n) {st0 : List Value} (hstk : st0 = As.reverse ++ .ref (b + k) :: rest) (hW : (rest.map fun v => v.category).sum ≤ 8) (hdg : decode cc pc = .ok (.invokevirtual index, 3)) (hf : cells ≤ R.cells ∧ slots ≤ R.slots)
    (kk : ∀ (H1 : Heap) (locs1 : List Loc), ce_Ar X b M' H1 → va_S (ce_Ab b) s.heap H1 locs1 → W p l e R s m args below meth c H1 locs1 cells slots Q (F0 m (pc + 3) ls (.ref r :: rest))) : W p l e R s m args below meth c H locs cells slots Q (F0 m pc ls st0) :=
  ce_callV hx hb hml hown hB hM hy hlk hR hF hA hS hrc hl hn hstk rfl hW hdg hf kk
theorem ce_callVv (hx : p.tables.exec = Jvm.exec) (hb : c.code = cc) (hml : c.maxLocals = nL) (hown : s.vm.findClass own = some m.cls) (hB : ∀ w ∈ ce_big, w.before args s = true) (hM : ce_Ct l y bytes maxL ret fr lo X G b (.ref (b + k) :: As) M none M') (hy : ce_yV C y bytes maxL ret n) (hlk : Cond.methodLink own index y ∈ ce_big) (hR : fr + 1 ≤ R.frames ∧ 8 + (maxL + 11) + lo ≤ R.locals) (hF : ce_Fx X G b s) (hA : ce_Ar X b M H) (hS : va_S (ce_Ab b) s.heap H locs) (hrc : ∃ cell : Cell, H[b + k]? = some cell ∧ cell.vm.isStatics = false ∧ s.vm.findClass C = some cell.cls) (hl : lv_has ls nL lv) (hn : As.length = n) {st0 : List Value} (hstk : st0 = As.reverse ++ .ref (b + k) :: rest) (hW : (rest.map fun v => v.category).sum ≤ 8) (hdg : decode cc pc = .ok (.invokevirtual index, 3)) (hf : cells ≤ R.cells ∧ slots ≤ R.slots)
    (kk : ∀ (H1 : Heap) (locs1 : List Loc), ce_Ar X b M' H1 → va_S (ce_Ab b) s.heap H1 locs1 → W p l e R s m args below meth c H1 locs1 cells slots Q (F0 m (pc + 3) ls (rest))) : W p l e R s m args below meth c H locs cells slots Q (F0 m pc ls st0) :=
  ce_callV hx hb hml hown hB hM hy hlk hR hF hA hS hrc hl hn hstk rfl hW hdg hf kk
theorem ce_callSi {r : Int32} (hx : p.tables.exec = Jvm.exec) (hb : c.code = cc) (hml : c.maxLocals = nL) (hown : s.vm.findClass own = some m.cls) (hB : ∀ w ∈ ce_big, w.before args s = true) (hM : ce_Ct l y bytes maxL ret fr lo X G b As M (some (.int r)) M') (hy : ce_yS own y bytes maxL ret n) (hlk : Cond.methodLink own index y ∈ ce_big) (hR : fr + 1 ≤ R.frames ∧ 8 + (maxL + 11) + lo ≤ R.locals) (hF : ce_Fx X G b s) (hA : ce_Ar X b M H) (hS : va_S (ce_Ab b) s.heap H locs) (hl : lv_has ls nL lv) (hn : As.length = n) {st0 : List Value} (hstk : st0 = As.reverse ++ rest) (hW : (rest.map fun v => v.category).sum ≤ 8) (hdg : decode cc pc = .ok (.invokestatic index, 3)) (hf : cells ≤ R.cells ∧ slots ≤ R.slots)
    (kk : ∀ (H1 : Heap) (locs1 : List Loc), ce_Ar X b M' H1 → va_S (ce_Ab b) s.heap H1 locs1 → W p l e R s m args below meth c H1 locs1 cells slots Q (F0 m (pc + 3) ls (.int r :: rest))) : W p l e R s m args below meth c H locs cells slots Q (F0 m pc ls st0) :=
  ce_callS hx hb hml hown hB hM hy hlk hR hF hA hS hl hn hstk rfl hW hdg hf kk
theorem ce_callSl {r : Int64} (hx : p.tables.exec = Jvm.exec) (hb : c.code = cc) (hml : c.maxLocals = nL) (hown : s.vm.findClass own = some m.cls) (hB : ∀ w ∈ ce_big, w.before args s = true) (hM : ce_Ct l y bytes maxL ret fr lo X G b As M (some (.long r)) M') (hy : ce_yS own y bytes maxL ret n) (hlk : Cond.methodLink own index y ∈ ce_big) (hR : fr + 1 ≤ R.frames ∧ 8 + (maxL + 11) + lo ≤ R.locals) (hF : ce_Fx X G b s) (hA : ce_Ar X b M H) (hS : va_S (ce_Ab b) s.heap H locs) (hl : lv_has ls nL lv) (hn : As.length = n) {st0 : List Value} (hstk : st0 = As.reverse ++ rest) (hW : (rest.map fun v => v.category).sum ≤ 8) (hdg : decode cc pc = .ok (.invokestatic index, 3)) (hf : cells ≤ R.cells ∧ slots ≤ R.slots)
    (kk : ∀ (H1 : Heap) (locs1 : List Loc), ce_Ar X b M' H1 → va_S (ce_Ab b) s.heap H1 locs1 → W p l e R s m args below meth c H1 locs1 cells slots Q (F0 m (pc + 3) ls (.long r :: rest))) : W p l e R s m args below meth c H locs cells slots Q (F0 m pc ls st0) :=
  ce_callS hx hb hml hown hB hM hy hlk hR hF hA hS hl hn hstk rfl hW hdg hf kk
theorem ce_callSr {r : Nat} (hx : p.tables.exec = Jvm.exec) (hb : c.code = cc) (hml : c.maxLocals = nL) (hown : s.vm.findClass own = some m.cls) (hB : ∀ w ∈ ce_big, w.before args s = true) (hM : ce_Ct l y bytes maxL ret fr lo X G b As M (some (.ref r)) M') (hy : ce_yS own y bytes maxL ret n) (hlk : Cond.methodLink own index y ∈ ce_big) (hR : fr + 1 ≤ R.frames ∧ 8 + (maxL + 11) + lo ≤ R.locals) (hF : ce_Fx X G b s) (hA : ce_Ar X b M H) (hS : va_S (ce_Ab b) s.heap H locs) (hl : lv_has ls nL lv) (hn : As.length = n) {st0 : List Value} (hstk : st0 = As.reverse ++ rest) (hW : (rest.map fun v => v.category).sum ≤ 8) (hdg : decode cc pc = .ok (.invokestatic index, 3)) (hf : cells ≤ R.cells ∧ slots ≤ R.slots)
    (kk : ∀ (H1 : Heap) (locs1 : List Loc), ce_Ar X b M' H1 → va_S (ce_Ab b) s.heap H1 locs1 → W p l e R s m args below meth c H1 locs1 cells slots Q (F0 m (pc + 3) ls (.ref r :: rest))) : W p l e R s m args below meth c H locs cells slots Q (F0 m pc ls st0) :=
  ce_callS hx hb hml hown hB hM hy hlk hR hF hA hS hl hn hstk rfl hW hdg hf kk
theorem ce_callSv (hx : p.tables.exec = Jvm.exec) (hb : c.code = cc) (hml : c.maxLocals = nL) (hown : s.vm.findClass own = some m.cls) (hB : ∀ w ∈ ce_big, w.before args s = true) (hM : ce_Ct l y bytes maxL ret fr lo X G b As M none M') (hy : ce_yS own y bytes maxL ret n) (hlk : Cond.methodLink own index y ∈ ce_big) (hR : fr + 1 ≤ R.frames ∧ 8 + (maxL + 11) + lo ≤ R.locals) (hF : ce_Fx X G b s) (hA : ce_Ar X b M H) (hS : va_S (ce_Ab b) s.heap H locs) (hl : lv_has ls nL lv) (hn : As.length = n) {st0 : List Value} (hstk : st0 = As.reverse ++ rest) (hW : (rest.map fun v => v.category).sum ≤ 8) (hdg : decode cc pc = .ok (.invokestatic index, 3)) (hf : cells ≤ R.cells ∧ slots ≤ R.slots)
    (kk : ∀ (H1 : Heap) (locs1 : List Loc), ce_Ar X b M' H1 → va_S (ce_Ab b) s.heap H1 locs1 → W p l e R s m args below meth c H1 locs1 cells slots Q (F0 m (pc + 3) ls (rest))) : W p l e R s m args below meth c H locs cells slots Q (F0 m pc ls st0) :=
  ce_callS hx hb hml hown hB hM hy hlk hR hF hA hS hl hn hstk rfl hW hdg hf kk
theorem ce_callNi {host : String} {r : Int32} (hx : p.tables.exec = Jvm.exec) (hb : c.code = cc) (hml : c.maxLocals = nL) (hown : s.vm.findClass own = some m.cls) (hB : ∀ w ∈ ce_big, w.before args s = true) (hM : ce_Ct l y bytes maxL ret fr lo X G b As M (some (.int r)) M') (hy : ce_yS C y bytes maxL ret n) (hlk : Cond.methodLinkNest own index y host ∈ ce_nest) (hR : fr + 1 ≤ R.frames ∧ 8 + (maxL + 11) + lo ≤ R.locals) (hF : ce_Fx X G b s) (hA : ce_Ar X b M H) (hS : va_S (ce_Ab b) s.heap H locs) (hl : lv_has ls nL lv) (hn : As.length = n) {st0 : List Value} (hstk : st0 = As.reverse ++ rest) (hW : (rest.map fun v => v.category).sum ≤ 8) (hdg : decode cc pc = .ok (.invokestatic index, 3)) (hf : cells ≤ R.cells ∧ slots ≤ R.slots)
    (kk : ∀ (H1 : Heap) (locs1 : List Loc), ce_Ar X b M' H1 → va_S (ce_Ab b) s.heap H1 locs1 → W p l e R s m args below meth c H1 locs1 cells slots Q (F0 m (pc + 3) ls (.int r :: rest))) : W p l e R s m args below meth c H locs cells slots Q (F0 m pc ls st0) :=
  ce_callN hx hb hml hown hB hM hy hlk hR hF hA hS hl hn hstk rfl hW hdg hf kk
theorem ce_callNl {host : String} {r : Int64} (hx : p.tables.exec = Jvm.exec) (hb : c.code = cc) (hml : c.maxLocals = nL) (hown : s.vm.findClass own = some m.cls) (hB : ∀ w ∈ ce_big, w.before args s = true) (hM : ce_Ct l y bytes maxL ret fr lo X G b As M (some (.long r)) M') (hy : ce_yS C y bytes maxL ret n) (hlk : Cond.methodLinkNest own index y host ∈ ce_nest) (hR : fr + 1 ≤ R.frames ∧ 8 + (maxL + 11) + lo ≤ R.locals) (hF : ce_Fx X G b s) (hA : ce_Ar X b M H) (hS : va_S (ce_Ab b) s.heap H locs) (hl : lv_has ls nL lv) (hn : As.length = n) {st0 : List Value} (hstk : st0 = As.reverse ++ rest) (hW : (rest.map fun v => v.category).sum ≤ 8) (hdg : decode cc pc = .ok (.invokestatic index, 3)) (hf : cells ≤ R.cells ∧ slots ≤ R.slots)
    (kk : ∀ (H1 : Heap) (locs1 : List Loc), ce_Ar X b M' H1 → va_S (ce_Ab b) s.heap H1 locs1 → W p l e R s m args below meth c H1 locs1 cells slots Q (F0 m (pc + 3) ls (.long r :: rest))) : W p l e R s m args below meth c H locs cells slots Q (F0 m pc ls st0) :=
  ce_callN hx hb hml hown hB hM hy hlk hR hF hA hS hl hn hstk rfl hW hdg hf kk
theorem ce_callNr {host : String} {r : Nat} (hx : p.tables.exec = Jvm.exec) (hb : c.code = cc) (hml : c.maxLocals = nL) (hown : s.vm.findClass own = some m.cls) (hB : ∀ w ∈ ce_big, w.before args s = true) (hM : ce_Ct l y bytes maxL ret fr lo X G b As M (some (.ref r)) M') (hy : ce_yS C y bytes maxL ret n) (hlk : Cond.methodLinkNest own index y host ∈ ce_nest) (hR : fr + 1 ≤ R.frames ∧ 8 + (maxL + 11) + lo ≤ R.locals) (hF : ce_Fx X G b s) (hA : ce_Ar X b M H) (hS : va_S (ce_Ab b) s.heap H locs) (hl : lv_has ls nL lv) (hn : As.length = n) {st0 : List Value} (hstk : st0 = As.reverse ++ rest) (hW : (rest.map fun v => v.category).sum ≤ 8) (hdg : decode cc pc = .ok (.invokestatic index, 3)) (hf : cells ≤ R.cells ∧ slots ≤ R.slots)
    (kk : ∀ (H1 : Heap) (locs1 : List Loc), ce_Ar X b M' H1 → va_S (ce_Ab b) s.heap H1 locs1 → W p l e R s m args below meth c H1 locs1 cells slots Q (F0 m (pc + 3) ls (.ref r :: rest))) : W p l e R s m args below meth c H locs cells slots Q (F0 m pc ls st0) :=
  ce_callN hx hb hml hown hB hM hy hlk hR hF hA hS hl hn hstk rfl hW hdg hf kk
theorem ce_callNv {host : String} (hx : p.tables.exec = Jvm.exec) (hb : c.code = cc) (hml : c.maxLocals = nL) (hown : s.vm.findClass own = some m.cls) (hB : ∀ w ∈ ce_big, w.before args s = true) (hM : ce_Ct l y bytes maxL ret fr lo X G b As M none M') (hy : ce_yS C y bytes maxL ret n) (hlk : Cond.methodLinkNest own index y host ∈ ce_nest) (hR : fr + 1 ≤ R.frames ∧ 8 + (maxL + 11) + lo ≤ R.locals) (hF : ce_Fx X G b s) (hA : ce_Ar X b M H) (hS : va_S (ce_Ab b) s.heap H locs) (hl : lv_has ls nL lv) (hn : As.length = n) {st0 : List Value} (hstk : st0 = As.reverse ++ rest) (hW : (rest.map fun v => v.category).sum ≤ 8) (hdg : decode cc pc = .ok (.invokestatic index, 3)) (hf : cells ≤ R.cells ∧ slots ≤ R.slots)
    (kk : ∀ (H1 : Heap) (locs1 : List Loc), ce_Ar X b M' H1 → va_S (ce_Ab b) s.heap H1 locs1 → W p l e R s m args below meth c H1 locs1 cells slots Q (F0 m (pc + 3) ls (rest))) : W p l e R s m args below meth c H locs cells slots Q (F0 m pc ls st0) :=
  ce_callN hx hb hml hown hB hM hy hlk hR hF hA hS hl hn hstk rfl hW hdg hf kk
end CEMORE
