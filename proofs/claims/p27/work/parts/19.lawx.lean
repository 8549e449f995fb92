/-! THE LAW'S METHODS: contracts with cells of their own; a local array of 16 ints (its contents: the row 450 of M) -/
def ce_ushr (x y : Int32) : Int32 := (x.toUInt32 >>> (y.toUInt32 &&& Int32.toUInt32 31)).toInt32
def ce_gn {α : Type} (n : Int32) (K : Option α) : Option α := if n = 0 then none else K
theorem ce_gn_e {α : Type} {n : Int32} {K : Option α} {y : α} (h : ce_gn n K = some y) : ¬ n = 0 ∧ K = some y := by
  unfold ce_gn at h
  by_cases c : n = 0
  · rw [if_pos c] at h; cases h
  · rw [if_neg c] at h; exact ⟨c, h⟩
def ce_zr (M : ce_M) (k : Nat) : ce_M := (fun a i => if a = k then 0 else M.1 a i, M.2)
theorem ce_rd_zr (M : ce_M) (k a i : Nat) : ce_rd (ce_zr M k) a i = if a = k then 0 else ce_rd M a i := rfl
def ce_CtC (l : Launch) (y : MethodName) (cc : ByteArray) (maxL : Nat) (ret : Option FieldType) (fr lo mc ms : Nat) (X : ce_X) (G : ce_G) (b : Nat) (av : List Value) (M : ce_M) (rv : Option Value) (M' : ce_M) : Prop :=
  Met l y (Cond.code y cc maxL ret :: ce_big) (ce_R fr lo mc ms) (va_Pc av (ce_In X G b M)) (ce_Q X b M' rv) mc ms (ce_Ab b)
theorem ce_ofWC {l : Launch} {y : MethodName} {fr lo mc ms : Nat} {X : ce_X} {G : ce_G} {b : Nat} {av : List Value} {M : ce_M} {rv : Option Value} {M' : ce_M} {cc : ByteArray} {maxL : Nat} {ret : Option FieldType} {own : String} (hy : plainName y.cls = true) (hown : y.cls = own) (hn : (lg_sl av).length ≤ maxL)
    (body : ∀ (p : Program) (e : Env) (s : State) (m : MethodId) (below : List Frame) (meth : Method) (c : Code) (ls : Array Slot), p.tables.exec = Jvm.exec → c.code = cc → meth.sig.returnType = ret → meth.locks = false → c.maxLocals = maxL → s.vm.findClass own = some m.cls → (∀ w ∈ ce_big, w.before av.toArray s = true) → ce_Fx X G b s → ce_Ar X b M s.heap → lv_has ls maxL (lv_args 0 av) → va_S (ce_Ab b) s.heap s.heap [] →
      W p l e (ce_R fr lo mc ms) s m av.toArray below meth c s.heap [] 0 0 (MQ below (ce_Q X b M' rv) av.toArray s mc ms (ce_Ab b)) (F0 m 0 ls [])) : ce_CtC l y cc maxL ret fr lo mc ms X G b av M rv M' := by
  refine Met.ofW (cc := cc) (maxL := maxL) (ret := ret) hy rfl ?_
  intro p e s m args below meth c s₁ B hml hv
  obtain ⟨rfl, hF, hA⟩ := hv
  rw [lg_entry_eq]
  exact body p e s m below meth c _ B.exec B.bytes B.returns B.notSynchronized hml (by rw [← hown]; exact findClass_of_methodNamed B.named) (fun w hw => atoms_spec (ws := Cond.code y cc maxL ret :: ce_big) B.pre w (List.mem_cons_of_mem _ hw)) hF hA (lv_entry av hn) va_S.rf
/-- M' with the row 450 of M -/
def ce_cr (M M' : ce_M) : ce_M := (fun a i => if a = 450 then M.1 a i else M'.1 a i, M'.2)
theorem ce_rd_cr (M M' : ce_M) (a i : Nat) : ce_rd (ce_cr M M') a i = if a = 450 then ce_rd M a i else ce_rd M' a i := rfl
theorem ce_cr_self (M : ce_M) : ce_cr M M = M := by
  have : (fun a i => if a = 450 then M.1 a i else M.1 a i) = M.1 := funext fun a => funext fun i => by split <;> rfl
  show ((fun a i => if a = 450 then M.1 a i else M.1 a i), M.2) = M
  rw [this]
theorem ce_cr_Ar {X : ce_X} {b : Nat} {M M' : ce_M} {H : Heap} (h : ce_Ar X b M' H) : ce_Ar X b (ce_cr M M') H := fun k hk => by
  have h1 := h k hk
  rw [ce_ent_eq (M := M') (M' := ce_cr M M') (fun j => by rw [ce_rd_cr, if_neg (by omega)]) (fun _ => rfl)]
  exact h1
/-- the arena beside a local array of 16 ints at q -/
def ce_ArT (X : ce_X) (b q : Nat) (M : ce_M) (s0 : Nat) (H : Heap) : Prop := ce_Ar X b M H ∧ H[q]? = some (vp_cell X.2.1 (16, .inl (ce_rd M 450))) ∧ b + 414 ≤ q ∧ s0 ≤ q
section CELAWX
variable {p : Program} {l : Launch} {e : Env} {R : Room} {s : State} {m : MethodId} {args : Array Value} {below : List Frame} {meth : Method} {c : Code} {H : Heap} {locs : List Loc} {cells slots : Nat} {Q : State → Prop}
variable {cc : ByteArray} {pc : Nat} {ls : Array Slot} {rest : List Value} {X : ce_X} {G : ce_G} {b qa : Nat} {M M' : ce_M} {tc mc ms : Nat}
theorem ce_iretC {v : Int32} (hx : p.tables.exec = Jvm.exec) (hb : c.code = cc) (hr : meth.sig.returnType = some .int) (hlocks : meth.locks = false) (hA : ce_Ar X b M H) (hS : va_S (ce_Ab b) s.heap H locs) (hc : cells ≤ mc) (hs : slots ≤ ms) (hd : decode cc pc = .ok (.ireturn, 1)) : W p l e R s m args below meth c H locs cells slots (MQ below (ce_Q X b M (some (.int v))) args s mc ms (ce_Ab b)) (F0 m pc ls [.int v]) :=
  W.widen hc hs (ce_iret hx hb hr hlocks hA hS hd)
theorem ce_zretC {v : Int32} (hx : p.tables.exec = Jvm.exec) (hb : c.code = cc) (hr : meth.sig.returnType = some .boolean) (hlocks : meth.locks = false) (hz : v = 0 ∨ v = 1) (hA : ce_Ar X b M H) (hS : va_S (ce_Ab b) s.heap H locs) (hc : cells ≤ mc) (hs : slots ≤ ms) (hd : decode cc pc = .ok (.ireturn, 1)) : W p l e R s m args below meth c H locs cells slots (MQ below (ce_Q X b M (some (.int v))) args s mc ms (ce_Ab b)) (F0 m pc ls [.int v]) :=
  W.widen hc hs (ce_zret hx hb hr hlocks hz hA hS hd)
def ce_WgT (p : Program) (l : Launch) (e : Env) (R : Room) (s : State) (m : MethodId) (args : Array Value) (below : List Frame) (meth : Method) (c : Code) (cells slots : Nat) (Q : State → Prop) (X : ce_X) (b qa : Nat) (M : ce_M) (nL : Nat) (lv : List (Nat × Value)) (pc : Nat) (st : List Value) : Prop :=
  ∀ (H : Heap) (locs : List Loc) (ls : Array Slot), ce_ArT X b qa M s.heap.size H → va_S (ce_Ab b) s.heap H locs → lv_has ls nL lv → W p l e R s m args below meth c H locs cells slots Q (F0 m pc ls st)
theorem ce_newT (hx : p.tables.exec = Jvm.exec) (hb : c.code = cc) (hB : ∀ w ∈ ce_big, w.before args s = true) (hK : va_K X.1 vwCl (ce_tys X) s) (hA : ce_Ar X b M H) (hS : va_S (ce_Ab b) s.heap H locs) (hcells : cells + 1 ≤ R.cells) (hslots : slots + 16 ≤ R.slots) (hdg : decode cc pc = .ok (.newarray .int, 2)) (hM : ce_zr M 450 = M')
    (kk : ∀ (qa : Nat) (H1 : Heap), ce_ArT X b qa M' s.heap.size H1 → va_S (ce_Ab b) s.heap H1 locs → W p l e R s m args below meth c H1 locs (cells + 1) (slots + 16) Q (F0 m (pc + 2) ls (.ref qa :: rest))) : W p l e R s m args below meth c H locs cells slots Q (F0 m pc ls (.int 16 :: rest)) := by
  subst hM
  refine va_newaK (atype := .int) (N := 16) hx hb (hB _ ce_w63) rfl hdg rfl (by decide) (by decide) (by decide) hcells hslots rfl fun H1 cA e1 z1 o1 hAr hNm => ?_
  have hcA : cA = X.2.1 := Option.some.inj (hNm.symm.trans (va_nm_int (hK.2 0 _ rfl).2))
  subst hcA
  have hz : b + 414 ≤ H.size := by
    have := (hA 413 (by decide)).lt
    have : b + 413 < H.size := this
    omega
  refine kk H.size H1 ⟨fun k hk => ?_, ?_, hz, hS.1⟩ ⟨Nat.le_trans hS.1 (by omega), fun x h1 h2 => (o1 x (Nat.lt_of_lt_of_le h1 hS.1)).trans (hS.2.1 x h1 h2), hS.2.2⟩
  · have h1 := (hA k hk).kept (o1 _ (by show b + k < H.size; omega))
    rw [ce_ent_eq (M := M) (M' := ce_zr M 450) (fun j => by rw [ce_rd_zr, if_neg (by omega)]) (fun _ => rfl)]
    exact h1
  · rw [e1]
    show some (arrV _ 16 (fun _ => .int 0)) = some (arrV _ 16 (fun j => .int (ce_rd (ce_zr M 450) 450 j)))
    congr 2
theorem ce_ialdT (hx : p.tables.exec = Jvm.exec) (hb : c.code = cc) (hK : va_K X.1 vwCl (ce_tys X) s) (hA : ce_ArT X b qa M s.heap.size H) {i v : Int32} (hin : vp_in i 16) (hv : ce_rd M 450 i.toNatClampNeg = v) (hdg : decode cc pc = .ok (.iaload, 1))
    (kk : W p l e R s m args below meth c H locs cells slots Q (F0 m (pc + 1) ls (.int v :: rest))) : W p l e R s m args below meth c H locs cells slots Q (F0 m pc ls (.int i :: .ref qa :: rest)) := by
  subst hv
  exact va_iald hx hb hK (ce_P1 (q := (qa, .inl (X.2.1, 16, .inl (ce_rd M 450)))) hA.2.1) 0 0 rfl rfl hin hdg kk
theorem ce_iastT (hx : p.tables.exec = Jvm.exec) (hb : c.code = cc) (hK : va_K X.1 vwCl (ce_tys X) s) (hA : ce_ArT X b qa M s.heap.size H) (hS : va_S (ce_Ab b) s.heap H locs) {i x : Int32} (hin : vp_in i 16) (hdg : decode cc pc = .ok (.iastore, 1)) (hM : ce_wr M 450 i.toNatClampNeg x = M')
    (kk : ∀ (H1 : Heap) (locs1 : List Loc), ce_ArT X b qa M' s.heap.size H1 → va_S (ce_Ab b) s.heap H1 locs1 → W p l e R s m args below meth c H1 locs1 cells slots Q (F0 m (pc + 1) ls rest)) : W p l e R s m args below meth c H locs cells slots Q (F0 m pc ls (.int x :: .int i :: .ref qa :: rest)) := by
  subst hM
  obtain ⟨hA1, hat, h1, h2⟩ := hA
  refine W.iast hx hb hat ((hK.2 0 _ rfl).1 16 (fun j => .int (ce_rd M 450 j))) (fun q => by cases q) (by show ¬ (i < 0 ∨ (arrV _ _ _).slots.size ≤ _); rw [arrV_size]; exact hin) rfl rfl hdg fun H1 e z oq => ?_
  have K := kk H1 locs ⟨fun k hk => ?_, ?_, h1, h2⟩ ⟨by rw [z]; exact hS.1, fun q h3 h4 => by rw [oq q (Nat.ne_of_lt (Nat.lt_of_lt_of_le h3 h2))]; exact hS.2.1 q h3 h4, hS.2.2⟩
  · intro T hT Xs
    exact K T hT (Stand.forget Xs (fun q hq => by rw [List.mem_singleton.mp hq]; exact h2))
  · have h3 := (hA1 k hk).kept (oq _ (by show b + k ≠ qa; omega))
    rw [ce_ent_wr (by omega)]
    exact h3
  · rw [e]
    rw [vp_cell_i, vp_cell_i, arrV_store]
    congr 2
    funext q
    by_cases hq : q = i.toNatClampNeg
    · subst hq
      rw [ce_rd_wr, if_pos ⟨rfl, rfl⟩]
      simp [updV]
    · rw [ce_rd_wr, if_neg (fun h => hq h.2)]
      simp [updV, hq]
/-- behind a call, with what it left alone -/
theorem ce_afterT {rv : Option Value} {a : Array Value} {st0 st1 : List Value} (hr : va_Run p l e R s m args below meth c H locs cells slots mc ms (F0 m pc ls st0) rest (ce_Q X b M' rv a) (ce_Ab b)) (hst : rv.toList ++ rest = st1) (hA : ce_ArT X b qa M s.heap.size H) {M2 : ce_M} (hg : ce_cr M M' = M2) (hS : va_S (ce_Ab b) s.heap H locs)
    (kk : ∀ (H1 : Heap) (locs1 : List Loc), ce_ArT X b qa M2 s.heap.size H1 → va_S (ce_Ab b) s.heap H1 locs1 → W p l e R s m args below meth c H1 locs1 (cells + mc) (slots + ms) Q (F0 m (pc + 3) ls st1)) : W p l e R s m args below meth c H locs cells slots Q (F0 m pc ls st0) := by
  subst hst
  subst hg
  obtain ⟨hA1, hat, h1, h2⟩ := hA
  intro T hT Xs
  obtain ⟨v, st₀, t, T', L, h0, X', hL, e1, e2, ⟨hv, hA, hz, hk⟩, st⟩ := hr T hT Xs
  cases hv
  rw [h0] at hz hk
  obtain ⟨t2, a1, b1⟩ := kk T'.heap (locs ++ L) ⟨by rw [e1]; exact ce_cr_Ar hA, by rw [e1, hk qa (Array.getElem?_eq_some_iff.mp hat).1 (fun q => by have := q.2; omega)]; exact hat, h1, h2⟩
    ⟨Nat.le_trans hS.1 (by rw [e1]; exact hz), fun q h1 h2 => by rw [e1, hk q (Nat.lt_of_lt_of_le h1 hS.1) h2]; exact hS.2.1 q h1 h2, fun q hq => by
      rcases List.mem_append.mp hq with h | h
      · exact hS.2.2 q h
      · exact hL q h⟩ T' rfl X'
  exact ⟨t2, st t2 a1, b1⟩
variable {y : MethodName} {bytes : ByteArray} {maxL nL n index fr lo k : Nat} {ret : Option FieldType} {own C : String} {As : List Value} {lv : List (Nat × Value)} {hh : List (Nat × Nat × Nat × Nat)}
theorem ce_callCi {r : Int32} (hx : p.tables.exec = Jvm.exec) (hb : c.code = cc) (hml : c.maxLocals = nL) (hown : s.vm.findClass own = some m.cls) (hB : ∀ w ∈ ce_big, w.before args s = true) (hM : ce_CtC l y bytes maxL ret fr lo mc ms X G b As M (some (.int r)) M') (hy : ce_yS own y bytes maxL ret n) (hlk : Cond.methodLink own index y ∈ ce_big) (hR : fr + 1 ≤ R.frames ∧ 8 + (maxL + 11) + lo ≤ R.locals) (hF : ce_Fx X G b s) (hA : ce_Ar X b M H) (hS : va_S (ce_Ab b) s.heap H locs) (hl : lv_has ls nL lv) (hn : As.length = n) {st0 : List Value} (hstk : st0 = As.reverse ++ rest) (hW : (rest.map fun v => v.category).sum ≤ 8) (hdg : decode cc pc = .ok (.invokestatic index, 3)) (hf : cells + mc ≤ R.cells ∧ slots + ms ≤ R.slots)
    (kk : ∀ (H1 : Heap) (locs1 : List Loc), ce_Ar X b M' H1 → va_S (ce_Ab b) s.heap H1 locs1 → W p l e R s m args below meth c H1 locs1 (cells + mc) (slots + ms) Q (F0 m (pc + 3) ls (.int r :: rest))) : W p l e R s m args below meth c H locs cells slots Q (F0 m pc ls st0) :=
  ce_afterW (va_runS (Ts := ce_big) ⟨hx, hb, hml, hown, hB⟩ hM (cwS n hB (ce_goodS hy hlk) rfl rfl rfl ⟨hy.1, hy.2.1⟩ hR) ⟨ce_blind, fun U hU hWm => ⟨rfl, hF.next hS hU hWm, by rw [hU]; exact hA⟩⟩ rfl hn hl.1 hstk (lv_room hW) hdg hf) rfl hS kk
theorem ce_callSiT {r : Int32} (hx : p.tables.exec = Jvm.exec) (hb : c.code = cc) (hml : c.maxLocals = nL) (hown : s.vm.findClass own = some m.cls) (hB : ∀ w ∈ ce_big, w.before args s = true) (hM : ce_Ct l y bytes maxL ret fr lo X G b As M (some (.int r)) M) (hy : ce_yS own y bytes maxL ret n) (hlk : Cond.methodLink own index y ∈ ce_big) (hR : fr + 1 ≤ R.frames ∧ 8 + (maxL + 11) + lo ≤ R.locals) (hF : ce_Fx X G b s) (hA : ce_ArT X b qa M s.heap.size H) (hS : va_S (ce_Ab b) s.heap H locs) (hl : lv_has ls nL lv) (hn : As.length = n) {st0 : List Value} (hstk : st0 = As.reverse ++ rest) (hW : (rest.map fun v => v.category).sum ≤ 8) (hdg : decode cc pc = .ok (.invokestatic index, 3)) (hf : cells ≤ R.cells ∧ slots ≤ R.slots)
    (kk : ∀ (H1 : Heap) (locs1 : List Loc), ce_ArT X b qa M s.heap.size H1 → va_S (ce_Ab b) s.heap H1 locs1 → W p l e R s m args below meth c H1 locs1 cells slots Q (F0 m (pc + 3) ls (.int r :: rest))) : W p l e R s m args below meth c H locs cells slots Q (F0 m pc ls st0) :=
  ce_afterT (va_runS (Ts := ce_big) ⟨hx, hb, hml, hown, hB⟩ hM (cwS n hB (ce_goodS hy hlk) rfl rfl rfl ⟨hy.1, hy.2.1⟩ hR) ⟨ce_blind, fun U hU hWm => ⟨rfl, hF.next hS hU hWm, by rw [hU]; exact hA.1⟩⟩ rfl hn hl.1 hstk (lv_room hW) hdg hf) rfl hA (ce_cr_self M) hS kk
theorem ce_callWiT {r : Int32} (hx : p.tables.exec = Jvm.exec) (hb : c.code = cc) (hml : c.maxLocals = nL) (hown : s.vm.findClass own = some m.cls) (hB : ∀ w ∈ ce_big, w.before args s = true) (hM : ce_CtW l y bytes maxL ret hh fr lo mc ms X G b As M (some (.int r)) M') (hy : ce_yW C y bytes maxL ret hh n) (hlk : Cond.methodLink own index y ∈ ce_big) (hR : fr + 1 ≤ R.frames ∧ 8 + (maxL + 11) + lo ≤ R.locals) (hF : ce_Fx X G b s) (hA : ce_ArT X b qa M s.heap.size H) {M2 : ce_M} (hg : ce_cr M M' = M2) (hS : va_S (ce_Ab b) s.heap H locs) (hl : lv_has ls nL lv) (hn : As.length = n) {st0 : List Value} (hstk : st0 = As.reverse ++ rest) (hW : (rest.map fun v => v.category).sum ≤ 8) (hdg : decode cc pc = .ok (.invokestatic index, 3)) (hf : cells + mc ≤ R.cells ∧ slots + ms ≤ R.slots)
    (kk : ∀ (H1 : Heap) (locs1 : List Loc), ce_ArT X b qa M2 s.heap.size H1 → va_S (ce_Ab b) s.heap H1 locs1 → W p l e R s m args below meth c H1 locs1 (cells + mc) (slots + ms) Q (F0 m (pc + 3) ls (.int r :: rest))) : W p l e R s m args below meth c H locs cells slots Q (F0 m pc ls st0) :=
  ce_afterT (vx_runSW (Ts := ce_big) ⟨hx, hb, hml, hown, hB⟩ hM (vx_cwSW n hB (ce_goodW hy hlk) rfl rfl rfl hy.2.1 hR) ⟨ce_blind, fun U hU hWm => ⟨rfl, hF.next hS hU hWm, by rw [hU]; exact hA.1⟩⟩ rfl hn hl.1 hstk (lv_room hW) hdg hf) rfl hA hg hS kk
end CELAWX
