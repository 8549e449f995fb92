/-! CONTRACTS over the arena -/
/-- where the statics' arrays lie, the texts, the texts' bytes -/
abbrev ce_G : Type := Nat × Nat × Nat × Nat × (Nat → Int32)
def ce_nest : List Cond := [.methodLinkNest RX6 23 yX1_init RX7, .methodLinkNest RX6 34 yX4_init RX7, .methodLinkNest RX4 11 yX3_init RX7, .methodLinkNest RX4 20 yX2_init RX7, .methodLinkNest RX7 28 yX0_init RX7, .methodLinkNest RX6 55 yX7_isBelow RX7, .methodLinkNest RX6 142 yX7_areaOf RX7, .methodLinkNest RX4 91 yX7_areaOf RX7]
def ce_nestF : List Cond := [.fieldLinkNest RX6 119 RX7 "SMALLEST_SETTING" "[I" RX7, .fieldLinkNest RX6 122 RX7 "LARGEST_SETTING" "[I" RX7]
def ce_small (j : Nat) : Int32 := if j = 1 then 1 else 0
def ce_large (j : Nat) : Int32 := if j = 3 then 20 else 9
def ce_IO : String := "java/lang/IndexOutOfBoundsException"
def ce_IA : String := "java/lang/IllegalArgumentException"
def ce_IS : String := "java/lang/IllegalStateException"
def ce_D1 : MethodName := ⟨"java/lang/RuntimeException", "<init>", "()V"⟩
def ce_D2 : MethodName := ⟨"java/lang/Exception", "<init>", "()V"⟩
def ce_D3 : MethodName := ⟨"java/lang/Throwable", "<init>", "()V"⟩
/-- what stays as it is through the whole run -/
def ce_Fx (X : ce_X) (G : ce_G) (b : Nat) (U : State) : Prop :=
  va_K X.1 vwCl (ce_tys X) U ∧ ((∀ w ∈ ce_nest, va_Nw w U) ∧ ∀ w ∈ ce_nestF, va_Nw w U) ∧
  ((va_Z RX7 "SMALLEST_SETTING" "[I" (.ref G.1) (ce_Au b) U U.heap ∧ va_T .int G.1 4 (fun j => .int (ce_small j)) (ce_Au b) U U.heap) ∧ (va_Z RX7 "LARGEST_SETTING" "[I" (.ref G.2.1) (ce_Au b) U U.heap ∧ va_T .int G.2.1 4 (fun j => .int (ce_large j)) (ce_Au b) U U.heap)) ∧
  va_T .int G.2.2.1 G.2.2.2.1 (fun j => .int (G.2.2.2.2 j)) (ce_Au b) U U.heap ∧
  (vx_Zq Bundle.tN "UNASSIGNED_STACK" Bundle.steD (ce_Au b) U U.heap ∧ vx_Zq Bundle.tN "SUPPRESSED_SENTINEL" Bundle.listD (ce_Au b) U U.heap) ∧
  ((va_Nw (.castable ce_IO ce_IO) U ∧ va_Nw (.castable ce_IA ce_IA) U ∧ va_Nw (.castable ce_IS ce_IS) U) ∧ (va_Nw (.declares ce_D1) U ∧ va_Nw (.declares ce_D2) U ∧ va_Nw (.declares ce_D3) U) ∧ va_Nc ce_IA ce_IO U ∧ va_Nc ce_IS ce_IO U ∧ va_Nc ce_IS ce_IA U)
theorem ce_nest_warm {s U : State} (hW : s.WarmedH U.vm) (h : ∀ w ∈ ce_nest, va_Nw w s) : ∀ w ∈ ce_nest, va_Nw w U := by
  intro w hw
  have h1 := h w hw
  simp only [ce_nest, List.mem_cons, List.not_mem_nil, or_false] at hw
  rcases hw with rfl | rfl | rfl | rfl | rfl | rfl | rfl | rfl <;> exact va_Nw.warmM hW h1
theorem ce_nestF_warm {s U : State} (hW : s.WarmedH U.vm) (h : ∀ w ∈ ce_nestF, va_Nw w s) : ∀ w ∈ ce_nestF, va_Nw w U := by
  intro w hw
  have h1 := h w hw
  simp only [ce_nestF, List.mem_cons, List.not_mem_nil, or_false] at hw
  rcases hw with rfl | rfl <;> exact va_Nw.warmF hW h1
theorem ce_nest_same {s U : State} (hv : s.vm = U.vm) (h : ∀ w ∈ ce_nest, va_Nw w s) : ∀ w ∈ ce_nest, va_Nw w U := by
  intro w hw
  have h1 := h w hw
  simp only [ce_nest, List.mem_cons, List.not_mem_nil, or_false] at hw
  rcases hw with rfl | rfl | rfl | rfl | rfl | rfl | rfl | rfl <;> exact va_Nw.same rfl hv h1
theorem ce_nestF_same {s U : State} (hv : s.vm = U.vm) (h : ∀ w ∈ ce_nestF, va_Nw w s) : ∀ w ∈ ce_nestF, va_Nw w U := by
  intro w hw
  have h1 := h w hw
  simp only [ce_nestF, List.mem_cons, List.not_mem_nil, or_false] at hw
  rcases hw with rfl | rfl <;> exact va_Nw.same rfl hv h1
theorem ce_Fx.nextQ {X : ce_X} {G : ce_G} {b : Nat} {s U : State} (h : ce_Fx X G b s) (hq : ∀ a : Nat, a < s.heap.size → ¬ ce_Au b a → U.heap[a]? = s.heap[a]?) (hW : s.WarmedH U.vm) : ce_Fx X G b U := by
  obtain ⟨h1, ⟨h2, h2'⟩, ⟨⟨h3, h4⟩, h5, h6⟩, h7, ⟨h10, h11⟩, ⟨h12, h13, h14⟩, ⟨h18, h19, h20⟩, h15, h16, h17⟩ := h
  have ha := hW.alike
  exact ⟨va_K.moved ha h1, ⟨ce_nest_warm hW h2, ce_nestF_warm hW h2'⟩, ⟨⟨(h3.moved ha).kept hq, (h4.moved ha).kept hq⟩, (h5.moved ha).kept hq, (h6.moved ha).kept hq⟩, (h7.moved ha).kept hq, ⟨(h10.moved ha).kept hq, (h11.moved ha).kept hq⟩, ⟨va_Nw.warmC hW h12, va_Nw.warmC hW h13, va_Nw.warmC hW h14⟩, ⟨va_Nw.warmD hW h18, va_Nw.warmD hW h19, va_Nw.warmD hW h20⟩, h15.moved ha, h16.moved ha, h17.moved ha⟩
theorem ce_Fx.next {X : ce_X} {G : ce_G} {b : Nat} {s U : State} {H : Heap} {locs : List Loc} (h : ce_Fx X G b s) (hS : va_S (ce_Ab b) s.heap H locs) (hU : U.heap = H) (hW : s.WarmedH U.vm) : ce_Fx X G b U :=
  h.nextQ (fun a h1 h2 => by rw [hU]; exact hS.2.1 a h1 (fun h3 => h2 h3.1)) hW
theorem ce_Fx.calling {X : ce_X} {G : ce_G} {b : Nat} {U : State} (g : JFrame) (mk : MethodId) (a : Array Value) (h : ce_Fx X G b U) : ce_Fx X G b (U.calling g mk a) := by
  obtain ⟨h1, ⟨h2, h2'⟩, ⟨⟨h3, h4⟩, h5, h6⟩, h7, ⟨h10, h11⟩, ⟨h12, h13, h14⟩, ⟨h18, h19, h20⟩, h15, h16, h17⟩ := h
  have ha : U.vm.Alike (U.calling g mk a).vm := Vm.Alike.refl U.vm
  have hv : U.vm = (U.calling g mk a).vm := rfl
  exact ⟨va_K.moved ha h1, ⟨ce_nest_same hv h2, ce_nestF_same hv h2'⟩, ⟨⟨h3.moved ha, h4.moved ha⟩, h5.moved ha, h6.moved ha⟩, h7.moved ha, ⟨h10.moved ha, h11.moved ha⟩, ⟨va_Nw.same rfl hv h12, va_Nw.same rfl hv h13, va_Nw.same rfl hv h14⟩, ⟨va_Nw.same rfl hv h18, va_Nw.same rfl hv h19, va_Nw.same rfl hv h20⟩, h15.moved ha, h16.moved ha, h17.moved ha⟩
def ce_In (X : ce_X) (G : ce_G) (b : Nat) (M : ce_M) (U : State) : Prop := ce_Fx X G b U ∧ ce_Ar X b M U.heap
def ce_Q (X : ce_X) (b : Nat) (M : ce_M) (rv : Option Value) : Array Value → State → Outcome → State → Prop := fun _ st oc t => oc = .returned rv ∧ ce_Ar X b M t.heap ∧ va_F (ce_Ab b) st t
abbrev ce_R (fr lo mc ms : Nat) : Room := { frames := fr, cells := mc, slots := ms, locals := lo }
/-- the method returns rv and leaves M', from M -/
def ce_Ct (l : Launch) (y : MethodName) (cc : ByteArray) (maxL : Nat) (ret : Option FieldType) (fr lo : Nat) (X : ce_X) (G : ce_G) (b : Nat) (av : List Value) (M : ce_M) (rv : Option Value) (M' : ce_M) : Prop :=
  Met l y (Cond.code y cc maxL ret :: ce_big) (ce_R fr lo 0 0) (va_Pc av (ce_In X G b M)) (ce_Q X b M' rv) 0 0 (ce_Ab b)
theorem ce_blind {X : ce_X} {G : ce_G} {b : Nat} {av : List Value} {M : ce_M} : FrameBlind (va_Pc av (ce_In X G b M)) := fun _ _ g mk q => ⟨q.1, q.2.1.calling g mk _, q.2.2⟩
theorem ce_ofW {l : Launch} {y : MethodName} {fr lo : Nat} {X : ce_X} {G : ce_G} {b : Nat} {av : List Value} {M : ce_M} {rv : Option Value} {M' : ce_M} {cc : ByteArray} {maxL : Nat} {ret : Option FieldType} {own : String} (hy : plainName y.cls = true) (hown : y.cls = own) (hn : (lg_sl av).length ≤ maxL)
    (body : ∀ (p : Program) (e : Env) (s : State) (m : MethodId) (below : List Frame) (meth : Method) (c : Code) (ls : Array Slot), p.tables.exec = Jvm.exec → c.code = cc → meth.sig.returnType = ret → meth.locks = false → c.maxLocals = maxL → s.vm.findClass own = some m.cls → (∀ w ∈ ce_big, w.before av.toArray s = true) → ce_Fx X G b s → ce_Ar X b M s.heap → lv_has ls maxL (lv_args 0 av) → va_S (ce_Ab b) s.heap s.heap [] →
      W p l e (ce_R fr lo 0 0) s m av.toArray below meth c s.heap [] 0 0 (MQ below (ce_Q X b M' rv) av.toArray s 0 0 (ce_Ab b)) (F0 m 0 ls [])) : ce_Ct l y cc maxL ret fr lo X G b av M rv M' := by
  refine Met.ofW (cc := cc) (maxL := maxL) (ret := ret) hy rfl ?_
  intro p e s m args below meth c s₁ B hml hv
  obtain ⟨rfl, hF, hA⟩ := hv
  rw [lg_entry_eq]
  exact body p e s m below meth c _ B.exec B.bytes B.returns B.notSynchronized hml (by rw [← hown]; exact findClass_of_methodNamed B.named) (fun w hw => atoms_spec (ws := Cond.code y cc maxL ret :: ce_big) B.pre w (List.mem_cons_of_mem _ hw)) hF hA (lv_entry av hn) va_S.rf
section CECALL
variable {p : Program} {l : Launch} {e : Env} {R : Room} {s : State} {m : MethodId} {args : Array Value} {below : List Frame} {meth : Method} {c : Code} {H : Heap} {locs : List Loc} {cells slots : Nat} {Q : State → Prop}
variable {cc : ByteArray} {pc : Nat} {ls : Array Slot} {rest : List Value} {X : ce_X} {G : ce_G} {b : Nat} {M M' : ce_M}
theorem ce_iret {v : Int32} (hx : p.tables.exec = Jvm.exec) (hb : c.code = cc) (hr : meth.sig.returnType = some .int) (hlocks : meth.locks = false) (hA : ce_Ar X b M H) (hS : va_S (ce_Ab b) s.heap H locs) (hd : decode cc pc = .ok (.ireturn, 1)) : W p l e R s m args below meth c H locs cells slots (MQ below (ce_Q X b M (some (.int v))) args s cells slots (ce_Ab b)) (F0 m pc ls [.int v]) :=
  W.iret hx hb hr (fun t ht hW => ⟨rfl, by rw [ht]; exact hA, hS.F ht⟩) hS.2.2 hd hlocks
theorem ce_zret {v : Int32} (hx : p.tables.exec = Jvm.exec) (hb : c.code = cc) (hr : meth.sig.returnType = some .boolean) (hlocks : meth.locks = false) (hz : v = 0 ∨ v = 1) (hA : ce_Ar X b M H) (hS : va_S (ce_Ab b) s.heap H locs) (hd : decode cc pc = .ok (.ireturn, 1)) : W p l e R s m args below meth c H locs cells slots (MQ below (ce_Q X b M (some (.int v))) args s cells slots (ce_Ab b)) (F0 m pc ls [.int v]) :=
  W.zret hx hb hr (by rcases hz with rfl | rfl <;> decide) (fun t ht hW => ⟨rfl, by rw [ht]; exact hA, hS.F ht⟩) hS.2.2 hd hlocks
theorem ce_vret (hx : p.tables.exec = Jvm.exec) (hb : c.code = cc) (hr : meth.sig.returnType = none) (hlocks : meth.locks = false) (hA : ce_Ar X b M H) (hS : va_S (ce_Ab b) s.heap H locs) (hd : decode cc pc = .ok (.return_, 1)) : W p l e R s m args below meth c H locs cells slots (MQ below (ce_Q X b M none) args s cells slots (ce_Ab b)) (F0 m pc ls []) :=
  W.vret hx hb hr (fun t ht hW => ⟨rfl, by rw [ht]; exact hA, hS.F ht⟩) hS.2.2 hd hlocks
theorem ce_lret {v : Int64} (hx : p.tables.exec = Jvm.exec) (hb : c.code = cc) (hr : meth.sig.returnType = some .long) (hlocks : meth.locks = false) (hA : ce_Ar X b M H) (hS : va_S (ce_Ab b) s.heap H locs) (hd : decode cc pc = .ok (.lreturn, 1)) : W p l e R s m args below meth c H locs cells slots (MQ below (ce_Q X b M (some (.long v))) args s cells slots (ce_Ab b)) (F0 m pc ls [.long v]) :=
  W.lret hx hb hr (fun t ht hW => ⟨rfl, by rw [ht]; exact hA, hS.F ht⟩) hS.2.2 hd hlocks
theorem ce_aret {a : Nat} {n : String} (hx : p.tables.exec = Jvm.exec) (hb : c.code = cc) (hr : meth.sig.returnType = some (.object n)) (hlocks : meth.locks = false) (hA : ce_Ar X b M H) (hS : va_S (ce_Ab b) s.heap H locs) (hd : decode cc pc = .ok (.areturn, 1)) : W p l e R s m args below meth c H locs cells slots (MQ below (ce_Q X b M (some (.ref a))) args s cells slots (ce_Ab b)) (F0 m pc ls [.ref a]) :=
  W.aret hx hb hr (Or.inl ⟨n, rfl⟩) (Or.inr ⟨a, rfl⟩) (fun t ht hW => ⟨rfl, by rw [ht]; exact hA, hS.F ht⟩) hS.2.2 hd hlocks
theorem ce_after {rv : Option Value} {a : Array Value} {st0 st1 : List Value} (hr : va_Run p l e R s m args below meth c H locs cells slots 0 0 (F0 m pc ls st0) rest (ce_Q X b M' rv a) (ce_Ab b)) (hst : rv.toList ++ rest = st1) (hS : va_S (ce_Ab b) s.heap H locs)
    (kk : ∀ (H1 : Heap) (locs1 : List Loc), ce_Ar X b M' H1 → va_S (ce_Ab b) s.heap H1 locs1 → W p l e R s m args below meth c H1 locs1 cells slots Q (F0 m (pc + 3) ls st1)) : W p l e R s m args below meth c H locs cells slots Q (F0 m pc ls st0) := by
  subst hst
  intro T hT Xs
  obtain ⟨v, st₀, t, T', L, h0, X', hL, e1, e2, ⟨hv, hA, hz, hk⟩, st⟩ := hr T hT Xs
  cases hv
  rw [h0] at hz hk
  obtain ⟨t2, a1, b1⟩ := kk T'.heap (locs ++ L) (by rw [e1]; exact hA)
    ⟨Nat.le_trans hS.1 (by rw [e1]; exact hz), fun q h1 h2 => by rw [e1, hk q (Nat.lt_of_lt_of_le h1 hS.1) h2]; exact hS.2.1 q h1 h2, fun q hq => by
      rcases List.mem_append.mp hq with h | h
      · exact hS.2.2 q h
      · exact hL q h⟩ T' rfl X'
  exact ⟨t2, st t2 a1, b1⟩
variable {y : MethodName} {bytes : ByteArray} {maxL nL n index fr lo k : Nat} {ret : Option FieldType} {own C : String} {As : List Value} {rv : Option Value} {st0 st1 : List Value} {lv : List (Nat × Value)}
theorem ce_goodV {own C : String} {index : Nat} {y : MethodName} {bytes : ByteArray} {maxL : Nat} {ret : Option FieldType} {n : Nat} (hy : ce_yV C y bytes maxL ret n) (hlk : Cond.methodLink own index y ∈ ce_big) : GoodIn ce_big (wsV own index C y (Cond.code y bytes maxL ret :: ce_big)) := ce_bigGood _ (fun w hw => by
  obtain ⟨-, -, h1, h2, h3, h4⟩ := hy
  unfold wsV at hw
  rcases List.mem_append.mp hw with hw | hw
  · simp only [List.mem_cons, List.not_mem_nil, or_false] at hw
    rcases hw with rfl | rfl | rfl | rfl
    · exact hlk
    · exact h2
    · exact h3
    · exact h4
  · rcases List.mem_cons.mp hw with rfl | hw
    · exact h1
    · exact hw)
theorem ce_goodC {y : MethodName} {bytes : ByteArray} {maxL : Nat} {ret : Option FieldType} (h1 : Cond.code y bytes maxL ret ∈ ce_big) : GoodIn ce_big (Cond.code y bytes maxL ret :: ce_big) := ce_bigGood _ (fun w hw => by
  rcases List.mem_cons.mp hw with rfl | hw
  · exact h1
  · exact hw)
theorem ce_goodS {own : String} {index : Nat} {y : MethodName} {bytes : ByteArray} {maxL : Nat} {ret : Option FieldType} {n : Nat} (hy : ce_yS own y bytes maxL ret n) (hlk : Cond.methodLink own index y ∈ ce_big) : GoodIn ce_big (wsS own index y (Cond.code y bytes maxL ret :: ce_big)) := ce_bigGood _ (fun w hw => by
  obtain ⟨-, -, h1, h2, h3⟩ := hy
  unfold wsS at hw
  rcases List.mem_append.mp hw with hw | hw
  · simp only [List.mem_cons, List.not_mem_nil, or_false] at hw
    rcases hw with rfl | rfl | rfl
    · exact hlk
    · exact h2
    · exact h3
  · rcases List.mem_cons.mp hw with rfl | hw
    · exact h1
    · exact hw)
theorem ce_callV (hx : p.tables.exec = Jvm.exec) (hb : c.code = cc) (hml : c.maxLocals = nL) (hown : s.vm.findClass own = some m.cls) (hB : ∀ w ∈ ce_big, w.before args s = true) (hM : ce_Ct l y bytes maxL ret fr lo X G b (.ref (b + k) :: As) M rv M') (hy : ce_yV C y bytes maxL ret n) (hlk : Cond.methodLink own index y ∈ ce_big) (hR : fr + 1 ≤ R.frames ∧ 8 + (maxL + 11) + lo ≤ R.locals) (hF : ce_Fx X G b s) (hA : ce_Ar X b M H) (hS : va_S (ce_Ab b) s.heap H locs) (hrc : ∃ cell : Cell, H[b + k]? = some cell ∧ cell.vm.isStatics = false ∧ s.vm.findClass C = some cell.cls) (hl : lv_has ls nL lv)
    (hn : As.length = n) (hstk : st0 = As.reverse ++ .ref (b + k) :: rest) (hst : rv.toList ++ rest = st1) (hW : (rest.map fun v => v.category).sum ≤ 8) (hdg : decode cc pc = .ok (.invokevirtual index, 3)) (hf : cells ≤ R.cells ∧ slots ≤ R.slots)
    (kk : ∀ (H1 : Heap) (locs1 : List Loc), ce_Ar X b M' H1 → va_S (ce_Ab b) s.heap H1 locs1 → W p l e R s m args below meth c H1 locs1 cells slots Q (F0 m (pc + 3) ls st1)) : W p l e R s m args below meth c H locs cells slots Q (F0 m pc ls st0) :=
  ce_after (va_runV (Ts := ce_big) ⟨hx, hb, hml, hown, hB⟩ hM (cwV n hB (ce_goodV hy hlk) rfl rfl rfl ⟨hy.1, hy.2.1⟩ hR) ⟨ce_blind, hrc, fun U hU hWm => ⟨rfl, hF.next hS hU hWm, by rw [hU]; exact hA⟩⟩ rfl hn hl.1 hstk (lv_room hW) hdg hf) hst hS kk
theorem ce_callS (hx : p.tables.exec = Jvm.exec) (hb : c.code = cc) (hml : c.maxLocals = nL) (hown : s.vm.findClass own = some m.cls) (hB : ∀ w ∈ ce_big, w.before args s = true) (hM : ce_Ct l y bytes maxL ret fr lo X G b As M rv M') (hy : ce_yS own y bytes maxL ret n) (hlk : Cond.methodLink own index y ∈ ce_big) (hR : fr + 1 ≤ R.frames ∧ 8 + (maxL + 11) + lo ≤ R.locals) (hF : ce_Fx X G b s) (hA : ce_Ar X b M H) (hS : va_S (ce_Ab b) s.heap H locs) (hl : lv_has ls nL lv)
    (hn : As.length = n) (hstk : st0 = As.reverse ++ rest) (hst : rv.toList ++ rest = st1) (hW : (rest.map fun v => v.category).sum ≤ 8) (hdg : decode cc pc = .ok (.invokestatic index, 3)) (hf : cells ≤ R.cells ∧ slots ≤ R.slots)
    (kk : ∀ (H1 : Heap) (locs1 : List Loc), ce_Ar X b M' H1 → va_S (ce_Ab b) s.heap H1 locs1 → W p l e R s m args below meth c H1 locs1 cells slots Q (F0 m (pc + 3) ls st1)) : W p l e R s m args below meth c H locs cells slots Q (F0 m pc ls st0) :=
  ce_after (va_runS (Ts := ce_big) ⟨hx, hb, hml, hown, hB⟩ hM (cwS n hB (ce_goodS hy hlk) rfl rfl rfl ⟨hy.1, hy.2.1⟩ hR) ⟨ce_blind, fun U hU hWm => ⟨rfl, hF.next hS hU hWm, by rw [hU]; exact hA⟩⟩ rfl hn hl.1 hstk (lv_room hW) hdg hf) hst hS kk
/-- a static method of a nest mate -/
theorem ce_callN {host : String} (hx : p.tables.exec = Jvm.exec) (hb : c.code = cc) (hml : c.maxLocals = nL) (hown : s.vm.findClass own = some m.cls) (hB : ∀ w ∈ ce_big, w.before args s = true) (hM : ce_Ct l y bytes maxL ret fr lo X G b As M rv M') (hy : ce_yS C y bytes maxL ret n) (hlk : Cond.methodLinkNest own index y host ∈ ce_nest) (hR : fr + 1 ≤ R.frames ∧ 8 + (maxL + 11) + lo ≤ R.locals) (hF : ce_Fx X G b s) (hA : ce_Ar X b M H) (hS : va_S (ce_Ab b) s.heap H locs) (hl : lv_has ls nL lv)
    (hn : As.length = n) (hstk : st0 = As.reverse ++ rest) (hst : rv.toList ++ rest = st1) (hW : (rest.map fun v => v.category).sum ≤ 8) (hdg : decode cc pc = .ok (.invokestatic index, 3)) (hf : cells ≤ R.cells ∧ slots ≤ R.slots)
    (kk : ∀ (H1 : Heap) (locs1 : List Loc), ce_Ar X b M' H1 → va_S (ce_Ab b) s.heap H1 locs1 → W p l e R s m args below meth c H1 locs1 cells slots Q (F0 m (pc + 3) ls st1)) : W p l e R s m args below meth c H locs cells slots Q (F0 m pc ls st0) :=
  ce_after (va_runSN (Ts := ce_big) ⟨hx, hb, hml, hown, hB⟩ hM ⟨va_cnB n hB (ce_goodC hy.2.2.1) rfl rfl rfl (hF.2.1.1 _ hlk) (hB _ (by rw [hy.1]; exact hy.2.2.2.2)) hy.2.1 hR, hB _ hy.2.2.2.1, trivial⟩ ⟨ce_blind, fun U hU hWm => ⟨rfl, hF.next hS hU hWm, by rw [hU]; exact hA⟩⟩ rfl hn hl.1 hstk (lv_room hW) hdg hf) hst hS kk
end CECALL
