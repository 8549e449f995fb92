/-! THE LAW'S OWN METHODS: they catch what the class throws -/
def ce_CtW (l : Launch) (y : MethodName) (cc : ByteArray) (maxL : Nat) (ret : Option FieldType) (hh : List (Nat × Nat × Nat × Nat)) (fr lo mc ms : Nat) (X : ce_X) (G : ce_G) (b : Nat) (av : List Value) (M : ce_M) (rv : Option Value) (M' : ce_M) : Prop :=
  Met l y (Cond.codeWith y cc maxL ret hh :: ce_big) (ce_R fr lo mc ms) (va_Pc av (ce_In X G b M)) (ce_Q X b M' rv) mc ms (ce_Ab b)
theorem ce_ofWH {l : Launch} {y : MethodName} {ws ws' : List Cond} {rm : Room} {Pc : Array Value → State → Prop} {Qc : Array Value → State → Outcome → State → Prop} {mc ms : Nat} {free : Addr → Prop} {cc : ByteArray} {maxL : Nat} {ret : Option FieldType} {hh : List (Nat × Nat × Nat × Nat)}
    (hy : plainName y.cls = true) (hw : ws = Cond.codeWith y cc maxL ret hh :: ws')
    (body : ∀ p e s m args below meth c s₁, BodyLoose p l y (headSpec ws rm) cc maxL ret e s m args below meth c s₁ → c.maxLocals = maxL → Pc args s →
      W p l e (headSpec ws rm).room s m args below meth c s.heap [] 0 0 (MQ below Qc args s mc ms free) (entryFrame m args maxL)) : Met l y ws rm Pc Qc mc ms free := by
  refine MetFree.of_bodyS (code := cc) (maxLocals := maxL) (ret := ret) hy ?_ ?_
  · intro args s m h hn
    obtain ⟨m9, meth, c, hn9, h1, h2, h3, h4, -, h5, h6, -⟩ := Cond.codeWith_spec (atoms_spec (ws := ws) h _ (by rw [hw]; exact List.mem_cons_self))
    cases hn.symm.trans hn9
    exact ⟨meth, c, h1, h2, h3, h4, h5, h6⟩
  · intro p e s m args below meth c s₁ B hml hP _
    have hh0 : s₁.heap = s.heap := by rw [B.state]; rfl
    obtain ⟨t, a1, o, b1, b2, b3⟩ := body p e s m args below meth c s₁ B hml hP s₁ hh0 (Stand.of_body B)
    exact ⟨t, o, a1, b1, b2, b3⟩
theorem ce_ofWW {l : Launch} {y : MethodName} {fr lo mc ms : Nat} {X : ce_X} {G : ce_G} {b : Nat} {av : List Value} {M : ce_M} {rv : Option Value} {M' : ce_M} {cc : ByteArray} {maxL : Nat} {ret : Option FieldType} {hh : List (Nat × Nat × Nat × Nat)} {own : String} (hy : plainName y.cls = true) (hown : y.cls = own) (hn : (lg_sl av).length ≤ maxL)
    (body : ∀ (p : Program) (e : Env) (s : State) (m : MethodId) (below : List Frame) (meth : Method) (c : Code) (ls : Array Slot), p.tables.exec = Jvm.exec → c.code = cc → meth.sig.returnType = ret → meth.locks = false → c.maxLocals = maxL → s.vm.findClass own = some m.cls → (∀ w ∈ ce_big, w.before av.toArray s = true) → ce_Fx X G b s → ce_Ar X b M s.heap → lv_has ls maxL (lv_args 0 av) → va_S (ce_Ab b) s.heap s.heap [] → c.exceptionTable.toList = tableOf hh →
      W p l e (ce_R fr lo mc ms) s m av.toArray below meth c s.heap [] 0 0 (MQ below (ce_Q X b M' rv) av.toArray s mc ms (ce_Ab b)) (F0 m 0 ls [])) : ce_CtW l y cc maxL ret hh fr lo mc ms X G b av M rv M' := by
  refine ce_ofWH (cc := cc) (maxL := maxL) (ret := ret) (hh := hh) hy rfl ?_
  intro p e s m args below meth c s₁ B hml hv
  obtain ⟨rfl, hF, hA⟩ := hv
  rw [lg_entry_eq]
  exact body p e s m below meth c _ B.exec B.bytes B.returns B.notSynchronized hml (by rw [← hown]; exact findClass_of_methodNamed B.named) (fun w hw => atoms_spec (ws := Cond.codeWith y cc maxL ret hh :: ce_big) B.pre w (List.mem_cons_of_mem _ hw)) hF hA (lv_entry av hn) va_S.rf (vx_table (x := y) B (atoms_spec (ws := Cond.codeWith y cc maxL ret hh :: ce_big) B.pre _ List.mem_cons_self))
def ce_yW (C : String) (y : MethodName) (bytes : ByteArray) (maxL : Nat) (ret : Option FieldType) (hh : List (Nat × Nat × Nat × Nat)) (n : Nat) : Prop := y.cls = C ∧ ce_yD y n ∧ Cond.codeWith y bytes maxL ret hh ∈ ce_big ∧ Cond.static y ∈ ce_big ∧ Cond.initialized C ∈ ce_big
section CELAW
variable {p : Program} {l : Launch} {e : Env} {R : Room} {s : State} {m : MethodId} {args : Array Value} {below : List Frame} {meth : Method} {c : Code} {H : Heap} {locs : List Loc} {cells slots : Nat} {Q : State → Prop}
variable {cc : ByteArray} {pc : Nat} {ls : Array Slot} {rest : List Value} {X : ce_X} {G : ce_G} {b : Nat} {M M' : ce_M} {tc mc ms : Nat}
theorem ce_iretW {v : Int32} (hx : p.tables.exec = Jvm.exec) (hb : c.code = cc) (hr : meth.sig.returnType = some .int) (hlocks : meth.locks = false) (hA : ce_Ar X b M H) (hS : va_S (ce_Ab b) s.heap H locs) (hc : cells ≤ mc) (hs : slots ≤ ms) (hd : decode cc pc = .ok (.ireturn, 1)) : W p l e R s m args below meth c H locs cells slots (MQ below (ce_Q X b M (some (.int v))) args s mc ms (ce_Ab b)) (F0 m pc ls [.int v]) :=
  W.widen hc hs (ce_iret hx hb hr hlocks hA hS hd)
variable {y : MethodName} {bytes : ByteArray} {maxL nL n index fr lo k : Nat} {ret : Option FieldType} {own C : String} {As : List Value} {lv : List (Nat × Value)} {hh : List (Nat × Nat × Nat × Nat)}
theorem ce_goodW {own : String} {index : Nat} (hy : ce_yW C y bytes maxL ret hh n) (hlk : Cond.methodLink own index y ∈ ce_big) : GoodIn ce_big (va_wsS own index y (Cond.codeWith y bytes maxL ret hh :: ce_big)) := ce_bigGood _ (fun w hw => by
  obtain ⟨h0, -, h1, h2, h3⟩ := hy
  unfold va_wsS at hw
  rcases List.mem_append.mp hw with hw | hw
  · simp only [List.mem_cons, List.not_mem_nil, or_false] at hw
    rcases hw with rfl | rfl | rfl
    · exact hlk
    · exact h2
    · rw [h0]; exact h3
  · rcases List.mem_cons.mp hw with rfl | hw
    · exact h1
    · exact hw)
theorem ce_afterW {rv : Option Value} {a : Array Value} {st0 st1 : List Value} (hr : va_Run p l e R s m args below meth c H locs cells slots mc ms (F0 m pc ls st0) rest (ce_Q X b M' rv a) (ce_Ab b)) (hst : rv.toList ++ rest = st1) (hS : va_S (ce_Ab b) s.heap H locs)
    (kk : ∀ (H1 : Heap) (locs1 : List Loc), ce_Ar X b M' H1 → va_S (ce_Ab b) s.heap H1 locs1 → W p l e R s m args below meth c H1 locs1 (cells + mc) (slots + ms) Q (F0 m (pc + 3) ls st1)) : W p l e R s m args below meth c H locs cells slots Q (F0 m pc ls st0) := by
  subst hst
  intro T hT Xs
  obtain ⟨v, st₀, t, T', L, h0, X', hL, e1, e2, ⟨hv, hA, hz, hk⟩, st⟩ := hr T hT Xs
  cases hv
  rw [h0] at hz hk
  obtain ⟨t2, a1, b1⟩ := kk T'.heap (locs ++ L) (by rw [e1]; exact hA)
    ⟨Nat.le_trans hS.1 (by rw [e1]; exact hz), fun q h1 h2 => by rw [e1, hk q (Nat.lt_of_lt_of_le h1 hS.1) h2]; exact hS.2.1 q h1 h2, fun q hq => by
      rcases List.mem_append.mp hq with h | h
      · exact hS.2.2 q h
      · exact hL q h⟩ T' rfl X'
  exact ⟨t2, st t2 a1, b1⟩
theorem ce_callWi {r : Int32} (hx : p.tables.exec = Jvm.exec) (hb : c.code = cc) (hml : c.maxLocals = nL) (hown : s.vm.findClass own = some m.cls) (hB : ∀ w ∈ ce_big, w.before args s = true) (hM : ce_CtW l y bytes maxL ret hh fr lo mc ms X G b As M (some (.int r)) M') (hy : ce_yW C y bytes maxL ret hh n) (hlk : Cond.methodLink own index y ∈ ce_big) (hR : fr + 1 ≤ R.frames ∧ 8 + (maxL + 11) + lo ≤ R.locals) (hF : ce_Fx X G b s) (hA : ce_Ar X b M H) (hS : va_S (ce_Ab b) s.heap H locs) (hl : lv_has ls nL lv) (hn : As.length = n) {st0 : List Value} (hstk : st0 = As.reverse ++ rest) (hW : (rest.map fun v => v.category).sum ≤ 8) (hdg : decode cc pc = .ok (.invokestatic index, 3)) (hf : cells + mc ≤ R.cells ∧ slots + ms ≤ R.slots)
    (kk : ∀ (H1 : Heap) (locs1 : List Loc), ce_Ar X b M' H1 → va_S (ce_Ab b) s.heap H1 locs1 → W p l e R s m args below meth c H1 locs1 (cells + mc) (slots + ms) Q (F0 m (pc + 3) ls (.int r :: rest))) : W p l e R s m args below meth c H locs cells slots Q (F0 m pc ls st0) :=
  ce_afterW (vx_runSW (Ts := ce_big) ⟨hx, hb, hml, hown, hB⟩ hM (vx_cwSW n hB (ce_goodW hy hlk) rfl rfl rfl hy.2.1 hR) ⟨ce_blind, fun U hU hWm => ⟨rfl, hF.next hS hU hWm, by rw [hU]; exact hA⟩⟩ rfl hn hl.1 hstk (lv_room hW) hdg hf) rfl hS kk
theorem ce_passed {a b2 d e2 : Nat} {E : String} {nm : String} (hB : ∀ w ∈ ce_big, w.before args s = true) (h0 : e2 ≠ 0) (hlk : Cond.classLink RL e2 nm ∈ ce_big) (hN : va_Nc E nm s) : (⟨a, b2, d, e2⟩ : ExceptionTableEntry).catchType ≠ 0 ∧ ∃ nm : String, (Cond.classLink RL (⟨a, b2, d, e2⟩ : ExceptionTableEntry).catchType nm).before args s = true ∧ va_Nc E nm s := ⟨h0, nm, hB _ hlk, hN⟩
end CELAW
theorem ce_lk13 : Cond.classLink RL 13 ce_IO ∈ ce_big := ce_b3i 186 rfl rfl
theorem ce_lk15 : Cond.classLink RL 15 ce_IA ∈ ce_big := ce_b3i 187 rfl rfl
theorem ce_lk17 : Cond.classLink RL 17 ce_IS ∈ ce_big := ce_b3i 188 rfl rfl
theorem ce_w665 : Cond.codeWith yL_subscribe cL_subscribe 6 (some .int) [(0, 12, 15, 13), (0, 12, 19, 15), (0, 12, 23, 17)] ∈ ce_big := ce_b3i 185 rfl rfl
theorem ce_w664 : Cond.static yL_subscribe ∈ ce_big := ce_b3i 184 rfl rfl
theorem ce_s_L_subscribe : ce_yW RL yL_subscribe cL_subscribe 6 (some .int) [(0, 12, 15, 13), (0, 12, 19, 15), (0, 12, 23, 17)] 5 := ⟨rfl, by decide +kernel, ce_w665, ce_w664, ce_w0⟩
theorem ce_w781 : Cond.codeWith yL_move cL_move 5 (some .int) [(0, 10, 13, 13), (0, 10, 17, 17)] ∈ ce_big := ce_b4i 61 rfl rfl
theorem ce_w780 : Cond.static yL_move ∈ ce_big := ce_b4i 60 rfl rfl
theorem ce_s_L_move : ce_yW RL yL_move cL_move 5 (some .int) [(0, 10, 13, 13), (0, 10, 17, 17)] 4 := ⟨rfl, by decide +kernel, ce_w781, ce_w780, ce_w0⟩
theorem ce_w788 : Cond.codeWith yL_leave cL_leave 4 (some .int) [(0, 9, 12, 13), (0, 9, 15, 17)] ∈ ce_big := ce_b4i 68 rfl rfl
theorem ce_w787 : Cond.static yL_leave ∈ ce_big := ce_b4i 67 rfl rfl
theorem ce_s_L_leave : ce_yW RL yL_leave cL_leave 4 (some .int) [(0, 9, 12, 13), (0, 9, 15, 17)] 3 := ⟨rfl, by decide +kernel, ce_w788, ce_w787, ce_w0⟩
theorem ce_w795 : Cond.codeWith yL_setLevel cL_setLevel 5 (some .int) [(0, 10, 13, 13), (0, 10, 17, 15)] ∈ ce_big := ce_b4i 75 rfl rfl
theorem ce_w794 : Cond.static yL_setLevel ∈ ce_big := ce_b4i 74 rfl rfl
theorem ce_s_L_setLevel : ce_yW RL yL_setLevel cL_setLevel 5 (some .int) [(0, 10, 13, 13), (0, 10, 17, 15)] 4 := ⟨rfl, by decide +kernel, ce_w795, ce_w794, ce_w0⟩
theorem ce_w802 : Cond.codeWith yL_set cL_set 5 (some .int) [(0, 10, 13, 15)] ∈ ce_big := ce_b4i 82 rfl rfl
theorem ce_w801 : Cond.static yL_set ∈ ce_big := ce_b4i 81 rfl rfl
theorem ce_s_L_set : ce_yW RL yL_set cL_set 5 (some .int) [(0, 10, 13, 15)] 4 := ⟨rfl, by decide +kernel, ce_w802, ce_w801, ce_w0⟩
theorem ce_w809 : Cond.codeWith yL_publish cL_publish 6 (some .int) [(0, 12, 15, 13), (0, 12, 19, 15), (0, 12, 23, 17)] ∈ ce_big := ce_b4i 89 rfl rfl
theorem ce_w808 : Cond.static yL_publish ∈ ce_big := ce_b4i 88 rfl rfl
theorem ce_s_L_publish : ce_yW RL yL_publish cL_publish 6 (some .int) [(0, 12, 15, 13), (0, 12, 19, 15), (0, 12, 23, 17)] 5 := ⟨rfl, by decide +kernel, ce_w809, ce_w808, ce_w0⟩
theorem ce_w816 : Cond.codeWith yL_pass cL_pass 4 (some .int) [(0, 9, 12, 15), (0, 9, 15, 17)] ∈ ce_big := ce_b4i 96 rfl rfl
theorem ce_w815 : Cond.static yL_pass ∈ ce_big := ce_b4i 95 rfl rfl
theorem ce_s_L_pass : ce_yW RL yL_pass cL_pass 4 (some .int) [(0, 9, 12, 15), (0, 9, 15, 17)] 3 := ⟨rfl, by decide +kernel, ce_w816, ce_w815, ce_w0⟩
theorem ce_w823 : Cond.codeWith yL_subscriber cL_subscriber 5 (some .int) [(0, 10, 13, 13), (0, 10, 17, 15)] ∈ ce_big := ce_b4i 103 rfl rfl
theorem ce_w822 : Cond.static yL_subscriber ∈ ce_big := ce_b4i 102 rfl rfl
theorem ce_s_L_subscriber : ce_yW RL yL_subscriber cL_subscriber 5 (some .int) [(0, 10, 13, 13), (0, 10, 17, 15)] 4 := ⟨rfl, by decide +kernel, ce_w823, ce_w822, ce_w0⟩
theorem ce_w832 : Cond.codeWith yL_stay cL_stay 6 (some .int) [(0, 12, 15, 13), (0, 12, 19, 15)] ∈ ce_big := ce_b4i 112 rfl rfl
theorem ce_w831 : Cond.static yL_stay ∈ ce_big := ce_b4i 111 rfl rfl
theorem ce_s_L_stay : ce_yW RL yL_stay cL_stay 6 (some .int) [(0, 12, 15, 13), (0, 12, 19, 15)] 5 := ⟨rfl, by decide +kernel, ce_w832, ce_w831, ce_w0⟩
theorem ce_w839 : Cond.codeWith yL_waiting cL_waiting 5 (some .int) [(0, 10, 13, 13), (0, 10, 17, 15)] ∈ ce_big := ce_b4i 119 rfl rfl
theorem ce_w838 : Cond.static yL_waiting ∈ ce_big := ce_b4i 118 rfl rfl
theorem ce_s_L_waiting : ce_yW RL yL_waiting cL_waiting 5 (some .int) [(0, 10, 13, 13), (0, 10, 17, 15)] 4 := ⟨rfl, by decide +kernel, ce_w839, ce_w838, ce_w0⟩
theorem ce_w846 : Cond.codeWith yL_event cL_event 5 (some .int) [(0, 10, 13, 13), (0, 10, 17, 15)] ∈ ce_big := ce_b4i 126 rfl rfl
theorem ce_w845 : Cond.static yL_event ∈ ce_big := ce_b4i 125 rfl rfl
theorem ce_s_L_event : ce_yW RL yL_event cL_event 5 (some .int) [(0, 10, 13, 13), (0, 10, 17, 15)] 4 := ⟨rfl, by decide +kernel, ce_w846, ce_w845, ce_w0⟩
theorem ce_w853 : Cond.codeWith yL_leaf cL_leaf 5 (some .int) [(0, 10, 13, 13), (0, 10, 17, 15)] ∈ ce_big := ce_b4i 133 rfl rfl
theorem ce_w852 : Cond.static yL_leaf ∈ ce_big := ce_b4i 132 rfl rfl
theorem ce_s_L_leaf : ce_yW RL yL_leaf cL_leaf 5 (some .int) [(0, 10, 13, 13), (0, 10, 17, 15)] 4 := ⟨rfl, by decide +kernel, ce_w853, ce_w852, ce_w0⟩
theorem ce_w860 : Cond.codeWith yL_whole cL_whole 4 (some .int) [(0, 9, 12, 15)] ∈ ce_big := ce_b4i 140 rfl rfl
theorem ce_w859 : Cond.static yL_whole ∈ ce_big := ce_b4i 139 rfl rfl
theorem ce_s_L_whole : ce_yW RL yL_whole cL_whole 4 (some .int) [(0, 9, 12, 15)] 3 := ⟨rfl, by decide +kernel, ce_w860, ce_w859, ce_w0⟩
theorem ce_w867 : Cond.codeWith yL_wouldReach cL_wouldReach 6 (some .int) [(0, 12, 15, 13), (0, 12, 19, 15)] ∈ ce_big := ce_b4i 147 rfl rfl
theorem ce_w866 : Cond.static yL_wouldReach ∈ ce_big := ce_b4i 146 rfl rfl
theorem ce_s_L_wouldReach : ce_yW RL yL_wouldReach cL_wouldReach 6 (some .int) [(0, 12, 15, 13), (0, 12, 19, 15)] 5 := ⟨rfl, by decide +kernel, ce_w867, ce_w866, ce_w0⟩
theorem ce_w876 : Cond.codeWith yL_reason cL_reason 6 (some .int) [(0, 12, 15, 13), (0, 12, 19, 15)] ∈ ce_big := ce_b4i 156 rfl rfl
theorem ce_w875 : Cond.static yL_reason ∈ ce_big := ce_b4i 155 rfl rfl
theorem ce_s_L_reason : ce_yW RL yL_reason cL_reason 6 (some .int) [(0, 12, 15, 13), (0, 12, 19, 15)] 5 := ⟨rfl, by decide +kernel, ce_w876, ce_w875, ce_w0⟩
theorem ce_w888 : Cond.codeWith yL_servedIn cL_servedIn 4 (some .int) [(0, 9, 12, 13)] ∈ ce_big := ce_b4i 168 rfl rfl
theorem ce_w887 : Cond.static yL_servedIn ∈ ce_big := ce_b4i 167 rfl rfl
theorem ce_s_L_servedIn : ce_yW RL yL_servedIn cL_servedIn 4 (some .int) [(0, 9, 12, 13)] 3 := ⟨rfl, by decide +kernel, ce_w888, ce_w887, ce_w0⟩
theorem ce_w895 : Cond.codeWith yL_emptyIn cL_emptyIn 4 (some .int) [(0, 9, 12, 13)] ∈ ce_big := ce_b4i 175 rfl rfl
theorem ce_w894 : Cond.static yL_emptyIn ∈ ce_big := ce_b4i 174 rfl rfl
theorem ce_s_L_emptyIn : ce_yW RL yL_emptyIn cL_emptyIn 4 (some .int) [(0, 9, 12, 13)] 3 := ⟨rfl, by decide +kernel, ce_w895, ce_w894, ce_w0⟩
theorem ce_w907 : Cond.codeWith yL_covered cL_covered 4 (some .int) [(0, 9, 12, 13)] ∈ ce_big := ce_b4i 187 rfl rfl
theorem ce_w906 : Cond.static yL_covered ∈ ce_big := ce_b4i 186 rfl rfl
theorem ce_s_L_covered : ce_yW RL yL_covered cL_covered 4 (some .int) [(0, 9, 12, 13)] 3 := ⟨rfl, by decide +kernel, ce_w907, ce_w906, ce_w0⟩
theorem ce_w914 : Cond.codeWith yL_type cL_type 4 (some .int) [(0, 9, 12, 15), (0, 9, 15, 17)] ∈ ce_big := ce_b4i 194 rfl rfl
theorem ce_w913 : Cond.static yL_type ∈ ce_big := ce_b4i 193 rfl rfl
theorem ce_s_L_type : ce_yW RL yL_type cL_type 4 (some .int) [(0, 9, 12, 15), (0, 9, 15, 17)] 3 := ⟨rfl, by decide +kernel, ce_w914, ce_w913, ce_w0⟩
theorem ce_w929 : Cond.codeWith yL_undo cL_undo 3 (some .int) [(0, 8, 11, 17)] ∈ ce_big := ce_b4i 209 rfl rfl
theorem ce_w928 : Cond.static yL_undo ∈ ce_big := ce_b4i 208 rfl rfl
theorem ce_s_L_undo : ce_yW RL yL_undo cL_undo 3 (some .int) [(0, 8, 11, 17)] 2 := ⟨rfl, by decide +kernel, ce_w929, ce_w928, ce_w0⟩
