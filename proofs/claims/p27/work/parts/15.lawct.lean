/-! THE LAW'S OWN METHODS: they catch what the class throws -/
def ce_CtW (l : Launch) (y : MethodName) (cc : ByteArray) (maxL : Nat) (ret : Option FieldType) (hh : List (Nat × Nat × Nat × Nat)) (fr lo mc ms : Nat) (X : ce_X) (G : ce_G) (b : Nat) (av : List Value) (M : ce_M) (rv : Option Value) (M' : ce_M) : Prop :=
  Met l y (Cond.codeWith y cc maxL ret hh :: ce_big) (ce_R fr lo mc ms) (va_Pc av (ce_In X G b M)) (ce_Q X b M' rv) mc ms (ce_Ab b)
theorem ce_ofWH {l : Launch} {y : MethodName} {ws ws' : List Cond} {rm : Room} {Pc : Array Value → State → Prop} {Qc : Array Value → State → Outcome → State → Prop} {mc ms : Nat} {free : Addr → Prop} {cc : ByteArray} {maxL : Nat} {ret : Option FieldType} {hh : List (Nat × Nat × Nat × Nat)}
    (hy : plainName y.cls = true) (hw : ws = Cond.codeWith y cc maxL ret hh :: ws')
    (body : ∀ p e s m args below meth c s₁, BodyLoose p l y (headSpec ws rm) cc maxL ret e s m args below meth c s₁ → c.maxLocals = maxL → Pc args s →
      W p l e (headSpec ws rm).room s m args below meth c s.heap [] 0 0 (MQ below Qc args s mc ms free) (entryFrame m args maxL)) : Met l y ws rm Pc Qc mc ms free := by
  refine MetFree.of_bodyS (code := cc) (maxLocals := maxL) (ret := ret) hy ?_ ?_
  · intro args s m h hn
    obtain ⟨m9, meth, c, hn9, h1, h2, h3, h4, -, h5, h6, -⟩ := Cond.codeWith_spec (atoms_spec (ws := ws) h _ (by rw [hw]; exact List.mem_cons_self))
    cases hn.symm.trans hn9
    exact ⟨meth, c, h1, h2, h3, h4, h5, h6⟩
  · intro p e s m args below meth c s₁ B hml hP _
    have hh0 : s₁.heap = s.heap := by rw [B.state]; rfl
    obtain ⟨t, a1, o, b1, b2, b3⟩ := body p e s m args below meth c s₁ B hml hP s₁ hh0 (Stand.of_body B)
    exact ⟨t, o, a1, b1, b2, b3⟩
theorem ce_ofWW {l : Launch} {y : MethodName} {fr lo mc ms : Nat} {X : ce_X} {G : ce_G} {b : Nat} {av : List Value} {M : ce_M} {rv : Option Value} {M' : ce_M} {cc : ByteArray} {maxL : Nat} {ret : Option FieldType} {hh : List (Nat × Nat × Nat × Nat)} {own : String} (hy : plainName y.cls = true) (hown : y.cls = own) (hn : (lg_sl av).length ≤ maxL)
    (body : ∀ (p : Program) (e : Env) (s : State) (m : MethodId) (below : List Frame) (meth : Method) (c : Code) (ls : Array Slot), p.tables.exec = Jvm.exec → c.code = cc → meth.sig.returnType = ret → meth.locks = false → c.maxLocals = maxL → s.vm.findClass own = some m.cls → (∀ w ∈ ce_big, w.before av.toArray s = true) → ce_Fx X G b s → ce_Ar X b M s.heap → lv_has ls maxL (lv_args 0 av) → va_S (ce_Ab b) s.heap s.heap [] → c.exceptionTable.toList = tableOf hh →
      W p l e (ce_R fr lo mc ms) s m av.toArray below meth c s.heap [] 0 0 (MQ below (ce_Q X b M' rv) av.toArray s mc ms (ce_Ab b)) (F0 m 0 ls [])) : ce_CtW l y cc maxL ret hh fr lo mc ms X G b av M rv M' := by
  refine ce_ofWH (cc := cc) (maxL := maxL) (ret := ret) (hh := hh) hy rfl ?_
  intro p e s m args below meth c s₁ B hml hv
  obtain ⟨rfl, hF, hA⟩ := hv
  rw [lg_entry_eq]
  exact body p e s m below meth c _ B.exec B.bytes B.returns B.notSynchronized hml (by rw [← hown]; exact findClass_of_methodNamed B.named) (fun w hw => atoms_spec (ws := Cond.codeWith y cc maxL ret hh :: ce_big) B.pre w (List.mem_cons_of_mem _ hw)) hF hA (lv_entry av hn) va_S.rf (vx_table (x := y) B (atoms_spec (ws := Cond.codeWith y cc maxL ret hh :: ce_big) B.pre _ List.mem_cons_self))
def ce_yW (C : String) (y : MethodName) (bytes : ByteArray) (maxL : Nat) (ret : Option FieldType) (hh : List (Nat × Nat × Nat × Nat)) (n : Nat) : Prop := y.cls = C ∧ ce_yD y n ∧ Cond.codeWith y bytes maxL ret hh ∈ ce_big ∧ Cond.static y ∈ ce_big ∧ Cond.initialized C ∈ ce_big
section CELAW
variable {p : Program} {l : Launch} {e : Env} {R : Room} {s : State} {m : MethodId} {args : Array Value} {below : List Frame} {meth : Method} {c : Code} {H : Heap} {locs : List Loc} {cells slots : Nat} {Q : State → Prop}
variable {cc : ByteArray} {pc : Nat} {ls : Array Slot} {rest : List Value} {X : ce_X} {G : ce_G} {b : Nat} {M M' : ce_M} {tc mc ms : Nat}
theorem ce_iretW {v : Int32} (hx : p.tables.exec = Jvm.exec) (hb : c.code = cc) (hr : meth.sig.returnType = some .int) (hlocks : meth.locks = false) (hA : ce_Ar X b M H) (hS : va_S (ce_Ab b) s.heap H locs) (hc : cells ≤ mc) (hs : slots ≤ ms) (hd : decode cc pc = .ok (.ireturn, 1)) : W p l e R s m args below meth c H locs cells slots (MQ below (ce_Q X b M (some (.int v))) args s mc ms (ce_Ab b)) (F0 m pc ls [.int v]) :=
  W.widen hc hs (ce_iret hx hb hr hlocks hA hS hd)
variable {y : MethodName} {bytes : ByteArray} {maxL nL n index fr lo k : Nat} {ret : Option FieldType} {own C : String} {As : List Value} {lv : List (Nat × Value)} {hh : List (Nat × Nat × Nat × Nat)}
theorem ce_goodW {own : String} {index : Nat} (hy : ce_yW C y bytes maxL ret hh n) (hlk : Cond.methodLink own index y ∈ ce_big) : GoodIn ce_big (va_wsS own index y (Cond.codeWith y bytes maxL ret hh :: ce_big)) := ce_bigGood _ (fun w hw => by
  obtain ⟨h0, -, h1, h2, h3⟩ := hy
  unfold va_wsS at hw
  rcases List.mem_append.mp hw with hw | hw
  · simp only [List.mem_cons, List.not_mem_nil, or_false] at hw
    rcases hw with rfl | rfl | rfl
    · exact hlk
    · exact h2
    · rw [h0]; exact h3
  · rcases List.mem_cons.mp hw with rfl | hw
    · exact h1
    · exact hw)
theorem ce_afterW {rv : Option Value} {a : Array Value} {st0 st1 : List Value} (hr : va_Run p l e R s m args below meth c H locs cells slots mc ms (F0 m pc ls st0) rest (ce_Q X b M' rv a) (ce_Ab b)) (hst : rv.toList ++ rest = st1) (hS : va_S (ce_Ab b) s.heap H locs)
    (kk : ∀ (H1 : Heap) (locs1 : List Loc), ce_Ar X b M' H1 → va_S (ce_Ab b) s.heap H1 locs1 → W p l e R s m args below meth c H1 locs1 (cells + mc) (slots + ms) Q (F0 m (pc + 3) ls st1)) : W p l e R s m args below meth c H locs cells slots Q (F0 m pc ls st0) := by
  subst hst
  intro T hT Xs
  obtain ⟨v, st₀, t, T', L, h0, X', hL, e1, e2, ⟨hv, hA, hz, hk⟩, st⟩ := hr T hT Xs
  cases hv
  rw [h0] at hz hk
  obtain ⟨t2, a1, b1⟩ := kk T'.heap (locs ++ L) (by rw [e1]; exact hA)
    ⟨Nat.le_trans hS.1 (by rw [e1]; exact hz), fun q h1 h2 => by rw [e1, hk q (Nat.lt_of_lt_of_le h1 hS.1) h2]; exact hS.2.1 q h1 h2, fun q hq => by
      rcases List.mem_append.mp hq with h | h
      · exact hS.2.2 q h
      · exact hL q h⟩ T' rfl X'
  exact ⟨t2, st t2 a1, b1⟩
theorem ce_callWi {r : Int32} (hx : p.tables.exec = Jvm.exec) (hb : c.code = cc) (hml : c.maxLocals = nL) (hown : s.vm.findClass own = some m.cls) (hB : ∀ w ∈ ce_big, w.before args s = true) (hM : ce_CtW l y bytes maxL ret hh fr lo mc ms X G b As M (some (.int r)) M') (hy : ce_yW C y bytes maxL ret hh n) (hlk : Cond.methodLink own index y ∈ ce_big) (hR : fr + 1 ≤ R.frames ∧ 8 + (maxL + 11) + lo ≤ R.locals) (hF : ce_Fx X G b s) (hA : ce_Ar X b M H) (hS : va_S (ce_Ab b) s.heap H locs) (hl : lv_has ls nL lv) (hn : As.length = n) {st0 : List Value} (hstk : st0 = As.reverse ++ rest) (hW : (rest.map fun v => v.category).sum ≤ 8) (hdg : decode cc pc = .ok (.invokestatic index, 3)) (hf : cells + mc ≤ R.cells ∧ slots + ms ≤ R.slots)
    (kk : ∀ (H1 : Heap) (locs1 : List Loc), ce_Ar X b M' H1 → va_S (ce_Ab b) s.heap H1 locs1 → W p l e R s m args below meth c H1 locs1 (cells + mc) (slots + ms) Q (F0 m (pc + 3) ls (.int r :: rest))) : W p l e R s m args below meth c H locs cells slots Q (F0 m pc ls st0) :=
  ce_afterW (vx_runSW (Ts := ce_big) ⟨hx, hb, hml, hown, hB⟩ hM (vx_cwSW n hB (ce_goodW hy hlk) rfl rfl rfl hy.2.1 hR) ⟨ce_blind, fun U hU hWm => ⟨rfl, hF.next hS hU hWm, by rw [hU]; exact hA⟩⟩ rfl hn hl.1 hstk (lv_room hW) hdg hf) rfl hS kk
theorem ce_passed {a b2 d e2 : Nat} {E : String} {nm : String} (hB : ∀ w ∈ ce_big, w.before args s = true) (h0 : e2 ≠ 0) (hlk : Cond.classLink RL e2 nm ∈ ce_big) (hN : va_Nc E nm s) : (⟨a, b2, d, e2⟩ : ExceptionTableEntry).catchType ≠ 0 ∧ ∃ nm : String, (Cond.classLink RL (⟨a, b2, d, e2⟩ : ExceptionTableEntry).catchType nm).before args s = true ∧ va_Nc E nm s := ⟨h0, nm, hB _ hlk, hN⟩
end CELAW

theorem ce_lk15 : Cond.classLink RL 15 ce_IO ∈ ce_big := ce_b2i 7 rfl rfl
theorem ce_lk18 : Cond.classLink RL 18 ce_IA ∈ ce_big := ce_b2i 8 rfl rfl
theorem ce_lk21 : Cond.classLink RL 21 ce_IS ∈ ce_big := ce_b2i 9 rfl rfl
theorem ce_w246 : Cond.codeWith yL_joins cL_joins 5 (some .int) [(0, 7, 8, 15), (0, 7, 13, 18), (0, 7, 18, 21)] ∈ ce_big := ce_b2i 6 rfl rfl
theorem ce_w245 : Cond.static yL_joins ∈ ce_big := ce_b2i 5 rfl rfl
theorem ce_s_L_joins : ce_yW RL yL_joins cL_joins 5 (some .int) [(0, 7, 8, 15), (0, 7, 13, 18), (0, 7, 18, 21)] 4 := ⟨rfl, by decide +kernel, ce_w246, ce_w245, ce_w0⟩
theorem ce_w698 : Cond.codeWith yL_goes cL_goes 4 (some .int) [(0, 6, 7, 15), (0, 6, 11, 21)] ∈ ce_big := ce_b3i 218 rfl rfl
theorem ce_w697 : Cond.static yL_goes ∈ ce_big := ce_b3i 217 rfl rfl
theorem ce_s_L_goes : ce_yW RL yL_goes cL_goes 4 (some .int) [(0, 6, 7, 15), (0, 6, 11, 21)] 3 := ⟨rfl, by decide +kernel, ce_w698, ce_w697, ce_w0⟩
theorem ce_w705 : Cond.codeWith yL_quits cL_quits 3 (some .int) [(0, 5, 6, 15), (0, 5, 10, 21)] ∈ ce_big := ce_b3i 225 rfl rfl
theorem ce_w704 : Cond.static yL_quits ∈ ce_big := ce_b3i 224 rfl rfl
theorem ce_s_L_quits : ce_yW RL yL_quits cL_quits 3 (some .int) [(0, 5, 6, 15), (0, 5, 10, 21)] 2 := ⟨rfl, by decide +kernel, ce_w705, ce_w704, ce_w0⟩
theorem ce_w712 : Cond.codeWith yL_levels cL_levels 4 (some .int) [(0, 6, 7, 15), (0, 6, 11, 18)] ∈ ce_big := ce_b3i 232 rfl rfl
theorem ce_w711 : Cond.static yL_levels ∈ ce_big := ce_b3i 231 rfl rfl
theorem ce_s_L_levels : ce_yW RL yL_levels cL_levels 4 (some .int) [(0, 6, 7, 15), (0, 6, 11, 18)] 3 := ⟨rfl, by decide +kernel, ce_w712, ce_w711, ce_w0⟩
theorem ce_w560 : Cond.codeWith yL_sets cL_sets 4 (some .int) [(0, 6, 7, 18)] ∈ ce_big := ce_b3i 80 rfl rfl
theorem ce_w559 : Cond.static yL_sets ∈ ce_big := ce_b3i 79 rfl rfl
theorem ce_s_L_sets : ce_yW RL yL_sets cL_sets 4 (some .int) [(0, 6, 7, 18)] 3 := ⟨rfl, by decide +kernel, ce_w560, ce_w559, ce_w0⟩
theorem ce_w567 : Cond.codeWith yL_sends cL_sends 5 (some .int) [(0, 7, 8, 15), (0, 7, 13, 18), (0, 7, 18, 21)] ∈ ce_big := ce_b3i 87 rfl rfl
theorem ce_w566 : Cond.static yL_sends ∈ ce_big := ce_b3i 86 rfl rfl
theorem ce_s_L_sends : ce_yW RL yL_sends cL_sends 5 (some .int) [(0, 7, 8, 15), (0, 7, 13, 18), (0, 7, 18, 21)] 4 := ⟨rfl, by decide +kernel, ce_w567, ce_w566, ce_w0⟩
theorem ce_w574 : Cond.codeWith yL_passes cL_passes 3 (some .int) [(0, 5, 6, 18), (0, 5, 10, 21)] ∈ ce_big := ce_b3i 94 rfl rfl
theorem ce_w573 : Cond.static yL_passes ∈ ce_big := ce_b3i 93 rfl rfl
theorem ce_s_L_passes : ce_yW RL yL_passes cL_passes 3 (some .int) [(0, 5, 6, 18), (0, 5, 10, 21)] 2 := ⟨rfl, by decide +kernel, ce_w574, ce_w573, ce_w0⟩
theorem ce_w621 : Cond.codeWith yL_one cL_one 4 (some .int) [(0, 6, 7, 15), (0, 6, 11, 18)] ∈ ce_big := ce_b3i 141 rfl rfl
theorem ce_w620 : Cond.static yL_one ∈ ce_big := ce_b3i 140 rfl rfl
theorem ce_s_L_one : ce_yW RL yL_one cL_one 4 (some .int) [(0, 6, 7, 15), (0, 6, 11, 18)] 3 := ⟨rfl, by decide +kernel, ce_w621, ce_w620, ce_w0⟩
theorem ce_w630 : Cond.codeWith yL_stay cL_stay 5 (some .int) [(0, 7, 8, 15), (0, 7, 13, 18)] ∈ ce_big := ce_b3i 150 rfl rfl
theorem ce_w629 : Cond.static yL_stay ∈ ce_big := ce_b3i 149 rfl rfl
theorem ce_s_L_stay : ce_yW RL yL_stay cL_stay 5 (some .int) [(0, 7, 8, 15), (0, 7, 13, 18)] 4 := ⟨rfl, by decide +kernel, ce_w630, ce_w629, ce_w0⟩
theorem ce_w641 : Cond.codeWith yL_box cL_box 4 (some .int) [(0, 6, 7, 15), (0, 6, 11, 18)] ∈ ce_big := ce_b3i 161 rfl rfl
theorem ce_w640 : Cond.static yL_box ∈ ce_big := ce_b3i 160 rfl rfl
theorem ce_s_L_box : ce_yW RL yL_box cL_box 4 (some .int) [(0, 6, 7, 15), (0, 6, 11, 18)] 3 := ⟨rfl, by decide +kernel, ce_w641, ce_w640, ce_w0⟩
theorem ce_w649 : Cond.codeWith yL_event cL_event 4 (some .int) [(0, 6, 7, 15), (0, 6, 11, 18)] ∈ ce_big := ce_b3i 169 rfl rfl
theorem ce_w648 : Cond.static yL_event ∈ ce_big := ce_b3i 168 rfl rfl
theorem ce_s_L_event : ce_yW RL yL_event cL_event 4 (some .int) [(0, 6, 7, 15), (0, 6, 11, 18)] 3 := ⟨rfl, by decide +kernel, ce_w649, ce_w648, ce_w0⟩
theorem ce_w672 : Cond.codeWith yL_leaf cL_leaf 4 (some .int) [(0, 6, 7, 15), (0, 6, 11, 18)] ∈ ce_big := ce_b3i 192 rfl rfl
theorem ce_w671 : Cond.static yL_leaf ∈ ce_big := ce_b3i 191 rfl rfl
theorem ce_s_L_leaf : ce_yW RL yL_leaf cL_leaf 4 (some .int) [(0, 6, 7, 15), (0, 6, 11, 18)] 3 := ⟨rfl, by decide +kernel, ce_w672, ce_w671, ce_w0⟩
theorem ce_w581 : Cond.codeWith yL_whole cL_whole 3 (some .int) [(0, 5, 6, 18)] ∈ ce_big := ce_b3i 101 rfl rfl
theorem ce_w580 : Cond.static yL_whole ∈ ce_big := ce_b3i 100 rfl rfl
theorem ce_s_L_whole : ce_yW RL yL_whole cL_whole 3 (some .int) [(0, 5, 6, 18)] 2 := ⟨rfl, by decide +kernel, ce_w581, ce_w580, ce_w0⟩
theorem ce_w719 : Cond.codeWith yL_would cL_would 5 (some .int) [(0, 7, 8, 15), (0, 7, 13, 18)] ∈ ce_big := ce_b3i 239 rfl rfl
theorem ce_w718 : Cond.static yL_would ∈ ce_big := ce_b3i 238 rfl rfl
theorem ce_s_L_would : ce_yW RL yL_would cL_would 5 (some .int) [(0, 7, 8, 15), (0, 7, 13, 18)] 4 := ⟨rfl, by decide +kernel, ce_w719, ce_w718, ce_w0⟩
theorem ce_w728 : Cond.codeWith yL_why cL_why 5 (some .int) [(0, 7, 8, 15), (0, 7, 13, 18)] ∈ ce_big := ce_b4i 8 rfl rfl
theorem ce_w727 : Cond.static yL_why ∈ ce_big := ce_b4i 7 rfl rfl
theorem ce_s_L_why : ce_yW RL yL_why cL_why 5 (some .int) [(0, 7, 8, 15), (0, 7, 13, 18)] 4 := ⟨rfl, by decide +kernel, ce_w728, ce_w727, ce_w0⟩
theorem ce_w740 : Cond.codeWith yL_served cL_served 3 (some .int) [(0, 5, 6, 15)] ∈ ce_big := ce_b4i 20 rfl rfl
theorem ce_w739 : Cond.static yL_served ∈ ce_big := ce_b4i 19 rfl rfl
theorem ce_s_L_served : ce_yW RL yL_served cL_served 3 (some .int) [(0, 5, 6, 15)] 2 := ⟨rfl, by decide +kernel, ce_w740, ce_w739, ce_w0⟩
theorem ce_w755 : Cond.codeWith yL_empty cL_empty 3 (some .int) [(0, 5, 6, 15)] ∈ ce_big := ce_b4i 35 rfl rfl
theorem ce_w754 : Cond.static yL_empty ∈ ce_big := ce_b4i 34 rfl rfl
theorem ce_s_L_empty : ce_yW RL yL_empty cL_empty 3 (some .int) [(0, 5, 6, 15)] 2 := ⟨rfl, by decide +kernel, ce_w755, ce_w754, ce_w0⟩
theorem ce_w767 : Cond.codeWith yL_covers cL_covers 3 (some .int) [(0, 5, 6, 15)] ∈ ce_big := ce_b4i 47 rfl rfl
theorem ce_w766 : Cond.static yL_covers ∈ ce_big := ce_b4i 46 rfl rfl
theorem ce_s_L_covers : ce_yW RL yL_covers cL_covers 3 (some .int) [(0, 5, 6, 15)] 2 := ⟨rfl, by decide +kernel, ce_w767, ce_w766, ce_w0⟩
theorem ce_w778 : Cond.codeWith yL_types cL_types 3 (some .int) [(0, 5, 6, 18), (0, 5, 10, 21)] ∈ ce_big := ce_b4i 58 rfl rfl
theorem ce_w777 : Cond.static yL_types ∈ ce_big := ce_b4i 57 rfl rfl
theorem ce_s_L_types : ce_yW RL yL_types cL_types 3 (some .int) [(0, 5, 6, 18), (0, 5, 10, 21)] 2 := ⟨rfl, by decide +kernel, ce_w778, ce_w777, ce_w0⟩
theorem ce_w605 : Cond.codeWith yL_back cL_back 2 (some .int) [(0, 4, 5, 21)] ∈ ce_big := ce_b3i 125 rfl rfl
theorem ce_w604 : Cond.static yL_back ∈ ce_big := ce_b3i 124 rfl rfl
theorem ce_s_L_back : ce_yW RL yL_back cL_back 2 (some .int) [(0, 4, 5, 21)] 1 := ⟨rfl, by decide +kernel, ce_w605, ce_w604, ce_w0⟩
