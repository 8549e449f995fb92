/-! CONSTRUCTORS: the arena grows; f is what the cells hold, from k on, n cells in all -/
def ce_M0 : ce_M := (fun k j => if ce_kd k = 20 then ([3, 2, 2, 8] : List Int32).getD j 0 else 0, fun _ => 0)
theorem ce_rd_M0 (k j : Nat) : ce_rd ce_M0 k j = if ce_kd k = 20 then ([3, 2, 2, 8] : List Int32).getD j 0 else 0 := rfl
theorem ce_rl_M0 (k : Nat) : ce_rl ce_M0 k = 0 := rfl
def ce_Cr (X : ce_X) (b k n : Nat) (f : Nat → va_E) (H : Heap) : Prop := H.size = b + n ∧ ∀ j, k ≤ j → j < n → va_at X.1 vwCl (b + j, f j) H
theorem ce_Cr.push {X : ce_X} {b k n : Nat} {f : Nat → va_E} {H H1 : Heap} {e : va_E} (h : ce_Cr X b k n f H) (hz : H1.size = b + n + 1) (hq : ∀ q : Nat, q < b + n → H1[q]? = H[q]?) (he : va_at X.1 vwCl (b + n, e) H1) : ce_Cr X b k (n + 1) (va_up f n e) H1 := by
  refine ⟨by omega, fun j h1 h2 => ?_⟩
  by_cases hj : j = n
  · subst hj
    show va_at X.1 vwCl (b + j, if j = j then e else f j) H1
    rw [if_pos rfl]
    exact he
  · show va_at X.1 vwCl (b + j, if j = n then e else f j) H1
    rw [if_neg hj]
    exact (h.2 j h1 (by omega)).kept (hq _ (by show b + j < b + n; omega))
theorem ce_Cr.set {X : ce_X} {b k n j0 : Nat} {f : Nat → va_E} {H H1 : Heap} {e : va_E} (h : ce_Cr X b k n f H) (hz : H1.size = H.size) (oq : ∀ q : Nat, q ≠ b + j0 → H1[q]? = H[q]?) (he : va_at X.1 vwCl (b + j0, e) H1) : ce_Cr X b k n (va_up f j0 e) H1 := by
  refine ⟨by rw [hz]; exact h.1, fun j h1 h2 => ?_⟩
  by_cases hj : j = j0
  · subst hj
    show va_at X.1 vwCl (b + j, if j = j then e else f j) H1
    rw [if_pos rfl]
    exact he
  · show va_at X.1 vwCl (b + j, if j = j0 then e else f j) H1
    rw [if_neg hj]
    exact (h.2 j h1 h2).kept (oq _ (by show b + j ≠ b + j0; omega))
def ce_FI (X : ce_X) (G : ce_G) (b : Nat) (U : State) : Prop := ce_Fx X G b U ∧ va_AO "CellEvents$Subscriber" U ∧ va_AO "CellEvents$World" U
theorem ce_FI.next {X : ce_X} {G : ce_G} {b k : Nat} {s U : State} {H : Heap} {locs : List Loc} (h : ce_FI X G b s) (hS : va_S (ce_Au (b + k)) s.heap H locs) (hU : U.heap = H) (hW : s.WarmedH U.vm) : ce_FI X G b U :=
  ⟨h.1.nextQ (fun q h1 h2 => by rw [hU]; exact hS.2.1 q h1 (fun h3 => h2 (by have h3 : b + k ≤ q := h3; show b ≤ q; omega))) hW, h.2.1.moved hW.alike, h.2.2.moved hW.alike⟩
def ce_InI (X : ce_X) (G : ce_G) (b k : Nat) (e : va_E) (U : State) : Prop := ce_FI X G b U ∧ U.heap.size = b + (k + 1) ∧ va_at X.1 vwCl (b + k, e) U.heap
def ce_QI (X : ce_X) (b k sz : Nat) : Array Value → State → Outcome → State → Prop := fun _ st oc t => oc = .returned none ∧ t.heap.size = b + (k + sz) ∧ (∀ j, k ≤ j → j < k + sz → va_at X.1 vwCl (b + j, ce_ent X b (ce_kd j) j ce_M0) t.heap) ∧ va_F (ce_Au (b + k)) st t
def ce_CtI (l : Launch) (y : MethodName) (cc : ByteArray) (maxL fr lo mc ms : Nat) (X : ce_X) (G : ce_G) (b k sz : Nat) (e : va_E) : Prop :=
  Met l y (Cond.code y cc maxL none :: ce_big) (ce_R fr lo mc ms) (va_Pc [.ref (b + k)] (ce_InI X G b k e)) (ce_QI X b k sz) mc ms (ce_Au (b + k))
theorem ce_blindI {X : ce_X} {G : ce_G} {b k : Nat} {e : va_E} {av : List Value} : FrameBlind (va_Pc av (ce_InI X G b k e)) := fun _ U g mk q => ⟨q.1, ⟨q.2.1.1.calling g mk _, q.2.1.2.1.moved (Vm.Alike.refl U.vm), q.2.1.2.2.moved (Vm.Alike.refl U.vm)⟩, q.2.2⟩
theorem ce_ofWI {l : Launch} {y : MethodName} {fr lo mc ms : Nat} {X : ce_X} {G : ce_G} {b k sz : Nat} {en : va_E} {cc : ByteArray} {maxL : Nat} {own : String} (hy : plainName y.cls = true) (hown : y.cls = own) (hname : y.name = "<init>") (hn : 1 ≤ maxL)
    (body : ∀ (p : Program) (e : Env) (s : State) (m : MethodId) (below : List Frame) (meth : Method) (c : Code) (ls : Array Slot), p.tables.exec = Jvm.exec → c.code = cc → meth.sig.returnType = none → meth.locks = false → meth.name = "<init>" → c.maxLocals = maxL → s.vm.findClass own = some m.cls → (∀ w ∈ ce_big, w.before #[Value.ref (b + k)] s = true) → ce_FI X G b s → ce_Cr X b k (k + 1) (fun _ => en) s.heap → lv_has ls maxL [(0, .ref (b + k))] → va_S (ce_Au (b + k)) s.heap s.heap [] →
      W p l e (ce_R fr lo mc ms) s m #[Value.ref (b + k)] below meth c s.heap [] 0 0 (MQ below (ce_QI X b k sz) #[Value.ref (b + k)] s mc ms (ce_Au (b + k))) (F0 m 0 ls [])) : ce_CtI l y cc maxL fr lo mc ms X G b k sz en := by
  refine Met.ofW (cc := cc) (maxL := maxL) (ret := none) hy rfl ?_
  intro p e s m args below meth c s₁ B hml hv
  obtain ⟨rfl, hF, hz, ha⟩ := hv
  rw [lg_entry_eq]
  exact body p e s m below meth c _ B.exec B.bytes B.returns B.notSynchronized ((name_of_methodNamed B.named B.method).1.trans hname) hml (by rw [← hown]; exact findClass_of_methodNamed B.named) (fun w hw => atoms_spec (ws := Cond.code y cc maxL none :: ce_big) B.pre w (List.mem_cons_of_mem _ hw)) hF ⟨hz, fun j h1 h2 => by cases (show j = k by omega); exact ha⟩ (lv_entry [.ref (b + k)] hn) va_S.rf
section CECT
variable {p : Program} {l : Launch} {e : Env} {R : Room} {s : State} {m : MethodId} {args : Array Value} {below : List Frame} {meth : Method} {c : Code} {H : Heap} {locs : List Loc} {cells slots : Nat} {Q : State → Prop}
variable {cc : ByteArray} {pc : Nat} {ls : Array Slot} {rest : List Value} {X : ce_X} {G : ce_G} {b k n : Nat} {f : Nat → va_E} {mc ms : Nat}
theorem ce_iendI {sz : Nat} (hx : p.tables.exec = Jvm.exec) (hb : c.code = cc) (hr : meth.sig.returnType = none) (hlocks : meth.locks = false) (hC : ce_Cr X b k (k + sz) f H) (hf : ∀ j, k ≤ j → j < k + sz → f j = ce_ent X b (ce_kd j) j ce_M0) (hS : va_S (ce_Au (b + k)) s.heap H locs) (hc : cells ≤ mc) (hs : slots ≤ ms) (hd : decode cc pc = .ok (.return_, 1)) : W p l e R s m args below meth c H locs cells slots (MQ below (ce_QI X b k sz) args s mc ms (ce_Au (b + k))) (F0 m pc ls []) :=
  W.widen hc hs (W.vret hx hb hr (fun t ht hW => ⟨rfl, by rw [ht]; exact hC.1, fun j h1 h2 => by rw [ht, ← hf j h1 h2]; exact hC.2 j h1 h2, hS.F ht⟩) hS.2.2 hd hlocks)
theorem ce_objI {nL : Nat} {lv : List (Nat × Value)} {own : String} {index a : Nat} (hx : p.tables.exec = Jvm.exec) (hb : c.code = cc) (hml : c.maxLocals = nL) (hl : lv_has ls nL lv) (hown : s.vm.findClass own = some m.cls) (hB : ∀ w ∈ ce_big, w.before args s = true) (hlk : Cond.methodLink own index objectInit ∈ ce_big) (hi : Cond.instanceMethod objectInit ∈ ce_big) (hc : Cond.code objectInit ⟨#[0xb1]⟩ 1 none ∈ ce_big) (hd : decode cc pc = .ok (.invokespecial index, 3)) (hR : 1 ≤ R.frames ∧ 12 ≤ R.locals)
    (kk : W p l e R s m args below meth c H locs cells slots Q (F0 m (pc + 3) ls [])) : W p l e R s m args below meth c H locs cells slots Q (F0 m pc ls [.ref a]) :=
  W.objInit hx hb hown (hB _ hlk) (hB _ hi) (hB _ hc) rfl (hl.1.trans hml.symm) rfl hd hR.1 (by simpa using hR.2) kk
theorem ce_newI {own C : String} {T : u_T} {N ci index : Nat} (hx : p.tables.exec = Jvm.exec) (hb : c.code = cc) (hB : ∀ w ∈ ce_big, w.before args s = true) (hin : ∀ w ∈ u_ws C T N, w ∈ ce_big) (ty : Nat → FieldType) (hty : ∀ k, k < N → parseFieldDescriptor (T k).2.2.1 = some (ty k)) (hown : s.vm.findClass own = some m.cls) (hlk : Cond.classLink own index C ∈ ce_big) (hins : Cond.instantiable C N ∈ ce_big) (hini : Cond.initialized C ∈ ce_big) (hK : va_K X.1 vwCl (ce_tys X) s) (hc : vwCl[ci]? = some (C, T, N)) {fs : List Value} (hfs : ∀ j, j < N → defaultValue (ty j) = vp_V fs j) (hC : ce_Cr X b k n f H) (hS : va_S (ce_Au (b + k)) s.heap H locs) (hcells : cells + 1 ≤ R.cells) (hslots : slots + N ≤ R.slots) (hdg : decode cc pc = .ok (.new index, 3))
    (kk : ∀ (H1 : Heap), ce_Cr X b k (n + 1) (va_up f n (.inr (ci, fs))) H1 → va_S (ce_Au (b + k)) s.heap H1 locs → W p l e R s m args below meth c H1 locs (cells + 1) (slots + N) Q (F0 m (pc + 3) ls (.ref (b + n) :: rest))) : W p l e R s m args below meth c H locs cells slots Q (F0 m pc ls rest) := by
  have hKn := hK.1 ci _ hc
  refine W.newcK hx hb hown (hB _ hlk) (hB _ hins) (hB _ hini) rfl hdg hcells hslots hKn.2.1 hC.1 fun H1 kC hkC e1 z1 o1 => ?_
  have hs : H.size = b + n := hC.1
  exact kk H1 (hC.push z1 o1 ⟨_, hc, (u_born ty hB hin hKn hkC e1 hty).to hfs⟩) ⟨Nat.le_trans hS.1 (by omega), fun x h1 h2 => (o1 x (by have := hS.1; omega)).trans (hS.2.1 x h1 h2), hS.2.2⟩
theorem ce_newaI {z : Int32} (N : Nat) (hx : p.tables.exec = Jvm.exec) (hb : c.code = cc) (hB : ∀ w ∈ ce_big, w.before args s = true) (harr : Cond.arrayClass .int ∈ ce_big) (hK : va_K X.1 vwCl (ce_tys X) s) (hC : ce_Cr X b k n f H) (hS : va_S (ce_Au (b + k)) s.heap H locs) (hz : ¬ z < 0) (hN : z.toNatClampNeg = N) (hbytes : N * componentBytes .int ≤ 536870912) (hcells : cells + 1 ≤ R.cells) (hslots : slots + N ≤ R.slots) (hdg : decode cc pc = .ok (.newarray .int, 2))
    (kk : ∀ (H1 : Heap), ce_Cr X b k (n + 1) (va_up f n (.inl (X.2.1, N, .inl (fun _ => 0)))) H1 → va_S (ce_Au (b + k)) s.heap H1 locs → W p l e R s m args below meth c H1 locs (cells + 1) (slots + N) Q (F0 m (pc + 2) ls (.ref (b + n) :: rest))) : W p l e R s m args below meth c H locs cells slots Q (F0 m pc ls (.int z :: rest)) := by
  refine va_newaK (atype := .int) hx hb (hB _ harr) rfl hdg rfl hz hN hbytes hcells hslots hC.1 fun H1 cA e1 z1 o1 hAr hNm => ?_
  have hs : H.size = b + n := hC.1
  have hA : cA = X.2.1 := Option.some.inj (hNm.symm.trans (va_nm_int (hK.2 0 _ rfl).2))
  subst hA
  exact kk H1 (hC.push z1 o1 e1) ⟨Nat.le_trans hS.1 (by omega), fun x h1 h2 => (o1 x (by have := hS.1; omega)).trans (hS.2.1 x h1 h2), hS.2.2⟩
theorem ce_newqI {z : Int32} {own C : String} {index : Nat} {cQ : ClassId} (N : Nat) (hx : p.tables.exec = Jvm.exec) (hb : c.code = cc) (hB : ∀ w ∈ ce_big, w.before args s = true) (hown : s.vm.findClass own = some m.cls) (hlk : Cond.classLink own index C ∈ ce_big) (hO : va_AO C s) (hRA : va_RA s cQ (.object C)) (hC : ce_Cr X b k n f H) (hS : va_S (ce_Au (b + k)) s.heap H locs) (hz : ¬ z < 0) (hN : z.toNatClampNeg = N) (hbytes : N * 4 ≤ 536870912) (hcells : cells + 1 ≤ R.cells) (hslots : slots + N ≤ R.slots) (hdg : decode cc pc = .ok (.anewarray index, 3))
    (kk : ∀ (H1 : Heap), ce_Cr X b k (n + 1) (va_up f n (.inl (cQ, N, .inr (.inr (.inr (.inr (fun _ => none))))))) H1 → va_S (ce_Au (b + k)) s.heap H1 locs → W p l e R s m args below meth c H1 locs (cells + 1) (slots + N) Q (F0 m (pc + 3) ls (.ref (b + n) :: rest))) : W p l e R s m args below meth c H locs cells slots Q (F0 m pc ls (.int z :: rest)) := by
  subst hN
  refine W.anew hx hb hown (hB _ hlk) (va_AO.use hO) rfl hdg rfl hz hbytes hcells hslots fun cA kA comp f1 f2 f3 f4 => ?_
  obtain ⟨kA', comp', k1, k2, k3, k4⟩ := hRA
  have hA : cA = cQ := Option.some.inj (f1.symm.trans k4)
  subst hA
  have hs : H.size = b + n := hC.1
  generalize hH1 : H.push ({ cls := cA, slots := Array.replicate z.toNatClampNeg .null, vm := .none } : Cell) = H1
  have z1 : H1.size = b + n + 1 := by rw [← hH1, Array.size_push, hs]
  have e1 : H1[b + n]? = some (arrV cA z.toNatClampNeg (fun _ => .null)) := by rw [← hs, ← hH1, Array.getElem?_push_size, ← arrV_new]
  have o1 : ∀ q : Nat, q < b + n → H1[q]? = H[q]? := fun q hq => by rw [← hH1, Array.getElem?_push, if_neg (by omega)]
  rw [hs]
  exact kk H1 (hC.push z1 o1 e1) ⟨Nat.le_trans hS.1 (by omega), fun x h1 h2 => (o1 x (by have := hS.1; omega)).trans (hS.2.1 x h1 h2), hS.2.2⟩
/-- a final field of the object in the making -/
theorem ce_putI {own : String} {T : u_T} {N ci index a : Nat} (hx : p.tables.exec = Jvm.exec) (hb : c.code = cc) (hB : ∀ w ∈ ce_big, w.before args s = true) (hin : ∀ w ∈ u_ws own T N, w ∈ ce_big) (ty0 : Nat → FieldType) (hty : ∀ k, k < N → parseFieldDescriptor (T k).2.2.1 = some (ty0 k)) (hnm : ∀ a, a < N → ∀ b, b < N → a ≠ b → (T a).2.1 ≠ (T b).2.1) (hown : s.vm.findClass own = some m.cls) (hname : meth.name = "<init>") (hK : va_K X.1 vwCl (ce_tys X) s) (hC : ce_Cr X b k n f H) (hS : va_S (ce_Au (b + k)) s.heap H locs) (j0 : Nat) (h0 : k ≤ j0) (h1 : j0 < n) {fs : List Value} (he : f j0 = .inr (ci, fs)) (hc : vwCl[ci]? = some (own, T, N)) (j : Nat) (hj : j < N) (hT : (T j).1 = own) (hlink : Cond.fieldLink own index own (T j).2.1 (T j).2.2.1 ∈ ce_big) (hfin : (T j).2.2.2 = true) {ty : FieldType} (hd : parseFieldDescriptor (T j).2.2.1 = some ty) (hn : narrow ty (.ref a) = .ref a) (hfit : fits ty (.ref a) = true) (hl : j < fs.length)
    (hdg : decode cc pc = .ok (.putfield index, 3))
    (kk : ∀ (H1 : Heap) (locs1 : List Loc), ce_Cr X b k n (va_up f j0 (.inr (ci, fs.set j (.ref a)))) H1 → va_S (ce_Au (b + k)) s.heap H1 locs1 → W p l e R s m args below meth c H1 locs1 cells slots Q (F0 m (pc + 3) ls rest)) : W p l e R s m args below meth c H locs cells slots Q (F0 m pc ls (.ref a :: .ref (b + j0) :: rest)) := by
  have hap := va_apart (own := own) hB hin ty0 hty hnm hK hc
  have hat := hC.2 j0 h0 h1
  rw [he] at hat
  obtain ⟨r, h1', cell, q1, q2, q3, q4⟩ := hat
  have hr : r = (own, T, N) := Option.some.inj (h1'.symm.trans hc)
  subst hr
  obtain ⟨hSl, hfc, kC, hkC, hkind⟩ := hK.1 ci _ hc
  obtain ⟨cf, kf, fi, fl, hi, hsl⟩ := hSl j hj
  have hlay := hB _ (hin _ (u_in_lay hj))
  unfold u_lay at hlay
  rw [if_pos hfin] at hlay
  have hst := (u_facts hfc hkC (u_lays hB hin hj) hi).1
  have hcf : m.cls = cf := by
    obtain ⟨_, _, c', _, _, _, -, -, hf', -, -, -, hown2, -⟩ := Cond.laysFinal_spec hlay
    have e1 : c' = cf := by have := hi.symm.trans hf'; simp at this; exact this.1.symm
    rw [hT] at hown2
    rw [← e1]; exact Option.some.inj (hown.symm.trans hown2)
  have h6 := u_fits hfc hkC hkind (Or.inr hlay) hi hd hn hfit
  refine W.putFinK hx hb hown (hB _ hlink) (by rw [hT] at hi; exact hi) hst hcf hname (by rw [q2]; exact h6) q1 q3 (by rw [hsl]; exact k2_hasslot (q4 j hj)) rfl rfl hdg fun H' e1 e2 e3 => ?_
  rw [hsl] at e1 ⊢
  exact kk H' _ (hC.set e2 e3 ⟨_, hc, t_OB.to (V := updV (vp_V fs) j (.ref a)) ⟨_, e1, q2, q3, t_set q4 hap hj (.ref a)⟩ (fun i _ => vp_updV_set hl (.ref a) i)⟩) (hS.put e2 e3 (by show b + k ≤ b + j0; omega))
theorem ce_iastI {i x : Int32} {N : Nat} {g : Nat → Int32} (hx : p.tables.exec = Jvm.exec) (hb : c.code = cc) (hK : va_K X.1 vwCl (ce_tys X) s) (hC : ce_Cr X b k n f H) (hS : va_S (ce_Au (b + k)) s.heap H locs) (j0 : Nat) (h0 : k ≤ j0) (h1 : j0 < n) (he : f j0 = .inl (X.2.1, N, .inl g)) (hin : vp_in i N) (hdg : decode cc pc = .ok (.iastore, 1))
    (kk : ∀ (H1 : Heap) (locs1 : List Loc), ce_Cr X b k n (va_up f j0 (.inl (X.2.1, N, .inl (upd g i.toNatClampNeg x)))) H1 → va_S (ce_Au (b + k)) s.heap H1 locs1 → W p l e R s m args below meth c H1 locs1 cells slots Q (F0 m (pc + 1) ls rest)) : W p l e R s m args below meth c H locs cells slots Q (F0 m pc ls (.int x :: .int i :: .ref (b + j0) :: rest)) := by
  have hat := hC.2 j0 h0 h1
  rw [he] at hat
  refine W.iast hx hb hat ((hK.2 0 _ rfl).1 N (fun j => .int (g j))) (fun q => by cases q) (by show ¬ (i < 0 ∨ (arrV _ _ _).slots.size ≤ _); rw [arrV_size]; exact hin) rfl rfl hdg fun H1 e z oq => ?_
  refine kk H1 _ (hC.set z oq ?_) (hS.put z oq (by show b + k ≤ b + j0; omega))
  show H1[b + j0]? = some (vp_cell _ _)
  rw [e]
  rw [vp_cell_i, vp_cell_i, arrV_store]
  congr 2
  funext q
  by_cases hq : q = i.toNatClampNeg
  · subst hq
    simp [updV, upd]
  · simp [updV, upd, hq]
theorem ce_aastI {i : Int32} {N v ci : Nat} {g : Nat → Option Nat} {cQ : ClassId} {r : vw_C} {fs : List Value} (t0 : Nat) (hx : p.tables.exec = Jvm.exec) (hb : c.code = cc) (hK : va_K X.1 vwCl (ce_tys X) s) (ht : (ce_tys X)[t0]? = some (cQ, .object r.1)) (hc : vwCl[ci]? = some r) (hC : ce_Cr X b k n f H) (hS : va_S (ce_Au (b + k)) s.heap H locs) (j0 : Nat) (h0 : k ≤ j0) (h1 : j0 < n) (he : f j0 = .inl (cQ, N, .inr (.inr (.inr (.inr g))))) (hv0 : k ≤ v) (hv1 : v < n) (hev : f v = .inr (ci, fs)) (hin : vp_in i N) (hdg : decode cc pc = .ok (.aastore, 1))
    (kk : ∀ (H1 : Heap) (locs1 : List Loc), ce_Cr X b k n (va_up f j0 (.inl (cQ, N, .inr (.inr (.inr (.inr (va_up g i.toNatClampNeg (some (b + v)))))))) ) H1 → va_S (ce_Au (b + k)) s.heap H1 locs1 → W p l e R s m args below meth c H1 locs1 cells slots Q (F0 m (pc + 1) ls rest)) : W p l e R s m args below meth c H locs cells slots Q (F0 m pc ls (.ref (b + v) :: .int i :: .ref (b + j0) :: rest)) := by
  have hlt : i.toNatClampNeg < N := Nat.not_le.mp fun q => hin (Or.inr q)
  have h00 : ¬ i < 0 := fun q => hin (Or.inl q)
  have hat := hC.2 j0 h0 h1
  rw [he] at hat
  have hav := hC.2 v hv0 hv1
  rw [hev] at hav
  obtain ⟨r', hr', cellV, g1, g2, g3, -⟩ := hav
  have hcls := (hK.1 ci r hc).2
  obtain ⟨kA, comp, k1, k2, k3, -⟩ := (hK.2 t0 _ ht).2
  have hcomp : comp = X.1.1 ci := Option.some.inj (k3.symm.trans hcls.1)
  subst hcomp
  obtain ⟨kC, hkC, -⟩ := hcls.2
  refine W.aast hx hb hat (fun q h => by cases h) (fun h => by cases h) k1 k2 rfl hkC ⟨h00, by show _ < (arrV _ _ _).slots.size; rw [arrV_size]; exact hlt⟩ g1 (fun q h => by rw [g3] at h; cases h) (by rw [g2]; exact hkC) (by rw [g2]; exact va_assign hcls) rfl rfl hdg fun H1 e z oq => ?_
  refine kk H1 _ (hC.set z oq ?_) (hS.put z oq (by show b + k ≤ b + j0; omega))
  show H1[b + j0]? = some (vp_cell _ _)
  rw [e]
  rw [vp_cell_q, vp_cell_q, arrV_store]
  congr 2
  funext q
  by_cases hq : q = i.toNatClampNeg
  · subst hq
    simp [updV, va_up, va_rf]
  · simp [updV, va_up, hq]
theorem ce_getI {own C : String} {T : u_T} {N ci index a : Nat} (hx : p.tables.exec = Jvm.exec) (hb : c.code = cc) (hB : ∀ w ∈ ce_big, w.before args s = true) (hin : ∀ w ∈ u_ws C T N, w ∈ ce_big) (hown : s.vm.findClass own = some m.cls) (hK : va_K X.1 vwCl (ce_tys X) s) (hC : ce_Cr X b k n f H) (j0 : Nat) (h0 : k ≤ j0) (h1 : j0 < n) {fs : List Value} (he : f j0 = .inr (ci, fs)) (hc : vwCl[ci]? = some (C, T, N)) (j : Nat) (hj : j < N) (hT : (T j).1 = C) (hlink : Cond.fieldLink own index C (T j).2.1 (T j).2.2.1 ∈ ce_big) (hv : fs[j]? = some (.ref a)) (hdg : decode cc pc = .ok (.getfield index, 3))
    (kk : W p l e R s m args below meth c H locs cells slots Q (F0 m (pc + 3) ls (.ref a :: rest))) : W p l e R s m args below meth c H locs cells slots Q (F0 m pc ls (.ref (b + j0) :: rest)) :=
  va_get hx hb hB hin hown hK (ce_P1 (q := (b + j0, .inr (ci, fs))) (by have h := hC.2 j0 h0 h1; rw [he] at h; exact h)) 0 rfl hc j hj (hB _ hlink) (fun x h => by rw [hT] at h; exact h) hv hdg kk
/-- behind a constructor: its cells are as new ones are -/
theorem ce_afterI {y : MethodName} {a : Array Value} {v sz : Nat} (hr : va_Run p l e R s m args below meth c H locs cells slots mc ms (F0 m pc ls (.ref (b + v) :: rest)) rest (ce_QI X b v sz a) (ce_Au (b + v))) (hC : ce_Cr X b k (v + 1) f H) (hkv : k ≤ v) (hS : va_S (ce_Au (b + k)) s.heap H locs)
    (kk : ∀ (H1 : Heap) (locs1 : List Loc), ce_Cr X b k (v + sz) (fun j => if j < v then f j else ce_ent X b (ce_kd j) j ce_M0) H1 → va_S (ce_Au (b + k)) s.heap H1 locs1 → W p l e R s m args below meth c H1 locs1 (cells + mc) (slots + ms) Q (F0 m (pc + 3) ls rest)) : W p l e R s m args below meth c H locs cells slots Q (F0 m pc ls (.ref (b + v) :: rest)) := by
  intro T hT Xs
  obtain ⟨v9, st₀, t, T', L, h0, X', hL, e1, e2, ⟨hv, hz, hat, hsz, hk⟩, st⟩ := hr T hT Xs
  cases hv
  rw [h0] at hsz hk
  have hs : H.size = b + (v + 1) := hC.1
  obtain ⟨t2, a1, b1⟩ := kk T'.heap (locs ++ L) ⟨by rw [e1]; exact hz, fun j h1 h2 => by
      by_cases hj : j < v
      · show va_at X.1 vwCl (b + j, if j < v then f j else _) T'.heap
        rw [if_pos hj]
        refine (hC.2 j h1 (by omega)).kept ?_
        rw [e1]
        exact hk (b + j) (by omega) (fun h3 => by have h3 : b + v ≤ b + j := h3; omega)
      · show va_at X.1 vwCl (b + j, if j < v then f j else _) T'.heap
        rw [if_neg hj, e1]
        exact hat j (by omega) h2⟩
    ⟨Nat.le_trans hS.1 (by rw [e1]; exact hsz), fun q h1 h2 => by rw [e1, hk q (Nat.lt_of_lt_of_le h1 hS.1) (fun h3 => h2 (by have h3 : b + v ≤ q := h3; show b + k ≤ q; omega))]; exact hS.2.1 q h1 h2, fun q hq => by
      rcases List.mem_append.mp hq with h | h
      · exact hS.2.2 q h
      · have h3 : b + v ≤ q.base := hL q h
        show b + k ≤ q.base
        omega⟩ T' rfl X'
  exact ⟨t2, st t2 a1, b1⟩
theorem ce_callI {y : MethodName} {bytes : ByteArray} {maxL nL index fr lo v sz : Nat} {own : String} {lv : List (Nat × Value)} {en : va_E} (hx : p.tables.exec = Jvm.exec) (hb : c.code = cc) (hml : c.maxLocals = nL) (hown : s.vm.findClass own = some m.cls) (hB : ∀ w ∈ ce_big, w.before args s = true) (hM : ce_CtI l y bytes maxL fr lo mc ms X G b v sz en) (hy : y.name = "<init>" ∧ ce_yD y 0) (hcd : Cond.code y bytes maxL none ∈ ce_big) (hini : Cond.initialized y.cls ∈ ce_big) (hlk : Cond.methodLink own index y ∈ ce_big) (him : Cond.instanceMethod y ∈ ce_big) (hR : fr + 1 ≤ R.frames ∧ 8 + (maxL + 11) + lo ≤ R.locals) (hF : ce_FI X G b s) (hC : ce_Cr X b k (v + 1) f H) (hkv : k ≤ v) (hev : f v = en) (hS : va_S (ce_Au (b + k)) s.heap H locs) (hl : lv_has ls nL lv) (hW : (rest.map fun v => v.category).sum ≤ 8) (hdg : decode cc pc = .ok (.invokespecial index, 3)) (hf : cells + mc ≤ R.cells ∧ slots + ms ≤ R.slots)
    (kk : ∀ (H1 : Heap) (locs1 : List Loc), ce_Cr X b k (v + sz) (fun j => if j < v then f j else ce_ent X b (ce_kd j) j ce_M0) H1 → va_S (ce_Au (b + k)) s.heap H1 locs1 → W p l e R s m args below meth c H1 locs1 (cells + mc) (slots + ms) Q (F0 m (pc + 3) ls rest)) : W p l e R s m args below meth c H locs cells slots Q (F0 m pc ls (.ref (b + v) :: rest)) :=
  ce_afterI (y := y) (va_runI (As := []) (rest := rest) (Ts := ce_big) ⟨hx, hb, hml, hown, hB⟩ hM (cwI 0 hB (ce_goodC hcd) rfl rfl rfl (hB _ hini) (hB _ hlk) (hB _ him) hy.1 hy.2 hR) ⟨ce_blindI, fun U hU hWm => ⟨rfl, hF.next hS hU hWm, by rw [hU]; exact hC.1, by rw [hU, ← hev]; exact hC.2 v hkv (by omega)⟩⟩ rfl rfl hl.1 rfl (lv_room hW) hdg hf) hC hkv hS kk
theorem ce_callIN {y : MethodName} {bytes : ByteArray} {maxL nL index fr lo v sz : Nat} {own host : String} {lv : List (Nat × Value)} {en : va_E} (hx : p.tables.exec = Jvm.exec) (hb : c.code = cc) (hml : c.maxLocals = nL) (hown : s.vm.findClass own = some m.cls) (hB : ∀ w ∈ ce_big, w.before args s = true) (hM : ce_CtI l y bytes maxL fr lo mc ms X G b v sz en) (hy : y.name = "<init>" ∧ ce_yD y 0) (hcd : Cond.code y bytes maxL none ∈ ce_big) (hini : Cond.initialized y.cls ∈ ce_big) (hlk : Cond.methodLinkNest own index y host ∈ ce_nest) (him : Cond.instanceMethod y ∈ ce_big) (hR : fr + 1 ≤ R.frames ∧ 8 + (maxL + 11) + lo ≤ R.locals) (hF : ce_FI X G b s) (hC : ce_Cr X b k (v + 1) f H) (hkv : k ≤ v) (hev : f v = en) (hS : va_S (ce_Au (b + k)) s.heap H locs) (hl : lv_has ls nL lv) (hW : (rest.map fun v => v.category).sum ≤ 8) (hdg : decode cc pc = .ok (.invokespecial index, 3)) (hf : cells + mc ≤ R.cells ∧ slots + ms ≤ R.slots)
    (kk : ∀ (H1 : Heap) (locs1 : List Loc), ce_Cr X b k (v + sz) (fun j => if j < v then f j else ce_ent X b (ce_kd j) j ce_M0) H1 → va_S (ce_Au (b + k)) s.heap H1 locs1 → W p l e R s m args below meth c H1 locs1 (cells + mc) (slots + ms) Q (F0 m (pc + 3) ls rest)) : W p l e R s m args below meth c H locs cells slots Q (F0 m pc ls (.ref (b + v) :: rest)) :=
  ce_afterI (y := y) (va_runIN (As := []) (rest := rest) (Ts := ce_big) ⟨hx, hb, hml, hown, hB⟩ hM ⟨va_cnB 0 hB (ce_goodC hcd) rfl rfl rfl (hF.1.2.1.1 _ hlk) (hB _ hini) hy.2 hR, hy.1, hB _ him⟩ ⟨ce_blindI, fun U hU hWm => ⟨rfl, hF.next hS hU hWm, by rw [hU]; exact hC.1, by rw [hU, ← hev]; exact hC.2 v hkv (by omega)⟩⟩ rfl rfl hl.1 rfl (lv_room hW) hdg hf) hC hkv hS kk
end CECT
theorem ce_w23 : Cond.instanceMethod objectInit ∈ ce_big := ce_b1i 23 rfl rfl
theorem ce_w24 : Cond.code objectInit ⟨#[0xb1]⟩ 1 none ∈ ce_big := ce_b1i 24 rfl rfl
theorem ce_w63 : Cond.arrayClass .int ∈ ce_big := ce_b1i 63 rfl rfl
theorem ce_w18 : Cond.instantiable RX7 4 ∈ ce_big := ce_b1i 18 rfl rfl
theorem ce_w25 : Cond.classLink RX7 7 RX6 ∈ ce_big := ce_b1i 25 rfl rfl
theorem ce_w26 : Cond.instantiable RX6 7 ∈ ce_big := ce_b1i 26 rfl rfl
theorem ce_w31 : Cond.classLink RX6 15 RX4 ∈ ce_big := ce_b1i 31 rfl rfl
theorem ce_w33 : Cond.classLink RX6 21 RX1 ∈ ce_big := ce_b1i 33 rfl rfl
theorem ce_w34 : Cond.instantiable RX1 7 ∈ ce_big := ce_b1i 34 rfl rfl
theorem ce_w64 : Cond.instantiable RX4 14 ∈ ce_big := ce_b1i 64 rfl rfl
theorem ce_w69 : Cond.classLink RX4 9 RX3 ∈ ce_big := ce_b1i 69 rfl rfl
theorem ce_w70 : Cond.instantiable RX3 4 ∈ ce_big := ce_b1i 70 rfl rfl
theorem ce_w88 : Cond.classLink RX4 18 RX2 ∈ ce_big := ce_b1i 88 rfl rfl
theorem ce_w89 : Cond.instantiable RX2 2 ∈ ce_big := ce_b1i 89 rfl rfl
theorem ce_w180 : Cond.classLink RX7 19 RX5 ∈ ce_big := ce_b1i 180 rfl rfl
theorem ce_w181 : Cond.instantiable RX5 3 ∈ ce_big := ce_b1i 181 rfl rfl
theorem ce_w186 : Cond.classLink RX5 9 RX6 ∈ ce_big := ce_b1i 186 rfl rfl
theorem ce_w200 : Cond.classLink RX7 26 RX0 ∈ ce_big := ce_b1i 200 rfl rfl
theorem ce_w201 : Cond.instantiable RX0 6 ∈ ce_big := ce_b1i 201 rfl rfl
abbrev ce_raw0 : List Value := [.null, .int 0, .int 0, .int 0, .null, .int 0]
theorem ce_rawok0 : ∀ j, j < 6 → defaultValue (tyX0 j) = vp_V ce_raw0 j := by decide +kernel
abbrev ce_raw1 : List Value := [.null, .null, .null, .null, .null, .null, .int 0]
theorem ce_rawok1 : ∀ j, j < 7 → defaultValue (tyX1 j) = vp_V ce_raw1 j := by decide +kernel
abbrev ce_raw2 : List Value := [.null, .int 0]
theorem ce_rawok2 : ∀ j, j < 2 → defaultValue (tyX2 j) = vp_V ce_raw2 j := by decide +kernel
abbrev ce_raw3 : List Value := [.null, .null, .null, .int 0]
theorem ce_rawok3 : ∀ j, j < 4 → defaultValue (tyX3 j) = vp_V ce_raw3 j := by decide +kernel
abbrev ce_raw4 : List Value := [.null, .null, .int 0, .int 0, .int 0, .int 0, .int 0, .int 0, .int 0, .int 0, .int 0, .int 0, .int 0, .int 0]
theorem ce_rawok4 : ∀ j, j < 14 → defaultValue (tyX4 j) = vp_V ce_raw4 j := by decide +kernel
abbrev ce_raw5 : List Value := [.null, .int 0, .int 0]
theorem ce_rawok5 : ∀ j, j < 3 → defaultValue (tyX5 j) = vp_V ce_raw5 j := by decide +kernel
abbrev ce_raw6 : List Value := [.null, .null, .null, .null, .null, .int 0, .int 0]
theorem ce_rawok6 : ∀ j, j < 7 → defaultValue (tyX6 j) = vp_V ce_raw6 j := by decide +kernel
abbrev ce_raw7 : List Value := [.null, .null, .null, .null]
theorem ce_rawok7 : ∀ j, j < 4 → defaultValue (tyX7 j) = vp_V ce_raw7 j := by decide +kernel
