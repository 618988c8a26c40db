
abbrev nE1 : String := "java/lang/IllegalStateException"
abbrev nE2 : String := "java/lang/IllegalArgumentException"
abbrev nms : List String := ["java/lang/RuntimeException", "java/lang/Exception"]
abbrev nT : String := "java/lang/Throwable"
abbrev dS1 : String := "[Ljava/lang/StackTraceElement;"
abbrev dS2 : String := "Ljava/util/List;"
def isR1 : Cond := .isRef (.static nT "UNASSIGNED_STACK" dS1)
def isR2 : Cond := .isRef (.static nT "SUPPRESSED_SENTINEL" dS2)
/-- words that a throw needs and that are handed on one by one -/
def exw : List Cond := [.castable nE1 nE1, .castable nE2 nE2, .declares ⟨"java/lang/RuntimeException", "<init>", "(Ljava/lang/String;)V"⟩, .declares ⟨"java/lang/Exception", "<init>", "(Ljava/lang/String;)V"⟩, .declares ⟨nT, "<init>", "(Ljava/lang/String;)V"⟩]
def is_ex : Cond → Bool
  | .castable .. => true
  | .declares .. => true
  | _ => false
theorem ex_onT {w : Cond} (h : is_ex w = true) : w.onTables = true := by
  cases w <;> first | rfl | (simp [is_ex] at h)
theorem ex_warm {w : Cond} (h : is_ex w = true) {s U : State} (hW : s.WarmedH U.vm) (hZ : va_Nw w s) : va_Nw w U := by
  cases w <;> first | exact va_Nw.warmC hW hZ | exact va_Nw.warmD hW hZ | (simp [is_ex] at h)
theorem exw_is : ∀ w ∈ exw, is_ex w = true := by decide +kernel
def strs : List (Nat × String) := [(161, "there is no list"), (164, "no such tick"), (97, "no such channel"), (107, "no such step"), (116, "a tick would be too late"), (124, "no such track"), (129, "no such format")]
/-- a static of Throwable's: a reference, in a cell that the walk doesn't touch -/
def sZ (n d : String) (A : Nat → Prop) (U : State) (H : Heap) : Prop := ∃ (c : ClassId) (k : Class) (i : Nat) (f : Field) (a : Nat) (cell : Cell) (v : Value), v.isRef = true ∧ U.vm.findClass nT = some c ∧ U.fieldFound? nT n d = some (c, k, i, f) ∧ f.isStatic = true ∧ k.statics = some a ∧ H[a]? = some cell ∧ cell.vm.isStatics = true ∧ cell.cls = c ∧ f.slot < cell.slots.size ∧ k.staticTypes[f.slot]? = some f.type ∧ cell.slots[f.slot]? = some v ∧ ¬ A a
theorem sZ.moved {n d : String} {A : Nat → Prop} {u U : State} {H : Heap} (hvm : u.vm.Alike U.vm) (h : sZ n d A u H) : sZ n d A U H := by
  obtain ⟨c, k, i, f, a, cell, v, h0, h1, h2, h3, h4, h5, h6, h7, h8, h9, h10⟩ := h
  obtain ⟨k', hi', he⟩ := State.fieldFound?_setVm hvm h2
  exact ⟨c, k', i, f, a, cell, v, h0, by rw [hvm.findClass]; exact h1, hi', h3, by rw [he]; exact h4, h5, h6, h7, h8, by rw [he]; exact h9, h10⟩
theorem sZ.kept {n d : String} {A : Nat → Prop} {U : State} {H H1 : Heap} (h : sZ n d A U H) (hq : ∀ a : Nat, a < H.size → ¬ A a → H1[a]? = H[a]?) : sZ n d A U H1 := by
  obtain ⟨c, k, i, f, a, cell, v, h0, h1, h2, h3, h4, h5, h6, h7, h8, h9, h10, h11⟩ := h
  exact ⟨c, k, i, f, a, cell, v, h0, h1, h2, h3, h4, by rw [hq a (Array.getElem?_eq_some_iff.mp h5).1 h11]; exact h5, h6, h7, h8, h9, h10, h11⟩
theorem sZ.narrow {n d : String} {A B : Nat → Prop} {U : State} {H : Heap} (h : sZ n d A U H) (hAB : ∀ q, B q → A q) : sZ n d B U H := by
  obtain ⟨c, k, i, f, a, cell, v, h0, h1, h2, h3, h4, h5, h6, h7, h8, h9, h10, h11⟩ := h
  exact ⟨c, k, i, f, a, cell, v, h0, h1, h2, h3, h4, h5, h6, h7, h8, h9, h10, fun w => h11 (hAB a w)⟩
theorem sZ.isref {args : Array Value} {s : State} {n d : String} {A : Nat → Prop} (h : sZ n d A s s.heap) : (Cond.isRef (.static nT n d)).before args s = true := by
  obtain ⟨c, k, i, f, a, cell, v, h0, h1, h2, h3, h4, h5, h6, h7, h8, h9, h10, h11⟩ := h
  have he : (Term.static nT n d).eval args s none [] s = some v := by
    simp [Term.eval, State.fieldNamed?, h2, h3, h4, h5, h6, h10]
  simp only [Cond.before, Cond.holds, Cond.value, he]
  cases v <;> simp_all [Value.isRef]
theorem sZ.lays {args : Array Value} {s : State} {n d : String} {A : Nat → Prop} (h : sZ n d A s s.heap) : (Cond.laysStatic nT n d).before args s = true := by
  obtain ⟨c, k, i, f, a, cell, v, h0, h1, h2, h3, h4, h5, h6, h7, h8, h9, h10, h11⟩ := h
  simp [Cond.before, Cond.holds, Cond.value, h1, h2, h3, h4, h5, h6, h7, h8, h9]
def kE (A : Nat → Prop) (U : State) (H : Heap) : Prop := (∀ w ∈ exw, va_Nw w U) ∧ (∀ q ∈ strs, ∃ a, vk_R "MidiDesk" q.1 q.2 a U) ∧ sZ "UNASSIGNED_STACK" dS1 A U H ∧ sZ "SUPPRESSED_SENTINEL" dS2 A U H
theorem kE.moved {A : Nat → Prop} {s U : State} {H : Heap} (hW : s.WarmedH U.vm) (h : kE A s H) : kE A U H := by
  obtain ⟨h1, h2, h3, h4⟩ := h
  exact ⟨fun x hx => ex_warm (exw_is x hx) hW (h1 x hx), fun q hq => by obtain ⟨a, ha⟩ := h2 q hq; exact ⟨a, vk_R.warm hW ha⟩, h3.moved hW.alike, h4.moved hW.alike⟩
theorem kE.same {A : Nat → Prop} {s U : State} {H : Heap} (e : s.vm = U.vm) (h : kE A s H) : kE A U H := by
  obtain ⟨h1, h2, h3, h4⟩ := h
  have ha : s.vm.Alike U.vm := by rw [← e]; exact Vm.Alike.refl s.vm
  exact ⟨fun x hx => va_Nw.same (ex_onT (exw_is x hx)) e (h1 x hx), fun q hq => by obtain ⟨a, ha⟩ := h2 q hq; exact ⟨a, vk_R.same e.symm ha⟩, h3.moved ha, h4.moved ha⟩
theorem kE.kept {A : Nat → Prop} {U : State} {H H1 : Heap} (h : kE A U H) (hq : ∀ a : Nat, a < H.size → ¬ A a → H1[a]? = H[a]?) : kE A U H1 := ⟨h.1, h.2.1, h.2.2.1.kept hq, h.2.2.2.kept hq⟩
theorem kE.narrow {A B : Nat → Prop} {U : State} {H : Heap} (h : kE A U H) (hAB : ∀ q, B q → A q) : kE B U H := ⟨h.1, h.2.1, h.2.2.1.narrow hAB, h.2.2.2.narrow hAB⟩
def lsw : List Cond := [isR1, isR2, .laysStatic nT "UNASSIGNED_STACK" dS1, .laysStatic nT "SUPPRESSED_SENTINEL" dS2]
def okw (w : Cond) : Bool := decide (w ∈ gw) || decide (w ∈ exw) || decide (w ∈ lsw)
theorem atoms_1 : (Jvm.Bundle.ownAtoms "MidiDesk" 163 nE1 nms).all okw = true := by decide +kernel
theorem atoms_2 : (Jvm.Bundle.ownAtoms "MidiDesk" 99 nE2 nms).all okw = true := by decide +kernel
theorem ex_atoms {args : Array Value} {s : State} {A : Nat → Prop} {ws : List Cond} (hal : ws.all okw = true) (ht : ∀ w ∈ gw, w.before args s = true) (hE : kE A s s.heap) : ∀ a ∈ ws, a.before args s = true := by
  intro a ha
  have h := List.all_eq_true.mp hal a ha
  simp only [okw, Bool.or_eq_true, decide_eq_true_eq] at h
  rcases h with (h | h) | h
  · exact ht a h
  · exact va_Nw.use (ex_onT (exw_is a h)) (hE.1 a h)
  · simp only [lsw, List.mem_cons, List.not_mem_nil, or_false] at h
    rcases h with rfl | rfl | rfl | rfl
    · exact hE.2.2.1.isref
    · exact hE.2.2.2.isref
    · exact hE.2.2.1.lays
    · exact hE.2.2.2.lays
def FrameX (st t : State) (L : List Loc) (k n : Nat) : Prop := st.WarmedH t.vm ∧ st.sameButNew ({ t with vm := st.vm } : State) L k n
/-- a contract whatever the end: returned or thrown -/
def MetT (l : Launch) (y : MethodName) (ws : List Cond) (rm : Room) (Pc : Array Value → State → Prop) (Qc : Array Value → State → Outcome → State → Prop) (mc ms : Nat) (free : Addr → Prop) : Prop :=
  MetFree l y (headSpec ws rm) Pc (fun _ _ _ _ _ => True) (fun a st o t => Qc a st o t ∧ ∃ L, FrameX st t L mc ms ∧ ∀ q ∈ L, free q.base)
def MTQ (below : List Frame) (Qc : Array Value → State → Outcome → State → Prop) (a : Array Value) (s : State) (mc ms : Nat) (free : Addr → Prop) : State → Prop := fun t => ∃ o, t.status = .running ∧ Ended t below o ∧ Qc a s o t ∧ ∃ L, FrameX s t L mc ms ∧ ∀ q ∈ L, free q.base
theorem MetT.ofW {l : Launch} {y : MethodName} {ws ws' : List Cond} {rm : Room} {Pc : Array Value → State → Prop} {Qc : Array Value → State → Outcome → State → Prop} {mc ms : Nat} {free : Addr → Prop} {cc : ByteArray} {maxL : Nat} {ret : Option FieldType}
    (hy : plainName y.cls = true) (hw : ws = Cond.code y cc maxL ret :: ws')
    (body : ∀ p e s m args below meth c s₁, BodyLoose p l y (headSpec ws rm) cc maxL ret e s m args below meth c s₁ → c.maxLocals = maxL → c.exceptionTable.isEmpty = true → Pc args s →
      W p l e (headSpec ws rm).room s m args below meth c s.heap [] 0 0 (MTQ below Qc args s mc ms free) (entryFrame m args maxL)) : MetT l y ws rm Pc Qc mc ms free := by
  refine MetFree.of_bodyS (code := cc) (maxLocals := maxL) (ret := ret) hy ?_ ?_
  · intro args s m h hn
    obtain ⟨meth, c, h1, h2, h3, h4, h5, h6, -, -⟩ := Cond.code_spec hn (atoms_spec (ws := ws) h _ (by rw [hw]; exact List.mem_cons_self))
    exact ⟨meth, c, h1, h2, h3, h4, h5, h6⟩
  · intro p e s m args below meth c s₁ B hml hP _
    have hh0 : s₁.heap = s.heap := by rw [B.state]; rfl
    have hno := B.noHandlers (atoms_spec (ws := ws) B.pre _ (by rw [hw]; exact List.mem_cons_self))
    obtain ⟨t, a1, o, b1, b2, b3⟩ := body p e s m args below meth c s₁ B hml hno hP s₁ hh0 (Stand.of_body B)
    exact ⟨t, o, a1, b1, b2, b3⟩
def tPc (g : gT) (qq ad ea : Nat → Nat) (h : cH) (X : va_W) (z : cZ) (vs : List Value) (sz : Nat) : Array Value → State → Prop := fun a U => cPc g qq ad ea h X z vs sz a U ∧ kE (cA g qq ad ea h X sz) U U.heap
def tQ (g : gT) (qq ad ea : Nat → Nat) (h : cH) (X : va_W) (z : cZ) (cls : String) (sz : Nat) : Array Value → State → Outcome → State → Prop := fun _ st oc t => (∃ (x : Nat) (cell : Cell), oc = .threw x ∧ t.heap[x]? = some cell ∧ cell.vm = .none ∧ t.vm.findClass cls = some cell.cls ∧ va_P g.1 classes (cw g qq ad ea h z X) t.heap) ∧ va_F (cA g qq ad ea h X sz) st t
/-- the contract of a method that throws an exception of class cls, and changes nothing: one cell of six slots -/
def tMet (l : Launch) (y : MethodName) (cc : ByteArray) (maxL : Nat) (ret : Option FieldType) (fr lo : Nat) (g : gT) (qq ad ea : Nat → Nat) (h : cH) (X : va_W) (z : cZ) (vs : List Value) (cls : String) : Prop :=
  ∀ sz : Nat, MetT l y (.code y cc maxL ret :: gw) { frames := fr, cells := 1, slots := 6, locals := lo } (tPc g qq ad ea h X z vs sz) (tQ g qq ad ea h X z cls sz) 1 6 (cA g qq ad ea h X sz)
abbrev tG (p : Program) (l : Launch) (e : Env) (R : Room) (s : State) (m : MethodId) (args : Array Value) (below : List Frame) (meth : Method) (c : Code) (g : gT) (qq ad ea : Nat → Nat) (h : cH) (X : va_W) (z : cZ) (cls : String) (f : JFrame) : Prop :=
  W p l e R s m args below meth c s.heap [] 0 0 (MTQ below (tQ g qq ad ea h X z cls s.heap.size) args s 1 6 (cA g qq ad ea h X s.heap.size)) f
theorem t_entry {l : Launch} {y : MethodName} {cc : ByteArray} {maxL fr lo : Nat} {ret : Option FieldType} {g : gT} {qq ad ea : Nat → Nat} {h : cH} {X : va_W} {z : cZ} {vs : List Value} {cls : String} (hy : plainName y.cls = true) (hn : (lg_sl vs).length ≤ maxL)
    (body : ∀ (p : Program) (e : Env) (s : State) (m : MethodId) (args : Array Value) (below : List Frame) (meth : Method) (c : Code) (ls : Array Slot), mCx p m c cc maxL s args g y.cls → meth.locks = false → c.exceptionTable.isEmpty = true → lv_has ls maxL (lv_args 0 vs) → cWd g (cA g qq ad ea h X s.heap.size) s.heap qq ad ea h X z s.heap [] → kE (cA g qq ad ea h X s.heap.size) s s.heap → tG p l e { frames := fr, cells := 1, slots := 6, locals := lo } s m args below meth c g qq ad ea h X z cls (F0 m 0 ls [])) :
    tMet l y cc maxL ret fr lo g qq ad ea h X z vs cls := by
  intro sz
  refine MetT.ofW (cc := cc) (maxL := maxL) (ret := ret) hy rfl ?_
  intro p e s m args below meth c s₁ B hml hno hv
  obtain ⟨⟨rfl, hsz, hK, hP, hD0⟩, hE⟩ := hv
  subst hsz
  have hts := atoms_spec (ws := Cond.code y cc maxL ret :: gw) B.pre
  have hown : s.vm.findClass y.cls = some m.cls := findClass_of_methodNamed B.named
  have hl := lv_entry vs (n := maxL) hn
  rw [lg_entry_eq]
  have hAe : cA g qq ad ea h X s.heap.size = va_A (cw g qq ad ea h z X) s.heap.size := va_A_map (cw_map rfl)
  exact body p e s m vs.toArray below meth c _ ⟨⟨B.exec, B.bytes, hml, hown, fun w hw => hts w (List.mem_cons_of_mem _ hw)⟩, hK⟩ B.notSynchronized hno hl ⟨hP, by rw [hAe]; exact hD0.self, va_S.rf, fun y hy => Or.inr hy⟩ hE
theorem heap_old {s t : State} {k n : Nat} (h : s.sameButNew t [] k n) {a : Nat} (ha : a < s.heap.size) : t.heap[a]? = s.heap[a]? := by
  have hc : s.heap[a]? = some s.heap[a] := Array.getElem?_eq_getElem ha
  rw [hc]
  exact h.old_cell hc
section TH
variable {p : Program} {l : Launch} {e : Env} {R : Room} {s : State} {m : MethodId} {args : Array Value} {below : List Frame} {meth : Method} {c : Code} {H : Heap} {locs : List Loc} {cells slots : Nat} {Q : State → Prop} {cc : ByteArray} {nL pc : Nat} {ls : Array Slot} {rest : List Value} {g : gT} {A : Nat → Prop} {H0 : Heap} {qq ad ea : Nat → Nat} {X : va_W} {h : cH} {z : cZ} {own : String}
set_option maxHeartbeats 4000000 in
/-- throw new cls("..") -/
theorem t_throw {cls tx : String} {ia ik ic : Nat} (hfl : l.flags = flags0) (C : mCx p m c cc nL s args g "MidiDesk") (hlk : meth.locks = false) (hno : c.exceptionTable.isEmpty = true) (hl : ls.size = nL) (hw : cWd g (cA g qq ad ea h X s.heap.size) s.heap qq ad ea h X z s.heap []) (hat : ∀ a ∈ Jvm.Bundle.ownAtoms "MidiDesk" ic cls nms, a.before args s = true) (hfit : Jvm.Bundle.fit cls = true) (hstr : ∃ a, vk_R "MidiDesk" ik tx a s)
    (hcl : Cond.classLink "MidiDesk" ia cls ∈ gw) (hins : Cond.instantiable cls 6 ∈ gw) (hini : Cond.initialized cls ∈ gw) (hR : 6 ≤ R.frames ∧ 100 ≤ R.locals) (hRc : 1 ≤ R.cells ∧ 6 ≤ R.slots)
    (d0 : decode cc pc = .ok (.new ia, 3)) (d3 : decode cc (pc + 3) = .ok (.dup, 1)) (d4 : decode cc (pc + 4) = .ok (.ldc ik, 2)) (d6 : decode cc (pc + 6) = .ok (.invokespecial ic, 3)) (d9 : decode cc (pc + 9) = .ok (.athrow, 1)) : tG p l e R s m args below meth c g qq ad ea h X z cls (F0 m pc ls []) := by
  refine W.newc C.1.1 C.1.2.1 C.1.2.2.2.1 (C.1.2.2.2.2 _ hcl) (C.1.2.2.2.2 _ hins) (C.1.2.2.2.2 _ hini) rfl d0 (by omega) (by omega) (fun cC kC f1 f2 f3 f4 => ?_)
  refine W.eq (g2 := F0 m (pc + 3) ls [.ref s.heap.size]) rfl ?_
  refine lv_dup C.1.1 C.1.2.1 d3 rfl ?_
  obtain ⟨qs, hq⟩ := hstr
  refine va_ldcS C.1.1 C.1.2.1 C.1.2.2.2.1 hq d4 ?_
  intro T hT X9
  have hcell : T.heap[s.heap.size]? = some (freshCell cC kC) := by rw [hT]; simp
  obtain ⟨U, hst, hrun, hend, hW, hsame, ce, hce, hoc⟩ := X9.ctorThrowS C.1.1 (Launch.traces_off hfl X9.admits) (own := "MidiDesk") (cls := cls) (names := nms) (ic := ic) C.1.2.2.2.1 hfit (by decide) hat (fun x hx => by cases hx) f1 f2 (a := s.heap.size) hcell (Nat.le_refl _) (msg := .ref qs) rfl (g := F0 m (pc + 6) ls [.ref qs, .ref s.heap.size, .ref s.heap.size]) rfl (hl.trans C.1.2.2.1.symm) rfl rfl (rest := []) rfl (by rw [C.1.2.1]; exact d6) (by rw [C.1.2.1]; exact d9) (fun x hx => by
      have : c.exceptionTable.toList = [] := by simpa using hno
      rw [this] at hx; cases hx) (by show 2 + 3 < R.frames; omega) (by show 2 * 0 + _ + _ ≤ R.locals; simp [Value.category]; omega) hlk
  have hold : ∀ a : Nat, a < s.heap.size → U.heap[a]? = s.heap[a]? := fun a ha => heap_old hsame ha
  refine ⟨U, hst, .threw s.heap.size, hrun, hend, ⟨⟨s.heap.size, ce, rfl, hce, hoc.vm, by rw [hW.alike.findClass]; exact hoc.cls, hw.1.kept (fun k q hk => hold q.1 ((hw.1 k q hk).lt))⟩, hsame.2.1, fun q h1 _ => hold q h1⟩, [], ⟨hW, by simpa using hsame⟩, fun q hq => by cases hq⟩
end TH

