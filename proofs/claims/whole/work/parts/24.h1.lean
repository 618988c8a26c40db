/-- the cell of the law's long[1] -/
abbrev oc (g : gT) (qo : Nat) (f : Nat → Int64) : Nat × va_E := (qo, .inl (g.2.2.1, 1, .inr (.inl f)))
/-- the one exception is not of the other's kind -/
def nC (U : State) : Prop := ∀ a b, U.vm.findClass nE2 = some a → U.vm.findClass nE1 = some b → U.vm.assignable a b = false
theorem nC.moved {s U : State} (hW : s.WarmedH U.vm) (h : nC s) : nC U := fun a b h1 h2 => by
  rw [hW.alike.findClass] at h1 h2
  rw [hW.alike.assignable]; exact h a b h1 h2
theorem nC.same {s U : State} (e : s.vm = U.vm) (h : nC s) : nC U := fun a b h1 h2 => by
  rw [← e] at h1 h2 ⊢; exact h a b h1 h2
/-- one row of the table, looked up cold or warm -/
theorem go_lk {Q : Handler → Pre} {E : CtlPost} {e : Env} {d : Bool} {acts : List Action} {s : State} {f : JFrame} {a : Addr} {x : ExceptionTableEntry} {t : List ExceptionTableEntry} {c : ClassId} {cell : Cell} (hx : covers x f.pc = true) (h0 : x.catchType ≠ 0) (hl : s.vm.ClassLinks e.platform f.method.cls x.catchType c) (hcell : s.heap[a]? = some cell) (hobj : ∀ k, cell.vm ≠ .statics k) (hk : ∃ k, s.vm.classes[cell.cls]? = some k) (hc : ∃ k, s.vm.classes[c]? = some k) :
    wp (findHandler.go f a (x :: t)) Q E e d acts s ↔ (if s.vm.assignable cell.cls c = true then Q (.found x.handlerPc) d acts (s.setVm (s.vm.noted f.method.cls x.catchType (.cls c))) else wp (findHandler.go f a t) Q E e d acts (s.setVm (s.vm.noted f.method.cls x.catchType (.cls c)))) := by
  unfold covers at hx
  have go := (resolveClass_links e.toSetting hl).op (op := VmOp.resolveClass f.method.cls x.catchType) rfl
  have al : s.vm.Alike (s.vm.noted f.method.cls x.catchType (.cls c)) := (Vm.Alike.refl s.vm).noted _ _ _
  obtain ⟨k1, hk1⟩ := hk
  obtain ⟨k2, hk2⟩ := hc
  obtain ⟨j1, hj1, -⟩ := al.2.2 _ _ hk1
  obtain ⟨j2, hj2, -⟩ := al.2.2 _ _ hk2
  have ea := al.assignable cell.cls c
  by_cases q : s.vm.assignable cell.cls c = true
  · simp [findHandler.go, hx, h0, go.1, go.2, hcell, hobj, hj1, hj2, ea, q, VmOp.dirties, VmOp.acts]
  · simp [findHandler.go, hx, h0, go.1, go.2, hcell, hobj, hj1, hj2, ea, q, VmOp.dirties, VmOp.acts]
section CT
variable {p : Program} {l : Launch} {e : Env} {R : Room} {s : State} {m : MethodId} {args : Array Value} {below : List Frame} {meth : Method} {c : Code} {T : State} {locs : List Loc} {cells slots : Nat}
/-- what a search ends with: into the handler, and the tables that it leaves -/
theorem st_to {S : State} {a : Addr} {f : JFrame} {r : List Frame} {pc : Nat} {vm' : Vm} (hfind : ∀ (Q : Handler → Pre) (E : CtlPost) (d : Bool) (acts : List Action), wp (findHandler f a) Q E e d acts S ↔ Q (.found pc) d acts (S.setVm vm')) :
    (stepThrowing e S a (.java f :: r)).Is ((S.setVm vm').setFrames (.java { f with pc := pc, stack := [.ref a] } :: r)) [] := by
  simp only [stepThrowing, searchFrame, vmDo]
  generalize hr : Sem.go _ e false [] S = res
  obtain ⟨as, h1, h2⟩ := Sem.eq_ok_of hr (a := Handler.found pc) (s' := S.setVm vm') (acts' := []) (by simp [hfind _ _ _ _])
  subst h1
  exact ⟨rfl, h2⟩
theorem catch2 (X : Stand p l e R s m args below meth c T locs cells slots) (a : Addr) {g : JFrame} (hg : g.method = m) {x1 x2 : ExceptionTableEntry} (ht : c.exceptionTable.toList = [x1, x2]) (c1 : covers x1 g.pc = true) (c2 : covers x2 g.pc = true) (z1 : x1.catchType ≠ 0) (z2 : x2.catchType ≠ 0) (hown : s.vm.findClass "MidiDeskLaw" = some m.cls)
    (l1 : (Cond.classLink "MidiDeskLaw" x1.catchType nE1).before args s = true) (l2 : (Cond.classLink "MidiDeskLaw" x2.catchType nE2).before args s = true) {cell : Cell} (hcell : T.heap[a]? = some cell) (hvm : cell.vm = .none) {k : Nat} (hk : k = 1 ∨ k = 2) (hcls : s.vm.findClass (ecl k) = some cell.cls)
    (s1 : (Cond.castable nE1 nE1).before args s = true) (s2 : (Cond.castable nE2 nE2).before args s = true) (hno : nC s) :
    ∃ vm', Stand p l e R s m args below meth c (T.setVm vm') locs cells slots ∧ ∀ target, Steps p.tables e below ((T.setVm vm').setTop { g with pc := (if k = 1 then x1 else x2).handlerPc, stack := [.ref a] }) target → Steps p.tables e below ((T.setTop g).pushFrame (.throwing a)) target := by
  subst hg
  have hpl : e.platform.magicAccessors = ({} : Platform).magicAccessors := by rw [X.admits.platform]
  obtain ⟨d1, f1, k1⟩ := Cond.classLink_spec hown l1 e.platform hpl
  obtain ⟨d2, f2, k2⟩ := Cond.classLink_spec hown l2 e.platform hpl
  obtain ⟨dk1, _, _, kt1, hd1, _, _, _, _, hkt1, _, ho1⟩ := k1.here
  obtain ⟨dk2, _, _, kt2, hd2, _, _, _, _, hkt2, _, ho2⟩ := k2.here
  have hobj : ∀ j, cell.vm ≠ .statics j := fun j w => by rw [hvm] at w; cases w
  -- the tables along the search
  have W1 : s.WarmedH (T.vm.noted g.method.cls x1.catchType (.cls d1)) := X.warmed.noted hd1 ho1 (State.rightAt_cls k1)
  have W2 : s.WarmedH ((T.vm.noted g.method.cls x1.catchType (.cls d1)).noted g.method.cls x2.catchType (.cls d2)) := W1.noted hd2 ho2 (State.rightAt_cls k2)
  have hat : ∃ kk, s.vm.classes[cell.cls]? = some kk := by
    rcases hk with q | q
    · rw [q] at hcls; cases f1.symm.trans hcls; exact ⟨_, hkt1⟩
    · rw [q] at hcls; cases f2.symm.trans hcls; exact ⟨_, hkt2⟩
  have up : ∀ {vm' : Vm}, s.WarmedH vm' → ∀ {i : Nat}, (∃ kk, s.vm.classes[i]? = some kk) → ∃ kk, vm'.classes[i]? = some kk := fun hW i h => by
    obtain ⟨kk, h⟩ := h
    obtain ⟨j, hj, -⟩ := hW.alike.2.2 _ _ h
    exact ⟨j, hj⟩
  have F : ∃ vm', s.WarmedH vm' ∧ ∀ (Q : Handler → Pre) (E : CtlPost) (d : Bool) (acts : List Action), wp (findHandler g a) Q E e d acts ((T.setTop g).pushFrame (.throwing a)) ↔ Q (.found (if k = 1 then x1 else x2).handlerPc) d acts (((T.setTop g).pushFrame (.throwing a)).setVm vm') := by
    rcases hk with q | q
    · subst q
      cases f1.symm.trans hcls
      obtain ⟨u, v, hu, hv, asg⟩ := Cond.castable_spec s1
      cases f1.symm.trans hu
      cases f1.symm.trans hv
      refine ⟨_, W1, fun Q E d acts => ?_⟩
      rw [Jvm.W.findHandler_eq (s := (T.setTop g).pushFrame (.throwing a)) (meth := meth) (code := c) X.method' X.code, ht]
      rw [go_lk (s := (T.setTop g).pushFrame (.throwing a)) (cell := cell) c1 z1 (X.warmed.classLinks k1) hcell hobj (up X.warmed hat) (up X.warmed ⟨_, hkt1⟩)]
      rw [if_pos (show ((T.setTop g).pushFrame (.throwing a)).vm.assignable cell.cls cell.cls = true from (X.warmed.alike.assignable _ _).trans asg)]
      exact Iff.rfl
    · subst q
      cases f2.symm.trans hcls
      obtain ⟨u, v, hu, hv, asg⟩ := Cond.castable_spec s2
      cases f2.symm.trans hu
      cases f2.symm.trans hv
      refine ⟨_, W2, fun Q E d acts => ?_⟩
      rw [Jvm.W.findHandler_eq (s := (T.setTop g).pushFrame (.throwing a)) (meth := meth) (code := c) X.method' X.code, ht]
      rw [go_lk (s := (T.setTop g).pushFrame (.throwing a)) (cell := cell) c1 z1 (X.warmed.classLinks k1) hcell hobj (up X.warmed hat) (up X.warmed ⟨_, hkt1⟩)]
      rw [if_neg (show ¬ ((T.setTop g).pushFrame (.throwing a)).vm.assignable cell.cls d1 = true from fun w => by
        have w2 := (X.warmed.alike.assignable cell.cls d1).symm.trans w
        rw [hno _ _ f2 f1] at w2; cases w2)]
      rw [go_lk (s := ((T.setTop g).pushFrame (.throwing a)).setVm (((T.setTop g).pushFrame (.throwing a)).vm.noted g.method.cls x1.catchType (.cls d1))) (cell := cell) c2 z2 (W1.classLinks k2) hcell hobj (up W1 hat) (up W1 ⟨_, hkt2⟩)]
      rw [if_pos (show (((T.setTop g).pushFrame (.throwing a)).setVm (((T.setTop g).pushFrame (.throwing a)).vm.noted g.method.cls x1.catchType (.cls d1))).vm.assignable cell.cls cell.cls = true from (W1.alike.assignable _ _).trans asg)]
      exact Iff.rfl
  obtain ⟨vm', hW, hfind⟩ := F
  refine ⟨vm', X.noted hW, fun target hrest => ?_⟩
  obtain ⟨hgo, hw⟩ := X.here.throwing a
  refine Steps.head hgo hw ?_
  rw [stepThread_throwing (frames_entered X.here.top _), (st_to hfind).1]
  obtain ⟨g₀, hg⟩ := Option.isSome_iff_exists.mp X.here.top
  obtain ⟨r, hr⟩ := State.topJava?_eq_some.mp hg
  have hr' : (T.setVm vm').frames = .java g₀ :: r := hr
  rw [State.setTop_of_frames _ hr'] at hrest
  have comm : ∀ (u : State) (F G : List Frame), ((u.setFrames F).setVm vm').setFrames G = (u.setVm vm').setFrames G := fun u F G => by
    show ((u.setVm vm').setFrames F).setFrames G = _
    rw [State.setFrames_setFrames]
  rw [hr, List.tail_cons, State.pushFrame, comm, State.setTop_of_frames _ hr, comm]
  exact hrest
end CT
