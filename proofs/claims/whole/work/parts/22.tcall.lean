
section TC
variable {p : Program} {l : Launch} {e : Env} {R : Room} {s : State} {m : MethodId} {args : Array Value} {below : List Frame} {meth : Method} {c : Code} {H : Heap} {locs : List Loc} {cells slots : Nat} {Q : State → Prop} {cc : ByteArray} {nL pc : Nat} {ls : Array Slot} {rest : List Value} {g : gT} {A : Nat → Prop} {H0 : Heap} {qq ad ea : Nat → Nat} {X : va_W} {h : cH} {z : cZ} {own : String}
set_option maxHeartbeats 4000000 in
/-- a call of a method that throws: the machine comes to the throw, in the caller's frame -/
theorem t_call0 {y : MethodName} {bytes : ByteArray} {maxL index n b fr lo : Nat} {ret : Option FieldType} {As st0 : List Value} {cls CN : String} (C : mCx p m c cc nL s args g own) (hl : ls.size = nL) (hw : cWd g (cA g qq ad ea h X s.heap.size) s.heap qq ad ea h X z s.heap []) (hE : kE (cA g qq ad ea h X s.heap.size) s s.heap)
    (hM : tMet l y bytes maxL ret fr lo g qq ad ea h X z (.ref b :: As) cls) (hcw : CallW R s args own CN index y bytes maxL ret (Cond.code y bytes maxL ret :: gw) { frames := fr, cells := 1, slots := 6, locals := lo } 1 6 n) (hrc : ∃ cellB : Cell, s.heap[b]? = some cellB ∧ cellB.vm.isStatics = false ∧ s.vm.findClass CN = some cellB.cls)
    (hn : As.length = n) (hst : st0 = As.reverse ++ .ref b :: rest) (hr : (rest.map fun v => v.category).sum ≤ 8) (hdg : decode cc pc = .ok (.invokevirtual index, 3)) (hRc : 1 ≤ R.cells ∧ 6 ≤ R.slots) :
    ∀ T : State, T.heap = s.heap → Stand p l e R s m args below meth c T [] 0 0 → ∃ (x : Nat) (cell : Cell) (T' : State) (L : List Loc), Stand p l e R s m args below meth c T' L 1 6 ∧ (∀ q ∈ L, cA g qq ad ea h X s.heap.size q.base) ∧ T'.heap[x]? = some cell ∧ cell.vm = .none ∧ s.vm.findClass cls = some cell.cls ∧ va_P g.1 classes (cw g qq ad ea h z X) T'.heap ∧ (s.heap.size ≤ T'.heap.size ∧ ∀ q : Nat, q < s.heap.size → ¬ cA g qq ad ea h X s.heap.size q → T'.heap[q]? = s.heap[q]?) ∧
      ∀ target, Steps p.tables e below ((T'.setTop (F0 m pc ls rest)).pushFrame (.throwing x)) target → Steps p.tables e below (T.setTop (F0 m pc ls st0)) target := by
  intro T hT X9
  obtain ⟨⟨-, -, hfr, hlo, hws, hcwd, hcode, hini, hy, hlen, hlink⟩, hinst, hsel⟩ := hcw
  obtain ⟨hx, hb, hml, hown, -⟩ := C.1
  obtain ⟨cellB, hcB, hoB, hclB⟩ := hrc
  obtain ⟨mk, methM, hnamed, hmethM, hstM, habM⟩ := Cond.instanceMethod_spec hinst
  obtain ⟨methM', cM, hmethM', -, -, -, -, -, -, hsigM⟩ := Cond.code_spec hnamed hcode
  cases hmethM.symm.trans hmethM'
  obtain ⟨c2, r2, m2, q1, q2, q3, q4, kP, hkP, hkPi⟩ := Cond.selects_spec hsel
  cases hclB.symm.trans q1
  cases (State.methodFound?_of_named hnamed hy).symm.trans q2
  cases hnamed.symm.trans q3
  have hselP : selectMethod e.platform s.vm cellB.cls mk = .method mk := by rw [Launch.admits_selectMethod X9.admits]; exact q4
  obtain ⟨vm₁, X₁, hstep₁⟩ := X9.invokevirtual hx hown hlink hnamed hmethM hstM hkP hkPi hy (a := b) (cell := cellB) (by rw [hT]; exact hcB)
    (fun w hh => by rw [hh] at hoB; cases hoB) hselP hmethM habM hkP hkPi (g := F0 m pc ls st0) rfl (argsL := As) (rest := rest) (hn.trans (hlen _ hsigM)) hst (by rw [hb]; exact hdg)
  have hnm : (T.setVm vm₁).methodNamed? y = some mk := X₁.named hnamed
  have hU : (T.setVm vm₁).heap = s.heap := hT
  obtain ⟨methY, cY, hmY, hcY, -, hlY, -, -, -, -⟩ := Cond.code_spec hnm (hws _ hcwd #[] (T.setVm vm₁) X₁.warmed)
  obtain ⟨kY, hkY, -⟩ := className_of_methodNamed hnm
  have hiniU : (Cond.initialized y.cls).before #[] (T.setVm vm₁) = true := word_at X₁.warmed (Or.inl (by first | rfl | simp [Cond.onTables, Cond.keeps, Cond.steady])) hini
  have hinitY : kY.init = .initialized := Cond.initialized_spec (findClass_of_methodNamed hnm) hkY hiniU
  have hroom : ((T.setVm vm₁).calling (F0 m pc ls rest) mk (Value.ref b :: As).toArray).hasRoom e.platform { frames := fr, cells := 1, slots := 6, locals := lo } = true := by
    refine X₁.room_calling (g := F0 m pc ls rest) (hl.trans hml.symm) hmY hcY hfr ?_ (by show 0 + 1 ≤ R.cells; omega) (by show 0 + 6 ≤ R.slots; omega)
    have h9 := lv_room (m := m) (pc := pc) (ls := ls) (rest := rest) hr
    rw [hlY]
    show 2 * (F0 m pc ls rest).monitorRoom + (rest.map fun v => v.category).sum + (maxL + 11) + lo ≤ R.locals
    have hlo' : 8 + (maxL + 11) + lo ≤ R.locals := hlo
    omega
  have happ : (headSpec (Cond.code y bytes maxL ret :: gw) { frames := fr, cells := 1, slots := 6, locals := lo }).appliesLoose y e.platform ((T.setVm vm₁).calling (F0 m pc ls rest) mk (Value.ref b :: As).toArray) = true :=
    Spec.appliesLoose_calling (g := F0 m pc ls rest) X₁.here (by rw [hb]; exact hdg) hnm hkY hinitY hroom (atoms_intro fun w hw => hws w hw _ _ X₁.warmed)
  obtain ⟨mid, hmid⟩ := X₁.here.above
  have hfrm : ((T.setVm vm₁).setTop (F0 m pc ls rest)).frames = (.java (F0 m pc ls rest) :: mid) ++ below := by rw [State.frames_setTop' (F0 m pc ls rest) X₁.here.top, hmid]; rfl
  have hpre : tPc g qq ad ea h X z (.ref b :: As) s.heap.size (Value.ref b :: As).toArray ((T.setVm vm₁).calling (F0 m pc ls rest) mk (Value.ref b :: As).toArray) := by
    refine ⟨cPc_blind _ _ _ _ (c_pre C.2 hw _ hU X₁.warmed), ?_⟩
    have h1 : kE (cA g qq ad ea h X s.heap.size) (T.setVm vm₁) s.heap := kE.moved X₁.warmed hE
    have h2 : kE (cA g qq ad ea h X s.heap.size) ((T.setVm vm₁).calling (F0 m pc ls rest) mk (Value.ref b :: As).toArray) s.heap := kE.same (s := T.setVm vm₁) rfl h1
    have e9 : ((T.setVm vm₁).calling (F0 m pc ls rest) mk (Value.ref b :: As).toArray).heap = s.heap := hU
    rw [e9]
    exact h2
  obtain ⟨o, s₂, hsteps, -, hend, hq⟩ := Steps.callFree (hM s.heap.size) p X₁.admits X₁.cas X₁.clock (acts := []) hfrm happ hpre trivial
  obtain ⟨⟨⟨x, cell, ho, k1, k2, k3, k4⟩, hF⟩, L, ⟨hW2, hsame⟩, hL⟩ := hq
  subst ho
  rw [State.frames_setTop' (F0 m pc ls rest) X₁.here.top, X₁.tail] at hend
  obtain ⟨T', X', hWT, hsameT, ht⟩ := X₁.outOfThrown (g := F0 m pc ls rest) rfl hend hW2 hsame
  have hh : s₂.heap = T'.heap := by rw [ht]; rfl
  have hv : s₂.vm = T'.vm := by rw [ht]; rfl
  have e8 : (((T.setVm vm₁).setTop (F0 m pc ls rest)).pushFrame (Frame.invoking mk (Value.ref b :: As).toArray)).heap = s.heap := hU
  unfold va_F at hF
  rw [e8] at hF
  obtain ⟨hF1, hF2⟩ := hF
  rw [hh] at k1 k4 hF1 hF2
  rw [hv, X'.warmed.alike.findClass] at k3
  refine ⟨x, cell, T', L, by simpa using X', hL, k1, k2, k3, k4, ⟨hF1, hF2⟩, fun target hgo => hstep₁ _ fun acts => ?_⟩
  rw [doInvoke_state]
  rw [ht] at hsteps
  exact hsteps.trans hgo
set_option maxHeartbeats 4000000 in
/-- .. and out of a method that catches nothing -/
theorem t_pass {y : MethodName} {bytes : ByteArray} {maxL index n b fr lo : Nat} {ret : Option FieldType} {As st0 : List Value} {cls CN : String} (C : mCx p m c cc nL s args g own) (hlk : meth.locks = false) (hno : c.exceptionTable.isEmpty = true) (hl : ls.size = nL) (hw : cWd g (cA g qq ad ea h X s.heap.size) s.heap qq ad ea h X z s.heap []) (hE : kE (cA g qq ad ea h X s.heap.size) s s.heap)
    (hM : tMet l y bytes maxL ret fr lo g qq ad ea h X z (.ref b :: As) cls) (hcw : CallW R s args own CN index y bytes maxL ret (Cond.code y bytes maxL ret :: gw) { frames := fr, cells := 1, slots := 6, locals := lo } 1 6 n) (hrc : ∃ cellB : Cell, s.heap[b]? = some cellB ∧ cellB.vm.isStatics = false ∧ s.vm.findClass CN = some cellB.cls)
    (hn : As.length = n) (hst : st0 = As.reverse ++ .ref b :: rest) (hr : (rest.map fun v => v.category).sum ≤ 8) (hdg : decode cc pc = .ok (.invokevirtual index, 3)) (hRc : 1 ≤ R.cells ∧ 6 ≤ R.slots) : tG p l e R s m args below meth c g qq ad ea h X z cls (F0 m pc ls st0) := by
  intro T hT X9
  obtain ⟨x, cell, T', L, X', hL, k1, k2, k3, k4, hF, hgo⟩ := t_call0 C hl hw hE hM hcw hrc hn hst hr hdg hRc T hT X9
  obtain ⟨a1, a2, a3, a4, a5⟩ := X'.leaveThrown x (g := F0 m pc ls rest) rfl rfl rfl (fun y hy => by
      have : c.exceptionTable.toList = [] := by simpa using hno
      rw [this] at hy; cases hy) hlk
  exact ⟨T'.setFrames (.throwing x :: below), hgo _ a1, .threw x, a2, a3, ⟨⟨x, cell, rfl, k1, k2, by rw [a4.alike.findClass]; exact k3, k4⟩, hF⟩, L, ⟨a4, a5⟩, hL⟩
end TC

