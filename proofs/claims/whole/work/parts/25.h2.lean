theorem gw_471 : (Jvm.Cond.methodLink "MidiDeskLaw" (59 : Nat) ({ cls := "MidiDeskLaw", name := "time", desc := "(LMidiDesk;I[J)I" } : Jvm.MethodName)) ∈ gw := gw_in 471 (by decide +kernel) (by decide +kernel)
theorem gw_474 : (Jvm.Cond.classLink "MidiDeskLaw" (13 : Nat) "java/lang/IllegalStateException") ∈ gw := gw_in 474 (by decide +kernel) (by decide +kernel)
theorem gw_475 : (Jvm.Cond.classLink "MidiDeskLaw" (15 : Nat) "java/lang/IllegalArgumentException") ∈ gw := gw_in 475 (by decide +kernel) (by decide +kernel)
def hPc (g : gT) (qq ad ea : Nat → Nat) (h : cH) (X : va_W) (z : cZ) (vs : List Value) (sz : Nat) : Array Value → State → Prop := fun a U => tPc g qq ad ea h X z vs sz a U ∧ nC U
theorem hPc_blind {g : gT} {qq ad ea : Nat → Nat} {h : cH} {X : va_W} {z : cZ} {vs : List Value} {sz : Nat} : FrameBlind (hPc g qq ad ea h X z vs sz) := fun a U gf mk w => ⟨⟨cPc_blind a U gf mk w.1.1, kE.same (s := U) (U := U.calling gf mk a) rfl w.1.2⟩, nC.same (s := U) (U := U.calling gf mk a) rfl w.2⟩
/-- the contract of one of the law's helpers that makes what rm says -/
def hMet (l : Launch) (y : MethodName) (cc : ByteArray) (maxL : Nat) (hh : List (Nat × Nat × Nat × Nat)) (rm : Room) (g : gT) (qq ad ea : Nat → Nat) (h : cH) (X : va_W) (z : cZ) (vs : List Value) (rv : Option Value) (X' : va_W) (z' : cZ) : Prop :=
  ∀ sz : Nat, Met l y (.codeWith y cc maxL (some .int) hh :: gw) rm (hPc g qq ad ea h X z vs sz) (cQn g qq ad ea h X rv X' z' sz) rm.cells rm.slots (cA g qq ad ea h X sz)
abbrev tbl (c : Code) : List (Nat × Nat × Nat × Nat) := c.exceptionTable.toList.map (fun h => (h.startPc, h.endPc, h.handlerPc, h.catchType))
theorem hb_entry {l : Launch} {y : MethodName} {cc : ByteArray} {maxL : Nat} {hh : List (Nat × Nat × Nat × Nat)} {rm : Room} {g : gT} {qq ad ea : Nat → Nat} {h : cH} {X : va_W} {z : cZ} {vs : List Value} {sz mc ms : Nat} {Qc : Array Value → State → Outcome → State → Prop} {free : Addr → Prop} (hy : plainName y.cls = true) (hn : (lg_sl vs).length ≤ maxL)
    (body : ∀ (p : Program) (e : Env) (s : State) (m : MethodId) (args : Array Value) (below : List Frame) (meth : Method) (c : Code) (ls : Array Slot), s.heap.size = sz → mCx p m c cc maxL s args g y.cls → meth.sig.returnType = some .int → meth.locks = false → tbl c = hh → lv_has ls maxL (lv_args 0 vs) → cWd g (cA g qq ad ea h X s.heap.size) s.heap qq ad ea h X z s.heap [] → kE (cA g qq ad ea h X s.heap.size) s s.heap → nC s →
      W p l e rm s m args below meth c s.heap [] 0 0 (MQ below Qc args s mc ms free) (F0 m 0 ls [])) :
    Met l y (.codeWith y cc maxL (some .int) hh :: gw) rm (hPc g qq ad ea h X z vs sz) Qc mc ms free := by
  refine va_MetW (cc := cc) (maxL := maxL) (ret := some .int) (hh := hh) hy rfl ?_
  intro p e s m args below meth c s₁ B hml hv
  obtain ⟨⟨⟨rfl, hsz, hK, hP, hD0⟩, hE⟩, hno⟩ := hv
  subst hsz
  have hts := atoms_spec (ws := Cond.codeWith y cc maxL (some .int) hh :: gw) B.pre
  obtain ⟨m9, meth9, c9, n1, n2, n3, -, -, n4, -, -, -⟩ := Cond.codeWith_spec (hts _ List.mem_cons_self)
  cases B.named.symm.trans n1
  have X9 := Stand.of_body B
  cases X9.method.symm.trans n2
  cases X9.code.symm.trans n3
  have hown : s.vm.findClass y.cls = some m.cls := findClass_of_methodNamed B.named
  have hl := lv_entry vs (n := maxL) hn
  rw [lg_entry_eq]
  have hAe : cA g qq ad ea h X s.heap.size = va_A (cw g qq ad ea h z X) s.heap.size := va_A_map (cw_map rfl)
  exact body p e s m vs.toArray below meth c _ rfl ⟨⟨B.exec, B.bytes, hml, hown, fun w hw => hts w (List.mem_cons_of_mem _ hw)⟩, hK⟩ B.returns B.notSynchronized n4 hl ⟨hP, by rw [hAe]; exact hD0.self, va_S.rf, fun y hy => Or.inr hy⟩ hE hno
theorem h_entry {l : Launch} {y : MethodName} {cc : ByteArray} {maxL : Nat} {hh : List (Nat × Nat × Nat × Nat)} {rm : Room} {g : gT} {qq ad ea : Nat → Nat} {h : cH} {X X' : va_W} {z z' : cZ} {vs : List Value} {rv : Option Value} (hy : plainName y.cls = true) (hn : (lg_sl vs).length ≤ maxL)
    (body : ∀ (p : Program) (e : Env) (s : State) (m : MethodId) (args : Array Value) (below : List Frame) (meth : Method) (c : Code) (ls : Array Slot), mCx p m c cc maxL s args g y.cls → meth.sig.returnType = some .int → meth.locks = false → tbl c = hh → lv_has ls maxL (lv_args 0 vs) → cWd g (cA g qq ad ea h X s.heap.size) s.heap qq ad ea h X z s.heap [] → kE (cA g qq ad ea h X s.heap.size) s s.heap → nC s →
      cG p l e rm s m args below meth c g qq ad ea h X rv X' z' s.heap [] 0 0 (F0 m 0 ls [])) :
    hMet l y cc maxL hh rm g qq ad ea h X z vs rv X' z' := by
  intro sz
  refine hb_entry hy hn ?_
  intro p e s m args below meth c ls hsz
  subst hsz
  exact body p e s m args below meth c ls
section TK
variable {p : Program} {l : Launch} {e : Env} {R : Room} {s : State} {m : MethodId} {args : Array Value} {below : List Frame} {meth : Method} {c : Code} {H : Heap} {locs : List Loc} {cells slots : Nat} {Q : State → Prop} {cc : ByteArray} {nL pc : Nat} {ls : Array Slot} {rest : List Value} {g : gT} {A : Nat → Prop} {H0 : Heap} {qq ad ea : Nat → Nat} {X : va_W} {h : cH} {z : cZ}
theorem t_catch {y : MethodName} {bytes : ByteArray} {maxL index n b fr lo k en p1 p2 : Nat} {ret : Option FieldType} {As st0 : List Value} {CN : String} (C : mCx p m c cc nL s args g "MidiDeskLaw") (hl : ls.size = nL) (hw : cWd g (cA g qq ad ea h X s.heap.size) s.heap qq ad ea h X z s.heap []) (hE : kE (cA g qq ad ea h X s.heap.size) s s.heap)
    (hM : tMet l y bytes maxL ret fr lo g qq ad ea h X z (.ref b :: As) (ecl k)) (hk : k = 1 ∨ k = 2) (hcw : CallW R s args "MidiDeskLaw" CN index y bytes maxL ret (Cond.code y bytes maxL ret :: gw) { frames := fr, cells := 1, slots := 6, locals := lo } 1 6 n) (hrc : ∃ cellB : Cell, s.heap[b]? = some cellB ∧ cellB.vm.isStatics = false ∧ s.vm.findClass CN = some cellB.cls)
    (hn : As.length = n) (hst : st0 = As.reverse ++ .ref b :: rest) (hr : (rest.map fun v => v.category).sum ≤ 8) (hdg : decode cc pc = .ok (.invokevirtual index, 3)) (hRc : 1 ≤ R.cells ∧ 6 ≤ R.slots) (htb : tbl c = [(0, en, p1, 13), (0, en, p2, 15)]) (hpc : pc < en) (hno : nC s)
    (kk : ∀ (x : Nat) (H1 : Heap) (locs1 : List Loc), cWd g (cA g qq ad ea h X s.heap.size) s.heap qq ad ea h X z H1 locs1 → W p l e R s m args below meth c H1 locs1 1 6 Q (F0 m (if k = 1 then p1 else p2) ls [.ref x])) : W p l e R s m args below meth c s.heap [] 0 0 Q (F0 m pc ls st0) := by
  intro T hT X9
  obtain ⟨x, cell, T', L, X', hL, k1, k2, k3, k4, hF, hgo⟩ := t_call0 C hl hw hE hM hcw hrc hn hst hr hdg hRc T hT X9
  obtain ⟨x1, x2, ht, a1, a2, a3, a4, b1, b2, b3, b4⟩ : ∃ x1 x2 : ExceptionTableEntry, c.exceptionTable.toList = [x1, x2] ∧ x1.startPc = 0 ∧ x1.endPc = en ∧ x1.handlerPc = p1 ∧ x1.catchType = 13 ∧ x2.startPc = 0 ∧ x2.endPc = en ∧ x2.handlerPc = p2 ∧ x2.catchType = 15 := by
    unfold tbl at htb
    match hq : c.exceptionTable.toList with
    | [] => rw [hq] at htb; simp at htb
    | [x1] => rw [hq] at htb; simp at htb
    | [x1, x2] =>
      rw [hq] at htb
      simp only [List.map_cons, List.map_nil, List.cons.injEq, Prod.mk.injEq, and_true] at htb
      exact ⟨x1, x2, rfl, htb.1.1, htb.1.2.1, htb.1.2.2.1, htb.1.2.2.2, htb.2.1, htb.2.2.1, htb.2.2.2.1, htb.2.2.2.2⟩
    | x1 :: x2 :: x3 :: r => rw [hq] at htb; simp at htb
  have cov : ∀ q : ExceptionTableEntry, q.startPc = 0 → q.endPc = en → covers q (F0 m pc ls rest).pc = true := fun q q1 q2 => by
    show (decide (q.startPc ≤ pc) && decide (pc < q.endPc)) = true
    rw [q1, q2]; simp; exact hpc
  obtain ⟨vm', XV, hstep⟩ := catch2 X' x (g := F0 m pc ls rest) rfl ht (cov x1 a1 a2) (cov x2 b1 b2) (by rw [a4]; decide) (by rw [b4]; decide) C.1.2.2.2.1 (by rw [a4]; exact C.1.2.2.2.2 _ gw_474) (by rw [b4]; exact C.1.2.2.2.2 _ gw_475) k1 k2 hk k3 (va_any rfl (hE.1 _ (by simp [exw]))) (va_any rfl (hE.1 _ (by simp [exw]))) hno
  obtain ⟨t, g1, g2⟩ := kk x T'.heap L ⟨k4, hw.2.1, ⟨hF.1, hF.2, hL⟩, hw.2.2.2⟩ (T'.setVm vm') rfl XV
  refine ⟨t, hgo _ (hstep _ ?_), g2⟩
  have e1 : (if k = 1 then x1 else x2).handlerPc = if k = 1 then p1 else p2 := by split <;> assumption
  rw [e1]
  exact g1
theorem h_run {y : MethodName} {bytes : ByteArray} {maxL mc ms n index : Nat} {hh : List (Nat × Nat × Nat × Nat)} {rm : Room} {Pc : Array Value → State → Prop} {Qc : Array Value → State → Outcome → State → Prop} {free : Addr → Prop} {own : String} {As : List Value} {f : JFrame} (S : CallFix p m c cc nL s args gw own) (hM : Met l y (.codeWith y bytes maxL (some .int) hh :: gw) rm Pc Qc mc ms free) (h5 : Cond.codeWith y bytes maxL (some .int) hh ∈ gw) (hli : Cond.methodLink own index y ∈ gw) (hsi : Cond.static y ∈ gw) (hii : Cond.initialized y.cls ∈ gw)
    (hd : y.cls ≠ "java/lang/invoke/MethodHandle" ∧ y.cls ≠ "java/lang/invoke/VarHandle" ∧ (parseMethodDescriptor y.desc).map (fun d => d.parameters.length) = some n) (hR : rm.frames + 1 ≤ R.frames ∧ 8 + (maxL + 11) + rm.locals ≤ R.locals) (hrc : rm.cells = mc) (hrs : rm.slots = ms) (hbl : FrameBlind Pc) (hp : ∀ U : State, U.heap = H → s.WarmedH U.vm → Pc As.toArray U)
    (hg : f.method = m) (hn : As.length = n) (hsize : f.locals.size = nL) (hstack : f.stack = As.reverse ++ rest) (hW : 2 * f.monitorRoom + (rest.map fun v => v.category).sum ≤ 8) (hdg : decode cc f.pc = .ok (.invokestatic index, 3)) (hf : cells + mc ≤ R.cells ∧ slots + ms ≤ R.slots) :
    va_Run p l e R s m args below meth c H locs cells slots mc ms f rest (Qc As.toArray) free := by
  obtain ⟨hx, hb, hml, ho, hts⟩ := S
  have hws : ∀ w ∈ (Cond.codeWith y bytes maxL (some .int) hh :: gw), ∀ (a' : Array Value) (U : State), s.WarmedH U.vm → w.before a' U = true := pay_in hts (gw_GI h5)
  have hini := hts _ hii
  have hK : Back l R p e below s args y 3 8 (PreOf R mc ms Pc) (PostOf Qc mc ms free) := va_backW (hh := hh) (bytes := bytes) (maxL := maxL) (ret := some .int) hM hbl hrc hrs hR.1 hR.2 hws List.mem_cons_self (fun a' U hW => hws _ (List.mem_cons_of_mem _ hii) a' U hW)
  obtain ⟨mk, methM, cM, hnamed, hmethM, -, -, -, -, -, -, hsigM⟩ := Cond.codeWith_spec (hts _ h5)
  have hstatic : methM.isStatic = true := Cond.static_spec hnamed hmethM (hts _ hsi)
  obtain ⟨kP, hkP, -⟩ := className_of_methodNamed hnamed
  have hinitP : kP.init = .initialized := Cond.initialized_spec (findClass_of_methodNamed hnamed) hkP hini
  have hlen : As.length = methM.sig.parameters.length := by
    have h2 := hd.2.2
    rw [hsigM] at h2
    rw [hn]; exact (Option.some.inj h2).symm
  intro T hT X9
  obtain ⟨vm₁, X₁, hstep₁⟩ := X9.invokestatic hx ho (hts _ hli) hnamed hmethM hstatic hkP hinitP ⟨hd.1, hd.2.1⟩ (g := f) hg (argsL := As) (rest := rest) hlen hstack (by rw [hb]; exact hdg)
  obtain ⟨v, ⟨U', l2, c2, s2⟩, X', ⟨g', mk', t, L, e1, e2, hq, h1, hL, h2, h3⟩, hsteps⟩ := hK m meth c ⟨T.setVm vm₁, locs, cells, slots⟩ { f with stack := rest } (.invokestatic index) mk As.toArray X₁ hg (hsize.trans hml.symm) (by rw [hb]; exact hdg) hW (X₁.named hnamed) ⟨hf.1, hf.2, hp (T.setVm vm₁) hT X₁.warmed⟩
  dsimp only [Pt.U, Pt.locs, Pt.cells, Pt.slots] at X' e1 e2 h1 h2 h3 hsteps
  subst h1; subst h2; subst h3
  exact ⟨v, (T.setVm vm₁).calling g' mk' As.toArray, t, U', L, hT, X', hL, e1, e2, hq, fun target h => hstep₁ _ fun acts => by rw [doInvoke_state]; exact hsteps.trans h⟩
theorem h_pre {vs : List Value} (hk : kK g s) (hE : kE A s H) (hno : nC s) (hw : cWd g A H0 qq ad ea h X z H locs) : ∀ U : State, U.heap = H → s.WarmedH U.vm → hPc g qq ad ea h X z vs H.size vs.toArray U := fun U hU hW => by
  refine ⟨⟨c_pre hk hw U hU hW, ?_⟩, nC.moved hW hno⟩
  rw [hU]
  exact kE.moved hW (hE.narrow (c_free rfl hw rfl))
theorem h_call {y : MethodName} {bytes : ByteArray} {maxL index n : Nat} {hh : List (Nat × Nat × Nat × Nat)} {rm : Room} {As : List Value} {rv : Option Value} {X' : va_W} {z' : cZ} {st0 : List Value} (C : mCx p m c cc nL s args g "MidiDeskLaw") (hl : ls.size = nL) (hw : cWd g A H0 qq ad ea h X z H locs) (hE : kE A s H) (hno : nC s)
    (hM : hMet l y bytes maxL hh rm g qq ad ea h X z As rv X' z') (hX : X.map Prod.fst = X'.map Prod.fst) (h5 : Cond.codeWith y bytes maxL (some .int) hh ∈ gw) (hli : Cond.methodLink "MidiDeskLaw" index y ∈ gw) (hsi : Cond.static y ∈ gw) (hii : Cond.initialized y.cls ∈ gw)
    (hd : y.cls ≠ "java/lang/invoke/MethodHandle" ∧ y.cls ≠ "java/lang/invoke/VarHandle" ∧ (parseMethodDescriptor y.desc).map (fun d => d.parameters.length) = some n) (hR : rm.frames + 1 ≤ R.frames ∧ 8 + (maxL + 11) + rm.locals ≤ R.locals)
    (hn : As.length = n) (hst : st0 = As.reverse ++ rest) (hr : (rest.map fun v => v.category).sum ≤ 8) (hdg : decode cc pc = .ok (.invokestatic index, 3)) (hf : cells + rm.cells ≤ R.cells ∧ slots + rm.slots ≤ R.slots)
    (kk : ∀ (H1 : Heap) (locs1 : List Loc), cWd g A H0 qq ad ea h X' z' H1 locs1 → W p l e R s m args below meth c H1 locs1 (cells + rm.cells) (slots + rm.slots) Q (F0 m (pc + 3) ls (rv.toList ++ rest))) : W p l e R s m args below meth c H locs cells slots Q (F0 m pc ls st0) := by
  refine x_call (B := fun t => va_P g.1 classes (cw g qq ad ea h z' X') t) (rv := rv) (h_run (As := As) (rest := rest) C.1 (hM H.size) h5 hli hsi hii hd hR rfl rfl hPc_blind (h_pre C.2 hE hno hw) rfl hn hl hst (lv_room hr) hdg hf) hw.2.2.1 (fun y _ w => c_free rfl hw rfl y w) (c_free rfl hw rfl) (fun H1 locs1 hB hS => kk H1 locs1 ⟨hB, va_D_map (cw_map hX) hw.2.1, hS, hw.2.2.2⟩)
/-- .. of the one that makes arrays -/
def hMeA (l : Launch) (y : MethodName) (cc : ByteArray) (maxL : Nat) (hh : List (Nat × Nat × Nat × Nat)) (fr lo : Nat) (g : gT) (qq ad ea : Nat → Nat) (h : cH) (X : va_W) (z : cZ) (vs : List Value) (rv : (Nat → Nat) → Option Value) (X' : va_W) (h' : cH) (z' : cZ) : Prop :=
  ∀ sz : Nat, Met l y (.codeWith y cc maxL (some .int) hh :: gw) (rmA fr lo h h') (hPc g qq ad ea h X z vs sz) (cQa g qq (cA g qq ad ea h X sz) True ea rv X' h' z') (rmA fr lo h h').cells (rmA fr lo h h').slots (cA g qq ad ea h X sz)
theorem h_callA {y : MethodName} {bytes : ByteArray} {maxL index n fr lo : Nat} {hh : List (Nat × Nat × Nat × Nat)} {As : List Value} {rv : (Nat → Nat) → Option Value} {X' : va_W} {h' : cH} {z' : cZ} {st0 : List Value} (C : mCx p m c cc nL s args g "MidiDeskLaw") (hl : ls.size = nL) (hw : cWd g A H0 qq ad ea h X z H locs) (hE : kE A s H) (hno : nC s)
    (hM : hMeA l y bytes maxL hh fr lo g qq ad ea h X z As rv X' h' z') (h5 : Cond.codeWith y bytes maxL (some .int) hh ∈ gw) (hli : Cond.methodLink "MidiDeskLaw" index y ∈ gw) (hsi : Cond.static y ∈ gw) (hii : Cond.initialized y.cls ∈ gw)
    (hd : y.cls ≠ "java/lang/invoke/MethodHandle" ∧ y.cls ≠ "java/lang/invoke/VarHandle" ∧ (parseMethodDescriptor y.desc).map (fun d => d.parameters.length) = some n) (hR : (rmA fr lo h h').frames + 1 ≤ R.frames ∧ 8 + (maxL + 11) + (rmA fr lo h h').locals ≤ R.locals)
    (hn : As.length = n) (hst : st0 = As.reverse ++ rest) (hr : (rest.map fun v => v.category).sum ≤ 8) (hdg : decode cc pc = .ok (.invokestatic index, 3)) (hf : cells + (h'.2.2.1 - h.2.2.1) ≤ R.cells ∧ slots + (h'.2.2.2 - h.2.2.2) ≤ R.slots)
    (kk : ∀ (ad' : Nat → Nat) (H1 : Heap) (locs1 : List Loc), cWd g A H0 qq ad' ea h' X' z' H1 locs1 → W p l e R s m args below meth c H1 locs1 (cells + (h'.2.2.1 - h.2.2.1)) (slots + (h'.2.2.2 - h.2.2.2)) Q (F0 m (pc + 3) ls ((rv ea).toList ++ rest))) : W p l e R s m args below meth c H locs cells slots Q (F0 m pc ls st0) := by
  refine x_calla (P1 := fun ea' => True → ea' = ea) (rv := rv) (B := fun ad' ea' t => va_P g.1 classes (cw g qq ad' ea' h' z' X') t) (Dd := fun ad' ea' => va_D (cA g qq ad ea h X H.size) (cw g qq ad' ea' h' z' X')) (h_run (As := As) (rest := rest) C.1 (hM H.size) h5 hli hsi hii hd hR rfl rfl hPc_blind (h_pre C.2 hE hno hw) rfl hn hl hst (lv_room hr) hdg hf) hw.2.2.1 (fun y _ w => c_free rfl hw rfl y w) (c_free rfl hw rfl) (fun ad' ea' H1 locs1 h1 hB hd hS => ?_)
  have he := h1 trivial
  subst he
  exact kk ad' H1 locs1 ⟨hB, hd.weaken (fun _ _ _ w => c_free rfl hw rfl _ w), hS, hw.2.2.2⟩
end TK
theorem vi01 : vp_in 0 1 := by unfold vp_in; decide
