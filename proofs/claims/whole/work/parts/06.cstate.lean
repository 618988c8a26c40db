/-- the state of the desk: int fields, int arrays, rows of events (by their numbers), events' fields -/
abbrev cZ : Type := (Nat → Int32) × (Nat → Nat → Int32) × (Nat → Nat → Option Nat) × (Nat → Nat → Int32)
/-- its shape: lengths of arrays, how many events were made, cells and slots that were made -/
abbrev cH : Type := (Nat → Nat) × Nat × Nat × Nat
def zi (z : cZ) : Nat → Int32 := z.1
def za (z : cZ) : Nat → Nat → Int32 := z.2.1
def zr (z : cZ) : Nat → Nat → Option Nat := z.2.2.1
def ze (z : cZ) : Nat → Nat → Int32 := z.2.2.2
def upr (f : Nat → Nat → Option Nat) (k i : Nat) (x : Option Nat) : Nat → Nat → Option Nat := fun a b => if a = k then (if b = i then x else f k b) else f a b
def upe (f : Nat → Nat → Int32) (j k : Nat) (x : Int32) : Nat → Nat → Int32 := fun a b => if a = j then (if b = k then x else f a b) else f a b
def zU (z : cZ) (k : Nat) (x : Int32) : cZ := (upd z.1 k x, z.2)
def zA (z : cZ) (k i : Nat) (x : Int32) : cZ := (z.1, up2 z.2.1 k i x, z.2.2)
def zR (z : cZ) (k i : Nat) (x : Option Nat) : cZ := (z.1, z.2.1, upr z.2.2.1 k i x, z.2.2.2)
def zE (z : cZ) (j k : Nat) (x : Int32) : cZ := (z.1, z.2.1, z.2.2.1, upe z.2.2.2 j k x)
def okr (n : Nat) : Option Nat → Bool
  | none => true
  | some j => decide (j < n)
def cevf (z : cZ) (j : Nat) : List Value := [.int (ze z j 0), .int (ze z j 1), .int (ze z j 2), .int (ze z j 3), .int (ze z j 4), .int (ze z j 5), .int (ze z j 6)]
def cev (ea : Nat → Nat) (z : cZ) (j : Nat) : Nat × va_E := (ea j, .inr (1, cevf z j))
def cpool (ea : Nat → Nat) (z : cZ) (n : Nat) : va_W := (List.range n).map (cev ea z)
/-- the cells of the desk: desk, input, output, data, score, their arrays, the rows of events; the events; others -/
def cw (g : gT) (qq ad ea : Nat → Nat) (h : cH) (z : cZ) (X : va_W) : va_W := (qq 0, .inr (5, [.ref (qq 1), .ref (qq 2), .ref (qq 4)])) :: (qq 1, .inr (0, [.int 12000, .ref (ad 0), .int (zi z 0)])) :: (qq 2, .inr (0, [.int 16384, .ref (ad 1), .int (zi z 1)])) :: (qq 3, .inr (0, [.int 8000, .ref (ad 2), .int (zi z 2)])) :: (qq 4, .inr (4, [.ref (qq 3), .int (zi z 3), .int (zi z 4), .int (zi z 5), .int (zi z 6), .ref (ad 3), .ref (ad 4), .int (zi z 7)])) :: (ad 0, .inl (g.2.1, h.1 0, .inl (za z 0))) :: (ad 1, .inl (g.2.1, h.1 1, .inl (za z 1))) :: (ad 2, .inl (g.2.1, h.1 2, .inl (za z 2))) :: (ad 3, .inl (g.2.2.2, h.1 3, .inr (.inr (.inr (.inr (fun t => Option.map ea (zr z 0 t))))))) :: (ad 4, .inl (g.2.2.2, h.1 4, .inr (.inr (.inr (.inr (fun t => Option.map ea (zr z 1 t))))))) :: (cpool ea z h.2.1 ++ X)
def pcell (qp : Nat) (qq : Nat → Nat) (pv : Nat → Int32) : Nat × va_E := (qp, .inr (2, [.ref (qq 1), .ref (qq 4), .int (pv 0), .int (pv 1), .int (pv 2), .int (pv 3), .int (pv 4), .int (pv 5), .int (pv 6), .int (pv 7), .int (pv 8), .int (pv 9), .int (pv 10)]))
def tcell (qp : Nat) (qq : Nat → Nat) (pv : Nat → Int32) : Nat × va_E := (qp, .inr (3, [.ref (qq 4), .ref (qq 2), .int (pv 0), .int (pv 1), .int (pv 2)]))
def cWd (g : gT) (A : Nat → Prop) (H0 : Heap) (qq ad ea : Nat → Nat) (h : cH) (X : va_W) (z : cZ) (H : Heap) (locs : List Loc) : Prop := va_P g.1 classes (cw g qq ad ea h z X) H ∧ va_D A (cw g qq ad ea h z X) ∧ va_S A H0 H locs ∧ ∀ y, H0.size ≤ y → A y
theorem cw_map {g : gT} {qq ad ea : Nat → Nat} {h : cH} {z z' : cZ} {X X' : va_W} (hX : X.map Prod.fst = X'.map Prod.fst) : (cw g qq ad ea h z X).map Prod.fst = (cw g qq ad ea h z' X').map Prod.fst := by
  simp only [cw, cpool, List.map_cons, List.map_append, List.map_map, hX]
  rfl
def z0 : cZ := (fun _ => 0, fun _ _ => 0, fun _ _ => none, fun _ _ => 0)
abbrev cA (g : gT) (qq ad ea : Nat → Nat) (h : cH) (X : va_W) (sz : Nat) : Nat → Prop := va_A (cw g qq ad ea h z0 X) sz
def cPc (g : gT) (qq ad ea : Nat → Nat) (h : cH) (X : va_W) (z : cZ) (vs : List Value) (sz : Nat) : Array Value → State → Prop := va_Pc vs (fun U => U.heap.size = sz ∧ kK g U ∧ va_P g.1 classes (cw g qq ad ea h z X) U.heap ∧ va_D (fun _ => True) (cw g qq ad ea h z X))
def cQn (g : gT) (qq ad ea : Nat → Nat) (h : cH) (X : va_W) (rv : Option Value) (X' : va_W) (z' : cZ) (sz : Nat) : Array Value → State → Outcome → State → Prop := fun _ st oc t => (oc = .returned rv ∧ va_P g.1 classes (cw g qq ad ea h z' X') t.heap) ∧ va_F (cA g qq ad ea h X sz) st t
/-- the contract of a method that makes nothing -/
def cMet (l : Launch) (y : MethodName) (cc : ByteArray) (maxL : Nat) (ret : Option FieldType) (rm : Room) (g : gT) (qq ad ea : Nat → Nat) (h : cH) (X : va_W) (z : cZ) (vs : List Value) (rv : Option Value) (X' : va_W) (z' : cZ) : Prop :=
  ∀ sz : Nat, Met l y (.code y cc maxL ret :: gw) rm (cPc g qq ad ea h X z vs sz) (cQn g qq ad ea h X rv X' z' sz) rm.cells rm.slots (cA g qq ad ea h X sz)
theorem cPc_blind {g : gT} {qq ad ea : Nat → Nat} {h : cH} {X : va_W} {z : cZ} {vs : List Value} {sz : Nat} : FrameBlind (cPc g qq ad ea h X z vs sz) := fun a U gf mk w => ⟨w.1, w.2.1, kK.same (s := U) (U := U.calling gf mk a) rfl w.2.2.1, w.2.2.2.1, w.2.2.2.2⟩
abbrev cG (p : Program) (l : Launch) (e : Env) (R : Room) (s : State) (m : MethodId) (args : Array Value) (below : List Frame) (meth : Method) (c : Code) (g : gT) (qq ad ea : Nat → Nat) (h : cH) (X : va_W) (rv : Option Value) (X' : va_W) (z' : cZ) (H : Heap) (locs : List Loc) (cells slots : Nat) (f : JFrame) : Prop :=
  W p l e R s m args below meth c H locs cells slots (MQ below (cQn g qq ad ea h X rv X' z' s.heap.size) args s R.cells R.slots (cA g qq ad ea h X s.heap.size)) f
theorem c_entry {l : Launch} {y : MethodName} {cc : ByteArray} {maxL : Nat} {ret : Option FieldType} {rm : Room} {g : gT} {qq ad ea : Nat → Nat} {h : cH} {X X' : va_W} {z z' : cZ} {vs : List Value} {rv : Option Value} (hy : plainName y.cls = true) (hn : (lg_sl vs).length ≤ maxL)
    (body : ∀ (p : Program) (e : Env) (s : State) (m : MethodId) (args : Array Value) (below : List Frame) (meth : Method) (c : Code) (ls : Array Slot), mCx p m c cc maxL s args g y.cls → meth.sig.returnType = ret → meth.locks = false → meth.name = y.name → lv_has ls maxL (lv_args 0 vs) → cWd g (cA g qq ad ea h X s.heap.size) s.heap qq ad ea h X z s.heap [] → cG p l e rm s m args below meth c g qq ad ea h X rv X' z' s.heap [] 0 0 (F0 m 0 ls [])) :
    cMet l y cc maxL ret rm g qq ad ea h X z vs rv X' z' := by
  intro sz
  refine Met.ofW (cc := cc) (maxL := maxL) (ret := ret) hy rfl ?_
  intro p e s m args below meth c s₁ B hml hv
  obtain ⟨rfl, hsz, hK, hP, hD0⟩ := hv
  subst hsz
  have hts := atoms_spec (ws := Cond.code y cc maxL ret :: gw) B.pre
  have hown : s.vm.findClass y.cls = some m.cls := findClass_of_methodNamed B.named
  have hl := lv_entry vs (n := maxL) hn
  rw [lg_entry_eq]
  have hAe : cA g qq ad ea h X s.heap.size = va_A (cw g qq ad ea h z X) s.heap.size := va_A_map (cw_map rfl)
  exact body p e s m vs.toArray below meth c _ ⟨⟨B.exec, B.bytes, hml, hown, fun w hw => hts w (List.mem_cons_of_mem _ hw)⟩, hK⟩ B.returns B.notSynchronized (name_of_methodNamed B.named B.method).1 hl ⟨hP, by rw [hAe]; exact hD0.self, va_S.rf, fun y hy => Or.inr hy⟩
theorem cw_ev {g : gT} {qq ad ea : Nat → Nat} {h : cH} {z : cZ} {X : va_W} {j : Nat} (hj : j < h.2.1) : (cw g qq ad ea h z X)[j + 10]? = some (cev ea z j) := by
  show (cpool ea z h.2.1 ++ X)[j]? = _
  rw [List.getElem?_append_left (by simp [cpool]; exact hj)]
  simp [cpool, hj]
theorem cev_ne {ea : Nat → Nat} {z : cZ} {i j k : Nat} {x : Int32} (hij : ¬ i = j) : cev ea (zE z j k x) i = cev ea z i := by
  simp [cev, cevf, zE, ze, upe, hij]
theorem cw_evset {g : gT} {qq ad ea : Nat → Nat} {h : cH} {z : cZ} {X : va_W} {j k : Nat} {x : Int32} : (cw g qq ad ea h z X).set (j + 10) (cev ea (zE z j k x) j) = (if j < h.2.1 then cw g qq ad ea h (zE z j k x) X else cw g qq ad ea h z (X.set (j - h.2.1) (cev ea (zE z j k x) j))) := by
  by_cases hj : j < h.2.1
  · rw [if_pos hj]
    have e : (cpool ea z h.2.1 ++ X).set j (cev ea (zE z j k x) j) = cpool ea (zE z j k x) h.2.1 ++ X := by
      rw [List.set_append_left _ _ (by simp [cpool]; exact hj)]
      congr 1
      apply List.ext_getElem?
      intro i
      by_cases hi : i = j
      · subst hi
        rw [List.getElem?_set_self (by simp [cpool]; exact hj)]
        simp [cpool, hj]
      · rw [List.getElem?_set_ne (Ne.symm hi)]
        by_cases hl : i < h.2.1
        · simp [cpool, hl, cev_ne hi]
        · simp [cpool, hl]
    show _ :: _ :: _ :: _ :: _ :: _ :: _ :: _ :: _ :: _ :: ((cpool ea z h.2.1 ++ X).set j (cev ea (zE z j k x) j)) = _
    rw [e]
    rfl
  · rw [if_neg hj]
    show _ :: _ :: _ :: _ :: _ :: _ :: _ :: _ :: _ :: _ :: ((cpool ea z h.2.1 ++ X).set j (cev ea (zE z j k x) j)) = _
    rw [List.set_append_right _ _ (by simp [cpool]; omega)]
    simp only [cpool, List.length_map, List.length_range]
    rfl
theorem cw_x {g : gT} {qq ad ea : Nat → Nat} {h : cH} {z : cZ} {X : va_W} {x : Nat × va_E} : (cw g qq ad ea h z (x :: X))[h.2.1 + 10]? = some x := by
  show (cpool ea z h.2.1 ++ x :: X)[h.2.1]? = _
  rw [List.getElem?_append_right (by simp [cpool])]
  simp [cpool]
theorem cw_xset {g : gT} {qq ad ea : Nat → Nat} {h : cH} {z : cZ} {X : va_W} {x x' : Nat × va_E} : (cw g qq ad ea h z (x :: X)).set (h.2.1 + 10) x' = cw g qq ad ea h z (x' :: X) := by
  show _ :: _ :: _ :: _ :: _ :: _ :: _ :: _ :: _ :: _ :: ((cpool ea z h.2.1 ++ x :: X).set h.2.1 x') = _
  rw [List.set_append_right _ _ (by simp [cpool])]
  simp only [cpool, List.length_map, List.length_range, Nat.sub_self, List.set_cons_zero]
  rfl
theorem rf_cat (r : Option Nat) : (va_rf r).category = 1 := by cases r <;> rfl
theorem gw_81 : (Jvm.Cond.fieldLink "MidiDesk$Bytes" (9 : Nat) "MidiDesk$Bytes" "most" "I") ∈ gw := gw_in 81 (by decide +kernel) (by decide +kernel)
theorem gw_82 : (Jvm.Cond.fieldLink "MidiDesk$Bytes" (15 : Nat) "MidiDesk$Bytes" "row" "[I") ∈ gw := gw_in 82 (by decide +kernel) (by decide +kernel)
theorem gw_83 : (Jvm.Cond.fieldLink "MidiDesk$Bytes" (19 : Nat) "MidiDesk$Bytes" "size" "I") ∈ gw := gw_in 83 (by decide +kernel) (by decide +kernel)
theorem gw_84 : (Jvm.Cond.laysFinal "MidiDesk$Bytes" "MidiDesk$Bytes" "most" "I") ∈ gw := gw_in 84 (by decide +kernel) (by decide +kernel)
theorem gw_86 : (Jvm.Cond.lays "MidiDesk$Bytes" "MidiDesk$Bytes" "row" "[I") ∈ gw := gw_in 86 (by decide +kernel) (by decide +kernel)
theorem gw_88 : (Jvm.Cond.lays "MidiDesk$Bytes" "MidiDesk$Bytes" "size" "I") ∈ gw := gw_in 88 (by decide +kernel) (by decide +kernel)
theorem gw_102 : (Jvm.Cond.fieldLink "MidiDesk$Score" (14 : Nat) "MidiDesk$Score" "data" "LMidiDesk$Bytes;") ∈ gw := gw_in 102 (by decide +kernel) (by decide +kernel)
theorem gw_106 : (Jvm.Cond.fieldLink "MidiDesk$Score" (29 : Nat) "MidiDesk$Score" "present" "Z") ∈ gw := gw_in 106 (by decide +kernel) (by decide +kernel)
theorem gw_111 : (Jvm.Cond.fieldLink "MidiDesk$Score" (116 : Nat) "MidiDesk$Score" "format" "I") ∈ gw := gw_in 111 (by decide +kernel) (by decide +kernel)
theorem gw_117 : (Jvm.Cond.fieldLink "MidiDesk$Score" (103 : Nat) "MidiDesk$Score" "division" "I") ∈ gw := gw_in 117 (by decide +kernel) (by decide +kernel)
theorem gw_119 : (Jvm.Cond.fieldLink "MidiDesk$Score" (22 : Nat) "MidiDesk$Score" "row" "[LMidiDesk$Event;") ∈ gw := gw_in 119 (by decide +kernel) (by decide +kernel)
theorem gw_120 : (Jvm.Cond.fieldLink "MidiDesk$Score" (26 : Nat) "MidiDesk$Score" "spare" "[LMidiDesk$Event;") ∈ gw := gw_in 120 (by decide +kernel) (by decide +kernel)
theorem gw_121 : (Jvm.Cond.fieldLink "MidiDesk$Score" (33 : Nat) "MidiDesk$Score" "size" "I") ∈ gw := gw_in 121 (by decide +kernel) (by decide +kernel)
theorem gw_124 : (Jvm.Cond.laysFinal "MidiDesk$Score" "MidiDesk$Score" "data" "LMidiDesk$Bytes;") ∈ gw := gw_in 124 (by decide +kernel) (by decide +kernel)
theorem gw_126 : (Jvm.Cond.lays "MidiDesk$Score" "MidiDesk$Score" "present" "Z") ∈ gw := gw_in 126 (by decide +kernel) (by decide +kernel)
theorem gw_128 : (Jvm.Cond.lays "MidiDesk$Score" "MidiDesk$Score" "format" "I") ∈ gw := gw_in 128 (by decide +kernel) (by decide +kernel)
theorem gw_130 : (Jvm.Cond.lays "MidiDesk$Score" "MidiDesk$Score" "tracks" "I") ∈ gw := gw_in 130 (by decide +kernel) (by decide +kernel)
theorem gw_132 : (Jvm.Cond.lays "MidiDesk$Score" "MidiDesk$Score" "division" "I") ∈ gw := gw_in 132 (by decide +kernel) (by decide +kernel)
theorem gw_134 : (Jvm.Cond.lays "MidiDesk$Score" "MidiDesk$Score" "row" "[LMidiDesk$Event;") ∈ gw := gw_in 134 (by decide +kernel) (by decide +kernel)
theorem gw_136 : (Jvm.Cond.lays "MidiDesk$Score" "MidiDesk$Score" "spare" "[LMidiDesk$Event;") ∈ gw := gw_in 136 (by decide +kernel) (by decide +kernel)
theorem gw_138 : (Jvm.Cond.lays "MidiDesk$Score" "MidiDesk$Score" "size" "I") ∈ gw := gw_in 138 (by decide +kernel) (by decide +kernel)
theorem gw_141 : (Jvm.Cond.fieldLink "MidiDesk" (14 : Nat) "MidiDesk" "input" "LMidiDesk$Bytes;") ∈ gw := gw_in 141 (by decide +kernel) (by decide +kernel)
theorem gw_142 : (Jvm.Cond.fieldLink "MidiDesk" (18 : Nat) "MidiDesk" "output" "LMidiDesk$Bytes;") ∈ gw := gw_in 142 (by decide +kernel) (by decide +kernel)
theorem gw_143 : (Jvm.Cond.fieldLink "MidiDesk" (24 : Nat) "MidiDesk" "score" "LMidiDesk$Score;") ∈ gw := gw_in 143 (by decide +kernel) (by decide +kernel)
theorem gw_144 : (Jvm.Cond.laysFinal "MidiDesk" "MidiDesk" "input" "LMidiDesk$Bytes;") ∈ gw := gw_in 144 (by decide +kernel) (by decide +kernel)
theorem gw_146 : (Jvm.Cond.laysFinal "MidiDesk" "MidiDesk" "output" "LMidiDesk$Bytes;") ∈ gw := gw_in 146 (by decide +kernel) (by decide +kernel)
theorem gw_148 : (Jvm.Cond.laysFinal "MidiDesk" "MidiDesk" "score" "LMidiDesk$Score;") ∈ gw := gw_in 148 (by decide +kernel) (by decide +kernel)
theorem gw_189 : (Jvm.Cond.fieldLink "MidiDesk$Parser" (9 : Nat) "MidiDesk$Parser" "input" "LMidiDesk$Bytes;") ∈ gw := gw_in 189 (by decide +kernel) (by decide +kernel)
theorem gw_190 : (Jvm.Cond.fieldLink "MidiDesk$Parser" (15 : Nat) "MidiDesk$Parser" "score" "LMidiDesk$Score;") ∈ gw := gw_in 190 (by decide +kernel) (by decide +kernel)
theorem gw_191 : (Jvm.Cond.fieldLink "MidiDesk$Parser" (40 : Nat) "MidiDesk$Parser" "pos" "I") ∈ gw := gw_in 191 (by decide +kernel) (by decide +kernel)
theorem gw_192 : (Jvm.Cond.fieldLink "MidiDesk$Parser" (30 : Nat) "MidiDesk$Parser" "end" "I") ∈ gw := gw_in 192 (by decide +kernel) (by decide +kernel)
theorem gw_193 : (Jvm.Cond.fieldLink "MidiDesk$Parser" (37 : Nat) "MidiDesk$Parser" "fault" "I") ∈ gw := gw_in 193 (by decide +kernel) (by decide +kernel)
theorem gw_194 : (Jvm.Cond.fieldLink "MidiDesk$Parser" (50 : Nat) "MidiDesk$Parser" "tracksSeen" "I") ∈ gw := gw_in 194 (by decide +kernel) (by decide +kernel)
theorem gw_195 : (Jvm.Cond.fieldLink "MidiDesk$Parser" (93 : Nat) "MidiDesk$Parser" "tick" "I") ∈ gw := gw_in 195 (by decide +kernel) (by decide +kernel)
theorem gw_196 : (Jvm.Cond.fieldLink "MidiDesk$Parser" (96 : Nat) "MidiDesk$Parser" "running" "I") ∈ gw := gw_in 196 (by decide +kernel) (by decide +kernel)
theorem gw_197 : (Jvm.Cond.fieldLink "MidiDesk$Parser" (99 : Nat) "MidiDesk$Parser" "ended" "Z") ∈ gw := gw_in 197 (by decide +kernel) (by decide +kernel)
theorem gw_198 : (Jvm.Cond.fieldLink "MidiDesk$Parser" (133 : Nat) "MidiDesk$Parser" "first" "I") ∈ gw := gw_in 198 (by decide +kernel) (by decide +kernel)
theorem gw_199 : (Jvm.Cond.fieldLink "MidiDesk$Parser" (139 : Nat) "MidiDesk$Parser" "second" "I") ∈ gw := gw_in 199 (by decide +kernel) (by decide +kernel)
theorem gw_200 : (Jvm.Cond.fieldLink "MidiDesk$Parser" (145 : Nat) "MidiDesk$Parser" "start" "I") ∈ gw := gw_in 200 (by decide +kernel) (by decide +kernel)
theorem gw_201 : (Jvm.Cond.fieldLink "MidiDesk$Parser" (122 : Nat) "MidiDesk$Parser" "size" "I") ∈ gw := gw_in 201 (by decide +kernel) (by decide +kernel)
theorem gw_202 : (Jvm.Cond.laysFinal "MidiDesk$Parser" "MidiDesk$Parser" "input" "LMidiDesk$Bytes;") ∈ gw := gw_in 202 (by decide +kernel) (by decide +kernel)
theorem gw_204 : (Jvm.Cond.laysFinal "MidiDesk$Parser" "MidiDesk$Parser" "score" "LMidiDesk$Score;") ∈ gw := gw_in 204 (by decide +kernel) (by decide +kernel)
theorem gw_206 : (Jvm.Cond.lays "MidiDesk$Parser" "MidiDesk$Parser" "pos" "I") ∈ gw := gw_in 206 (by decide +kernel) (by decide +kernel)
theorem gw_208 : (Jvm.Cond.lays "MidiDesk$Parser" "MidiDesk$Parser" "end" "I") ∈ gw := gw_in 208 (by decide +kernel) (by decide +kernel)
theorem gw_210 : (Jvm.Cond.lays "MidiDesk$Parser" "MidiDesk$Parser" "fault" "I") ∈ gw := gw_in 210 (by decide +kernel) (by decide +kernel)
theorem gw_212 : (Jvm.Cond.lays "MidiDesk$Parser" "MidiDesk$Parser" "tracksSeen" "I") ∈ gw := gw_in 212 (by decide +kernel) (by decide +kernel)
theorem gw_214 : (Jvm.Cond.lays "MidiDesk$Parser" "MidiDesk$Parser" "tick" "I") ∈ gw := gw_in 214 (by decide +kernel) (by decide +kernel)
theorem gw_216 : (Jvm.Cond.lays "MidiDesk$Parser" "MidiDesk$Parser" "running" "I") ∈ gw := gw_in 216 (by decide +kernel) (by decide +kernel)
theorem gw_218 : (Jvm.Cond.lays "MidiDesk$Parser" "MidiDesk$Parser" "ended" "Z") ∈ gw := gw_in 218 (by decide +kernel) (by decide +kernel)
theorem gw_220 : (Jvm.Cond.lays "MidiDesk$Parser" "MidiDesk$Parser" "first" "I") ∈ gw := gw_in 220 (by decide +kernel) (by decide +kernel)
theorem gw_222 : (Jvm.Cond.lays "MidiDesk$Parser" "MidiDesk$Parser" "second" "I") ∈ gw := gw_in 222 (by decide +kernel) (by decide +kernel)
theorem gw_224 : (Jvm.Cond.lays "MidiDesk$Parser" "MidiDesk$Parser" "start" "I") ∈ gw := gw_in 224 (by decide +kernel) (by decide +kernel)
theorem gw_226 : (Jvm.Cond.lays "MidiDesk$Parser" "MidiDesk$Parser" "size" "I") ∈ gw := gw_in 226 (by decide +kernel) (by decide +kernel)
theorem gw_335 : (Jvm.Cond.fieldLink "MidiDesk$Event" (28 : Nat) "MidiDesk$Event" "tick" "I") ∈ gw := gw_in 335 (by decide +kernel) (by decide +kernel)
theorem gw_340 : (Jvm.Cond.fieldLink "MidiDesk$Event" (25 : Nat) "MidiDesk$Event" "track" "I") ∈ gw := gw_in 340 (by decide +kernel) (by decide +kernel)
theorem gw_343 : (Jvm.Cond.fieldLink "MidiDesk$Event" (9 : Nat) "MidiDesk$Event" "status" "I") ∈ gw := gw_in 343 (by decide +kernel) (by decide +kernel)
theorem gw_347 : (Jvm.Cond.fieldLink "MidiDesk$Event" (15 : Nat) "MidiDesk$Event" "first" "I") ∈ gw := gw_in 347 (by decide +kernel) (by decide +kernel)
theorem gw_354 : (Jvm.Cond.fieldLink "MidiDesk$Event" (18 : Nat) "MidiDesk$Event" "second" "I") ∈ gw := gw_in 354 (by decide +kernel) (by decide +kernel)
theorem gw_363 : (Jvm.Cond.lays "MidiDesk$Event" "MidiDesk$Event" "tick" "I") ∈ gw := gw_in 363 (by decide +kernel) (by decide +kernel)
theorem gw_365 : (Jvm.Cond.lays "MidiDesk$Event" "MidiDesk$Event" "track" "I") ∈ gw := gw_in 365 (by decide +kernel) (by decide +kernel)
theorem gw_367 : (Jvm.Cond.lays "MidiDesk$Event" "MidiDesk$Event" "status" "I") ∈ gw := gw_in 367 (by decide +kernel) (by decide +kernel)
theorem gw_369 : (Jvm.Cond.lays "MidiDesk$Event" "MidiDesk$Event" "first" "I") ∈ gw := gw_in 369 (by decide +kernel) (by decide +kernel)
theorem gw_371 : (Jvm.Cond.lays "MidiDesk$Event" "MidiDesk$Event" "second" "I") ∈ gw := gw_in 371 (by decide +kernel) (by decide +kernel)
theorem gw_373 : (Jvm.Cond.lays "MidiDesk$Event" "MidiDesk$Event" "start" "I") ∈ gw := gw_in 373 (by decide +kernel) (by decide +kernel)
theorem gw_375 : (Jvm.Cond.lays "MidiDesk$Event" "MidiDesk$Event" "size" "I") ∈ gw := gw_in 375 (by decide +kernel) (by decide +kernel)
theorem gw_657 : (Jvm.Cond.fieldLink "MidiDesk$Printer" (9 : Nat) "MidiDesk$Printer" "score" "LMidiDesk$Score;") ∈ gw := gw_in 657 (by decide +kernel) (by decide +kernel)
theorem gw_658 : (Jvm.Cond.fieldLink "MidiDesk$Printer" (15 : Nat) "MidiDesk$Printer" "output" "LMidiDesk$Bytes;") ∈ gw := gw_in 658 (by decide +kernel) (by decide +kernel)
theorem gw_659 : (Jvm.Cond.fieldLink "MidiDesk$Printer" (19 : Nat) "MidiDesk$Printer" "brief" "Z") ∈ gw := gw_in 659 (by decide +kernel) (by decide +kernel)
theorem gw_660 : (Jvm.Cond.fieldLink "MidiDesk$Printer" (46 : Nat) "MidiDesk$Printer" "tick" "I") ∈ gw := gw_in 660 (by decide +kernel) (by decide +kernel)
theorem gw_661 : (Jvm.Cond.fieldLink "MidiDesk$Printer" (49 : Nat) "MidiDesk$Printer" "running" "I") ∈ gw := gw_in 661 (by decide +kernel) (by decide +kernel)
theorem gw_662 : (Jvm.Cond.laysFinal "MidiDesk$Printer" "MidiDesk$Printer" "score" "LMidiDesk$Score;") ∈ gw := gw_in 662 (by decide +kernel) (by decide +kernel)
theorem gw_664 : (Jvm.Cond.laysFinal "MidiDesk$Printer" "MidiDesk$Printer" "output" "LMidiDesk$Bytes;") ∈ gw := gw_in 664 (by decide +kernel) (by decide +kernel)
theorem gw_666 : (Jvm.Cond.laysFinal "MidiDesk$Printer" "MidiDesk$Printer" "brief" "Z") ∈ gw := gw_in 666 (by decide +kernel) (by decide +kernel)
theorem gw_668 : (Jvm.Cond.lays "MidiDesk$Printer" "MidiDesk$Printer" "tick" "I") ∈ gw := gw_in 668 (by decide +kernel) (by decide +kernel)
theorem gw_670 : (Jvm.Cond.lays "MidiDesk$Printer" "MidiDesk$Printer" "running" "I") ∈ gw := gw_in 670 (by decide +kernel) (by decide +kernel)
theorem nw_52 : (Jvm.Cond.fieldLinkNest "MidiDesk$Printer" (96 : Nat) "MidiDesk$Score" "data" "LMidiDesk$Bytes;" "MidiDesk") ∈ nestw := List.mem_filter.mpr ⟨List.mem_of_getElem? (i := 52) (by decide +kernel), rfl⟩
theorem nw_53 : (Jvm.Cond.fieldLinkNest "MidiDesk" (70 : Nat) "MidiDesk$Score" "data" "LMidiDesk$Bytes;" "MidiDesk") ∈ nestw := List.mem_filter.mpr ⟨List.mem_of_getElem? (i := 53) (by decide +kernel), rfl⟩
theorem nw_54 : (Jvm.Cond.fieldLinkNest "MidiDesk$Parser" (161 : Nat) "MidiDesk$Score" "data" "LMidiDesk$Bytes;" "MidiDesk") ∈ nestw := List.mem_filter.mpr ⟨List.mem_of_getElem? (i := 54) (by decide +kernel), rfl⟩
theorem nw_56 : (Jvm.Cond.fieldLinkNest "MidiDesk$Parser" (63 : Nat) "MidiDesk$Score" "present" "Z" "MidiDesk") ∈ nestw := List.mem_filter.mpr ⟨List.mem_of_getElem? (i := 56) (by decide +kernel), rfl⟩
theorem nw_57 : (Jvm.Cond.fieldLinkNest "MidiDesk" (146 : Nat) "MidiDesk$Score" "present" "Z" "MidiDesk") ∈ nestw := List.mem_filter.mpr ⟨List.mem_of_getElem? (i := 57) (by decide +kernel), rfl⟩
theorem nw_58 : (Jvm.Cond.fieldLinkNest "MidiDesk$Parser" (85 : Nat) "MidiDesk$Score" "format" "I" "MidiDesk") ∈ nestw := List.mem_filter.mpr ⟨List.mem_of_getElem? (i := 58) (by decide +kernel), rfl⟩
theorem nw_59 : (Jvm.Cond.fieldLinkNest "MidiDesk" (153 : Nat) "MidiDesk$Score" "format" "I" "MidiDesk") ∈ nestw := List.mem_filter.mpr ⟨List.mem_of_getElem? (i := 59) (by decide +kernel), rfl⟩
theorem nw_61 : (Jvm.Cond.fieldLinkNest "MidiDesk$Printer" (23 : Nat) "MidiDesk$Score" "tracks" "I" "MidiDesk") ∈ nestw := List.mem_filter.mpr ⟨List.mem_of_getElem? (i := 61) (by decide +kernel), rfl⟩
theorem nw_62 : (Jvm.Cond.fieldLinkNest "MidiDesk$Parser" (53 : Nat) "MidiDesk$Score" "tracks" "I" "MidiDesk") ∈ nestw := List.mem_filter.mpr ⟨List.mem_of_getElem? (i := 62) (by decide +kernel), rfl⟩
theorem nw_63 : (Jvm.Cond.fieldLinkNest "MidiDesk" (121 : Nat) "MidiDesk$Score" "tracks" "I" "MidiDesk") ∈ nestw := List.mem_filter.mpr ⟨List.mem_of_getElem? (i := 63) (by decide +kernel), rfl⟩
theorem nw_64 : (Jvm.Cond.fieldLinkNest "MidiDesk$Printer" (39 : Nat) "MidiDesk$Score" "division" "I" "MidiDesk") ∈ nestw := List.mem_filter.mpr ⟨List.mem_of_getElem? (i := 64) (by decide +kernel), rfl⟩
theorem nw_65 : (Jvm.Cond.fieldLinkNest "MidiDesk$Parser" (88 : Nat) "MidiDesk$Score" "division" "I" "MidiDesk") ∈ nestw := List.mem_filter.mpr ⟨List.mem_of_getElem? (i := 65) (by decide +kernel), rfl⟩
theorem nw_67 : (Jvm.Cond.fieldLinkNest "MidiDesk" (156 : Nat) "MidiDesk$Score" "division" "I" "MidiDesk") ∈ nestw := List.mem_filter.mpr ⟨List.mem_of_getElem? (i := 67) (by decide +kernel), rfl⟩
theorem nw_71 : (Jvm.Cond.fieldLinkNest "MidiDesk$Printer" (57 : Nat) "MidiDesk$Score" "size" "I" "MidiDesk") ∈ nestw := List.mem_filter.mpr ⟨List.mem_of_getElem? (i := 71) (by decide +kernel), rfl⟩
theorem nw_72 : (Jvm.Cond.fieldLinkNest "MidiDesk" (139 : Nat) "MidiDesk$Score" "size" "I" "MidiDesk") ∈ nestw := List.mem_filter.mpr ⟨List.mem_of_getElem? (i := 72) (by decide +kernel), rfl⟩
theorem nw_282 : (Jvm.Cond.fieldLinkNest "MidiDesk$Printer" (81 : Nat) "MidiDesk$Event" "tick" "I" "MidiDesk") ∈ nestw := List.mem_filter.mpr ⟨List.mem_of_getElem? (i := 282) (by decide +kernel), rfl⟩
theorem nw_283 : (Jvm.Cond.fieldLinkNest "MidiDesk" (50 : Nat) "MidiDesk$Event" "tick" "I" "MidiDesk") ∈ nestw := List.mem_filter.mpr ⟨List.mem_of_getElem? (i := 283) (by decide +kernel), rfl⟩
theorem nw_285 : (Jvm.Cond.fieldLinkNest "MidiDesk$Score" (65 : Nat) "MidiDesk$Event" "tick" "I" "MidiDesk") ∈ nestw := List.mem_filter.mpr ⟨List.mem_of_getElem? (i := 285) (by decide +kernel), rfl⟩
theorem nw_286 : (Jvm.Cond.fieldLinkNest "MidiDesk$Parser" (152 : Nat) "MidiDesk$Event" "tick" "I" "MidiDesk") ∈ nestw := List.mem_filter.mpr ⟨List.mem_of_getElem? (i := 286) (by decide +kernel), rfl⟩
theorem nw_287 : (Jvm.Cond.fieldLinkNest "MidiDesk$Printer" (63 : Nat) "MidiDesk$Event" "track" "I" "MidiDesk") ∈ nestw := List.mem_filter.mpr ⟨List.mem_of_getElem? (i := 287) (by decide +kernel), rfl⟩
theorem nw_288 : (Jvm.Cond.fieldLinkNest "MidiDesk" (56 : Nat) "MidiDesk$Event" "track" "I" "MidiDesk") ∈ nestw := List.mem_filter.mpr ⟨List.mem_of_getElem? (i := 288) (by decide +kernel), rfl⟩
theorem nw_290 : (Jvm.Cond.fieldLinkNest "MidiDesk$Score" (100 : Nat) "MidiDesk$Event" "track" "I" "MidiDesk") ∈ nestw := List.mem_filter.mpr ⟨List.mem_of_getElem? (i := 290) (by decide +kernel), rfl⟩
theorem nw_291 : (Jvm.Cond.fieldLinkNest "MidiDesk$Parser" (155 : Nat) "MidiDesk$Event" "track" "I" "MidiDesk") ∈ nestw := List.mem_filter.mpr ⟨List.mem_of_getElem? (i := 291) (by decide +kernel), rfl⟩
theorem nw_293 : (Jvm.Cond.fieldLinkNest "MidiDesk$Printer" (82 : Nat) "MidiDesk$Event" "status" "I" "MidiDesk") ∈ nestw := List.mem_filter.mpr ⟨List.mem_of_getElem? (i := 293) (by decide +kernel), rfl⟩
theorem nw_294 : (Jvm.Cond.fieldLinkNest "MidiDesk" (59 : Nat) "MidiDesk$Event" "status" "I" "MidiDesk") ∈ nestw := List.mem_filter.mpr ⟨List.mem_of_getElem? (i := 294) (by decide +kernel), rfl⟩
theorem nw_295 : (Jvm.Cond.fieldLinkNest "MidiDesk$Parser" (157 : Nat) "MidiDesk$Event" "status" "I" "MidiDesk") ∈ nestw := List.mem_filter.mpr ⟨List.mem_of_getElem? (i := 295) (by decide +kernel), rfl⟩
theorem nw_297 : (Jvm.Cond.fieldLinkNest "MidiDesk$Printer" (89 : Nat) "MidiDesk$Event" "first" "I" "MidiDesk") ∈ nestw := List.mem_filter.mpr ⟨List.mem_of_getElem? (i := 297) (by decide +kernel), rfl⟩
theorem nw_298 : (Jvm.Cond.fieldLinkNest "MidiDesk" (62 : Nat) "MidiDesk$Event" "first" "I" "MidiDesk") ∈ nestw := List.mem_filter.mpr ⟨List.mem_of_getElem? (i := 298) (by decide +kernel), rfl⟩
theorem nw_299 : (Jvm.Cond.fieldLinkNest "MidiDesk$Score" (89 : Nat) "MidiDesk$Event" "first" "I" "MidiDesk") ∈ nestw := List.mem_filter.mpr ⟨List.mem_of_getElem? (i := 299) (by decide +kernel), rfl⟩
theorem nw_300 : (Jvm.Cond.fieldLinkNest "MidiDesk$Parser" (159 : Nat) "MidiDesk$Event" "first" "I" "MidiDesk") ∈ nestw := List.mem_filter.mpr ⟨List.mem_of_getElem? (i := 300) (by decide +kernel), rfl⟩
theorem nw_301 : (Jvm.Cond.fieldLinkNest "MidiDesk" (65 : Nat) "MidiDesk$Event" "second" "I" "MidiDesk") ∈ nestw := List.mem_filter.mpr ⟨List.mem_of_getElem? (i := 301) (by decide +kernel), rfl⟩
theorem nw_302 : (Jvm.Cond.fieldLinkNest "MidiDesk$Printer" (92 : Nat) "MidiDesk$Event" "second" "I" "MidiDesk") ∈ nestw := List.mem_filter.mpr ⟨List.mem_of_getElem? (i := 302) (by decide +kernel), rfl⟩
theorem nw_304 : (Jvm.Cond.fieldLinkNest "MidiDesk$Parser" (160 : Nat) "MidiDesk$Event" "second" "I" "MidiDesk") ∈ nestw := List.mem_filter.mpr ⟨List.mem_of_getElem? (i := 304) (by decide +kernel), rfl⟩
theorem nw_305 : (Jvm.Cond.fieldLinkNest "MidiDesk$Printer" (99 : Nat) "MidiDesk$Event" "start" "I" "MidiDesk") ∈ nestw := List.mem_filter.mpr ⟨List.mem_of_getElem? (i := 305) (by decide +kernel), rfl⟩
theorem nw_306 : (Jvm.Cond.fieldLinkNest "MidiDesk" (73 : Nat) "MidiDesk$Event" "start" "I" "MidiDesk") ∈ nestw := List.mem_filter.mpr ⟨List.mem_of_getElem? (i := 306) (by decide +kernel), rfl⟩
theorem nw_307 : (Jvm.Cond.fieldLinkNest "MidiDesk$Parser" (164 : Nat) "MidiDesk$Event" "start" "I" "MidiDesk") ∈ nestw := List.mem_filter.mpr ⟨List.mem_of_getElem? (i := 307) (by decide +kernel), rfl⟩
theorem nw_308 : (Jvm.Cond.fieldLinkNest "MidiDesk$Score" (123 : Nat) "MidiDesk$Event" "start" "I" "MidiDesk") ∈ nestw := List.mem_filter.mpr ⟨List.mem_of_getElem? (i := 308) (by decide +kernel), rfl⟩
theorem nw_309 : (Jvm.Cond.fieldLinkNest "MidiDesk" (68 : Nat) "MidiDesk$Event" "size" "I" "MidiDesk") ∈ nestw := List.mem_filter.mpr ⟨List.mem_of_getElem? (i := 309) (by decide +kernel), rfl⟩
theorem nw_310 : (Jvm.Cond.fieldLinkNest "MidiDesk$Printer" (95 : Nat) "MidiDesk$Event" "size" "I" "MidiDesk") ∈ nestw := List.mem_filter.mpr ⟨List.mem_of_getElem? (i := 310) (by decide +kernel), rfl⟩
theorem nw_311 : (Jvm.Cond.fieldLinkNest "MidiDesk$Parser" (165 : Nat) "MidiDesk$Event" "size" "I" "MidiDesk") ∈ nestw := List.mem_filter.mpr ⟨List.mem_of_getElem? (i := 311) (by decide +kernel), rfl⟩
theorem i_Bytes : ∀ w ∈ u_ws R_Bytes F_Bytes 3, w ∈ gw := List.forall_mem_cons.mpr ⟨gw_84, List.forall_mem_cons.mpr ⟨gw_86, List.forall_mem_cons.mpr ⟨gw_88, fun _ h => absurd h List.not_mem_nil⟩⟩⟩
theorem i_Event : ∀ w ∈ u_ws R_Event F_Event 7, w ∈ gw := List.forall_mem_cons.mpr ⟨gw_363, List.forall_mem_cons.mpr ⟨gw_365, List.forall_mem_cons.mpr ⟨gw_367, List.forall_mem_cons.mpr ⟨gw_369, List.forall_mem_cons.mpr ⟨gw_371, List.forall_mem_cons.mpr ⟨gw_373, List.forall_mem_cons.mpr ⟨gw_375, fun _ h => absurd h List.not_mem_nil⟩⟩⟩⟩⟩⟩⟩
theorem i_Parser : ∀ w ∈ u_ws R_Parser F_Parser 13, w ∈ gw := List.forall_mem_cons.mpr ⟨gw_202, List.forall_mem_cons.mpr ⟨gw_204, List.forall_mem_cons.mpr ⟨gw_206, List.forall_mem_cons.mpr ⟨gw_208, List.forall_mem_cons.mpr ⟨gw_210, List.forall_mem_cons.mpr ⟨gw_212, List.forall_mem_cons.mpr ⟨gw_214, List.forall_mem_cons.mpr ⟨gw_216, List.forall_mem_cons.mpr ⟨gw_218, List.forall_mem_cons.mpr ⟨gw_220, List.forall_mem_cons.mpr ⟨gw_222, List.forall_mem_cons.mpr ⟨gw_224, List.forall_mem_cons.mpr ⟨gw_226, fun _ h => absurd h List.not_mem_nil⟩⟩⟩⟩⟩⟩⟩⟩⟩⟩⟩⟩⟩
theorem i_Printer : ∀ w ∈ u_ws R_Printer F_Printer 5, w ∈ gw := List.forall_mem_cons.mpr ⟨gw_662, List.forall_mem_cons.mpr ⟨gw_664, List.forall_mem_cons.mpr ⟨gw_666, List.forall_mem_cons.mpr ⟨gw_668, List.forall_mem_cons.mpr ⟨gw_670, fun _ h => absurd h List.not_mem_nil⟩⟩⟩⟩⟩
theorem i_Score : ∀ w ∈ u_ws R_Score F_Score 8, w ∈ gw := List.forall_mem_cons.mpr ⟨gw_124, List.forall_mem_cons.mpr ⟨gw_126, List.forall_mem_cons.mpr ⟨gw_128, List.forall_mem_cons.mpr ⟨gw_130, List.forall_mem_cons.mpr ⟨gw_132, List.forall_mem_cons.mpr ⟨gw_134, List.forall_mem_cons.mpr ⟨gw_136, List.forall_mem_cons.mpr ⟨gw_138, fun _ h => absurd h List.not_mem_nil⟩⟩⟩⟩⟩⟩⟩⟩
theorem i_Desk : ∀ w ∈ u_ws R_Desk F_Desk 3, w ∈ gw := List.forall_mem_cons.mpr ⟨gw_144, List.forall_mem_cons.mpr ⟨gw_146, List.forall_mem_cons.mpr ⟨gw_148, fun _ h => absurd h List.not_mem_nil⟩⟩⟩
