theorem gw_56 : (Jvm.Cond.initialized "java/util/Arrays") ∈ gw := gw_in 56 (by decide +kernel) (by decide +kernel)
theorem gw_163 : (Jvm.Cond.methodLink "MidiDesk$Bytes" (22 : Nat) ({ cls := "java/util/Arrays", name := "copyOf", desc := "([II)[I" } : Jvm.MethodName)) ∈ gw := gw_in 163 (by decide +kernel) (by decide +kernel)
theorem gw_164 : (Jvm.Cond.static ({ cls := "java/util/Arrays", name := "copyOf", desc := "([II)[I" } : Jvm.MethodName)) ∈ gw := gw_in 164 (by decide +kernel) (by decide +kernel)
def cQa (g : gT) (qq : Nat → Nat) (A0 : Nat → Prop) (ke : Prop) (ea : Nat → Nat) (rv : (Nat → Nat) → Option Value) (X' : va_W) (h' : cH) (z' : cZ) : Array Value → State → Outcome → State → Prop := fun _ st oc t => (∃ ad' ea' : Nat → Nat, (ke → ea' = ea) ∧ oc = .returned (rv ea') ∧ va_P g.1 classes (cw g qq ad' ea' h' z' X') t.heap ∧ va_D A0 (cw g qq ad' ea' h' z' X')) ∧ va_F A0 st t
abbrev rmA (fr lo : Nat) (h h' : cH) : Room := { frames := fr, cells := h'.2.2.1 - h.2.2.1, slots := h'.2.2.2 - h.2.2.2, locals := lo }
/-- the contract of a method that makes cells: as many as the shapes tell -/
def cMeA (l : Launch) (y : MethodName) (cc : ByteArray) (maxL : Nat) (ret : Option FieldType) (fr lo : Nat) (g : gT) (qq ad ea : Nat → Nat) (h : cH) (X : va_W) (z : cZ) (vs : List Value) (ke : Prop) (rv : (Nat → Nat) → Option Value) (X' : va_W) (h' : cH) (z' : cZ) : Prop :=
  ∀ sz : Nat, Met l y (.code y cc maxL ret :: gw) (rmA fr lo h h') (cPc g qq ad ea h X z vs sz) (cQa g qq (cA g qq ad ea h X sz) ke ea rv X' h' z') (h'.2.2.1 - h.2.2.1) (h'.2.2.2 - h.2.2.2) (cA g qq ad ea h X sz)
abbrev cGa (p : Program) (l : Launch) (e : Env) (R : Room) (s : State) (m : MethodId) (args : Array Value) (below : List Frame) (meth : Method) (c : Code) (g : gT) (qq : Nat → Nat) (A0 : Nat → Prop) (ke : Prop) (ea0 : Nat → Nat) (rv : (Nat → Nat) → Option Value) (X' : va_W) (h' : cH) (z' : cZ) (H : Heap) (locs : List Loc) (cells slots : Nat) (f : JFrame) : Prop :=
  W p l e R s m args below meth c H locs cells slots (MQ below (cQa g qq A0 ke ea0 rv X' h' z') args s R.cells R.slots A0) f
theorem c_entryA {l : Launch} {y : MethodName} {cc : ByteArray} {maxL fr lo : Nat} {ret : Option FieldType} {g : gT} {qq ad ea : Nat → Nat} {h h' : cH} {X X' : va_W} {z z' : cZ} {vs : List Value} {ke : Prop} {rv : (Nat → Nat) → Option Value} (hy : plainName y.cls = true) (hn : (lg_sl vs).length ≤ maxL)
    (body : ∀ (p : Program) (e : Env) (s : State) (m : MethodId) (args : Array Value) (below : List Frame) (meth : Method) (c : Code) (ls : Array Slot), mCx p m c cc maxL s args g y.cls → meth.sig.returnType = ret → meth.locks = false → meth.name = y.name → lv_has ls maxL (lv_args 0 vs) → cWd g (cA g qq ad ea h X s.heap.size) s.heap qq ad ea h X z s.heap [] → cGa p l e (rmA fr lo h h') s m args below meth c g qq (cA g qq ad ea h X s.heap.size) ke ea rv X' h' z' s.heap [] (h.2.2.1 - h.2.2.1) (h.2.2.2 - h.2.2.2) (F0 m 0 ls [])) :
    cMeA l y cc maxL ret fr lo g qq ad ea h X z vs ke rv X' h' z' := by
  intro sz
  refine Met.ofW (cc := cc) (maxL := maxL) (ret := ret) hy rfl ?_
  intro p e s m args below meth c s₁ B hml hv
  obtain ⟨rfl, hsz, hK, hP, hD0⟩ := hv
  subst hsz
  have hts := atoms_spec (ws := Cond.code y cc maxL ret :: gw) B.pre
  have hown : s.vm.findClass y.cls = some m.cls := findClass_of_methodNamed B.named
  have hl := lv_entry vs (n := maxL) hn
  rw [lg_entry_eq]
  have hAe : cA g qq ad ea h X s.heap.size = va_A (cw g qq ad ea h z X) s.heap.size := va_A_map (cw_map rfl)
  have K := body p e s m vs.toArray below meth c _ ⟨⟨B.exec, B.bytes, hml, hown, fun w hw => hts w (List.mem_cons_of_mem _ hw)⟩, hK⟩ B.returns B.notSynchronized (name_of_methodNamed B.named B.method).1 hl ⟨hP, by rw [hAe]; exact hD0.self, va_S.rf, fun y hy => Or.inr hy⟩
  rw [Nat.sub_self, Nat.sub_self] at K
  exact K
section AC
variable {p : Program} {l : Launch} {e : Env} {R : Room} {s : State} {m : MethodId} {args : Array Value} {below : List Frame} {meth : Method} {c : Code} {H : Heap} {locs : List Loc} {cells slots : Nat} {Q : State → Prop} {cc : ByteArray} {nL pc : Nat} {ls : Array Slot} {rest : List Value} {g : gT} {A : Nat → Prop} {H0 : Heap} {qq ad ea : Nat → Nat} {X : va_W} {h : cH} {z : cZ} {own : String}
theorem x_calla {st0 : List Value} {A1 : Nat → Prop} {mc ms : Nat} {free : Addr → Prop} {P1 : (Nat → Nat) → Prop} {rv : (Nat → Nat) → Option Value} {B : (Nat → Nat) → (Nat → Nat) → Heap → Prop} {Dd : (Nat → Nat) → (Nat → Nat) → Prop} (hr : va_Run p l e R s m args below meth c H locs cells slots mc ms (F0 m pc ls st0) rest (fun st oc t => (∃ ad' ea' : Nat → Nat, P1 ea' ∧ oc = .returned (rv ea') ∧ B ad' ea' t.heap ∧ Dd ad' ea') ∧ va_F A1 st t) free) (hS : va_S A H0 H locs) (hA : ∀ q, q < H.size → A1 q → A q) (hf : ∀ q, free q → A q)
    (kk : ∀ (ad' ea' : Nat → Nat) (H1 : Heap) (locs1 : List Loc), P1 ea' → B ad' ea' H1 → Dd ad' ea' → va_S A H0 H1 locs1 → W p l e R s m args below meth c H1 locs1 (cells + mc) (slots + ms) Q (F0 m (pc + 3) ls ((rv ea').toList ++ rest))) : W p l e R s m args below meth c H locs cells slots Q (F0 m pc ls st0) := by
  intro T hT X
  obtain ⟨v, st₀, t, T', L, h0, X', hL, e1, e2, ⟨⟨ad', ea', hp1, hv, hb, hd⟩, hz, hk⟩, st⟩ := hr T hT X
  cases hv
  rw [h0] at hz hk
  obtain ⟨t2, a1, b1⟩ := kk ad' ea' T'.heap (locs ++ L) hp1 (by rw [e1]; exact hb) hd
    ⟨Nat.le_trans hS.1 (by rw [e1]; exact hz), fun q h1 h2 => by rw [e1, hk q (Nat.lt_of_lt_of_le h1 hS.1) (fun w => h2 (hA q (Nat.lt_of_lt_of_le h1 hS.1) w))]; exact hS.2.1 q h1 h2, fun q hq => by
      rcases List.mem_append.mp hq with w | w
      · exact hS.2.2 q w
      · exact hf _ (hL q w)⟩ T' rfl X'
  exact ⟨t2, st t2 a1, b1⟩
theorem c_callA {y : MethodName} {bytes : ByteArray} {maxL index n b fr lo : Nat} {ret : Option FieldType} {As : List Value} {ke : Prop} {rv : (Nat → Nat) → Option Value} {X' : va_W} {h' : cH} {z' : cZ} {st0 : List Value} {CN : String} (C : mCx p m c cc nL s args g own) (hl : ls.size = nL) (hw : cWd g A H0 qq ad ea h X z H locs)
    (hM : cMeA l y bytes maxL ret fr lo g qq ad ea h X z (.ref b :: As) ke rv X' h' z') (hcw : CallW R s args own CN index y bytes maxL ret (Cond.code y bytes maxL ret :: gw) (rmA fr lo h h') (rmA fr lo h h').cells (rmA fr lo h h').slots n) (hrc : ∃ cellB : Cell, H[b]? = some cellB ∧ cellB.vm.isStatics = false ∧ s.vm.findClass CN = some cellB.cls)
    (hn : As.length = n) (hst : st0 = As.reverse ++ .ref b :: rest) (hr : (rest.map fun v => v.category).sum ≤ 8) (hdg : decode cc pc = .ok (.invokevirtual index, 3)) (hf : cells + (h'.2.2.1 - h.2.2.1) ≤ R.cells ∧ slots + (h'.2.2.2 - h.2.2.2) ≤ R.slots)
    (kk : ∀ (ad' ea' : Nat → Nat) (H1 : Heap) (locs1 : List Loc), (ke → ea' = ea) → cWd g A H0 qq ad' ea' h' X' z' H1 locs1 → W p l e R s m args below meth c H1 locs1 (cells + (h'.2.2.1 - h.2.2.1)) (slots + (h'.2.2.2 - h.2.2.2)) Q (F0 m (pc + 3) ls ((rv ea').toList ++ rest))) : W p l e R s m args below meth c H locs cells slots Q (F0 m pc ls st0) := by
  refine x_calla (P1 := fun ea' => ke → ea' = ea) (rv := rv) (B := fun ad' ea' t => va_P g.1 classes (cw g qq ad' ea' h' z' X') t) (Dd := fun ad' ea' => va_D (cA g qq ad ea h X H.size) (cw g qq ad' ea' h' z' X')) (va_runV (As := As) (rest := rest) C.1 (hM H.size) hcw ⟨cPc_blind, hrc, c_pre C.2 hw⟩ rfl hn hl hst (lv_room hr) hdg hf) hw.2.2.1 (fun y _ w => c_free rfl hw rfl y w) (c_free rfl hw rfl) (fun ad' ea' H1 locs1 h1 hB hd hS => kk ad' ea' H1 locs1 h1 ⟨hB, hd.weaken (fun _ _ _ w => c_free rfl hw rfl _ w), hS, hw.2.2.2⟩)
theorem c_callAA {y : MethodName} {bytes : ByteArray} {maxL index n b fr lo : Nat} {ret : Option FieldType} {As : List Value} {rv : (Nat → Nat) → Option Value} {X' : va_W} {h' : cH} {z' : cZ} {st0 : List Value} {CN : String} (C : mCx p m c cc nL s args g own) (hl : ls.size = nL) (hw : cWd g A H0 qq ad ea h X z H locs)
    (hM : cMeA l y bytes maxL ret fr lo g qq ad ea h X z (.ref b :: As) True rv X' h' z') (hcw : CallW R s args own CN index y bytes maxL ret (Cond.code y bytes maxL ret :: gw) (rmA fr lo h h') (rmA fr lo h h').cells (rmA fr lo h h').slots n) (hrc : ∃ cellB : Cell, H[b]? = some cellB ∧ cellB.vm.isStatics = false ∧ s.vm.findClass CN = some cellB.cls)
    (hn : As.length = n) (hst : st0 = As.reverse ++ .ref b :: rest) (hr : (rest.map fun v => v.category).sum ≤ 8) (hdg : decode cc pc = .ok (.invokevirtual index, 3)) (hf : cells + (h'.2.2.1 - h.2.2.1) ≤ R.cells ∧ slots + (h'.2.2.2 - h.2.2.2) ≤ R.slots)
    (kk : ∀ (ad' : Nat → Nat) (H1 : Heap) (locs1 : List Loc), cWd g A H0 qq ad' ea h' X' z' H1 locs1 → W p l e R s m args below meth c H1 locs1 (cells + (h'.2.2.1 - h.2.2.1)) (slots + (h'.2.2.2 - h.2.2.2)) Q (F0 m (pc + 3) ls ((rv ea).toList ++ rest))) : W p l e R s m args below meth c H locs cells slots Q (F0 m pc ls st0) := by
  refine c_callA C hl hw hM hcw hrc hn hst hr hdg hf (fun ad' ea' H1 locs1 he hw1 => ?_)
  have he := he trivial
  subst he
  exact kk ad' H1 locs1 hw1
set_option maxHeartbeats 4000000 in
theorem c_grow_0 {x : Int32} {N : Nat} (C : mCx p m c cc nL s args g "MidiDesk$Bytes") (hl : ls.size = nL) (hw : cWd g A H0 qq ad ea h X z H locs) (hx : ¬ x < 0) (hN : x.toNatClampNeg = N) (hn : h.1 0 < N) (hb4 : N * 4 ≤ 536870912) (hR : 2 ≤ R.frames ∧ 62 ≤ R.locals) (hr : (rest.map fun v => v.category).sum ≤ 7) (hc : cells + 1 ≤ R.cells) (hs : slots + N ≤ R.slots) (hdg : decode cc pc = .ok (.invokestatic 22, 3)) (hdg2 : decode cc (pc + 3) = .ok (.putfield 15, 3))
    (kk : ∀ (q : Nat) (H1 : Heap) (locs1 : List Loc), cWd g A H0 qq (updN ad 0 q) ea (hL h 0 N) X (zF z 0 (va_cpy (za z 0) (fun _ => 0) 0 0 (h.1 0))) H1 locs1 → W p l e R s m args below meth c H1 locs1 (cells + 1) (slots + N) Q (F0 m (pc + 3 + 3) ls rest)) : W p l e R s m args below meth c H locs cells slots Q (F0 m pc ls (.int x :: .ref (ad 0) :: .ref (qq 1) :: rest)) := by
  have hM := copyOf_met (l := l) (g := g) (ws := cw g qq ad ea h z X) (i0 := 5) (a := ad 0) (f := za z 0) rfl hx hN hn hb4 H.size
  have hfree : ∀ y, va_A (cw g qq ad ea h z X) H.size y → A y := by
    intro y hy
    rcases hy with ⟨k, x, hk⟩ | hy
    · exact hw.2.1.2 k (y, x) hk
    · exact hw.2.2.2 y (Nat.le_trans hw.2.2.1.1 hy)
  intro T hT X9
  obtain ⟨v, st₀, t, T', L, h0, X', hL, e1, e2, ⟨⟨q, hv, hP, hD⟩, hz, hk⟩, st⟩ := va_runS (As := [.ref (ad 0), .int x]) (rest := .ref (qq 1) :: rest) (g := F0 m pc ls (.int x :: .ref (ad 0) :: .ref (qq 1) :: rest)) C.1 hM (callS_of (rm := { frames := 1, cells := 1, slots := N, locals := 40 }) 2 C.1.2.2.2.2 gw_163 gw_164 gw_56 gw_165 kA_copyOf ⟨hR.1, hR.2⟩) ⟨fun a U gf mk w => ⟨w.1, w.2.1, kK.same (s := U) (U := U.calling gf mk a) rfl w.2.2.1, w.2.2.2.1, w.2.2.2.2⟩, fun U hU hW => ⟨rfl, by rw [hU], kK.moved hW C.2, by rw [hU]; exact hw.1, hw.2.1.weaken (fun _ _ _ _ => trivial)⟩⟩ rfl rfl hl rfl (lv_room (by show 1 + (rest.map fun v => v.category).sum ≤ 8; omega)) hdg ⟨hc, hs⟩ T hT X9
  cases hv
  rw [h0] at hz hk
  have hS : va_S A H0 T'.heap (locs ++ L) := ⟨Nat.le_trans hw.2.2.1.1 (by rw [e1]; exact hz), fun y h1 h2 => by rw [e1, hk y (Nat.lt_of_lt_of_le h1 hw.2.2.1.1) (fun w => h2 (hfree y w))]; exact hw.2.2.1.2.1 y h1 h2, fun y hy => by
      rcases List.mem_append.mp hy with w | w
      · exact hw.2.2.1.2.2 y w
      · exact hfree _ (hL y w)⟩
  rw [← e1] at hP
  have hD : va_D A (cw g qq ad ea h z X ++ [(q, larr g N (va_cpy (za z 0) (fun _ => 0) 0 0 (h.1 0)))]) := hD.weaken (fun _ _ _ w => hfree _ w)
  have K : W p l e R s m args below meth c T'.heap (locs ++ L) (cells + 1) (slots + N) Q (F0 m (pc + 3) ls (.ref q :: .ref (qq 1) :: rest)) := by
    refine va_put (ci := 0) (ty := .array .int) (v := .ref q) (C := R_Bytes) (T := F_Bytes) (N := 3) C.1.1 C.1.2.1 C.1.2.2.2.2 i_Bytes t_Bytes t_Bytes_ok n_Bytes C.1.2.2.2.1 C.2.1 hP hD hS 1 rfl rfl 1 (by decide) (C.1.2.2.2.2 _ gw_82) (fun _ w => w) rfl (by decide +kernel) rfl rfl (Nat.le_of_ble_eq_true rfl) hdg2 (fun H1 locs1 hP hD hS => ?_)
    refine kk q H1 locs1 ⟨?_, ?_, hS, hw.2.2.2⟩
    · exact va_P_set (i := 5) (ws := (cw g qq ad ea h z X).set 1 (qq 1, .inr (0, [.int 12000, .ref q, .int (zi z 0)]))) hP
    · exact va_D_set (i := 5) (ws := (cw g qq ad ea h z X).set 1 (qq 1, .inr (0, [.int 12000, .ref q, .int (zi z 0)]))) hD
  obtain ⟨t2, a1, b1⟩ := K T' rfl X'
  exact ⟨t2, st t2 a1, b1⟩
set_option maxHeartbeats 4000000 in
theorem c_grow_1 {x : Int32} {N : Nat} (C : mCx p m c cc nL s args g "MidiDesk$Bytes") (hl : ls.size = nL) (hw : cWd g A H0 qq ad ea h X z H locs) (hx : ¬ x < 0) (hN : x.toNatClampNeg = N) (hn : h.1 1 < N) (hb4 : N * 4 ≤ 536870912) (hR : 2 ≤ R.frames ∧ 62 ≤ R.locals) (hr : (rest.map fun v => v.category).sum ≤ 7) (hc : cells + 1 ≤ R.cells) (hs : slots + N ≤ R.slots) (hdg : decode cc pc = .ok (.invokestatic 22, 3)) (hdg2 : decode cc (pc + 3) = .ok (.putfield 15, 3))
    (kk : ∀ (q : Nat) (H1 : Heap) (locs1 : List Loc), cWd g A H0 qq (updN ad 1 q) ea (hL h 1 N) X (zF z 1 (va_cpy (za z 1) (fun _ => 0) 0 0 (h.1 1))) H1 locs1 → W p l e R s m args below meth c H1 locs1 (cells + 1) (slots + N) Q (F0 m (pc + 3 + 3) ls rest)) : W p l e R s m args below meth c H locs cells slots Q (F0 m pc ls (.int x :: .ref (ad 1) :: .ref (qq 2) :: rest)) := by
  have hM := copyOf_met (l := l) (g := g) (ws := cw g qq ad ea h z X) (i0 := 6) (a := ad 1) (f := za z 1) rfl hx hN hn hb4 H.size
  have hfree : ∀ y, va_A (cw g qq ad ea h z X) H.size y → A y := by
    intro y hy
    rcases hy with ⟨k, x, hk⟩ | hy
    · exact hw.2.1.2 k (y, x) hk
    · exact hw.2.2.2 y (Nat.le_trans hw.2.2.1.1 hy)
  intro T hT X9
  obtain ⟨v, st₀, t, T', L, h0, X', hL, e1, e2, ⟨⟨q, hv, hP, hD⟩, hz, hk⟩, st⟩ := va_runS (As := [.ref (ad 1), .int x]) (rest := .ref (qq 2) :: rest) (g := F0 m pc ls (.int x :: .ref (ad 1) :: .ref (qq 2) :: rest)) C.1 hM (callS_of (rm := { frames := 1, cells := 1, slots := N, locals := 40 }) 2 C.1.2.2.2.2 gw_163 gw_164 gw_56 gw_165 kA_copyOf ⟨hR.1, hR.2⟩) ⟨fun a U gf mk w => ⟨w.1, w.2.1, kK.same (s := U) (U := U.calling gf mk a) rfl w.2.2.1, w.2.2.2.1, w.2.2.2.2⟩, fun U hU hW => ⟨rfl, by rw [hU], kK.moved hW C.2, by rw [hU]; exact hw.1, hw.2.1.weaken (fun _ _ _ _ => trivial)⟩⟩ rfl rfl hl rfl (lv_room (by show 1 + (rest.map fun v => v.category).sum ≤ 8; omega)) hdg ⟨hc, hs⟩ T hT X9
  cases hv
  rw [h0] at hz hk
  have hS : va_S A H0 T'.heap (locs ++ L) := ⟨Nat.le_trans hw.2.2.1.1 (by rw [e1]; exact hz), fun y h1 h2 => by rw [e1, hk y (Nat.lt_of_lt_of_le h1 hw.2.2.1.1) (fun w => h2 (hfree y w))]; exact hw.2.2.1.2.1 y h1 h2, fun y hy => by
      rcases List.mem_append.mp hy with w | w
      · exact hw.2.2.1.2.2 y w
      · exact hfree _ (hL y w)⟩
  rw [← e1] at hP
  have hD : va_D A (cw g qq ad ea h z X ++ [(q, larr g N (va_cpy (za z 1) (fun _ => 0) 0 0 (h.1 1)))]) := hD.weaken (fun _ _ _ w => hfree _ w)
  have K : W p l e R s m args below meth c T'.heap (locs ++ L) (cells + 1) (slots + N) Q (F0 m (pc + 3) ls (.ref q :: .ref (qq 2) :: rest)) := by
    refine va_put (ci := 0) (ty := .array .int) (v := .ref q) (C := R_Bytes) (T := F_Bytes) (N := 3) C.1.1 C.1.2.1 C.1.2.2.2.2 i_Bytes t_Bytes t_Bytes_ok n_Bytes C.1.2.2.2.1 C.2.1 hP hD hS 2 rfl rfl 1 (by decide) (C.1.2.2.2.2 _ gw_82) (fun _ w => w) rfl (by decide +kernel) rfl rfl (Nat.le_of_ble_eq_true rfl) hdg2 (fun H1 locs1 hP hD hS => ?_)
    refine kk q H1 locs1 ⟨?_, ?_, hS, hw.2.2.2⟩
    · exact va_P_set (i := 6) (ws := (cw g qq ad ea h z X).set 2 (qq 2, .inr (0, [.int 16384, .ref q, .int (zi z 1)]))) hP
    · exact va_D_set (i := 6) (ws := (cw g qq ad ea h z X).set 2 (qq 2, .inr (0, [.int 16384, .ref q, .int (zi z 1)]))) hD
  obtain ⟨t2, a1, b1⟩ := K T' rfl X'
  exact ⟨t2, st t2 a1, b1⟩
set_option maxHeartbeats 4000000 in
theorem c_grow_2 {x : Int32} {N : Nat} (C : mCx p m c cc nL s args g "MidiDesk$Bytes") (hl : ls.size = nL) (hw : cWd g A H0 qq ad ea h X z H locs) (hx : ¬ x < 0) (hN : x.toNatClampNeg = N) (hn : h.1 2 < N) (hb4 : N * 4 ≤ 536870912) (hR : 2 ≤ R.frames ∧ 62 ≤ R.locals) (hr : (rest.map fun v => v.category).sum ≤ 7) (hc : cells + 1 ≤ R.cells) (hs : slots + N ≤ R.slots) (hdg : decode cc pc = .ok (.invokestatic 22, 3)) (hdg2 : decode cc (pc + 3) = .ok (.putfield 15, 3))
    (kk : ∀ (q : Nat) (H1 : Heap) (locs1 : List Loc), cWd g A H0 qq (updN ad 2 q) ea (hL h 2 N) X (zF z 2 (va_cpy (za z 2) (fun _ => 0) 0 0 (h.1 2))) H1 locs1 → W p l e R s m args below meth c H1 locs1 (cells + 1) (slots + N) Q (F0 m (pc + 3 + 3) ls rest)) : W p l e R s m args below meth c H locs cells slots Q (F0 m pc ls (.int x :: .ref (ad 2) :: .ref (qq 3) :: rest)) := by
  have hM := copyOf_met (l := l) (g := g) (ws := cw g qq ad ea h z X) (i0 := 7) (a := ad 2) (f := za z 2) rfl hx hN hn hb4 H.size
  have hfree : ∀ y, va_A (cw g qq ad ea h z X) H.size y → A y := by
    intro y hy
    rcases hy with ⟨k, x, hk⟩ | hy
    · exact hw.2.1.2 k (y, x) hk
    · exact hw.2.2.2 y (Nat.le_trans hw.2.2.1.1 hy)
  intro T hT X9
  obtain ⟨v, st₀, t, T', L, h0, X', hL, e1, e2, ⟨⟨q, hv, hP, hD⟩, hz, hk⟩, st⟩ := va_runS (As := [.ref (ad 2), .int x]) (rest := .ref (qq 3) :: rest) (g := F0 m pc ls (.int x :: .ref (ad 2) :: .ref (qq 3) :: rest)) C.1 hM (callS_of (rm := { frames := 1, cells := 1, slots := N, locals := 40 }) 2 C.1.2.2.2.2 gw_163 gw_164 gw_56 gw_165 kA_copyOf ⟨hR.1, hR.2⟩) ⟨fun a U gf mk w => ⟨w.1, w.2.1, kK.same (s := U) (U := U.calling gf mk a) rfl w.2.2.1, w.2.2.2.1, w.2.2.2.2⟩, fun U hU hW => ⟨rfl, by rw [hU], kK.moved hW C.2, by rw [hU]; exact hw.1, hw.2.1.weaken (fun _ _ _ _ => trivial)⟩⟩ rfl rfl hl rfl (lv_room (by show 1 + (rest.map fun v => v.category).sum ≤ 8; omega)) hdg ⟨hc, hs⟩ T hT X9
  cases hv
  rw [h0] at hz hk
  have hS : va_S A H0 T'.heap (locs ++ L) := ⟨Nat.le_trans hw.2.2.1.1 (by rw [e1]; exact hz), fun y h1 h2 => by rw [e1, hk y (Nat.lt_of_lt_of_le h1 hw.2.2.1.1) (fun w => h2 (hfree y w))]; exact hw.2.2.1.2.1 y h1 h2, fun y hy => by
      rcases List.mem_append.mp hy with w | w
      · exact hw.2.2.1.2.2 y w
      · exact hfree _ (hL y w)⟩
  rw [← e1] at hP
  have hD : va_D A (cw g qq ad ea h z X ++ [(q, larr g N (va_cpy (za z 2) (fun _ => 0) 0 0 (h.1 2)))]) := hD.weaken (fun _ _ _ w => hfree _ w)
  have K : W p l e R s m args below meth c T'.heap (locs ++ L) (cells + 1) (slots + N) Q (F0 m (pc + 3) ls (.ref q :: .ref (qq 3) :: rest)) := by
    refine va_put (ci := 0) (ty := .array .int) (v := .ref q) (C := R_Bytes) (T := F_Bytes) (N := 3) C.1.1 C.1.2.1 C.1.2.2.2.2 i_Bytes t_Bytes t_Bytes_ok n_Bytes C.1.2.2.2.1 C.2.1 hP hD hS 3 rfl rfl 1 (by decide) (C.1.2.2.2.2 _ gw_82) (fun _ w => w) rfl (by decide +kernel) rfl rfl (Nat.le_of_ble_eq_true rfl) hdg2 (fun H1 locs1 hP hD hS => ?_)
    refine kk q H1 locs1 ⟨?_, ?_, hS, hw.2.2.2⟩
    · exact va_P_set (i := 7) (ws := (cw g qq ad ea h z X).set 3 (qq 3, .inr (0, [.int 8000, .ref q, .int (zi z 2)]))) hP
    · exact va_D_set (i := 7) (ws := (cw g qq ad ea h z X).set 3 (qq 3, .inr (0, [.int 8000, .ref q, .int (zi z 2)]))) hD
  obtain ⟨t2, a1, b1⟩ := K T' rfl X'
  exact ⟨t2, st t2 a1, b1⟩
theorem c_retAv {ke : Prop} {ea0 : Nat → Nat} {A0 : Nat → Prop} {rv : (Nat → Nat) → Option Value} {X' : va_W} {h' : cH} {z' : cZ} (C : mCx p m c cc nL s args g own) (hr : meth.sig.returnType = none) (hlk : meth.locks = false) (hrv : rv = fun ea => none) (hke : ke → ea = ea0) (hw : cWd g A0 s.heap qq ad ea h X z H locs) (hf : some (h, z) = some (h', z')) (hX : X = X') (hc : cells ≤ R.cells ∧ slots ≤ R.slots) (hdg : decode cc pc = .ok (.return_, 1)) : cGa p l e R s m args below meth c g qq A0 ke ea0 rv X' h' z' H locs cells slots (F0 m pc ls []) := by
  cases hf
  subst hrv
  subst hX
  refine W.widen (k := R.cells) (n := R.slots) hc.1 hc.2 ?_
  exact W.vret C.1.1 C.1.2.1 hr (fun t ht hW => ⟨⟨ad, ea, hke, rfl, by rw [ht]; exact hw.1, hw.2.1⟩, hw.2.2.1.F ht⟩) hw.2.2.1.2.2 hdg hlk
theorem c_retAi {ke : Prop} {ea0 : Nat → Nat} {A0 : Nat → Prop} {rv : (Nat → Nat) → Option Value} {X' : va_W} {h' : cH} {z' : cZ} {x r : Int32} (C : mCx p m c cc nL s args g own) (hr : meth.sig.returnType = some .int) (hlk : meth.locks = false) (hrv : rv = fun ea => some (.int r)) (hke : ke → ea = ea0) (hw : cWd g A0 s.heap qq ad ea h X z H locs) (hf : some (x, h, z) = some (r, h', z')) (hX : X = X') (hc : cells ≤ R.cells ∧ slots ≤ R.slots) (hdg : decode cc pc = .ok (.ireturn, 1)) : cGa p l e R s m args below meth c g qq A0 ke ea0 rv X' h' z' H locs cells slots (F0 m pc ls [.int x]) := by
  cases hf
  subst hrv
  subst hX
  refine W.widen (k := R.cells) (n := R.slots) hc.1 hc.2 ?_
  exact W.iret C.1.1 C.1.2.1 hr (fun t ht hW => ⟨⟨ad, ea, hke, rfl, by rw [ht]; exact hw.1, hw.2.1⟩, hw.2.2.1.F ht⟩) hw.2.2.1.2.2 hdg hlk
theorem c_retAz {ke : Prop} {ea0 : Nat → Nat} {A0 : Nat → Prop} {rv : (Nat → Nat) → Option Value} {X' : va_W} {h' : cH} {z' : cZ} {x r : Int32} (C : mCx p m c cc nL s args g own) (hr : meth.sig.returnType = some .boolean) (hlk : meth.locks = false) (hrv : rv = fun ea => some (.int r)) (hke : ke → ea = ea0) (hw : cWd g A0 s.heap qq ad ea h X z H locs) (hx : x = 0 ∨ x = 1) (hf : some (x, h, z) = some (r, h', z')) (hX : X = X') (hc : cells ≤ R.cells ∧ slots ≤ R.slots) (hdg : decode cc pc = .ok (.ireturn, 1)) : cGa p l e R s m args below meth c g qq A0 ke ea0 rv X' h' z' H locs cells slots (F0 m pc ls [.int x]) := by
  cases hf
  subst hrv
  subst hX
  refine W.widen (k := R.cells) (n := R.slots) hc.1 hc.2 ?_
  exact W.zret C.1.1 C.1.2.1 hr (by rcases hx with rfl | rfl <;> rfl) (fun t ht hW => ⟨⟨ad, ea, hke, rfl, by rw [ht]; exact hw.1, hw.2.1⟩, hw.2.2.1.F ht⟩) hw.2.2.1.2.2 hdg hlk
theorem c_retAo {ke : Prop} {ea0 : Nat → Nat} {A0 : Nat → Prop} {rv : (Nat → Nat) → Option Value} {X' : va_W} {h' : cH} {z' : cZ} {x r : Option Nat} (C : mCx p m c cc nL s args g own) (hr : meth.sig.returnType = some (.object "MidiDesk$Event")) (hlk : meth.locks = false) (hrv : rv = fun ea => some (va_rf (Option.map ea r))) (hke : ke → ea = ea0) (hw : cWd g A0 s.heap qq ad ea h X z H locs) (hf : some (x, h, z) = some (r, h', z')) (hX : X = X') (hc : cells ≤ R.cells ∧ slots ≤ R.slots) (hdg : decode cc pc = .ok (.areturn, 1)) : cGa p l e R s m args below meth c g qq A0 ke ea0 rv X' h' z' H locs cells slots (F0 m pc ls [va_rf (Option.map ea x)]) := by
  cases hf
  subst hrv
  subst hX
  refine W.widen (k := R.cells) (n := R.slots) hc.1 hc.2 ?_
  exact W.aret C.1.1 C.1.2.1 hr (Or.inl ⟨_, rfl⟩) (by cases x with | none => exact Or.inl rfl | some a => exact Or.inr ⟨_, rfl⟩) (fun t ht hW => ⟨⟨ad, ea, hke, rfl, by rw [ht]; exact hw.1, hw.2.1⟩, hw.2.2.1.F ht⟩) hw.2.2.1.2.2 hdg hlk
end AC
theorem pr4 {α β γ : Type} {a a' : α} {b b' : β} {c c' : γ} (h : some (a, b, c) = some (a', b', c')) : some (a, b) = some (a', b') ∧ c = c' := by cases h; exact ⟨rfl, rfl⟩
theorem pr5 {α β γ δ : Type} {x x' : δ} {a a' : α} {b b' : β} {c c' : γ} (h : some (x, a, b, c) = some (x', a', b', c')) : some (x, a, b) = some (x', a', b') ∧ c = c' := by cases h; exact ⟨rfl, rfl⟩

