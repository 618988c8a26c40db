theorem gw_72 : (Jvm.Cond.methodLink "MidiDesk" (1 : Nat) ({ cls := "java/lang/Object", name := "<init>", desc := "()V" } : Jvm.MethodName)) ∈ gw := gw_in 72 (by decide +kernel) (by decide +kernel)
theorem gw_75 : (Jvm.Cond.classLink "MidiDesk" (7 : Nat) "MidiDesk$Bytes") ∈ gw := gw_in 75 (by decide +kernel) (by decide +kernel)
theorem gw_76 : (Jvm.Cond.instantiable "MidiDesk$Bytes" (3 : Nat)) ∈ gw := gw_in 76 (by decide +kernel) (by decide +kernel)
theorem gw_77 : (Jvm.Cond.methodLink "MidiDesk" (11 : Nat) ({ cls := "MidiDesk$Bytes", name := "<init>", desc := "(I)V" } : Jvm.MethodName)) ∈ gw := gw_in 77 (by decide +kernel) (by decide +kernel)
theorem gw_78 : (Jvm.Cond.instanceMethod ({ cls := "MidiDesk$Bytes", name := "<init>", desc := "(I)V" } : Jvm.MethodName)) ∈ gw := gw_in 78 (by decide +kernel) (by decide +kernel)
theorem gw_79 : (Jvm.Cond.code ({ cls := "MidiDesk$Bytes", name := "<init>", desc := "(I)V" } : Jvm.MethodName) prog_2_method_1_code (2 : Nat) (Option.none : Option Jvm.ClassFile.FieldType)) ∈ gw := gw_in 79 (by decide +kernel) (by decide +kernel)
theorem gw_80 : (Jvm.Cond.methodLink "MidiDesk$Bytes" (3 : Nat) ({ cls := "java/lang/Object", name := "<init>", desc := "()V" } : Jvm.MethodName)) ∈ gw := gw_in 80 (by decide +kernel) (by decide +kernel)
theorem gw_92 : (Jvm.Cond.classLink "MidiDesk" (21 : Nat) "MidiDesk$Score") ∈ gw := gw_in 92 (by decide +kernel) (by decide +kernel)
theorem gw_93 : (Jvm.Cond.instantiable "MidiDesk$Score" (8 : Nat)) ∈ gw := gw_in 93 (by decide +kernel) (by decide +kernel)
theorem gw_94 : (Jvm.Cond.methodLink "MidiDesk" (23 : Nat) ({ cls := "MidiDesk$Score", name := "<init>", desc := "()V" } : Jvm.MethodName)) ∈ gw := gw_in 94 (by decide +kernel) (by decide +kernel)
theorem gw_95 : (Jvm.Cond.instanceMethod ({ cls := "MidiDesk$Score", name := "<init>", desc := "()V" } : Jvm.MethodName)) ∈ gw := gw_in 95 (by decide +kernel) (by decide +kernel)
theorem gw_96 : (Jvm.Cond.code ({ cls := "MidiDesk$Score", name := "<init>", desc := "()V" } : Jvm.MethodName) prog_6_method_1_code (1 : Nat) (Option.none : Option Jvm.ClassFile.FieldType)) ∈ gw := gw_in 96 (by decide +kernel) (by decide +kernel)
theorem gw_97 : (Jvm.Cond.methodLink "MidiDesk$Score" (3 : Nat) ({ cls := "java/lang/Object", name := "<init>", desc := "()V" } : Jvm.MethodName)) ∈ gw := gw_in 97 (by decide +kernel) (by decide +kernel)
theorem gw_98 : (Jvm.Cond.classLink "MidiDesk$Score" (9 : Nat) "MidiDesk$Bytes") ∈ gw := gw_in 98 (by decide +kernel) (by decide +kernel)
theorem gw_99 : (Jvm.Cond.methodLink "MidiDesk$Score" (11 : Nat) ({ cls := "MidiDesk$Bytes", name := "<init>", desc := "(I)V" } : Jvm.MethodName)) ∈ gw := gw_in 99 (by decide +kernel) (by decide +kernel)
theorem gw_713 : (Jvm.Cond.methodLink "MidiDeskModel" (1 : Nat) ({ cls := "java/lang/Object", name := "<init>", desc := "()V" } : Jvm.MethodName)) ∈ gw := gw_in 713 (by decide +kernel) (by decide +kernel)
/-- a constructor's contract: from the cells ws, written out, to cells of which post holds -/
def gMet (l : Launch) (y : MethodName) (cc : ByteArray) (maxL : Nat) (rm : Room) (g : gT) (ws : va_W) (vs : List Value) (post : va_W → Prop) : Prop :=
  ∀ sz : Nat, Met l y (.code y cc maxL none :: gw) rm (va_Pc vs (fun U => U.heap.size = sz ∧ kK g U ∧ va_P g.1 classes ws U.heap ∧ va_D (fun _ => True) ws)) (fun _ st oc t => (∃ ws' : va_W, post ws' ∧ oc = .returned none ∧ va_P g.1 classes ws' t.heap ∧ va_D (va_A ws sz) ws') ∧ va_F (va_A ws sz) st t) rm.cells rm.slots (va_A ws sz)
section GC
variable {p : Program} {l : Launch} {e : Env} {R : Room} {s : State} {m : MethodId} {args : Array Value} {below : List Frame} {meth : Method} {c : Code} {H : Heap} {locs : List Loc} {cells slots : Nat} {Q : State → Prop} {cc : ByteArray} {nL pc : Nat} {ls : Array Slot} {rest : List Value} {g : gT} {A : Nat → Prop} {H0 : Heap} {qq ad ea : Nat → Nat} {X : va_W} {h : cH} {z : cZ} {own : String} {ws : va_W}
theorem g_callI {y : MethodName} {bytes : ByteArray} {maxL index n b : Nat} {rm : Room} {As : List Value} {post : va_W → Prop} {st0 : List Value} (C : mCx p m c cc nL s args g own) (hl : ls.size = nL) (hP : va_P g.1 classes ws H) (hD : va_D A ws) (hS : va_S A H0 H locs) (hA : ∀ y, H0.size ≤ y → A y)
    (hM : gMet l y bytes maxL rm g ws (.ref b :: As) post) (h1 : Cond.methodLink own index y ∈ gw) (h2 : Cond.instanceMethod y ∈ gw) (h4 : Cond.initialized y.cls ∈ gw) (h5 : Cond.code y bytes maxL none ∈ gw) (hy : y.name = "<init>")
    (hd : y.cls ≠ "java/lang/invoke/MethodHandle" ∧ y.cls ≠ "java/lang/invoke/VarHandle" ∧ (parseMethodDescriptor y.desc).map (fun d => d.parameters.length) = some n) (hR : rm.frames + 1 ≤ R.frames ∧ 8 + (maxL + 11) + rm.locals ≤ R.locals)
    (hn : As.length = n) (hst : st0 = As.reverse ++ .ref b :: rest) (hr : (rest.map fun v => v.category).sum ≤ 8) (hdg : decode cc pc = .ok (.invokespecial index, 3)) (hf : cells + rm.cells ≤ R.cells ∧ slots + rm.slots ≤ R.slots)
    (kk : ∀ (ws' : va_W) (H1 : Heap) (locs1 : List Loc), post ws' → va_P g.1 classes ws' H1 → va_D A ws' → va_S A H0 H1 locs1 → W p l e R s m args below meth c H1 locs1 (cells + rm.cells) (slots + rm.slots) Q (F0 m (pc + 3) ls rest)) : W p l e R s m args below meth c H locs cells slots Q (F0 m pc ls st0) := by
  have hfree : ∀ y, va_A ws H.size y → A y := by
    intro y hy
    rcases hy with ⟨k, x, hk⟩ | hy
    · exact hD.2 k (y, x) hk
    · exact hA y (Nat.le_trans hS.1 hy)
  intro T hT X
  obtain ⟨v, st₀, t, T', L, h0, X', hL, e1, e2, ⟨⟨ws', hpost, hv, hP1, hD1⟩, hz, hk⟩, st⟩ := va_runI (b := b) (As := As) (rest := rest) (g := F0 m pc ls st0) C.1 (hM H.size) ⟨callB_of n C.1.2.2.2.2 (gw_GI h5) rfl rfl rfl (C.1.2.2.2.2 _ h4) (C.1.2.2.2.2 _ h1) hd hR, hy, C.1.2.2.2.2 _ h2⟩ ⟨fun a U gf mk w => ⟨w.1, w.2.1, kK.same (s := U) (U := U.calling gf mk a) rfl w.2.2.1, w.2.2.2.1, w.2.2.2.2⟩, fun U hU hW => ⟨rfl, by rw [hU], kK.moved hW C.2, by rw [hU]; exact hP, hD.weaken (fun _ _ _ _ => trivial)⟩⟩ rfl hn hl hst (lv_room hr) hdg hf T hT X
  cases hv
  rw [h0] at hz hk
  rw [← e1] at hP1
  obtain ⟨t2, a1, b1⟩ := kk ws' T'.heap (locs ++ L) hpost hP1 (hD1.weaken (fun _ _ _ w => hfree _ w)) ⟨Nat.le_trans hS.1 (by rw [e1]; exact hz), fun y h1 h2 => by rw [e1, hk y (Nat.lt_of_lt_of_le h1 hS.1) (fun w => h2 (hfree y w))]; exact hS.2.1 y h1 h2, fun y hy => by
      rcases List.mem_append.mp hy with w | w
      · exact hS.2.2 y w
      · exact hfree _ (hL y w)⟩ T' rfl X'
  exact ⟨t2, st t2 a1, b1⟩
end GC

abbrev cB_init1 : ByteArray := prog_2_method_1_code
abbrev yB_init1 : MethodName := ⟨"MidiDesk$Bytes", "<init>", "(I)V"⟩
theorem kB_init1 : yB_init1.cls ≠ "java/lang/invoke/MethodHandle" ∧ yB_init1.cls ≠ "java/lang/invoke/VarHandle" ∧ (parseMethodDescriptor yB_init1.desc).map (fun d => d.parameters.length) = some 1 := by decide +kernel
theorem dB_init1_0 : decode cB_init1 0 = .ok (.aload_n 0, 1) := by decide +kernel
theorem dB_init1_1 : decode cB_init1 1 = .ok (.invokespecial 3, 3) := by decide +kernel
theorem dB_init1_4 : decode cB_init1 4 = .ok (.aload_n 0, 1) := by decide +kernel
theorem dB_init1_5 : decode cB_init1 5 = .ok (.iload_n 1, 1) := by decide +kernel
theorem dB_init1_6 : decode cB_init1 6 = .ok (.putfield 9, 3) := by decide +kernel
theorem dB_init1_9 : decode cB_init1 9 = .ok (.aload_n 0, 1) := by decide +kernel
theorem dB_init1_10 : decode cB_init1 10 = .ok (.bipush 64, 2) := by decide +kernel
theorem dB_init1_12 : decode cB_init1 12 = .ok (.newarray .int, 2) := by decide +kernel
theorem dB_init1_14 : decode cB_init1 14 = .ok (.putfield 15, 3) := by decide +kernel
theorem dB_init1_17 : decode cB_init1 17 = .ok (.return_, 1) := by decide +kernel
abbrev rB_init1 : Room := { frames := 1, cells := 1, slots := 64, locals := 12 }
set_option maxHeartbeats 4000000 in
set_option maxRecDepth 100000 in
theorem cB_init1_met {l : Launch} {g : gT} {q : Nat} {x : Int32} {x1 : Nat × va_E} : gMet l yB_init1 cB_init1 2 rB_init1 g [(q, .inr (0, [.int 0, .null, .int 0])), x1] [.ref q, .int x] (fun ws' => ∃ qa : Nat, ws' = (q, .inr (0, [.int x, .ref qa, .int 0])) :: (qa, larr g 64 (fun _ => 0)) :: [x1]) := by
  intro sz
  refine Met.ofW (cc := cB_init1) (maxL := 2) (ret := none) (by decide) rfl ?_
  intro p e s m args below meth c s₁ B hml hv
  obtain ⟨rfl, hsz, hK, hP, hD0⟩ := hv
  subst hsz
  have hts := atoms_spec (ws := Cond.code yB_init1 cB_init1 2 none :: gw) B.pre
  have hown : s.vm.findClass "MidiDesk$Bytes" = some m.cls := findClass_of_methodNamed B.named
  have C : mCx p m c cB_init1 2 s [Value.ref q, Value.int x].toArray g "MidiDesk$Bytes" := ⟨⟨B.exec, B.bytes, hml, hown, fun w hw => hts w (List.mem_cons_of_mem _ hw)⟩, hK⟩
  have hlk := B.notSynchronized
  have hr := B.returns
  have hnm : meth.name = "<init>" := (name_of_methodNamed B.named B.method).1
  have hD := hD0.self (sz := s.heap.size)
  generalize hAe : va_A [(q, .inr (0, [.int 0, .null, .int 0])), x1] s.heap.size = A at hD ⊢
  have hA : ∀ y : Nat, s.heap.size ≤ y → A y := fun y h => by rw [← hAe]; exact Or.inr h
  have hS : va_S A s.heap s.heap [] := va_S.rf
  have hl := lv_entry [.ref q, .int x] (n := 2) (Nat.le_of_ble_eq_true rfl)
  rw [lg_entry_eq]
  generalize (lg_sl [.ref q, .int x] ++ List.replicate (2 - (lg_sl [.ref q, .int x]).length) Slot.unset).toArray = ls at hl ⊢
  have hl : lv_has ls 2 [(0, .ref q), (1, .int x)] := hl
  refine lv_aload_n C.1.1 C.1.2.1 dB_init1_0 rfl (lv_at hl 0 rfl) ?_
  refine W.objInit C.1.1 C.1.2.1 C.1.2.2.2.1 (C.1.2.2.2.2 _ gw_80) (C.1.2.2.2.2 _ gw_73) (C.1.2.2.2.2 _ gw_74) rfl (by rw [C.1.2.2.1]; exact hl.1) rfl dB_init1_1 (Nat.le_of_ble_eq_true rfl) (Nat.le_of_ble_eq_true rfl) ?_
  refine W.eq (g2 := F0 m 4 ls []) rfl ?_
  refine lv_aload_n C.1.1 C.1.2.1 dB_init1_4 rfl (lv_at hl 0 rfl) ?_
  refine lv_iload_n C.1.1 C.1.2.1 dB_init1_5 rfl (lv_at hl 1 rfl) ?_
  refine va_putF (ci := 0) (ty := .int) (v := .int x) (C := R_Bytes) (T := F_Bytes) (N := 3) C.1.1 C.1.2.1 C.1.2.2.2.2 i_Bytes t_Bytes t_Bytes_ok n_Bytes C.1.2.2.2.1 C.2.1 hP hD hS 0 rfl rfl 0 (by decide) (C.1.2.2.2.2 _ gw_81) (fun _ w => w) rfl hnm rfl (by decide +kernel) rfl rfl (Nat.le_of_ble_eq_true rfl) dB_init1_6 (fun H locs hP hD hS => ?_)
  have hP : va_P g.1 classes [(q, .inr (0, [.int x, .null, .int 0])), x1] H := hP
  have hD : va_D A [(q, .inr (0, [.int x, .null, .int 0])), x1] := hD
  refine lv_aload_n C.1.1 C.1.2.1 dB_init1_9 rfl (lv_at hl 0 rfl) ?_
  refine lv_bipush (v := (64 : Int32)) C.1.1 C.1.2.1 dB_init1_10 (by decide) ?_
  refine x_newi (N := 64) C hP hD hS hA (by decide) (by decide) (by decide) (Nat.le_of_ble_eq_true rfl) (Nat.le_of_ble_eq_true rfl) dB_init1_12 (fun q1 H hP hD hS => ?_)
  refine W.widen (k := 1) (n := 64) (Nat.le_of_ble_eq_true rfl) (Nat.le_of_ble_eq_true rfl) ?_
  have hP : va_P g.1 classes [(q, .inr (0, [.int x, .null, .int 0])), x1, (q1, larr g 64 (fun _ => 0))] H := hP
  have hD : va_D A [(q, .inr (0, [.int x, .null, .int 0])), x1, (q1, larr g 64 (fun _ => 0))] := hD
  refine va_put (ci := 0) (ty := .array .int) (v := .ref q1) (C := R_Bytes) (T := F_Bytes) (N := 3) C.1.1 C.1.2.1 C.1.2.2.2.2 i_Bytes t_Bytes t_Bytes_ok n_Bytes C.1.2.2.2.1 C.2.1 hP hD hS 0 rfl rfl 1 (by decide) (C.1.2.2.2.2 _ gw_82) (fun _ w => w) rfl (by decide +kernel) rfl rfl (Nat.le_of_ble_eq_true rfl) dB_init1_14 (fun H locs hP hD hS => ?_)
  have hP : va_P g.1 classes [(q, .inr (0, [.int x, .ref q1, .int 0])), x1, (q1, larr g 64 (fun _ => 0))] H := hP
  have hD : va_D A [(q, .inr (0, [.int x, .ref q1, .int 0])), x1, (q1, larr g 64 (fun _ => 0))] := hD
  have hP := hP.sub (ws' := [(q, .inr (0, [.int x, .ref q1, .int 0])), (q1, larr g 64 (fun _ => 0)), x1]) [0, 2, 1] rfl
  have hD := hD.sub (ws' := [(q, .inr (0, [.int x, .ref q1, .int 0])), (q1, larr g 64 (fun _ => 0)), x1]) [0, 2, 1] (by decide) rfl
  exact W.vret C.1.1 C.1.2.1 hr (fun t ht hW => ⟨⟨_, ⟨_, rfl⟩, rfl, by rw [ht]; exact hP, hD⟩, hS.F ht⟩) hS.2.2 dB_init1_17 hlk
abbrev cB_init3 : ByteArray := prog_2_method_1_code
abbrev yB_init3 : MethodName := ⟨"MidiDesk$Bytes", "<init>", "(I)V"⟩
theorem kB_init3 : yB_init3.cls ≠ "java/lang/invoke/MethodHandle" ∧ yB_init3.cls ≠ "java/lang/invoke/VarHandle" ∧ (parseMethodDescriptor yB_init3.desc).map (fun d => d.parameters.length) = some 1 := by decide +kernel
theorem dB_init3_0 : decode cB_init3 0 = .ok (.aload_n 0, 1) := by decide +kernel
theorem dB_init3_1 : decode cB_init3 1 = .ok (.invokespecial 3, 3) := by decide +kernel
theorem dB_init3_4 : decode cB_init3 4 = .ok (.aload_n 0, 1) := by decide +kernel
theorem dB_init3_5 : decode cB_init3 5 = .ok (.iload_n 1, 1) := by decide +kernel
theorem dB_init3_6 : decode cB_init3 6 = .ok (.putfield 9, 3) := by decide +kernel
theorem dB_init3_9 : decode cB_init3 9 = .ok (.aload_n 0, 1) := by decide +kernel
theorem dB_init3_10 : decode cB_init3 10 = .ok (.bipush 64, 2) := by decide +kernel
theorem dB_init3_12 : decode cB_init3 12 = .ok (.newarray .int, 2) := by decide +kernel
theorem dB_init3_14 : decode cB_init3 14 = .ok (.putfield 15, 3) := by decide +kernel
theorem dB_init3_17 : decode cB_init3 17 = .ok (.return_, 1) := by decide +kernel
abbrev rB_init3 : Room := { frames := 1, cells := 1, slots := 64, locals := 12 }
set_option maxHeartbeats 4000000 in
set_option maxRecDepth 100000 in
theorem cB_init3_met {l : Launch} {g : gT} {q : Nat} {x : Int32} {x1 x2 x3 : Nat × va_E} : gMet l yB_init3 cB_init3 2 rB_init3 g [(q, .inr (0, [.int 0, .null, .int 0])), x1, x2, x3] [.ref q, .int x] (fun ws' => ∃ qa : Nat, ws' = (q, .inr (0, [.int x, .ref qa, .int 0])) :: (qa, larr g 64 (fun _ => 0)) :: [x1, x2, x3]) := by
  intro sz
  refine Met.ofW (cc := cB_init3) (maxL := 2) (ret := none) (by decide) rfl ?_
  intro p e s m args below meth c s₁ B hml hv
  obtain ⟨rfl, hsz, hK, hP, hD0⟩ := hv
  subst hsz
  have hts := atoms_spec (ws := Cond.code yB_init3 cB_init3 2 none :: gw) B.pre
  have hown : s.vm.findClass "MidiDesk$Bytes" = some m.cls := findClass_of_methodNamed B.named
  have C : mCx p m c cB_init3 2 s [Value.ref q, Value.int x].toArray g "MidiDesk$Bytes" := ⟨⟨B.exec, B.bytes, hml, hown, fun w hw => hts w (List.mem_cons_of_mem _ hw)⟩, hK⟩
  have hlk := B.notSynchronized
  have hr := B.returns
  have hnm : meth.name = "<init>" := (name_of_methodNamed B.named B.method).1
  have hD := hD0.self (sz := s.heap.size)
  generalize hAe : va_A [(q, .inr (0, [.int 0, .null, .int 0])), x1, x2, x3] s.heap.size = A at hD ⊢
  have hA : ∀ y : Nat, s.heap.size ≤ y → A y := fun y h => by rw [← hAe]; exact Or.inr h
  have hS : va_S A s.heap s.heap [] := va_S.rf
  have hl := lv_entry [.ref q, .int x] (n := 2) (Nat.le_of_ble_eq_true rfl)
  rw [lg_entry_eq]
  generalize (lg_sl [.ref q, .int x] ++ List.replicate (2 - (lg_sl [.ref q, .int x]).length) Slot.unset).toArray = ls at hl ⊢
  have hl : lv_has ls 2 [(0, .ref q), (1, .int x)] := hl
  refine lv_aload_n C.1.1 C.1.2.1 dB_init3_0 rfl (lv_at hl 0 rfl) ?_
  refine W.objInit C.1.1 C.1.2.1 C.1.2.2.2.1 (C.1.2.2.2.2 _ gw_80) (C.1.2.2.2.2 _ gw_73) (C.1.2.2.2.2 _ gw_74) rfl (by rw [C.1.2.2.1]; exact hl.1) rfl dB_init3_1 (Nat.le_of_ble_eq_true rfl) (Nat.le_of_ble_eq_true rfl) ?_
  refine W.eq (g2 := F0 m 4 ls []) rfl ?_
  refine lv_aload_n C.1.1 C.1.2.1 dB_init3_4 rfl (lv_at hl 0 rfl) ?_
  refine lv_iload_n C.1.1 C.1.2.1 dB_init3_5 rfl (lv_at hl 1 rfl) ?_
  refine va_putF (ci := 0) (ty := .int) (v := .int x) (C := R_Bytes) (T := F_Bytes) (N := 3) C.1.1 C.1.2.1 C.1.2.2.2.2 i_Bytes t_Bytes t_Bytes_ok n_Bytes C.1.2.2.2.1 C.2.1 hP hD hS 0 rfl rfl 0 (by decide) (C.1.2.2.2.2 _ gw_81) (fun _ w => w) rfl hnm rfl (by decide +kernel) rfl rfl (Nat.le_of_ble_eq_true rfl) dB_init3_6 (fun H locs hP hD hS => ?_)
  have hP : va_P g.1 classes [(q, .inr (0, [.int x, .null, .int 0])), x1, x2, x3] H := hP
  have hD : va_D A [(q, .inr (0, [.int x, .null, .int 0])), x1, x2, x3] := hD
  refine lv_aload_n C.1.1 C.1.2.1 dB_init3_9 rfl (lv_at hl 0 rfl) ?_
  refine lv_bipush (v := (64 : Int32)) C.1.1 C.1.2.1 dB_init3_10 (by decide) ?_
  refine x_newi (N := 64) C hP hD hS hA (by decide) (by decide) (by decide) (Nat.le_of_ble_eq_true rfl) (Nat.le_of_ble_eq_true rfl) dB_init3_12 (fun q1 H hP hD hS => ?_)
  refine W.widen (k := 1) (n := 64) (Nat.le_of_ble_eq_true rfl) (Nat.le_of_ble_eq_true rfl) ?_
  have hP : va_P g.1 classes [(q, .inr (0, [.int x, .null, .int 0])), x1, x2, x3, (q1, larr g 64 (fun _ => 0))] H := hP
  have hD : va_D A [(q, .inr (0, [.int x, .null, .int 0])), x1, x2, x3, (q1, larr g 64 (fun _ => 0))] := hD
  refine va_put (ci := 0) (ty := .array .int) (v := .ref q1) (C := R_Bytes) (T := F_Bytes) (N := 3) C.1.1 C.1.2.1 C.1.2.2.2.2 i_Bytes t_Bytes t_Bytes_ok n_Bytes C.1.2.2.2.1 C.2.1 hP hD hS 0 rfl rfl 1 (by decide) (C.1.2.2.2.2 _ gw_82) (fun _ w => w) rfl (by decide +kernel) rfl rfl (Nat.le_of_ble_eq_true rfl) dB_init3_14 (fun H locs hP hD hS => ?_)
  have hP : va_P g.1 classes [(q, .inr (0, [.int x, .ref q1, .int 0])), x1, x2, x3, (q1, larr g 64 (fun _ => 0))] H := hP
  have hD : va_D A [(q, .inr (0, [.int x, .ref q1, .int 0])), x1, x2, x3, (q1, larr g 64 (fun _ => 0))] := hD
  have hP := hP.sub (ws' := [(q, .inr (0, [.int x, .ref q1, .int 0])), (q1, larr g 64 (fun _ => 0)), x1, x2, x3]) [0, 4, 1, 2, 3] rfl
  have hD := hD.sub (ws' := [(q, .inr (0, [.int x, .ref q1, .int 0])), (q1, larr g 64 (fun _ => 0)), x1, x2, x3]) [0, 4, 1, 2, 3] (by decide) rfl
  exact W.vret C.1.1 C.1.2.1 hr (fun t ht hW => ⟨⟨_, ⟨_, rfl⟩, rfl, by rw [ht]; exact hP, hD⟩, hS.F ht⟩) hS.2.2 dB_init3_17 hlk
abbrev cB_init6 : ByteArray := prog_2_method_1_code
abbrev yB_init6 : MethodName := ⟨"MidiDesk$Bytes", "<init>", "(I)V"⟩
theorem kB_init6 : yB_init6.cls ≠ "java/lang/invoke/MethodHandle" ∧ yB_init6.cls ≠ "java/lang/invoke/VarHandle" ∧ (parseMethodDescriptor yB_init6.desc).map (fun d => d.parameters.length) = some 1 := by decide +kernel
theorem dB_init6_0 : decode cB_init6 0 = .ok (.aload_n 0, 1) := by decide +kernel
theorem dB_init6_1 : decode cB_init6 1 = .ok (.invokespecial 3, 3) := by decide +kernel
theorem dB_init6_4 : decode cB_init6 4 = .ok (.aload_n 0, 1) := by decide +kernel
theorem dB_init6_5 : decode cB_init6 5 = .ok (.iload_n 1, 1) := by decide +kernel
theorem dB_init6_6 : decode cB_init6 6 = .ok (.putfield 9, 3) := by decide +kernel
theorem dB_init6_9 : decode cB_init6 9 = .ok (.aload_n 0, 1) := by decide +kernel
theorem dB_init6_10 : decode cB_init6 10 = .ok (.bipush 64, 2) := by decide +kernel
theorem dB_init6_12 : decode cB_init6 12 = .ok (.newarray .int, 2) := by decide +kernel
theorem dB_init6_14 : decode cB_init6 14 = .ok (.putfield 15, 3) := by decide +kernel
theorem dB_init6_17 : decode cB_init6 17 = .ok (.return_, 1) := by decide +kernel
abbrev rB_init6 : Room := { frames := 1, cells := 1, slots := 64, locals := 12 }
set_option maxHeartbeats 4000000 in
set_option maxRecDepth 100000 in
theorem cB_init6_met {l : Launch} {g : gT} {q : Nat} {x : Int32} {x1 x2 x3 x4 x5 x6 : Nat × va_E} : gMet l yB_init6 cB_init6 2 rB_init6 g [(q, .inr (0, [.int 0, .null, .int 0])), x1, x2, x3, x4, x5, x6] [.ref q, .int x] (fun ws' => ∃ qa : Nat, ws' = (q, .inr (0, [.int x, .ref qa, .int 0])) :: (qa, larr g 64 (fun _ => 0)) :: [x1, x2, x3, x4, x5, x6]) := by
  intro sz
  refine Met.ofW (cc := cB_init6) (maxL := 2) (ret := none) (by decide) rfl ?_
  intro p e s m args below meth c s₁ B hml hv
  obtain ⟨rfl, hsz, hK, hP, hD0⟩ := hv
  subst hsz
  have hts := atoms_spec (ws := Cond.code yB_init6 cB_init6 2 none :: gw) B.pre
  have hown : s.vm.findClass "MidiDesk$Bytes" = some m.cls := findClass_of_methodNamed B.named
  have C : mCx p m c cB_init6 2 s [Value.ref q, Value.int x].toArray g "MidiDesk$Bytes" := ⟨⟨B.exec, B.bytes, hml, hown, fun w hw => hts w (List.mem_cons_of_mem _ hw)⟩, hK⟩
  have hlk := B.notSynchronized
  have hr := B.returns
  have hnm : meth.name = "<init>" := (name_of_methodNamed B.named B.method).1
  have hD := hD0.self (sz := s.heap.size)
  generalize hAe : va_A [(q, .inr (0, [.int 0, .null, .int 0])), x1, x2, x3, x4, x5, x6] s.heap.size = A at hD ⊢
  have hA : ∀ y : Nat, s.heap.size ≤ y → A y := fun y h => by rw [← hAe]; exact Or.inr h
  have hS : va_S A s.heap s.heap [] := va_S.rf
  have hl := lv_entry [.ref q, .int x] (n := 2) (Nat.le_of_ble_eq_true rfl)
  rw [lg_entry_eq]
  generalize (lg_sl [.ref q, .int x] ++ List.replicate (2 - (lg_sl [.ref q, .int x]).length) Slot.unset).toArray = ls at hl ⊢
  have hl : lv_has ls 2 [(0, .ref q), (1, .int x)] := hl
  refine lv_aload_n C.1.1 C.1.2.1 dB_init6_0 rfl (lv_at hl 0 rfl) ?_
  refine W.objInit C.1.1 C.1.2.1 C.1.2.2.2.1 (C.1.2.2.2.2 _ gw_80) (C.1.2.2.2.2 _ gw_73) (C.1.2.2.2.2 _ gw_74) rfl (by rw [C.1.2.2.1]; exact hl.1) rfl dB_init6_1 (Nat.le_of_ble_eq_true rfl) (Nat.le_of_ble_eq_true rfl) ?_
  refine W.eq (g2 := F0 m 4 ls []) rfl ?_
  refine lv_aload_n C.1.1 C.1.2.1 dB_init6_4 rfl (lv_at hl 0 rfl) ?_
  refine lv_iload_n C.1.1 C.1.2.1 dB_init6_5 rfl (lv_at hl 1 rfl) ?_
  refine va_putF (ci := 0) (ty := .int) (v := .int x) (C := R_Bytes) (T := F_Bytes) (N := 3) C.1.1 C.1.2.1 C.1.2.2.2.2 i_Bytes t_Bytes t_Bytes_ok n_Bytes C.1.2.2.2.1 C.2.1 hP hD hS 0 rfl rfl 0 (by decide) (C.1.2.2.2.2 _ gw_81) (fun _ w => w) rfl hnm rfl (by decide +kernel) rfl rfl (Nat.le_of_ble_eq_true rfl) dB_init6_6 (fun H locs hP hD hS => ?_)
  have hP : va_P g.1 classes [(q, .inr (0, [.int x, .null, .int 0])), x1, x2, x3, x4, x5, x6] H := hP
  have hD : va_D A [(q, .inr (0, [.int x, .null, .int 0])), x1, x2, x3, x4, x5, x6] := hD
  refine lv_aload_n C.1.1 C.1.2.1 dB_init6_9 rfl (lv_at hl 0 rfl) ?_
  refine lv_bipush (v := (64 : Int32)) C.1.1 C.1.2.1 dB_init6_10 (by decide) ?_
  refine x_newi (N := 64) C hP hD hS hA (by decide) (by decide) (by decide) (Nat.le_of_ble_eq_true rfl) (Nat.le_of_ble_eq_true rfl) dB_init6_12 (fun q1 H hP hD hS => ?_)
  refine W.widen (k := 1) (n := 64) (Nat.le_of_ble_eq_true rfl) (Nat.le_of_ble_eq_true rfl) ?_
  have hP : va_P g.1 classes [(q, .inr (0, [.int x, .null, .int 0])), x1, x2, x3, x4, x5, x6, (q1, larr g 64 (fun _ => 0))] H := hP
  have hD : va_D A [(q, .inr (0, [.int x, .null, .int 0])), x1, x2, x3, x4, x5, x6, (q1, larr g 64 (fun _ => 0))] := hD
  refine va_put (ci := 0) (ty := .array .int) (v := .ref q1) (C := R_Bytes) (T := F_Bytes) (N := 3) C.1.1 C.1.2.1 C.1.2.2.2.2 i_Bytes t_Bytes t_Bytes_ok n_Bytes C.1.2.2.2.1 C.2.1 hP hD hS 0 rfl rfl 1 (by decide) (C.1.2.2.2.2 _ gw_82) (fun _ w => w) rfl (by decide +kernel) rfl rfl (Nat.le_of_ble_eq_true rfl) dB_init6_14 (fun H locs hP hD hS => ?_)
  have hP : va_P g.1 classes [(q, .inr (0, [.int x, .ref q1, .int 0])), x1, x2, x3, x4, x5, x6, (q1, larr g 64 (fun _ => 0))] H := hP
  have hD : va_D A [(q, .inr (0, [.int x, .ref q1, .int 0])), x1, x2, x3, x4, x5, x6, (q1, larr g 64 (fun _ => 0))] := hD
  have hP := hP.sub (ws' := [(q, .inr (0, [.int x, .ref q1, .int 0])), (q1, larr g 64 (fun _ => 0)), x1, x2, x3, x4, x5, x6]) [0, 7, 1, 2, 3, 4, 5, 6] rfl
  have hD := hD.sub (ws' := [(q, .inr (0, [.int x, .ref q1, .int 0])), (q1, larr g 64 (fun _ => 0)), x1, x2, x3, x4, x5, x6]) [0, 7, 1, 2, 3, 4, 5, 6] (by decide) rfl
  exact W.vret C.1.1 C.1.2.1 hr (fun t ht hW => ⟨⟨_, ⟨_, rfl⟩, rfl, by rw [ht]; exact hP, hD⟩, hS.F ht⟩) hS.2.2 dB_init6_17 hlk
abbrev cS_init : ByteArray := prog_6_method_1_code
abbrev yS_init : MethodName := ⟨"MidiDesk$Score", "<init>", "()V"⟩
theorem kS_init : yS_init.cls ≠ "java/lang/invoke/MethodHandle" ∧ yS_init.cls ≠ "java/lang/invoke/VarHandle" ∧ (parseMethodDescriptor yS_init.desc).map (fun d => d.parameters.length) = some 0 := by decide +kernel
theorem dS_init_0 : decode cS_init 0 = .ok (.aload_n 0, 1) := by decide +kernel
theorem dS_init_1 : decode cS_init 1 = .ok (.invokespecial 3, 3) := by decide +kernel
theorem dS_init_4 : decode cS_init 4 = .ok (.aload_n 0, 1) := by decide +kernel
theorem dS_init_5 : decode cS_init 5 = .ok (.new 9, 3) := by decide +kernel
theorem dS_init_8 : decode cS_init 8 = .ok (.dup, 1) := by decide +kernel
theorem dS_init_9 : decode cS_init 9 = .ok (.sipush 8000, 3) := by decide +kernel
theorem dS_init_12 : decode cS_init 12 = .ok (.invokespecial 11, 3) := by decide +kernel
theorem dS_init_15 : decode cS_init 15 = .ok (.putfield 14, 3) := by decide +kernel
theorem dS_init_18 : decode cS_init 18 = .ok (.aload_n 0, 1) := by decide +kernel
theorem dS_init_19 : decode cS_init 19 = .ok (.bipush 16, 2) := by decide +kernel
theorem dS_init_21 : decode cS_init 21 = .ok (.anewarray 20, 3) := by decide +kernel
theorem dS_init_24 : decode cS_init 24 = .ok (.putfield 22, 3) := by decide +kernel
theorem dS_init_27 : decode cS_init 27 = .ok (.aload_n 0, 1) := by decide +kernel
theorem dS_init_28 : decode cS_init 28 = .ok (.bipush 16, 2) := by decide +kernel
theorem dS_init_30 : decode cS_init 30 = .ok (.anewarray 20, 3) := by decide +kernel
theorem dS_init_33 : decode cS_init 33 = .ok (.putfield 26, 3) := by decide +kernel
theorem dS_init_36 : decode cS_init 36 = .ok (.return_, 1) := by decide +kernel
abbrev rS_init : Room := { frames := 2, cells := 4, slots := 99, locals := 33 }
set_option maxHeartbeats 4000000 in
set_option maxRecDepth 100000 in
theorem cS_init_met {l : Launch} {g : gT} {ea : Nat → Nat} {q : Nat} {x1 x2 x3 x4 x5 : Nat × va_E} : gMet l yS_init cS_init 1 rS_init g [(q, .inr (4, [.null, .int 0, .int 0, .int 0, .int 0, .null, .null, .int 0])), x1, x2, x3, x4, x5] [.ref q] (fun ws' => ∃ qb qa r0 r1 : Nat, ws' = (q, .inr (4, [.ref qb, .int 0, .int 0, .int 0, .int 0, .ref r0, .ref r1, .int 0])) :: (qb, .inr (0, [.int (8000 : Int32), .ref qa, .int 0])) :: (qa, larr g 64 (fun _ => 0)) :: (r0, rarr g ea 16 (fun _ => none)) :: (r1, rarr g ea 16 (fun _ => none)) :: [x1, x2, x3, x4, x5]) := by
  intro sz
  refine Met.ofW (cc := cS_init) (maxL := 1) (ret := none) (by decide) rfl ?_
  intro p e s m args below meth c s₁ B hml hv
  obtain ⟨rfl, hsz, hK, hP, hD0⟩ := hv
  subst hsz
  have hts := atoms_spec (ws := Cond.code yS_init cS_init 1 none :: gw) B.pre
  have hown : s.vm.findClass "MidiDesk$Score" = some m.cls := findClass_of_methodNamed B.named
  have C : mCx p m c cS_init 1 s [Value.ref q].toArray g "MidiDesk$Score" := ⟨⟨B.exec, B.bytes, hml, hown, fun w hw => hts w (List.mem_cons_of_mem _ hw)⟩, hK⟩
  have hlk := B.notSynchronized
  have hr := B.returns
  have hnm : meth.name = "<init>" := (name_of_methodNamed B.named B.method).1
  have hD := hD0.self (sz := s.heap.size)
  generalize hAe : va_A [(q, .inr (4, [.null, .int 0, .int 0, .int 0, .int 0, .null, .null, .int 0])), x1, x2, x3, x4, x5] s.heap.size = A at hD ⊢
  have hA : ∀ y : Nat, s.heap.size ≤ y → A y := fun y h => by rw [← hAe]; exact Or.inr h
  have hS : va_S A s.heap s.heap [] := va_S.rf
  have hl := lv_entry [.ref q] (n := 1) (Nat.le_of_ble_eq_true rfl)
  rw [lg_entry_eq]
  generalize (lg_sl [.ref q] ++ List.replicate (1 - (lg_sl [.ref q]).length) Slot.unset).toArray = ls at hl ⊢
  have hl : lv_has ls 1 [(0, .ref q)] := hl
  refine lv_aload_n C.1.1 C.1.2.1 dS_init_0 rfl (lv_at hl 0 rfl) ?_
  refine W.objInit C.1.1 C.1.2.1 C.1.2.2.2.1 (C.1.2.2.2.2 _ gw_97) (C.1.2.2.2.2 _ gw_73) (C.1.2.2.2.2 _ gw_74) rfl (by rw [C.1.2.2.1]; exact hl.1) rfl dS_init_1 (Nat.le_of_ble_eq_true rfl) (Nat.le_of_ble_eq_true rfl) ?_
  refine W.eq (g2 := F0 m 4 ls []) rfl ?_
  refine lv_aload_n C.1.1 C.1.2.1 dS_init_4 rfl (lv_at hl 0 rfl) ?_
  refine va_new (ci := 0) (fs := [.int 0, .null, .int 0]) (C := R_Bytes) (T := F_Bytes) (N := 3) C.1.1 C.1.2.1 C.1.2.2.2.2 i_Bytes t_Bytes t_Bytes_ok C.1.2.2.2.1 (C.1.2.2.2.2 _ gw_98) (C.1.2.2.2.2 _ gw_76) (C.1.2.2.2.2 _ gw_53) C.2.1 hP hD hS hA rfl (fun j hj => by rcases (show j = 0 ∨ j = 1 ∨ j = 2 by omega) with rfl | rfl | rfl <;> rfl) (Nat.le_of_ble_eq_true rfl) (Nat.le_of_ble_eq_true rfl) dS_init_5 (fun q1 H hP hD hS => ?_)
  refine W.widen (k := 1) (n := 3) (Nat.le_of_ble_eq_true rfl) (Nat.le_of_ble_eq_true rfl) ?_
  have hP : va_P g.1 classes [(q, .inr (4, [.null, .int 0, .int 0, .int 0, .int 0, .null, .null, .int 0])), x1, x2, x3, x4, x5, (q1, .inr (0, [.int 0, .null, .int 0]))] H := hP
  have hD : va_D A [(q, .inr (4, [.null, .int 0, .int 0, .int 0, .int 0, .null, .null, .int 0])), x1, x2, x3, x4, x5, (q1, .inr (0, [.int 0, .null, .int 0]))] := hD
  refine lv_dup C.1.1 C.1.2.1 dS_init_8 rfl ?_
  refine lv_sipush (v := (8000 : Int32)) C.1.1 C.1.2.1 dS_init_9 (by decide) ?_
  have hP := hP.sub (ws' := [(q1, .inr (0, [.int 0, .null, .int 0])), (q, .inr (4, [.null, .int 0, .int 0, .int 0, .int 0, .null, .null, .int 0])), x1, x2, x3, x4, x5]) [6, 0, 1, 2, 3, 4, 5] rfl
  have hD := hD.sub (ws' := [(q1, .inr (0, [.int 0, .null, .int 0])), (q, .inr (4, [.null, .int 0, .int 0, .int 0, .int 0, .null, .null, .int 0])), x1, x2, x3, x4, x5]) [6, 0, 1, 2, 3, 4, 5] (by decide) rfl
  refine g_callI (rest := [.ref q1, .ref q]) (As := [.int (8000 : Int32)]) (b := q1) C hl.1 hP hD hS hA (cB_init6_met) gw_99 gw_78 gw_53 gw_79 rfl kB_init6 ⟨(Nat.le_of_ble_eq_true rfl), (Nat.le_of_ble_eq_true rfl)⟩ rfl rfl (Nat.le_of_ble_eq_true rfl) dS_init_12 ⟨(Nat.le_of_ble_eq_true rfl), (Nat.le_of_ble_eq_true rfl)⟩ (fun ws9 H locs hq hP hD hS => ?_)
  obtain ⟨a2, rfl⟩ := hq
  refine W.widen (k := 2) (n := 67) (Nat.le_of_ble_eq_true rfl) (Nat.le_of_ble_eq_true rfl) ?_
  have hP : va_P g.1 classes [(q1, .inr (0, [.int (8000 : Int32), .ref a2, .int 0])), (a2, larr g 64 (fun _ => 0)), (q, .inr (4, [.null, .int 0, .int 0, .int 0, .int 0, .null, .null, .int 0])), x1, x2, x3, x4, x5] H := hP
  have hD : va_D A [(q1, .inr (0, [.int (8000 : Int32), .ref a2, .int 0])), (a2, larr g 64 (fun _ => 0)), (q, .inr (4, [.null, .int 0, .int 0, .int 0, .int 0, .null, .null, .int 0])), x1, x2, x3, x4, x5] := hD
  refine va_putF (ci := 4) (ty := .object "MidiDesk$Bytes") (v := .ref q1) (C := R_Score) (T := F_Score) (N := 8) C.1.1 C.1.2.1 C.1.2.2.2.2 i_Score t_Score t_Score_ok n_Score C.1.2.2.2.1 C.2.1 hP hD hS 2 rfl rfl 0 (by decide) (C.1.2.2.2.2 _ gw_102) (fun _ w => w) rfl hnm rfl (by decide +kernel) rfl rfl (Nat.le_of_ble_eq_true rfl) dS_init_15 (fun H locs hP hD hS => ?_)
  have hP : va_P g.1 classes [(q1, .inr (0, [.int (8000 : Int32), .ref a2, .int 0])), (a2, larr g 64 (fun _ => 0)), (q, .inr (4, [.ref q1, .int 0, .int 0, .int 0, .int 0, .null, .null, .int 0])), x1, x2, x3, x4, x5] H := hP
  have hD : va_D A [(q1, .inr (0, [.int (8000 : Int32), .ref a2, .int 0])), (a2, larr g 64 (fun _ => 0)), (q, .inr (4, [.ref q1, .int 0, .int 0, .int 0, .int 0, .null, .null, .int 0])), x1, x2, x3, x4, x5] := hD
  refine lv_aload_n C.1.1 C.1.2.1 dS_init_18 rfl (lv_at hl 0 rfl) ?_
  refine lv_bipush (v := (16 : Int32)) C.1.1 C.1.2.1 dS_init_19 (by decide) ?_
  refine x_newr (ea := ea) (N := 16) C gw_100 hP hD hS hA (by decide) (by decide) (by decide) (Nat.le_of_ble_eq_true rfl) (Nat.le_of_ble_eq_true rfl) dS_init_21 (fun q3 H hP hD hS => ?_)
  refine W.widen (k := 3) (n := 83) (Nat.le_of_ble_eq_true rfl) (Nat.le_of_ble_eq_true rfl) ?_
  have hP : va_P g.1 classes [(q1, .inr (0, [.int (8000 : Int32), .ref a2, .int 0])), (a2, larr g 64 (fun _ => 0)), (q, .inr (4, [.ref q1, .int 0, .int 0, .int 0, .int 0, .null, .null, .int 0])), x1, x2, x3, x4, x5, (q3, rarr g ea 16 (fun _ => none))] H := hP
  have hD : va_D A [(q1, .inr (0, [.int (8000 : Int32), .ref a2, .int 0])), (a2, larr g 64 (fun _ => 0)), (q, .inr (4, [.ref q1, .int 0, .int 0, .int 0, .int 0, .null, .null, .int 0])), x1, x2, x3, x4, x5, (q3, rarr g ea 16 (fun _ => none))] := hD
  refine va_put (ci := 4) (ty := .array (.object "MidiDesk$Event")) (v := .ref q3) (C := R_Score) (T := F_Score) (N := 8) C.1.1 C.1.2.1 C.1.2.2.2.2 i_Score t_Score t_Score_ok n_Score C.1.2.2.2.1 C.2.1 hP hD hS 2 rfl rfl 5 (by decide) (C.1.2.2.2.2 _ gw_119) (fun _ w => w) rfl (by decide +kernel) rfl rfl (Nat.le_of_ble_eq_true rfl) dS_init_24 (fun H locs hP hD hS => ?_)
  have hP : va_P g.1 classes [(q1, .inr (0, [.int (8000 : Int32), .ref a2, .int 0])), (a2, larr g 64 (fun _ => 0)), (q, .inr (4, [.ref q1, .int 0, .int 0, .int 0, .int 0, .ref q3, .null, .int 0])), x1, x2, x3, x4, x5, (q3, rarr g ea 16 (fun _ => none))] H := hP
  have hD : va_D A [(q1, .inr (0, [.int (8000 : Int32), .ref a2, .int 0])), (a2, larr g 64 (fun _ => 0)), (q, .inr (4, [.ref q1, .int 0, .int 0, .int 0, .int 0, .ref q3, .null, .int 0])), x1, x2, x3, x4, x5, (q3, rarr g ea 16 (fun _ => none))] := hD
  refine lv_aload_n C.1.1 C.1.2.1 dS_init_27 rfl (lv_at hl 0 rfl) ?_
  refine lv_bipush (v := (16 : Int32)) C.1.1 C.1.2.1 dS_init_28 (by decide) ?_
  refine x_newr (ea := ea) (N := 16) C gw_100 hP hD hS hA (by decide) (by decide) (by decide) (Nat.le_of_ble_eq_true rfl) (Nat.le_of_ble_eq_true rfl) dS_init_30 (fun q4 H hP hD hS => ?_)
  refine W.widen (k := 4) (n := 99) (Nat.le_of_ble_eq_true rfl) (Nat.le_of_ble_eq_true rfl) ?_
  have hP : va_P g.1 classes [(q1, .inr (0, [.int (8000 : Int32), .ref a2, .int 0])), (a2, larr g 64 (fun _ => 0)), (q, .inr (4, [.ref q1, .int 0, .int 0, .int 0, .int 0, .ref q3, .null, .int 0])), x1, x2, x3, x4, x5, (q3, rarr g ea 16 (fun _ => none)), (q4, rarr g ea 16 (fun _ => none))] H := hP
  have hD : va_D A [(q1, .inr (0, [.int (8000 : Int32), .ref a2, .int 0])), (a2, larr g 64 (fun _ => 0)), (q, .inr (4, [.ref q1, .int 0, .int 0, .int 0, .int 0, .ref q3, .null, .int 0])), x1, x2, x3, x4, x5, (q3, rarr g ea 16 (fun _ => none)), (q4, rarr g ea 16 (fun _ => none))] := hD
  refine va_put (ci := 4) (ty := .array (.object "MidiDesk$Event")) (v := .ref q4) (C := R_Score) (T := F_Score) (N := 8) C.1.1 C.1.2.1 C.1.2.2.2.2 i_Score t_Score t_Score_ok n_Score C.1.2.2.2.1 C.2.1 hP hD hS 2 rfl rfl 6 (by decide) (C.1.2.2.2.2 _ gw_120) (fun _ w => w) rfl (by decide +kernel) rfl rfl (Nat.le_of_ble_eq_true rfl) dS_init_33 (fun H locs hP hD hS => ?_)
  have hP : va_P g.1 classes [(q1, .inr (0, [.int (8000 : Int32), .ref a2, .int 0])), (a2, larr g 64 (fun _ => 0)), (q, .inr (4, [.ref q1, .int 0, .int 0, .int 0, .int 0, .ref q3, .ref q4, .int 0])), x1, x2, x3, x4, x5, (q3, rarr g ea 16 (fun _ => none)), (q4, rarr g ea 16 (fun _ => none))] H := hP
  have hD : va_D A [(q1, .inr (0, [.int (8000 : Int32), .ref a2, .int 0])), (a2, larr g 64 (fun _ => 0)), (q, .inr (4, [.ref q1, .int 0, .int 0, .int 0, .int 0, .ref q3, .ref q4, .int 0])), x1, x2, x3, x4, x5, (q3, rarr g ea 16 (fun _ => none)), (q4, rarr g ea 16 (fun _ => none))] := hD
  have hP := hP.sub (ws' := [(q, .inr (4, [.ref q1, .int 0, .int 0, .int 0, .int 0, .ref q3, .ref q4, .int 0])), (q1, .inr (0, [.int (8000 : Int32), .ref a2, .int 0])), (a2, larr g 64 (fun _ => 0)), (q3, rarr g ea 16 (fun _ => none)), (q4, rarr g ea 16 (fun _ => none)), x1, x2, x3, x4, x5]) [2, 0, 1, 8, 9, 3, 4, 5, 6, 7] rfl
  have hD := hD.sub (ws' := [(q, .inr (4, [.ref q1, .int 0, .int 0, .int 0, .int 0, .ref q3, .ref q4, .int 0])), (q1, .inr (0, [.int (8000 : Int32), .ref a2, .int 0])), (a2, larr g 64 (fun _ => 0)), (q3, rarr g ea 16 (fun _ => none)), (q4, rarr g ea 16 (fun _ => none)), x1, x2, x3, x4, x5]) [2, 0, 1, 8, 9, 3, 4, 5, 6, 7] (by decide) rfl
  exact W.vret C.1.1 C.1.2.1 hr (fun t ht hW => ⟨⟨_, ⟨_, _, _, _, rfl⟩, rfl, by rw [ht]; exact hP, hD⟩, hS.F ht⟩) hS.2.2 dS_init_36 hlk
abbrev cD_init : ByteArray := prog_1_method_1_code
abbrev yD_init : MethodName := ⟨"MidiDesk", "<init>", "()V"⟩
theorem kD_init : yD_init.cls ≠ "java/lang/invoke/MethodHandle" ∧ yD_init.cls ≠ "java/lang/invoke/VarHandle" ∧ (parseMethodDescriptor yD_init.desc).map (fun d => d.parameters.length) = some 0 := by decide +kernel
theorem dD_init_0 : decode cD_init 0 = .ok (.aload_n 0, 1) := by decide +kernel
theorem dD_init_1 : decode cD_init 1 = .ok (.invokespecial 1, 3) := by decide +kernel
theorem dD_init_4 : decode cD_init 4 = .ok (.aload_n 0, 1) := by decide +kernel
theorem dD_init_5 : decode cD_init 5 = .ok (.new 7, 3) := by decide +kernel
theorem dD_init_8 : decode cD_init 8 = .ok (.dup, 1) := by decide +kernel
theorem dD_init_9 : decode cD_init 9 = .ok (.sipush 12000, 3) := by decide +kernel
theorem dD_init_12 : decode cD_init 12 = .ok (.invokespecial 11, 3) := by decide +kernel
theorem dD_init_15 : decode cD_init 15 = .ok (.putfield 14, 3) := by decide +kernel
theorem dD_init_18 : decode cD_init 18 = .ok (.aload_n 0, 1) := by decide +kernel
theorem dD_init_19 : decode cD_init 19 = .ok (.new 7, 3) := by decide +kernel
theorem dD_init_22 : decode cD_init 22 = .ok (.dup, 1) := by decide +kernel
theorem dD_init_23 : decode cD_init 23 = .ok (.sipush 16384, 3) := by decide +kernel
theorem dD_init_26 : decode cD_init 26 = .ok (.invokespecial 11, 3) := by decide +kernel
theorem dD_init_29 : decode cD_init 29 = .ok (.putfield 18, 3) := by decide +kernel
theorem dD_init_32 : decode cD_init 32 = .ok (.aload_n 0, 1) := by decide +kernel
theorem dD_init_33 : decode cD_init 33 = .ok (.new 21, 3) := by decide +kernel
theorem dD_init_36 : decode cD_init 36 = .ok (.dup, 1) := by decide +kernel
theorem dD_init_37 : decode cD_init 37 = .ok (.invokespecial 23, 3) := by decide +kernel
theorem dD_init_40 : decode cD_init 40 = .ok (.putfield 24, 3) := by decide +kernel
theorem dD_init_43 : decode cD_init 43 = .ok (.return_, 1) := by decide +kernel
abbrev rD_init : Room := { frames := 3, cells := 9, slots := 241, locals := 53 }
/-- the shape and the state of a new desk -/
def hI (n m : Nat) : cH := (fun k => [64, 64, 64, 16, 16].getD k 0, 0, n, m)
def zI : cZ := (fun _ => 0, fun _ _ => 0, fun _ _ => none, fun _ _ => 0)
set_option maxHeartbeats 4000000 in
set_option maxRecDepth 100000 in
theorem cD_init_met {l : Launch} {g : gT} {ea : Nat → Nat} {q n1 n2 : Nat} : gMet l yD_init cD_init 1 rD_init g [(q, .inr (5, [.null, .null, .null]))] [.ref q] (fun ws' => ∃ qq ad : Nat → Nat, qq 0 = q ∧ ws' = cw g qq ad ea (hI n1 n2) zI []) := by
  intro sz
  refine Met.ofW (cc := cD_init) (maxL := 1) (ret := none) (by decide) rfl ?_
  intro p e s m args below meth c s₁ B hml hv
  obtain ⟨rfl, hsz, hK, hP, hD0⟩ := hv
  subst hsz
  have hts := atoms_spec (ws := Cond.code yD_init cD_init 1 none :: gw) B.pre
  have hown : s.vm.findClass "MidiDesk" = some m.cls := findClass_of_methodNamed B.named
  have C : mCx p m c cD_init 1 s [Value.ref q].toArray g "MidiDesk" := ⟨⟨B.exec, B.bytes, hml, hown, fun w hw => hts w (List.mem_cons_of_mem _ hw)⟩, hK⟩
  have hlk := B.notSynchronized
  have hr := B.returns
  have hnm : meth.name = "<init>" := (name_of_methodNamed B.named B.method).1
  have hD := hD0.self (sz := s.heap.size)
  generalize hAe : va_A [(q, .inr (5, [.null, .null, .null]))] s.heap.size = A at hD ⊢
  have hA : ∀ y : Nat, s.heap.size ≤ y → A y := fun y h => by rw [← hAe]; exact Or.inr h
  have hS : va_S A s.heap s.heap [] := va_S.rf
  have hl := lv_entry [.ref q] (n := 1) (Nat.le_of_ble_eq_true rfl)
  rw [lg_entry_eq]
  generalize (lg_sl [.ref q] ++ List.replicate (1 - (lg_sl [.ref q]).length) Slot.unset).toArray = ls at hl ⊢
  have hl : lv_has ls 1 [(0, .ref q)] := hl
  refine lv_aload_n C.1.1 C.1.2.1 dD_init_0 rfl (lv_at hl 0 rfl) ?_
  refine W.objInit C.1.1 C.1.2.1 C.1.2.2.2.1 (C.1.2.2.2.2 _ gw_72) (C.1.2.2.2.2 _ gw_73) (C.1.2.2.2.2 _ gw_74) rfl (by rw [C.1.2.2.1]; exact hl.1) rfl dD_init_1 (Nat.le_of_ble_eq_true rfl) (Nat.le_of_ble_eq_true rfl) ?_
  refine W.eq (g2 := F0 m 4 ls []) rfl ?_
  refine lv_aload_n C.1.1 C.1.2.1 dD_init_4 rfl (lv_at hl 0 rfl) ?_
  refine va_new (ci := 0) (fs := [.int 0, .null, .int 0]) (C := R_Bytes) (T := F_Bytes) (N := 3) C.1.1 C.1.2.1 C.1.2.2.2.2 i_Bytes t_Bytes t_Bytes_ok C.1.2.2.2.1 (C.1.2.2.2.2 _ gw_75) (C.1.2.2.2.2 _ gw_76) (C.1.2.2.2.2 _ gw_53) C.2.1 hP hD hS hA rfl (fun j hj => by rcases (show j = 0 ∨ j = 1 ∨ j = 2 by omega) with rfl | rfl | rfl <;> rfl) (Nat.le_of_ble_eq_true rfl) (Nat.le_of_ble_eq_true rfl) dD_init_5 (fun q1 H hP hD hS => ?_)
  refine W.widen (k := 1) (n := 3) (Nat.le_of_ble_eq_true rfl) (Nat.le_of_ble_eq_true rfl) ?_
  have hP : va_P g.1 classes [(q, .inr (5, [.null, .null, .null])), (q1, .inr (0, [.int 0, .null, .int 0]))] H := hP
  have hD : va_D A [(q, .inr (5, [.null, .null, .null])), (q1, .inr (0, [.int 0, .null, .int 0]))] := hD
  refine lv_dup C.1.1 C.1.2.1 dD_init_8 rfl ?_
  refine lv_sipush (v := (12000 : Int32)) C.1.1 C.1.2.1 dD_init_9 (by decide) ?_
  have hP := hP.sub (ws' := [(q1, .inr (0, [.int 0, .null, .int 0])), (q, .inr (5, [.null, .null, .null]))]) [1, 0] rfl
  have hD := hD.sub (ws' := [(q1, .inr (0, [.int 0, .null, .int 0])), (q, .inr (5, [.null, .null, .null]))]) [1, 0] (by decide) rfl
  refine g_callI (rest := [.ref q1, .ref q]) (As := [.int (12000 : Int32)]) (b := q1) C hl.1 hP hD hS hA (cB_init1_met) gw_77 gw_78 gw_53 gw_79 rfl kB_init1 ⟨(Nat.le_of_ble_eq_true rfl), (Nat.le_of_ble_eq_true rfl)⟩ rfl rfl (Nat.le_of_ble_eq_true rfl) dD_init_12 ⟨(Nat.le_of_ble_eq_true rfl), (Nat.le_of_ble_eq_true rfl)⟩ (fun ws9 H locs hq hP hD hS => ?_)
  obtain ⟨a2, rfl⟩ := hq
  refine W.widen (k := 2) (n := 67) (Nat.le_of_ble_eq_true rfl) (Nat.le_of_ble_eq_true rfl) ?_
  have hP : va_P g.1 classes [(q1, .inr (0, [.int (12000 : Int32), .ref a2, .int 0])), (a2, larr g 64 (fun _ => 0)), (q, .inr (5, [.null, .null, .null]))] H := hP
  have hD : va_D A [(q1, .inr (0, [.int (12000 : Int32), .ref a2, .int 0])), (a2, larr g 64 (fun _ => 0)), (q, .inr (5, [.null, .null, .null]))] := hD
  refine va_putF (ci := 5) (ty := .object "MidiDesk$Bytes") (v := .ref q1) (C := R_Desk) (T := F_Desk) (N := 3) C.1.1 C.1.2.1 C.1.2.2.2.2 i_Desk t_Desk t_Desk_ok n_Desk C.1.2.2.2.1 C.2.1 hP hD hS 2 rfl rfl 0 (by decide) (C.1.2.2.2.2 _ gw_141) (fun _ w => w) rfl hnm rfl (by decide +kernel) rfl rfl (Nat.le_of_ble_eq_true rfl) dD_init_15 (fun H locs hP hD hS => ?_)
  have hP : va_P g.1 classes [(q1, .inr (0, [.int (12000 : Int32), .ref a2, .int 0])), (a2, larr g 64 (fun _ => 0)), (q, .inr (5, [.ref q1, .null, .null]))] H := hP
  have hD : va_D A [(q1, .inr (0, [.int (12000 : Int32), .ref a2, .int 0])), (a2, larr g 64 (fun _ => 0)), (q, .inr (5, [.ref q1, .null, .null]))] := hD
  refine lv_aload_n C.1.1 C.1.2.1 dD_init_18 rfl (lv_at hl 0 rfl) ?_
  refine va_new (ci := 0) (fs := [.int 0, .null, .int 0]) (C := R_Bytes) (T := F_Bytes) (N := 3) C.1.1 C.1.2.1 C.1.2.2.2.2 i_Bytes t_Bytes t_Bytes_ok C.1.2.2.2.1 (C.1.2.2.2.2 _ gw_75) (C.1.2.2.2.2 _ gw_76) (C.1.2.2.2.2 _ gw_53) C.2.1 hP hD hS hA rfl (fun j hj => by rcases (show j = 0 ∨ j = 1 ∨ j = 2 by omega) with rfl | rfl | rfl <;> rfl) (Nat.le_of_ble_eq_true rfl) (Nat.le_of_ble_eq_true rfl) dD_init_19 (fun q3 H hP hD hS => ?_)
  refine W.widen (k := 3) (n := 70) (Nat.le_of_ble_eq_true rfl) (Nat.le_of_ble_eq_true rfl) ?_
  have hP : va_P g.1 classes [(q1, .inr (0, [.int (12000 : Int32), .ref a2, .int 0])), (a2, larr g 64 (fun _ => 0)), (q, .inr (5, [.ref q1, .null, .null])), (q3, .inr (0, [.int 0, .null, .int 0]))] H := hP
  have hD : va_D A [(q1, .inr (0, [.int (12000 : Int32), .ref a2, .int 0])), (a2, larr g 64 (fun _ => 0)), (q, .inr (5, [.ref q1, .null, .null])), (q3, .inr (0, [.int 0, .null, .int 0]))] := hD
  refine lv_dup C.1.1 C.1.2.1 dD_init_22 rfl ?_
  refine lv_sipush (v := (16384 : Int32)) C.1.1 C.1.2.1 dD_init_23 (by decide) ?_
  have hP := hP.sub (ws' := [(q3, .inr (0, [.int 0, .null, .int 0])), (q1, .inr (0, [.int (12000 : Int32), .ref a2, .int 0])), (a2, larr g 64 (fun _ => 0)), (q, .inr (5, [.ref q1, .null, .null]))]) [3, 0, 1, 2] rfl
  have hD := hD.sub (ws' := [(q3, .inr (0, [.int 0, .null, .int 0])), (q1, .inr (0, [.int (12000 : Int32), .ref a2, .int 0])), (a2, larr g 64 (fun _ => 0)), (q, .inr (5, [.ref q1, .null, .null]))]) [3, 0, 1, 2] (by decide) rfl
  refine g_callI (rest := [.ref q3, .ref q]) (As := [.int (16384 : Int32)]) (b := q3) C hl.1 hP hD hS hA (cB_init3_met) gw_77 gw_78 gw_53 gw_79 rfl kB_init3 ⟨(Nat.le_of_ble_eq_true rfl), (Nat.le_of_ble_eq_true rfl)⟩ rfl rfl (Nat.le_of_ble_eq_true rfl) dD_init_26 ⟨(Nat.le_of_ble_eq_true rfl), (Nat.le_of_ble_eq_true rfl)⟩ (fun ws9 H locs hq hP hD hS => ?_)
  obtain ⟨a4, rfl⟩ := hq
  refine W.widen (k := 4) (n := 134) (Nat.le_of_ble_eq_true rfl) (Nat.le_of_ble_eq_true rfl) ?_
  have hP : va_P g.1 classes [(q3, .inr (0, [.int (16384 : Int32), .ref a4, .int 0])), (a4, larr g 64 (fun _ => 0)), (q1, .inr (0, [.int (12000 : Int32), .ref a2, .int 0])), (a2, larr g 64 (fun _ => 0)), (q, .inr (5, [.ref q1, .null, .null]))] H := hP
  have hD : va_D A [(q3, .inr (0, [.int (16384 : Int32), .ref a4, .int 0])), (a4, larr g 64 (fun _ => 0)), (q1, .inr (0, [.int (12000 : Int32), .ref a2, .int 0])), (a2, larr g 64 (fun _ => 0)), (q, .inr (5, [.ref q1, .null, .null]))] := hD
  refine va_putF (ci := 5) (ty := .object "MidiDesk$Bytes") (v := .ref q3) (C := R_Desk) (T := F_Desk) (N := 3) C.1.1 C.1.2.1 C.1.2.2.2.2 i_Desk t_Desk t_Desk_ok n_Desk C.1.2.2.2.1 C.2.1 hP hD hS 4 rfl rfl 1 (by decide) (C.1.2.2.2.2 _ gw_142) (fun _ w => w) rfl hnm rfl (by decide +kernel) rfl rfl (Nat.le_of_ble_eq_true rfl) dD_init_29 (fun H locs hP hD hS => ?_)
  have hP : va_P g.1 classes [(q3, .inr (0, [.int (16384 : Int32), .ref a4, .int 0])), (a4, larr g 64 (fun _ => 0)), (q1, .inr (0, [.int (12000 : Int32), .ref a2, .int 0])), (a2, larr g 64 (fun _ => 0)), (q, .inr (5, [.ref q1, .ref q3, .null]))] H := hP
  have hD : va_D A [(q3, .inr (0, [.int (16384 : Int32), .ref a4, .int 0])), (a4, larr g 64 (fun _ => 0)), (q1, .inr (0, [.int (12000 : Int32), .ref a2, .int 0])), (a2, larr g 64 (fun _ => 0)), (q, .inr (5, [.ref q1, .ref q3, .null]))] := hD
  refine lv_aload_n C.1.1 C.1.2.1 dD_init_32 rfl (lv_at hl 0 rfl) ?_
  refine va_new (ci := 4) (fs := [.null, .int 0, .int 0, .int 0, .int 0, .null, .null, .int 0]) (C := R_Score) (T := F_Score) (N := 8) C.1.1 C.1.2.1 C.1.2.2.2.2 i_Score t_Score t_Score_ok C.1.2.2.2.1 (C.1.2.2.2.2 _ gw_92) (C.1.2.2.2.2 _ gw_93) (C.1.2.2.2.2 _ gw_54) C.2.1 hP hD hS hA rfl (fun j hj => by rcases (show j = 0 ∨ j = 1 ∨ j = 2 ∨ j = 3 ∨ j = 4 ∨ j = 5 ∨ j = 6 ∨ j = 7 by omega) with rfl | rfl | rfl | rfl | rfl | rfl | rfl | rfl <;> rfl) (Nat.le_of_ble_eq_true rfl) (Nat.le_of_ble_eq_true rfl) dD_init_33 (fun q5 H hP hD hS => ?_)
  refine W.widen (k := 5) (n := 142) (Nat.le_of_ble_eq_true rfl) (Nat.le_of_ble_eq_true rfl) ?_
  have hP : va_P g.1 classes [(q3, .inr (0, [.int (16384 : Int32), .ref a4, .int 0])), (a4, larr g 64 (fun _ => 0)), (q1, .inr (0, [.int (12000 : Int32), .ref a2, .int 0])), (a2, larr g 64 (fun _ => 0)), (q, .inr (5, [.ref q1, .ref q3, .null])), (q5, .inr (4, [.null, .int 0, .int 0, .int 0, .int 0, .null, .null, .int 0]))] H := hP
  have hD : va_D A [(q3, .inr (0, [.int (16384 : Int32), .ref a4, .int 0])), (a4, larr g 64 (fun _ => 0)), (q1, .inr (0, [.int (12000 : Int32), .ref a2, .int 0])), (a2, larr g 64 (fun _ => 0)), (q, .inr (5, [.ref q1, .ref q3, .null])), (q5, .inr (4, [.null, .int 0, .int 0, .int 0, .int 0, .null, .null, .int 0]))] := hD
  refine lv_dup C.1.1 C.1.2.1 dD_init_36 rfl ?_
  have hP := hP.sub (ws' := [(q5, .inr (4, [.null, .int 0, .int 0, .int 0, .int 0, .null, .null, .int 0])), (q3, .inr (0, [.int (16384 : Int32), .ref a4, .int 0])), (a4, larr g 64 (fun _ => 0)), (q1, .inr (0, [.int (12000 : Int32), .ref a2, .int 0])), (a2, larr g 64 (fun _ => 0)), (q, .inr (5, [.ref q1, .ref q3, .null]))]) [5, 0, 1, 2, 3, 4] rfl
  have hD := hD.sub (ws' := [(q5, .inr (4, [.null, .int 0, .int 0, .int 0, .int 0, .null, .null, .int 0])), (q3, .inr (0, [.int (16384 : Int32), .ref a4, .int 0])), (a4, larr g 64 (fun _ => 0)), (q1, .inr (0, [.int (12000 : Int32), .ref a2, .int 0])), (a2, larr g 64 (fun _ => 0)), (q, .inr (5, [.ref q1, .ref q3, .null]))]) [5, 0, 1, 2, 3, 4] (by decide) rfl
  refine g_callI (rest := [.ref q5, .ref q]) (As := []) (b := q5) C hl.1 hP hD hS hA (cS_init_met (ea := ea)) gw_94 gw_95 gw_54 gw_96 rfl kS_init ⟨(Nat.le_of_ble_eq_true rfl), (Nat.le_of_ble_eq_true rfl)⟩ rfl rfl (Nat.le_of_ble_eq_true rfl) dD_init_37 ⟨(Nat.le_of_ble_eq_true rfl), (Nat.le_of_ble_eq_true rfl)⟩ (fun ws9 H locs hq hP hD hS => ?_)
  obtain ⟨b6, c6, d6, e6, rfl⟩ := hq
  refine W.widen (k := 9) (n := 241) (Nat.le_of_ble_eq_true rfl) (Nat.le_of_ble_eq_true rfl) ?_
  have hP : va_P g.1 classes [(q5, .inr (4, [.ref b6, .int 0, .int 0, .int 0, .int 0, .ref d6, .ref e6, .int 0])), (b6, .inr (0, [.int (8000 : Int32), .ref c6, .int 0])), (c6, larr g 64 (fun _ => 0)), (d6, rarr g ea 16 (fun _ => none)), (e6, rarr g ea 16 (fun _ => none)), (q3, .inr (0, [.int (16384 : Int32), .ref a4, .int 0])), (a4, larr g 64 (fun _ => 0)), (q1, .inr (0, [.int (12000 : Int32), .ref a2, .int 0])), (a2, larr g 64 (fun _ => 0)), (q, .inr (5, [.ref q1, .ref q3, .null]))] H := hP
  have hD : va_D A [(q5, .inr (4, [.ref b6, .int 0, .int 0, .int 0, .int 0, .ref d6, .ref e6, .int 0])), (b6, .inr (0, [.int (8000 : Int32), .ref c6, .int 0])), (c6, larr g 64 (fun _ => 0)), (d6, rarr g ea 16 (fun _ => none)), (e6, rarr g ea 16 (fun _ => none)), (q3, .inr (0, [.int (16384 : Int32), .ref a4, .int 0])), (a4, larr g 64 (fun _ => 0)), (q1, .inr (0, [.int (12000 : Int32), .ref a2, .int 0])), (a2, larr g 64 (fun _ => 0)), (q, .inr (5, [.ref q1, .ref q3, .null]))] := hD
  refine va_putF (ci := 5) (ty := .object "MidiDesk$Score") (v := .ref q5) (C := R_Desk) (T := F_Desk) (N := 3) C.1.1 C.1.2.1 C.1.2.2.2.2 i_Desk t_Desk t_Desk_ok n_Desk C.1.2.2.2.1 C.2.1 hP hD hS 9 rfl rfl 2 (by decide) (C.1.2.2.2.2 _ gw_143) (fun _ w => w) rfl hnm rfl (by decide +kernel) rfl rfl (Nat.le_of_ble_eq_true rfl) dD_init_40 (fun H locs hP hD hS => ?_)
  have hP : va_P g.1 classes [(q5, .inr (4, [.ref b6, .int 0, .int 0, .int 0, .int 0, .ref d6, .ref e6, .int 0])), (b6, .inr (0, [.int (8000 : Int32), .ref c6, .int 0])), (c6, larr g 64 (fun _ => 0)), (d6, rarr g ea 16 (fun _ => none)), (e6, rarr g ea 16 (fun _ => none)), (q3, .inr (0, [.int (16384 : Int32), .ref a4, .int 0])), (a4, larr g 64 (fun _ => 0)), (q1, .inr (0, [.int (12000 : Int32), .ref a2, .int 0])), (a2, larr g 64 (fun _ => 0)), (q, .inr (5, [.ref q1, .ref q3, .ref q5]))] H := hP
  have hD : va_D A [(q5, .inr (4, [.ref b6, .int 0, .int 0, .int 0, .int 0, .ref d6, .ref e6, .int 0])), (b6, .inr (0, [.int (8000 : Int32), .ref c6, .int 0])), (c6, larr g 64 (fun _ => 0)), (d6, rarr g ea 16 (fun _ => none)), (e6, rarr g ea 16 (fun _ => none)), (q3, .inr (0, [.int (16384 : Int32), .ref a4, .int 0])), (a4, larr g 64 (fun _ => 0)), (q1, .inr (0, [.int (12000 : Int32), .ref a2, .int 0])), (a2, larr g 64 (fun _ => 0)), (q, .inr (5, [.ref q1, .ref q3, .ref q5]))] := hD
  have hP := hP.sub (ws' := [(q, .inr (5, [.ref q1, .ref q3, .ref q5])), (q1, .inr (0, [.int (12000 : Int32), .ref a2, .int 0])), (q3, .inr (0, [.int (16384 : Int32), .ref a4, .int 0])), (b6, .inr (0, [.int (8000 : Int32), .ref c6, .int 0])), (q5, .inr (4, [.ref b6, .int 0, .int 0, .int 0, .int 0, .ref d6, .ref e6, .int 0])), (a2, larr g 64 (fun _ => 0)), (a4, larr g 64 (fun _ => 0)), (c6, larr g 64 (fun _ => 0)), (d6, rarr g ea 16 (fun _ => none)), (e6, rarr g ea 16 (fun _ => none))]) [9, 7, 5, 1, 0, 8, 6, 2, 3, 4] rfl
  have hD := hD.sub (ws' := [(q, .inr (5, [.ref q1, .ref q3, .ref q5])), (q1, .inr (0, [.int (12000 : Int32), .ref a2, .int 0])), (q3, .inr (0, [.int (16384 : Int32), .ref a4, .int 0])), (b6, .inr (0, [.int (8000 : Int32), .ref c6, .int 0])), (q5, .inr (4, [.ref b6, .int 0, .int 0, .int 0, .int 0, .ref d6, .ref e6, .int 0])), (a2, larr g 64 (fun _ => 0)), (a4, larr g 64 (fun _ => 0)), (c6, larr g 64 (fun _ => 0)), (d6, rarr g ea 16 (fun _ => none)), (e6, rarr g ea 16 (fun _ => none))]) [9, 7, 5, 1, 0, 8, 6, 2, 3, 4] (by decide) rfl
  exact W.vret C.1.1 C.1.2.1 hr (fun t ht hW => ⟨⟨_, ⟨fun k => [q, q1, q3, b6, q5].getD k 0, fun k => [a2, a4, c6, d6, e6].getD k 0, rfl, rfl⟩, rfl, by rw [ht]; exact hP, hD⟩, hS.F ht⟩) hS.2.2 dD_init_43 hlk
abbrev cM_init : ByteArray := prog_8_method_1_code
abbrev yM_init : MethodName := ⟨"MidiDeskModel", "<init>", "()V"⟩
theorem kM_init : yM_init.cls ≠ "java/lang/invoke/MethodHandle" ∧ yM_init.cls ≠ "java/lang/invoke/VarHandle" ∧ (parseMethodDescriptor yM_init.desc).map (fun d => d.parameters.length) = some 0 := by decide +kernel
theorem dM_init_0 : decode cM_init 0 = .ok (.aload_n 0, 1) := by decide +kernel
theorem dM_init_1 : decode cM_init 1 = .ok (.invokespecial 1, 3) := by decide +kernel
theorem dM_init_4 : decode cM_init 4 = .ok (.aload_n 0, 1) := by decide +kernel
theorem dM_init_5 : decode cM_init 5 = .ok (.sipush 12000, 3) := by decide +kernel
theorem dM_init_8 : decode cM_init 8 = .ok (.newarray .int, 2) := by decide +kernel
theorem dM_init_10 : decode cM_init 10 = .ok (.putfield 7, 3) := by decide +kernel
theorem dM_init_13 : decode cM_init 13 = .ok (.aload_n 0, 1) := by decide +kernel
theorem dM_init_14 : decode cM_init 14 = .ok (.sipush 1001, 3) := by decide +kernel
theorem dM_init_17 : decode cM_init 17 = .ok (.newarray .int, 2) := by decide +kernel
theorem dM_init_19 : decode cM_init 19 = .ok (.putfield 13, 3) := by decide +kernel
theorem dM_init_22 : decode cM_init 22 = .ok (.aload_n 0, 1) := by decide +kernel
theorem dM_init_23 : decode cM_init 23 = .ok (.sipush 1001, 3) := by decide +kernel
theorem dM_init_26 : decode cM_init 26 = .ok (.newarray .int, 2) := by decide +kernel
theorem dM_init_28 : decode cM_init 28 = .ok (.putfield 16, 3) := by decide +kernel
theorem dM_init_31 : decode cM_init 31 = .ok (.aload_n 0, 1) := by decide +kernel
theorem dM_init_32 : decode cM_init 32 = .ok (.sipush 1001, 3) := by decide +kernel
theorem dM_init_35 : decode cM_init 35 = .ok (.newarray .int, 2) := by decide +kernel
theorem dM_init_37 : decode cM_init 37 = .ok (.putfield 19, 3) := by decide +kernel
theorem dM_init_40 : decode cM_init 40 = .ok (.aload_n 0, 1) := by decide +kernel
theorem dM_init_41 : decode cM_init 41 = .ok (.sipush 1001, 3) := by decide +kernel
theorem dM_init_44 : decode cM_init 44 = .ok (.newarray .int, 2) := by decide +kernel
theorem dM_init_46 : decode cM_init 46 = .ok (.putfield 22, 3) := by decide +kernel
theorem dM_init_49 : decode cM_init 49 = .ok (.aload_n 0, 1) := by decide +kernel
theorem dM_init_50 : decode cM_init 50 = .ok (.sipush 1001, 3) := by decide +kernel
theorem dM_init_53 : decode cM_init 53 = .ok (.newarray .int, 2) := by decide +kernel
theorem dM_init_55 : decode cM_init 55 = .ok (.putfield 25, 3) := by decide +kernel
theorem dM_init_58 : decode cM_init 58 = .ok (.aload_n 0, 1) := by decide +kernel
theorem dM_init_59 : decode cM_init 59 = .ok (.sipush 1001, 3) := by decide +kernel
theorem dM_init_62 : decode cM_init 62 = .ok (.newarray .int, 2) := by decide +kernel
theorem dM_init_64 : decode cM_init 64 = .ok (.putfield 28, 3) := by decide +kernel
theorem dM_init_67 : decode cM_init 67 = .ok (.aload_n 0, 1) := by decide +kernel
theorem dM_init_68 : decode cM_init 68 = .ok (.sipush 1001, 3) := by decide +kernel
theorem dM_init_71 : decode cM_init 71 = .ok (.newarray .int, 2) := by decide +kernel
theorem dM_init_73 : decode cM_init 73 = .ok (.putfield 31, 3) := by decide +kernel
theorem dM_init_76 : decode cM_init 76 = .ok (.aload_n 0, 1) := by decide +kernel
theorem dM_init_77 : decode cM_init 77 = .ok (.sipush 1001, 3) := by decide +kernel
theorem dM_init_80 : decode cM_init 80 = .ok (.newarray .int, 2) := by decide +kernel
theorem dM_init_82 : decode cM_init 82 = .ok (.putfield 34, 3) := by decide +kernel
theorem dM_init_85 : decode cM_init 85 = .ok (.aload_n 0, 1) := by decide +kernel
theorem dM_init_86 : decode cM_init 86 = .ok (.sipush 1001, 3) := by decide +kernel
theorem dM_init_89 : decode cM_init 89 = .ok (.newarray .int, 2) := by decide +kernel
theorem dM_init_91 : decode cM_init 91 = .ok (.putfield 37, 3) := by decide +kernel
theorem dM_init_94 : decode cM_init 94 = .ok (.aload_n 0, 1) := by decide +kernel
theorem dM_init_95 : decode cM_init 95 = .ok (.sipush 20100, 3) := by decide +kernel
theorem dM_init_98 : decode cM_init 98 = .ok (.newarray .int, 2) := by decide +kernel
theorem dM_init_100 : decode cM_init 100 = .ok (.putfield 40, 3) := by decide +kernel
theorem dM_init_103 : decode cM_init 103 = .ok (.aload_n 0, 1) := by decide +kernel
theorem dM_init_104 : decode cM_init 104 = .ok (.ldc 43, 2) := by decide +kernel
theorem dM_init_106 : decode cM_init 106 = .ok (.newarray .int, 2) := by decide +kernel
theorem dM_init_108 : decode cM_init 108 = .ok (.putfield 44, 3) := by decide +kernel
theorem dM_init_111 : decode cM_init 111 = .ok (.return_, 1) := by decide +kernel
abbrev rM_init : Room := { frames := 1, cells := 12, slots := 73877, locals := 12 }
set_option maxHeartbeats 4000000 in
set_option maxRecDepth 100000 in
theorem cM_init_met {l : Launch} {g : gT} {q : Nat} {x1 x2 x3 x4 x5 x6 x7 x8 x9 x10 : Nat × va_E} : gMet l yM_init cM_init 1 rM_init g [(q, .inr (6, [.int 0, .null, .int 0, .int 0, .int 0, .int 0, .int 0, .int 0, .int 0, .int 0, .int 0, .int 0, .int 0, .null, .null, .null, .null, .null, .null, .null, .null, .null, .null, .null, .int 0])), x1, x2, x3, x4, x5, x6, x7, x8, x9, x10] [.ref q] (fun ws' => ∃ ad : Nat → Nat, ws' = mw g q ad (fun _ => 0) (fun _ _ => 0) [x1, x2, x3, x4, x5, x6, x7, x8, x9, x10]) := by
  intro sz
  refine Met.ofW (cc := cM_init) (maxL := 1) (ret := none) (by decide) rfl ?_
  intro p e s m args below meth c s₁ B hml hv
  obtain ⟨rfl, hsz, hK, hP, hD0⟩ := hv
  subst hsz
  have hts := atoms_spec (ws := Cond.code yM_init cM_init 1 none :: gw) B.pre
  have hown : s.vm.findClass "MidiDeskModel" = some m.cls := findClass_of_methodNamed B.named
  have C : mCx p m c cM_init 1 s [Value.ref q].toArray g "MidiDeskModel" := ⟨⟨B.exec, B.bytes, hml, hown, fun w hw => hts w (List.mem_cons_of_mem _ hw)⟩, hK⟩
  have hlk := B.notSynchronized
  have hr := B.returns
  have hnm : meth.name = "<init>" := (name_of_methodNamed B.named B.method).1
  have hD := hD0.self (sz := s.heap.size)
  generalize hAe : va_A [(q, .inr (6, [.int 0, .null, .int 0, .int 0, .int 0, .int 0, .int 0, .int 0, .int 0, .int 0, .int 0, .int 0, .int 0, .null, .null, .null, .null, .null, .null, .null, .null, .null, .null, .null, .int 0])), x1, x2, x3, x4, x5, x6, x7, x8, x9, x10] s.heap.size = A at hD ⊢
  have hA : ∀ y : Nat, s.heap.size ≤ y → A y := fun y h => by rw [← hAe]; exact Or.inr h
  have hS : va_S A s.heap s.heap [] := va_S.rf
  have hl := lv_entry [.ref q] (n := 1) (Nat.le_of_ble_eq_true rfl)
  rw [lg_entry_eq]
  generalize (lg_sl [.ref q] ++ List.replicate (1 - (lg_sl [.ref q]).length) Slot.unset).toArray = ls at hl ⊢
  have hl : lv_has ls 1 [(0, .ref q)] := hl
  refine lv_aload_n C.1.1 C.1.2.1 dM_init_0 rfl (lv_at hl 0 rfl) ?_
  refine W.objInit C.1.1 C.1.2.1 C.1.2.2.2.1 (C.1.2.2.2.2 _ gw_713) (C.1.2.2.2.2 _ gw_73) (C.1.2.2.2.2 _ gw_74) rfl (by rw [C.1.2.2.1]; exact hl.1) rfl dM_init_1 (Nat.le_of_ble_eq_true rfl) (Nat.le_of_ble_eq_true rfl) ?_
  refine W.eq (g2 := F0 m 4 ls []) rfl ?_
  refine lv_aload_n C.1.1 C.1.2.1 dM_init_4 rfl (lv_at hl 0 rfl) ?_
  refine lv_sipush (v := (12000 : Int32)) C.1.1 C.1.2.1 dM_init_5 (by decide) ?_
  refine x_newi (N := 12000) C hP hD hS hA (by decide) (by decide) (by decide) (Nat.le_of_ble_eq_true rfl) (Nat.le_of_ble_eq_true rfl) dM_init_8 (fun q1 H hP hD hS => ?_)
  refine W.widen (k := 1) (n := 12000) (Nat.le_of_ble_eq_true rfl) (Nat.le_of_ble_eq_true rfl) ?_
  have hP : va_P g.1 classes [(q, .inr (6, [.int 0, .null, .int 0, .int 0, .int 0, .int 0, .int 0, .int 0, .int 0, .int 0, .int 0, .int 0, .int 0, .null, .null, .null, .null, .null, .null, .null, .null, .null, .null, .null, .int 0])), x1, x2, x3, x4, x5, x6, x7, x8, x9, x10, (q1, larr g 12000 (fun _ => 0))] H := hP
  have hD : va_D A [(q, .inr (6, [.int 0, .null, .int 0, .int 0, .int 0, .int 0, .int 0, .int 0, .int 0, .int 0, .int 0, .int 0, .int 0, .null, .null, .null, .null, .null, .null, .null, .null, .null, .null, .null, .int 0])), x1, x2, x3, x4, x5, x6, x7, x8, x9, x10, (q1, larr g 12000 (fun _ => 0))] := hD
  refine va_putF (ci := 6) (ty := .array .int) (v := .ref q1) (C := R_Model) (T := F_Model) (N := 25) C.1.1 C.1.2.1 C.1.2.2.2.2 i_Model t_Model t_Model_ok n_Model C.1.2.2.2.1 C.2.1 hP hD hS 0 rfl rfl 1 (by decide) (C.1.2.2.2.2 _ gw_716) (fun _ w => w) rfl hnm rfl (by decide +kernel) rfl rfl (Nat.le_of_ble_eq_true rfl) dM_init_10 (fun H locs hP hD hS => ?_)
  have hP : va_P g.1 classes [(q, .inr (6, [.int 0, .ref q1, .int 0, .int 0, .int 0, .int 0, .int 0, .int 0, .int 0, .int 0, .int 0, .int 0, .int 0, .null, .null, .null, .null, .null, .null, .null, .null, .null, .null, .null, .int 0])), x1, x2, x3, x4, x5, x6, x7, x8, x9, x10, (q1, larr g 12000 (fun _ => 0))] H := hP
  have hD : va_D A [(q, .inr (6, [.int 0, .ref q1, .int 0, .int 0, .int 0, .int 0, .int 0, .int 0, .int 0, .int 0, .int 0, .int 0, .int 0, .null, .null, .null, .null, .null, .null, .null, .null, .null, .null, .null, .int 0])), x1, x2, x3, x4, x5, x6, x7, x8, x9, x10, (q1, larr g 12000 (fun _ => 0))] := hD
  refine lv_aload_n C.1.1 C.1.2.1 dM_init_13 rfl (lv_at hl 0 rfl) ?_
  refine lv_sipush (v := (1001 : Int32)) C.1.1 C.1.2.1 dM_init_14 (by decide) ?_
  refine x_newi (N := 1001) C hP hD hS hA (by decide) (by decide) (by decide) (Nat.le_of_ble_eq_true rfl) (Nat.le_of_ble_eq_true rfl) dM_init_17 (fun q2 H hP hD hS => ?_)
  refine W.widen (k := 2) (n := 13001) (Nat.le_of_ble_eq_true rfl) (Nat.le_of_ble_eq_true rfl) ?_
  have hP : va_P g.1 classes [(q, .inr (6, [.int 0, .ref q1, .int 0, .int 0, .int 0, .int 0, .int 0, .int 0, .int 0, .int 0, .int 0, .int 0, .int 0, .null, .null, .null, .null, .null, .null, .null, .null, .null, .null, .null, .int 0])), x1, x2, x3, x4, x5, x6, x7, x8, x9, x10, (q1, larr g 12000 (fun _ => 0)), (q2, larr g 1001 (fun _ => 0))] H := hP
  have hD : va_D A [(q, .inr (6, [.int 0, .ref q1, .int 0, .int 0, .int 0, .int 0, .int 0, .int 0, .int 0, .int 0, .int 0, .int 0, .int 0, .null, .null, .null, .null, .null, .null, .null, .null, .null, .null, .null, .int 0])), x1, x2, x3, x4, x5, x6, x7, x8, x9, x10, (q1, larr g 12000 (fun _ => 0)), (q2, larr g 1001 (fun _ => 0))] := hD
  refine va_putF (ci := 6) (ty := .array .int) (v := .ref q2) (C := R_Model) (T := F_Model) (N := 25) C.1.1 C.1.2.1 C.1.2.2.2.2 i_Model t_Model t_Model_ok n_Model C.1.2.2.2.1 C.2.1 hP hD hS 0 rfl rfl 13 (by decide) (C.1.2.2.2.2 _ gw_728) (fun _ w => w) rfl hnm rfl (by decide +kernel) rfl rfl (Nat.le_of_ble_eq_true rfl) dM_init_19 (fun H locs hP hD hS => ?_)
  have hP : va_P g.1 classes [(q, .inr (6, [.int 0, .ref q1, .int 0, .int 0, .int 0, .int 0, .int 0, .int 0, .int 0, .int 0, .int 0, .int 0, .int 0, .ref q2, .null, .null, .null, .null, .null, .null, .null, .null, .null, .null, .int 0])), x1, x2, x3, x4, x5, x6, x7, x8, x9, x10, (q1, larr g 12000 (fun _ => 0)), (q2, larr g 1001 (fun _ => 0))] H := hP
  have hD : va_D A [(q, .inr (6, [.int 0, .ref q1, .int 0, .int 0, .int 0, .int 0, .int 0, .int 0, .int 0, .int 0, .int 0, .int 0, .int 0, .ref q2, .null, .null, .null, .null, .null, .null, .null, .null, .null, .null, .int 0])), x1, x2, x3, x4, x5, x6, x7, x8, x9, x10, (q1, larr g 12000 (fun _ => 0)), (q2, larr g 1001 (fun _ => 0))] := hD
  refine lv_aload_n C.1.1 C.1.2.1 dM_init_22 rfl (lv_at hl 0 rfl) ?_
  refine lv_sipush (v := (1001 : Int32)) C.1.1 C.1.2.1 dM_init_23 (by decide) ?_
  refine x_newi (N := 1001) C hP hD hS hA (by decide) (by decide) (by decide) (Nat.le_of_ble_eq_true rfl) (Nat.le_of_ble_eq_true rfl) dM_init_26 (fun q3 H hP hD hS => ?_)
  refine W.widen (k := 3) (n := 14002) (Nat.le_of_ble_eq_true rfl) (Nat.le_of_ble_eq_true rfl) ?_
  have hP : va_P g.1 classes [(q, .inr (6, [.int 0, .ref q1, .int 0, .int 0, .int 0, .int 0, .int 0, .int 0, .int 0, .int 0, .int 0, .int 0, .int 0, .ref q2, .null, .null, .null, .null, .null, .null, .null, .null, .null, .null, .int 0])), x1, x2, x3, x4, x5, x6, x7, x8, x9, x10, (q1, larr g 12000 (fun _ => 0)), (q2, larr g 1001 (fun _ => 0)), (q3, larr g 1001 (fun _ => 0))] H := hP
  have hD : va_D A [(q, .inr (6, [.int 0, .ref q1, .int 0, .int 0, .int 0, .int 0, .int 0, .int 0, .int 0, .int 0, .int 0, .int 0, .int 0, .ref q2, .null, .null, .null, .null, .null, .null, .null, .null, .null, .null, .int 0])), x1, x2, x3, x4, x5, x6, x7, x8, x9, x10, (q1, larr g 12000 (fun _ => 0)), (q2, larr g 1001 (fun _ => 0)), (q3, larr g 1001 (fun _ => 0))] := hD
  refine va_putF (ci := 6) (ty := .array .int) (v := .ref q3) (C := R_Model) (T := F_Model) (N := 25) C.1.1 C.1.2.1 C.1.2.2.2.2 i_Model t_Model t_Model_ok n_Model C.1.2.2.2.1 C.2.1 hP hD hS 0 rfl rfl 14 (by decide) (C.1.2.2.2.2 _ gw_729) (fun _ w => w) rfl hnm rfl (by decide +kernel) rfl rfl (Nat.le_of_ble_eq_true rfl) dM_init_28 (fun H locs hP hD hS => ?_)
  have hP : va_P g.1 classes [(q, .inr (6, [.int 0, .ref q1, .int 0, .int 0, .int 0, .int 0, .int 0, .int 0, .int 0, .int 0, .int 0, .int 0, .int 0, .ref q2, .ref q3, .null, .null, .null, .null, .null, .null, .null, .null, .null, .int 0])), x1, x2, x3, x4, x5, x6, x7, x8, x9, x10, (q1, larr g 12000 (fun _ => 0)), (q2, larr g 1001 (fun _ => 0)), (q3, larr g 1001 (fun _ => 0))] H := hP
  have hD : va_D A [(q, .inr (6, [.int 0, .ref q1, .int 0, .int 0, .int 0, .int 0, .int 0, .int 0, .int 0, .int 0, .int 0, .int 0, .int 0, .ref q2, .ref q3, .null, .null, .null, .null, .null, .null, .null, .null, .null, .int 0])), x1, x2, x3, x4, x5, x6, x7, x8, x9, x10, (q1, larr g 12000 (fun _ => 0)), (q2, larr g 1001 (fun _ => 0)), (q3, larr g 1001 (fun _ => 0))] := hD
  refine lv_aload_n C.1.1 C.1.2.1 dM_init_31 rfl (lv_at hl 0 rfl) ?_
  refine lv_sipush (v := (1001 : Int32)) C.1.1 C.1.2.1 dM_init_32 (by decide) ?_
  refine x_newi (N := 1001) C hP hD hS hA (by decide) (by decide) (by decide) (Nat.le_of_ble_eq_true rfl) (Nat.le_of_ble_eq_true rfl) dM_init_35 (fun q4 H hP hD hS => ?_)
  refine W.widen (k := 4) (n := 15003) (Nat.le_of_ble_eq_true rfl) (Nat.le_of_ble_eq_true rfl) ?_
  have hP : va_P g.1 classes [(q, .inr (6, [.int 0, .ref q1, .int 0, .int 0, .int 0, .int 0, .int 0, .int 0, .int 0, .int 0, .int 0, .int 0, .int 0, .ref q2, .ref q3, .null, .null, .null, .null, .null, .null, .null, .null, .null, .int 0])), x1, x2, x3, x4, x5, x6, x7, x8, x9, x10, (q1, larr g 12000 (fun _ => 0)), (q2, larr g 1001 (fun _ => 0)), (q3, larr g 1001 (fun _ => 0)), (q4, larr g 1001 (fun _ => 0))] H := hP
  have hD : va_D A [(q, .inr (6, [.int 0, .ref q1, .int 0, .int 0, .int 0, .int 0, .int 0, .int 0, .int 0, .int 0, .int 0, .int 0, .int 0, .ref q2, .ref q3, .null, .null, .null, .null, .null, .null, .null, .null, .null, .int 0])), x1, x2, x3, x4, x5, x6, x7, x8, x9, x10, (q1, larr g 12000 (fun _ => 0)), (q2, larr g 1001 (fun _ => 0)), (q3, larr g 1001 (fun _ => 0)), (q4, larr g 1001 (fun _ => 0))] := hD
  refine va_putF (ci := 6) (ty := .array .int) (v := .ref q4) (C := R_Model) (T := F_Model) (N := 25) C.1.1 C.1.2.1 C.1.2.2.2.2 i_Model t_Model t_Model_ok n_Model C.1.2.2.2.1 C.2.1 hP hD hS 0 rfl rfl 15 (by decide) (C.1.2.2.2.2 _ gw_730) (fun _ w => w) rfl hnm rfl (by decide +kernel) rfl rfl (Nat.le_of_ble_eq_true rfl) dM_init_37 (fun H locs hP hD hS => ?_)
  have hP : va_P g.1 classes [(q, .inr (6, [.int 0, .ref q1, .int 0, .int 0, .int 0, .int 0, .int 0, .int 0, .int 0, .int 0, .int 0, .int 0, .int 0, .ref q2, .ref q3, .ref q4, .null, .null, .null, .null, .null, .null, .null, .null, .int 0])), x1, x2, x3, x4, x5, x6, x7, x8, x9, x10, (q1, larr g 12000 (fun _ => 0)), (q2, larr g 1001 (fun _ => 0)), (q3, larr g 1001 (fun _ => 0)), (q4, larr g 1001 (fun _ => 0))] H := hP
  have hD : va_D A [(q, .inr (6, [.int 0, .ref q1, .int 0, .int 0, .int 0, .int 0, .int 0, .int 0, .int 0, .int 0, .int 0, .int 0, .int 0, .ref q2, .ref q3, .ref q4, .null, .null, .null, .null, .null, .null, .null, .null, .int 0])), x1, x2, x3, x4, x5, x6, x7, x8, x9, x10, (q1, larr g 12000 (fun _ => 0)), (q2, larr g 1001 (fun _ => 0)), (q3, larr g 1001 (fun _ => 0)), (q4, larr g 1001 (fun _ => 0))] := hD
  refine lv_aload_n C.1.1 C.1.2.1 dM_init_40 rfl (lv_at hl 0 rfl) ?_
  refine lv_sipush (v := (1001 : Int32)) C.1.1 C.1.2.1 dM_init_41 (by decide) ?_
  refine x_newi (N := 1001) C hP hD hS hA (by decide) (by decide) (by decide) (Nat.le_of_ble_eq_true rfl) (Nat.le_of_ble_eq_true rfl) dM_init_44 (fun q5 H hP hD hS => ?_)
  refine W.widen (k := 5) (n := 16004) (Nat.le_of_ble_eq_true rfl) (Nat.le_of_ble_eq_true rfl) ?_
  have hP : va_P g.1 classes [(q, .inr (6, [.int 0, .ref q1, .int 0, .int 0, .int 0, .int 0, .int 0, .int 0, .int 0, .int 0, .int 0, .int 0, .int 0, .ref q2, .ref q3, .ref q4, .null, .null, .null, .null, .null, .null, .null, .null, .int 0])), x1, x2, x3, x4, x5, x6, x7, x8, x9, x10, (q1, larr g 12000 (fun _ => 0)), (q2, larr g 1001 (fun _ => 0)), (q3, larr g 1001 (fun _ => 0)), (q4, larr g 1001 (fun _ => 0)), (q5, larr g 1001 (fun _ => 0))] H := hP
  have hD : va_D A [(q, .inr (6, [.int 0, .ref q1, .int 0, .int 0, .int 0, .int 0, .int 0, .int 0, .int 0, .int 0, .int 0, .int 0, .int 0, .ref q2, .ref q3, .ref q4, .null, .null, .null, .null, .null, .null, .null, .null, .int 0])), x1, x2, x3, x4, x5, x6, x7, x8, x9, x10, (q1, larr g 12000 (fun _ => 0)), (q2, larr g 1001 (fun _ => 0)), (q3, larr g 1001 (fun _ => 0)), (q4, larr g 1001 (fun _ => 0)), (q5, larr g 1001 (fun _ => 0))] := hD
  refine va_putF (ci := 6) (ty := .array .int) (v := .ref q5) (C := R_Model) (T := F_Model) (N := 25) C.1.1 C.1.2.1 C.1.2.2.2.2 i_Model t_Model t_Model_ok n_Model C.1.2.2.2.1 C.2.1 hP hD hS 0 rfl rfl 16 (by decide) (C.1.2.2.2.2 _ gw_731) (fun _ w => w) rfl hnm rfl (by decide +kernel) rfl rfl (Nat.le_of_ble_eq_true rfl) dM_init_46 (fun H locs hP hD hS => ?_)
  have hP : va_P g.1 classes [(q, .inr (6, [.int 0, .ref q1, .int 0, .int 0, .int 0, .int 0, .int 0, .int 0, .int 0, .int 0, .int 0, .int 0, .int 0, .ref q2, .ref q3, .ref q4, .ref q5, .null, .null, .null, .null, .null, .null, .null, .int 0])), x1, x2, x3, x4, x5, x6, x7, x8, x9, x10, (q1, larr g 12000 (fun _ => 0)), (q2, larr g 1001 (fun _ => 0)), (q3, larr g 1001 (fun _ => 0)), (q4, larr g 1001 (fun _ => 0)), (q5, larr g 1001 (fun _ => 0))] H := hP
  have hD : va_D A [(q, .inr (6, [.int 0, .ref q1, .int 0, .int 0, .int 0, .int 0, .int 0, .int 0, .int 0, .int 0, .int 0, .int 0, .int 0, .ref q2, .ref q3, .ref q4, .ref q5, .null, .null, .null, .null, .null, .null, .null, .int 0])), x1, x2, x3, x4, x5, x6, x7, x8, x9, x10, (q1, larr g 12000 (fun _ => 0)), (q2, larr g 1001 (fun _ => 0)), (q3, larr g 1001 (fun _ => 0)), (q4, larr g 1001 (fun _ => 0)), (q5, larr g 1001 (fun _ => 0))] := hD
  refine lv_aload_n C.1.1 C.1.2.1 dM_init_49 rfl (lv_at hl 0 rfl) ?_
  refine lv_sipush (v := (1001 : Int32)) C.1.1 C.1.2.1 dM_init_50 (by decide) ?_
  refine x_newi (N := 1001) C hP hD hS hA (by decide) (by decide) (by decide) (Nat.le_of_ble_eq_true rfl) (Nat.le_of_ble_eq_true rfl) dM_init_53 (fun q6 H hP hD hS => ?_)
  refine W.widen (k := 6) (n := 17005) (Nat.le_of_ble_eq_true rfl) (Nat.le_of_ble_eq_true rfl) ?_
  have hP : va_P g.1 classes [(q, .inr (6, [.int 0, .ref q1, .int 0, .int 0, .int 0, .int 0, .int 0, .int 0, .int 0, .int 0, .int 0, .int 0, .int 0, .ref q2, .ref q3, .ref q4, .ref q5, .null, .null, .null, .null, .null, .null, .null, .int 0])), x1, x2, x3, x4, x5, x6, x7, x8, x9, x10, (q1, larr g 12000 (fun _ => 0)), (q2, larr g 1001 (fun _ => 0)), (q3, larr g 1001 (fun _ => 0)), (q4, larr g 1001 (fun _ => 0)), (q5, larr g 1001 (fun _ => 0)), (q6, larr g 1001 (fun _ => 0))] H := hP
  have hD : va_D A [(q, .inr (6, [.int 0, .ref q1, .int 0, .int 0, .int 0, .int 0, .int 0, .int 0, .int 0, .int 0, .int 0, .int 0, .int 0, .ref q2, .ref q3, .ref q4, .ref q5, .null, .null, .null, .null, .null, .null, .null, .int 0])), x1, x2, x3, x4, x5, x6, x7, x8, x9, x10, (q1, larr g 12000 (fun _ => 0)), (q2, larr g 1001 (fun _ => 0)), (q3, larr g 1001 (fun _ => 0)), (q4, larr g 1001 (fun _ => 0)), (q5, larr g 1001 (fun _ => 0)), (q6, larr g 1001 (fun _ => 0))] := hD
  refine va_putF (ci := 6) (ty := .array .int) (v := .ref q6) (C := R_Model) (T := F_Model) (N := 25) C.1.1 C.1.2.1 C.1.2.2.2.2 i_Model t_Model t_Model_ok n_Model C.1.2.2.2.1 C.2.1 hP hD hS 0 rfl rfl 17 (by decide) (C.1.2.2.2.2 _ gw_732) (fun _ w => w) rfl hnm rfl (by decide +kernel) rfl rfl (Nat.le_of_ble_eq_true rfl) dM_init_55 (fun H locs hP hD hS => ?_)
  have hP : va_P g.1 classes [(q, .inr (6, [.int 0, .ref q1, .int 0, .int 0, .int 0, .int 0, .int 0, .int 0, .int 0, .int 0, .int 0, .int 0, .int 0, .ref q2, .ref q3, .ref q4, .ref q5, .ref q6, .null, .null, .null, .null, .null, .null, .int 0])), x1, x2, x3, x4, x5, x6, x7, x8, x9, x10, (q1, larr g 12000 (fun _ => 0)), (q2, larr g 1001 (fun _ => 0)), (q3, larr g 1001 (fun _ => 0)), (q4, larr g 1001 (fun _ => 0)), (q5, larr g 1001 (fun _ => 0)), (q6, larr g 1001 (fun _ => 0))] H := hP
  have hD : va_D A [(q, .inr (6, [.int 0, .ref q1, .int 0, .int 0, .int 0, .int 0, .int 0, .int 0, .int 0, .int 0, .int 0, .int 0, .int 0, .ref q2, .ref q3, .ref q4, .ref q5, .ref q6, .null, .null, .null, .null, .null, .null, .int 0])), x1, x2, x3, x4, x5, x6, x7, x8, x9, x10, (q1, larr g 12000 (fun _ => 0)), (q2, larr g 1001 (fun _ => 0)), (q3, larr g 1001 (fun _ => 0)), (q4, larr g 1001 (fun _ => 0)), (q5, larr g 1001 (fun _ => 0)), (q6, larr g 1001 (fun _ => 0))] := hD
  refine lv_aload_n C.1.1 C.1.2.1 dM_init_58 rfl (lv_at hl 0 rfl) ?_
  refine lv_sipush (v := (1001 : Int32)) C.1.1 C.1.2.1 dM_init_59 (by decide) ?_
  refine x_newi (N := 1001) C hP hD hS hA (by decide) (by decide) (by decide) (Nat.le_of_ble_eq_true rfl) (Nat.le_of_ble_eq_true rfl) dM_init_62 (fun q7 H hP hD hS => ?_)
  refine W.widen (k := 7) (n := 18006) (Nat.le_of_ble_eq_true rfl) (Nat.le_of_ble_eq_true rfl) ?_
  have hP : va_P g.1 classes [(q, .inr (6, [.int 0, .ref q1, .int 0, .int 0, .int 0, .int 0, .int 0, .int 0, .int 0, .int 0, .int 0, .int 0, .int 0, .ref q2, .ref q3, .ref q4, .ref q5, .ref q6, .null, .null, .null, .null, .null, .null, .int 0])), x1, x2, x3, x4, x5, x6, x7, x8, x9, x10, (q1, larr g 12000 (fun _ => 0)), (q2, larr g 1001 (fun _ => 0)), (q3, larr g 1001 (fun _ => 0)), (q4, larr g 1001 (fun _ => 0)), (q5, larr g 1001 (fun _ => 0)), (q6, larr g 1001 (fun _ => 0)), (q7, larr g 1001 (fun _ => 0))] H := hP
  have hD : va_D A [(q, .inr (6, [.int 0, .ref q1, .int 0, .int 0, .int 0, .int 0, .int 0, .int 0, .int 0, .int 0, .int 0, .int 0, .int 0, .ref q2, .ref q3, .ref q4, .ref q5, .ref q6, .null, .null, .null, .null, .null, .null, .int 0])), x1, x2, x3, x4, x5, x6, x7, x8, x9, x10, (q1, larr g 12000 (fun _ => 0)), (q2, larr g 1001 (fun _ => 0)), (q3, larr g 1001 (fun _ => 0)), (q4, larr g 1001 (fun _ => 0)), (q5, larr g 1001 (fun _ => 0)), (q6, larr g 1001 (fun _ => 0)), (q7, larr g 1001 (fun _ => 0))] := hD
  refine va_putF (ci := 6) (ty := .array .int) (v := .ref q7) (C := R_Model) (T := F_Model) (N := 25) C.1.1 C.1.2.1 C.1.2.2.2.2 i_Model t_Model t_Model_ok n_Model C.1.2.2.2.1 C.2.1 hP hD hS 0 rfl rfl 18 (by decide) (C.1.2.2.2.2 _ gw_733) (fun _ w => w) rfl hnm rfl (by decide +kernel) rfl rfl (Nat.le_of_ble_eq_true rfl) dM_init_64 (fun H locs hP hD hS => ?_)
  have hP : va_P g.1 classes [(q, .inr (6, [.int 0, .ref q1, .int 0, .int 0, .int 0, .int 0, .int 0, .int 0, .int 0, .int 0, .int 0, .int 0, .int 0, .ref q2, .ref q3, .ref q4, .ref q5, .ref q6, .ref q7, .null, .null, .null, .null, .null, .int 0])), x1, x2, x3, x4, x5, x6, x7, x8, x9, x10, (q1, larr g 12000 (fun _ => 0)), (q2, larr g 1001 (fun _ => 0)), (q3, larr g 1001 (fun _ => 0)), (q4, larr g 1001 (fun _ => 0)), (q5, larr g 1001 (fun _ => 0)), (q6, larr g 1001 (fun _ => 0)), (q7, larr g 1001 (fun _ => 0))] H := hP
  have hD : va_D A [(q, .inr (6, [.int 0, .ref q1, .int 0, .int 0, .int 0, .int 0, .int 0, .int 0, .int 0, .int 0, .int 0, .int 0, .int 0, .ref q2, .ref q3, .ref q4, .ref q5, .ref q6, .ref q7, .null, .null, .null, .null, .null, .int 0])), x1, x2, x3, x4, x5, x6, x7, x8, x9, x10, (q1, larr g 12000 (fun _ => 0)), (q2, larr g 1001 (fun _ => 0)), (q3, larr g 1001 (fun _ => 0)), (q4, larr g 1001 (fun _ => 0)), (q5, larr g 1001 (fun _ => 0)), (q6, larr g 1001 (fun _ => 0)), (q7, larr g 1001 (fun _ => 0))] := hD
  refine lv_aload_n C.1.1 C.1.2.1 dM_init_67 rfl (lv_at hl 0 rfl) ?_
  refine lv_sipush (v := (1001 : Int32)) C.1.1 C.1.2.1 dM_init_68 (by decide) ?_
  refine x_newi (N := 1001) C hP hD hS hA (by decide) (by decide) (by decide) (Nat.le_of_ble_eq_true rfl) (Nat.le_of_ble_eq_true rfl) dM_init_71 (fun q8 H hP hD hS => ?_)
  refine W.widen (k := 8) (n := 19007) (Nat.le_of_ble_eq_true rfl) (Nat.le_of_ble_eq_true rfl) ?_
  have hP : va_P g.1 classes [(q, .inr (6, [.int 0, .ref q1, .int 0, .int 0, .int 0, .int 0, .int 0, .int 0, .int 0, .int 0, .int 0, .int 0, .int 0, .ref q2, .ref q3, .ref q4, .ref q5, .ref q6, .ref q7, .null, .null, .null, .null, .null, .int 0])), x1, x2, x3, x4, x5, x6, x7, x8, x9, x10, (q1, larr g 12000 (fun _ => 0)), (q2, larr g 1001 (fun _ => 0)), (q3, larr g 1001 (fun _ => 0)), (q4, larr g 1001 (fun _ => 0)), (q5, larr g 1001 (fun _ => 0)), (q6, larr g 1001 (fun _ => 0)), (q7, larr g 1001 (fun _ => 0)), (q8, larr g 1001 (fun _ => 0))] H := hP
  have hD : va_D A [(q, .inr (6, [.int 0, .ref q1, .int 0, .int 0, .int 0, .int 0, .int 0, .int 0, .int 0, .int 0, .int 0, .int 0, .int 0, .ref q2, .ref q3, .ref q4, .ref q5, .ref q6, .ref q7, .null, .null, .null, .null, .null, .int 0])), x1, x2, x3, x4, x5, x6, x7, x8, x9, x10, (q1, larr g 12000 (fun _ => 0)), (q2, larr g 1001 (fun _ => 0)), (q3, larr g 1001 (fun _ => 0)), (q4, larr g 1001 (fun _ => 0)), (q5, larr g 1001 (fun _ => 0)), (q6, larr g 1001 (fun _ => 0)), (q7, larr g 1001 (fun _ => 0)), (q8, larr g 1001 (fun _ => 0))] := hD
  refine va_putF (ci := 6) (ty := .array .int) (v := .ref q8) (C := R_Model) (T := F_Model) (N := 25) C.1.1 C.1.2.1 C.1.2.2.2.2 i_Model t_Model t_Model_ok n_Model C.1.2.2.2.1 C.2.1 hP hD hS 0 rfl rfl 19 (by decide) (C.1.2.2.2.2 _ gw_734) (fun _ w => w) rfl hnm rfl (by decide +kernel) rfl rfl (Nat.le_of_ble_eq_true rfl) dM_init_73 (fun H locs hP hD hS => ?_)
  have hP : va_P g.1 classes [(q, .inr (6, [.int 0, .ref q1, .int 0, .int 0, .int 0, .int 0, .int 0, .int 0, .int 0, .int 0, .int 0, .int 0, .int 0, .ref q2, .ref q3, .ref q4, .ref q5, .ref q6, .ref q7, .ref q8, .null, .null, .null, .null, .int 0])), x1, x2, x3, x4, x5, x6, x7, x8, x9, x10, (q1, larr g 12000 (fun _ => 0)), (q2, larr g 1001 (fun _ => 0)), (q3, larr g 1001 (fun _ => 0)), (q4, larr g 1001 (fun _ => 0)), (q5, larr g 1001 (fun _ => 0)), (q6, larr g 1001 (fun _ => 0)), (q7, larr g 1001 (fun _ => 0)), (q8, larr g 1001 (fun _ => 0))] H := hP
  have hD : va_D A [(q, .inr (6, [.int 0, .ref q1, .int 0, .int 0, .int 0, .int 0, .int 0, .int 0, .int 0, .int 0, .int 0, .int 0, .int 0, .ref q2, .ref q3, .ref q4, .ref q5, .ref q6, .ref q7, .ref q8, .null, .null, .null, .null, .int 0])), x1, x2, x3, x4, x5, x6, x7, x8, x9, x10, (q1, larr g 12000 (fun _ => 0)), (q2, larr g 1001 (fun _ => 0)), (q3, larr g 1001 (fun _ => 0)), (q4, larr g 1001 (fun _ => 0)), (q5, larr g 1001 (fun _ => 0)), (q6, larr g 1001 (fun _ => 0)), (q7, larr g 1001 (fun _ => 0)), (q8, larr g 1001 (fun _ => 0))] := hD
  refine lv_aload_n C.1.1 C.1.2.1 dM_init_76 rfl (lv_at hl 0 rfl) ?_
  refine lv_sipush (v := (1001 : Int32)) C.1.1 C.1.2.1 dM_init_77 (by decide) ?_
  refine x_newi (N := 1001) C hP hD hS hA (by decide) (by decide) (by decide) (Nat.le_of_ble_eq_true rfl) (Nat.le_of_ble_eq_true rfl) dM_init_80 (fun q9 H hP hD hS => ?_)
  refine W.widen (k := 9) (n := 20008) (Nat.le_of_ble_eq_true rfl) (Nat.le_of_ble_eq_true rfl) ?_
  have hP : va_P g.1 classes [(q, .inr (6, [.int 0, .ref q1, .int 0, .int 0, .int 0, .int 0, .int 0, .int 0, .int 0, .int 0, .int 0, .int 0, .int 0, .ref q2, .ref q3, .ref q4, .ref q5, .ref q6, .ref q7, .ref q8, .null, .null, .null, .null, .int 0])), x1, x2, x3, x4, x5, x6, x7, x8, x9, x10, (q1, larr g 12000 (fun _ => 0)), (q2, larr g 1001 (fun _ => 0)), (q3, larr g 1001 (fun _ => 0)), (q4, larr g 1001 (fun _ => 0)), (q5, larr g 1001 (fun _ => 0)), (q6, larr g 1001 (fun _ => 0)), (q7, larr g 1001 (fun _ => 0)), (q8, larr g 1001 (fun _ => 0)), (q9, larr g 1001 (fun _ => 0))] H := hP
  have hD : va_D A [(q, .inr (6, [.int 0, .ref q1, .int 0, .int 0, .int 0, .int 0, .int 0, .int 0, .int 0, .int 0, .int 0, .int 0, .int 0, .ref q2, .ref q3, .ref q4, .ref q5, .ref q6, .ref q7, .ref q8, .null, .null, .null, .null, .int 0])), x1, x2, x3, x4, x5, x6, x7, x8, x9, x10, (q1, larr g 12000 (fun _ => 0)), (q2, larr g 1001 (fun _ => 0)), (q3, larr g 1001 (fun _ => 0)), (q4, larr g 1001 (fun _ => 0)), (q5, larr g 1001 (fun _ => 0)), (q6, larr g 1001 (fun _ => 0)), (q7, larr g 1001 (fun _ => 0)), (q8, larr g 1001 (fun _ => 0)), (q9, larr g 1001 (fun _ => 0))] := hD
  refine va_putF (ci := 6) (ty := .array .int) (v := .ref q9) (C := R_Model) (T := F_Model) (N := 25) C.1.1 C.1.2.1 C.1.2.2.2.2 i_Model t_Model t_Model_ok n_Model C.1.2.2.2.1 C.2.1 hP hD hS 0 rfl rfl 20 (by decide) (C.1.2.2.2.2 _ gw_735) (fun _ w => w) rfl hnm rfl (by decide +kernel) rfl rfl (Nat.le_of_ble_eq_true rfl) dM_init_82 (fun H locs hP hD hS => ?_)
  have hP : va_P g.1 classes [(q, .inr (6, [.int 0, .ref q1, .int 0, .int 0, .int 0, .int 0, .int 0, .int 0, .int 0, .int 0, .int 0, .int 0, .int 0, .ref q2, .ref q3, .ref q4, .ref q5, .ref q6, .ref q7, .ref q8, .ref q9, .null, .null, .null, .int 0])), x1, x2, x3, x4, x5, x6, x7, x8, x9, x10, (q1, larr g 12000 (fun _ => 0)), (q2, larr g 1001 (fun _ => 0)), (q3, larr g 1001 (fun _ => 0)), (q4, larr g 1001 (fun _ => 0)), (q5, larr g 1001 (fun _ => 0)), (q6, larr g 1001 (fun _ => 0)), (q7, larr g 1001 (fun _ => 0)), (q8, larr g 1001 (fun _ => 0)), (q9, larr g 1001 (fun _ => 0))] H := hP
  have hD : va_D A [(q, .inr (6, [.int 0, .ref q1, .int 0, .int 0, .int 0, .int 0, .int 0, .int 0, .int 0, .int 0, .int 0, .int 0, .int 0, .ref q2, .ref q3, .ref q4, .ref q5, .ref q6, .ref q7, .ref q8, .ref q9, .null, .null, .null, .int 0])), x1, x2, x3, x4, x5, x6, x7, x8, x9, x10, (q1, larr g 12000 (fun _ => 0)), (q2, larr g 1001 (fun _ => 0)), (q3, larr g 1001 (fun _ => 0)), (q4, larr g 1001 (fun _ => 0)), (q5, larr g 1001 (fun _ => 0)), (q6, larr g 1001 (fun _ => 0)), (q7, larr g 1001 (fun _ => 0)), (q8, larr g 1001 (fun _ => 0)), (q9, larr g 1001 (fun _ => 0))] := hD
  refine lv_aload_n C.1.1 C.1.2.1 dM_init_85 rfl (lv_at hl 0 rfl) ?_
  refine lv_sipush (v := (1001 : Int32)) C.1.1 C.1.2.1 dM_init_86 (by decide) ?_
  refine x_newi (N := 1001) C hP hD hS hA (by decide) (by decide) (by decide) (Nat.le_of_ble_eq_true rfl) (Nat.le_of_ble_eq_true rfl) dM_init_89 (fun q10 H hP hD hS => ?_)
  refine W.widen (k := 10) (n := 21009) (Nat.le_of_ble_eq_true rfl) (Nat.le_of_ble_eq_true rfl) ?_
  have hP : va_P g.1 classes [(q, .inr (6, [.int 0, .ref q1, .int 0, .int 0, .int 0, .int 0, .int 0, .int 0, .int 0, .int 0, .int 0, .int 0, .int 0, .ref q2, .ref q3, .ref q4, .ref q5, .ref q6, .ref q7, .ref q8, .ref q9, .null, .null, .null, .int 0])), x1, x2, x3, x4, x5, x6, x7, x8, x9, x10, (q1, larr g 12000 (fun _ => 0)), (q2, larr g 1001 (fun _ => 0)), (q3, larr g 1001 (fun _ => 0)), (q4, larr g 1001 (fun _ => 0)), (q5, larr g 1001 (fun _ => 0)), (q6, larr g 1001 (fun _ => 0)), (q7, larr g 1001 (fun _ => 0)), (q8, larr g 1001 (fun _ => 0)), (q9, larr g 1001 (fun _ => 0)), (q10, larr g 1001 (fun _ => 0))] H := hP
  have hD : va_D A [(q, .inr (6, [.int 0, .ref q1, .int 0, .int 0, .int 0, .int 0, .int 0, .int 0, .int 0, .int 0, .int 0, .int 0, .int 0, .ref q2, .ref q3, .ref q4, .ref q5, .ref q6, .ref q7, .ref q8, .ref q9, .null, .null, .null, .int 0])), x1, x2, x3, x4, x5, x6, x7, x8, x9, x10, (q1, larr g 12000 (fun _ => 0)), (q2, larr g 1001 (fun _ => 0)), (q3, larr g 1001 (fun _ => 0)), (q4, larr g 1001 (fun _ => 0)), (q5, larr g 1001 (fun _ => 0)), (q6, larr g 1001 (fun _ => 0)), (q7, larr g 1001 (fun _ => 0)), (q8, larr g 1001 (fun _ => 0)), (q9, larr g 1001 (fun _ => 0)), (q10, larr g 1001 (fun _ => 0))] := hD
  refine va_putF (ci := 6) (ty := .array .int) (v := .ref q10) (C := R_Model) (T := F_Model) (N := 25) C.1.1 C.1.2.1 C.1.2.2.2.2 i_Model t_Model t_Model_ok n_Model C.1.2.2.2.1 C.2.1 hP hD hS 0 rfl rfl 21 (by decide) (C.1.2.2.2.2 _ gw_736) (fun _ w => w) rfl hnm rfl (by decide +kernel) rfl rfl (Nat.le_of_ble_eq_true rfl) dM_init_91 (fun H locs hP hD hS => ?_)
  have hP : va_P g.1 classes [(q, .inr (6, [.int 0, .ref q1, .int 0, .int 0, .int 0, .int 0, .int 0, .int 0, .int 0, .int 0, .int 0, .int 0, .int 0, .ref q2, .ref q3, .ref q4, .ref q5, .ref q6, .ref q7, .ref q8, .ref q9, .ref q10, .null, .null, .int 0])), x1, x2, x3, x4, x5, x6, x7, x8, x9, x10, (q1, larr g 12000 (fun _ => 0)), (q2, larr g 1001 (fun _ => 0)), (q3, larr g 1001 (fun _ => 0)), (q4, larr g 1001 (fun _ => 0)), (q5, larr g 1001 (fun _ => 0)), (q6, larr g 1001 (fun _ => 0)), (q7, larr g 1001 (fun _ => 0)), (q8, larr g 1001 (fun _ => 0)), (q9, larr g 1001 (fun _ => 0)), (q10, larr g 1001 (fun _ => 0))] H := hP
  have hD : va_D A [(q, .inr (6, [.int 0, .ref q1, .int 0, .int 0, .int 0, .int 0, .int 0, .int 0, .int 0, .int 0, .int 0, .int 0, .int 0, .ref q2, .ref q3, .ref q4, .ref q5, .ref q6, .ref q7, .ref q8, .ref q9, .ref q10, .null, .null, .int 0])), x1, x2, x3, x4, x5, x6, x7, x8, x9, x10, (q1, larr g 12000 (fun _ => 0)), (q2, larr g 1001 (fun _ => 0)), (q3, larr g 1001 (fun _ => 0)), (q4, larr g 1001 (fun _ => 0)), (q5, larr g 1001 (fun _ => 0)), (q6, larr g 1001 (fun _ => 0)), (q7, larr g 1001 (fun _ => 0)), (q8, larr g 1001 (fun _ => 0)), (q9, larr g 1001 (fun _ => 0)), (q10, larr g 1001 (fun _ => 0))] := hD
  refine lv_aload_n C.1.1 C.1.2.1 dM_init_94 rfl (lv_at hl 0 rfl) ?_
  refine lv_sipush (v := (20100 : Int32)) C.1.1 C.1.2.1 dM_init_95 (by decide) ?_
  refine x_newi (N := 20100) C hP hD hS hA (by decide) (by decide) (by decide) (Nat.le_of_ble_eq_true rfl) (Nat.le_of_ble_eq_true rfl) dM_init_98 (fun q11 H hP hD hS => ?_)
  refine W.widen (k := 11) (n := 41109) (Nat.le_of_ble_eq_true rfl) (Nat.le_of_ble_eq_true rfl) ?_
  have hP : va_P g.1 classes [(q, .inr (6, [.int 0, .ref q1, .int 0, .int 0, .int 0, .int 0, .int 0, .int 0, .int 0, .int 0, .int 0, .int 0, .int 0, .ref q2, .ref q3, .ref q4, .ref q5, .ref q6, .ref q7, .ref q8, .ref q9, .ref q10, .null, .null, .int 0])), x1, x2, x3, x4, x5, x6, x7, x8, x9, x10, (q1, larr g 12000 (fun _ => 0)), (q2, larr g 1001 (fun _ => 0)), (q3, larr g 1001 (fun _ => 0)), (q4, larr g 1001 (fun _ => 0)), (q5, larr g 1001 (fun _ => 0)), (q6, larr g 1001 (fun _ => 0)), (q7, larr g 1001 (fun _ => 0)), (q8, larr g 1001 (fun _ => 0)), (q9, larr g 1001 (fun _ => 0)), (q10, larr g 1001 (fun _ => 0)), (q11, larr g 20100 (fun _ => 0))] H := hP
  have hD : va_D A [(q, .inr (6, [.int 0, .ref q1, .int 0, .int 0, .int 0, .int 0, .int 0, .int 0, .int 0, .int 0, .int 0, .int 0, .int 0, .ref q2, .ref q3, .ref q4, .ref q5, .ref q6, .ref q7, .ref q8, .ref q9, .ref q10, .null, .null, .int 0])), x1, x2, x3, x4, x5, x6, x7, x8, x9, x10, (q1, larr g 12000 (fun _ => 0)), (q2, larr g 1001 (fun _ => 0)), (q3, larr g 1001 (fun _ => 0)), (q4, larr g 1001 (fun _ => 0)), (q5, larr g 1001 (fun _ => 0)), (q6, larr g 1001 (fun _ => 0)), (q7, larr g 1001 (fun _ => 0)), (q8, larr g 1001 (fun _ => 0)), (q9, larr g 1001 (fun _ => 0)), (q10, larr g 1001 (fun _ => 0)), (q11, larr g 20100 (fun _ => 0))] := hD
  refine va_putF (ci := 6) (ty := .array .int) (v := .ref q11) (C := R_Model) (T := F_Model) (N := 25) C.1.1 C.1.2.1 C.1.2.2.2.2 i_Model t_Model t_Model_ok n_Model C.1.2.2.2.1 C.2.1 hP hD hS 0 rfl rfl 22 (by decide) (C.1.2.2.2.2 _ gw_737) (fun _ w => w) rfl hnm rfl (by decide +kernel) rfl rfl (Nat.le_of_ble_eq_true rfl) dM_init_100 (fun H locs hP hD hS => ?_)
  have hP : va_P g.1 classes [(q, .inr (6, [.int 0, .ref q1, .int 0, .int 0, .int 0, .int 0, .int 0, .int 0, .int 0, .int 0, .int 0, .int 0, .int 0, .ref q2, .ref q3, .ref q4, .ref q5, .ref q6, .ref q7, .ref q8, .ref q9, .ref q10, .ref q11, .null, .int 0])), x1, x2, x3, x4, x5, x6, x7, x8, x9, x10, (q1, larr g 12000 (fun _ => 0)), (q2, larr g 1001 (fun _ => 0)), (q3, larr g 1001 (fun _ => 0)), (q4, larr g 1001 (fun _ => 0)), (q5, larr g 1001 (fun _ => 0)), (q6, larr g 1001 (fun _ => 0)), (q7, larr g 1001 (fun _ => 0)), (q8, larr g 1001 (fun _ => 0)), (q9, larr g 1001 (fun _ => 0)), (q10, larr g 1001 (fun _ => 0)), (q11, larr g 20100 (fun _ => 0))] H := hP
  have hD : va_D A [(q, .inr (6, [.int 0, .ref q1, .int 0, .int 0, .int 0, .int 0, .int 0, .int 0, .int 0, .int 0, .int 0, .int 0, .int 0, .ref q2, .ref q3, .ref q4, .ref q5, .ref q6, .ref q7, .ref q8, .ref q9, .ref q10, .ref q11, .null, .int 0])), x1, x2, x3, x4, x5, x6, x7, x8, x9, x10, (q1, larr g 12000 (fun _ => 0)), (q2, larr g 1001 (fun _ => 0)), (q3, larr g 1001 (fun _ => 0)), (q4, larr g 1001 (fun _ => 0)), (q5, larr g 1001 (fun _ => 0)), (q6, larr g 1001 (fun _ => 0)), (q7, larr g 1001 (fun _ => 0)), (q8, larr g 1001 (fun _ => 0)), (q9, larr g 1001 (fun _ => 0)), (q10, larr g 1001 (fun _ => 0)), (q11, larr g 20100 (fun _ => 0))] := hD
  refine lv_aload_n C.1.1 C.1.2.1 dM_init_103 rfl (lv_at hl 0 rfl) ?_
  refine lv_ldc C.1.1 C.1.2.1 C.1.2.2.2.1 (C.1.2.2.2.2 _ gw_714) dM_init_104 ?_
  refine x_newi (N := 32768) C hP hD hS hA (by decide) (by decide) (by decide) (Nat.le_of_ble_eq_true rfl) (Nat.le_of_ble_eq_true rfl) dM_init_106 (fun q12 H hP hD hS => ?_)
  refine W.widen (k := 12) (n := 73877) (Nat.le_of_ble_eq_true rfl) (Nat.le_of_ble_eq_true rfl) ?_
  have hP : va_P g.1 classes [(q, .inr (6, [.int 0, .ref q1, .int 0, .int 0, .int 0, .int 0, .int 0, .int 0, .int 0, .int 0, .int 0, .int 0, .int 0, .ref q2, .ref q3, .ref q4, .ref q5, .ref q6, .ref q7, .ref q8, .ref q9, .ref q10, .ref q11, .null, .int 0])), x1, x2, x3, x4, x5, x6, x7, x8, x9, x10, (q1, larr g 12000 (fun _ => 0)), (q2, larr g 1001 (fun _ => 0)), (q3, larr g 1001 (fun _ => 0)), (q4, larr g 1001 (fun _ => 0)), (q5, larr g 1001 (fun _ => 0)), (q6, larr g 1001 (fun _ => 0)), (q7, larr g 1001 (fun _ => 0)), (q8, larr g 1001 (fun _ => 0)), (q9, larr g 1001 (fun _ => 0)), (q10, larr g 1001 (fun _ => 0)), (q11, larr g 20100 (fun _ => 0)), (q12, larr g 32768 (fun _ => 0))] H := hP
  have hD : va_D A [(q, .inr (6, [.int 0, .ref q1, .int 0, .int 0, .int 0, .int 0, .int 0, .int 0, .int 0, .int 0, .int 0, .int 0, .int 0, .ref q2, .ref q3, .ref q4, .ref q5, .ref q6, .ref q7, .ref q8, .ref q9, .ref q10, .ref q11, .null, .int 0])), x1, x2, x3, x4, x5, x6, x7, x8, x9, x10, (q1, larr g 12000 (fun _ => 0)), (q2, larr g 1001 (fun _ => 0)), (q3, larr g 1001 (fun _ => 0)), (q4, larr g 1001 (fun _ => 0)), (q5, larr g 1001 (fun _ => 0)), (q6, larr g 1001 (fun _ => 0)), (q7, larr g 1001 (fun _ => 0)), (q8, larr g 1001 (fun _ => 0)), (q9, larr g 1001 (fun _ => 0)), (q10, larr g 1001 (fun _ => 0)), (q11, larr g 20100 (fun _ => 0)), (q12, larr g 32768 (fun _ => 0))] := hD
  refine va_putF (ci := 6) (ty := .array .int) (v := .ref q12) (C := R_Model) (T := F_Model) (N := 25) C.1.1 C.1.2.1 C.1.2.2.2.2 i_Model t_Model t_Model_ok n_Model C.1.2.2.2.1 C.2.1 hP hD hS 0 rfl rfl 23 (by decide) (C.1.2.2.2.2 _ gw_738) (fun _ w => w) rfl hnm rfl (by decide +kernel) rfl rfl (Nat.le_of_ble_eq_true rfl) dM_init_108 (fun H locs hP hD hS => ?_)
  have hP : va_P g.1 classes [(q, .inr (6, [.int 0, .ref q1, .int 0, .int 0, .int 0, .int 0, .int 0, .int 0, .int 0, .int 0, .int 0, .int 0, .int 0, .ref q2, .ref q3, .ref q4, .ref q5, .ref q6, .ref q7, .ref q8, .ref q9, .ref q10, .ref q11, .ref q12, .int 0])), x1, x2, x3, x4, x5, x6, x7, x8, x9, x10, (q1, larr g 12000 (fun _ => 0)), (q2, larr g 1001 (fun _ => 0)), (q3, larr g 1001 (fun _ => 0)), (q4, larr g 1001 (fun _ => 0)), (q5, larr g 1001 (fun _ => 0)), (q6, larr g 1001 (fun _ => 0)), (q7, larr g 1001 (fun _ => 0)), (q8, larr g 1001 (fun _ => 0)), (q9, larr g 1001 (fun _ => 0)), (q10, larr g 1001 (fun _ => 0)), (q11, larr g 20100 (fun _ => 0)), (q12, larr g 32768 (fun _ => 0))] H := hP
  have hD : va_D A [(q, .inr (6, [.int 0, .ref q1, .int 0, .int 0, .int 0, .int 0, .int 0, .int 0, .int 0, .int 0, .int 0, .int 0, .int 0, .ref q2, .ref q3, .ref q4, .ref q5, .ref q6, .ref q7, .ref q8, .ref q9, .ref q10, .ref q11, .ref q12, .int 0])), x1, x2, x3, x4, x5, x6, x7, x8, x9, x10, (q1, larr g 12000 (fun _ => 0)), (q2, larr g 1001 (fun _ => 0)), (q3, larr g 1001 (fun _ => 0)), (q4, larr g 1001 (fun _ => 0)), (q5, larr g 1001 (fun _ => 0)), (q6, larr g 1001 (fun _ => 0)), (q7, larr g 1001 (fun _ => 0)), (q8, larr g 1001 (fun _ => 0)), (q9, larr g 1001 (fun _ => 0)), (q10, larr g 1001 (fun _ => 0)), (q11, larr g 20100 (fun _ => 0)), (q12, larr g 32768 (fun _ => 0))] := hD
  have hP := hP.sub (ws' := [(q, .inr (6, [.int 0, .ref q1, .int 0, .int 0, .int 0, .int 0, .int 0, .int 0, .int 0, .int 0, .int 0, .int 0, .int 0, .ref q2, .ref q3, .ref q4, .ref q5, .ref q6, .ref q7, .ref q8, .ref q9, .ref q10, .ref q11, .ref q12, .int 0])), (q1, larr g 12000 (fun _ => 0)), (q2, larr g 1001 (fun _ => 0)), (q3, larr g 1001 (fun _ => 0)), (q4, larr g 1001 (fun _ => 0)), (q5, larr g 1001 (fun _ => 0)), (q6, larr g 1001 (fun _ => 0)), (q7, larr g 1001 (fun _ => 0)), (q8, larr g 1001 (fun _ => 0)), (q9, larr g 1001 (fun _ => 0)), (q10, larr g 1001 (fun _ => 0)), (q11, larr g 20100 (fun _ => 0)), (q12, larr g 32768 (fun _ => 0)), x1, x2, x3, x4, x5, x6, x7, x8, x9, x10]) [0, 11, 12, 13, 14, 15, 16, 17, 18, 19, 20, 21, 22, 1, 2, 3, 4, 5, 6, 7, 8, 9, 10] rfl
  have hD := hD.sub (ws' := [(q, .inr (6, [.int 0, .ref q1, .int 0, .int 0, .int 0, .int 0, .int 0, .int 0, .int 0, .int 0, .int 0, .int 0, .int 0, .ref q2, .ref q3, .ref q4, .ref q5, .ref q6, .ref q7, .ref q8, .ref q9, .ref q10, .ref q11, .ref q12, .int 0])), (q1, larr g 12000 (fun _ => 0)), (q2, larr g 1001 (fun _ => 0)), (q3, larr g 1001 (fun _ => 0)), (q4, larr g 1001 (fun _ => 0)), (q5, larr g 1001 (fun _ => 0)), (q6, larr g 1001 (fun _ => 0)), (q7, larr g 1001 (fun _ => 0)), (q8, larr g 1001 (fun _ => 0)), (q9, larr g 1001 (fun _ => 0)), (q10, larr g 1001 (fun _ => 0)), (q11, larr g 20100 (fun _ => 0)), (q12, larr g 32768 (fun _ => 0)), x1, x2, x3, x4, x5, x6, x7, x8, x9, x10]) [0, 11, 12, 13, 14, 15, 16, 17, 18, 19, 20, 21, 22, 1, 2, 3, 4, 5, 6, 7, 8, 9, 10] (by decide) rfl
  exact W.vret C.1.1 C.1.2.1 hr (fun t ht hW => ⟨⟨_, ⟨fun k => [q1, q2, q3, q4, q5, q6, q7, q8, q9, q10, q11, q12].getD k 0, rfl⟩, rfl, by rw [ht]; exact hP, hD⟩, hS.F ht⟩) hS.2.2 dM_init_111 hlk
