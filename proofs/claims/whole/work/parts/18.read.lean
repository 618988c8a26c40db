theorem gw_183 : (Jvm.Cond.classLink "MidiDesk" (35 : Nat) "MidiDesk$Parser") ∈ gw := gw_in 183 (by decide +kernel) (by decide +kernel)
theorem gw_184 : (Jvm.Cond.instantiable "MidiDesk$Parser" (13 : Nat)) ∈ gw := gw_in 184 (by decide +kernel) (by decide +kernel)
theorem gw_185 : (Jvm.Cond.methodLink "MidiDesk" (37 : Nat) ({ cls := "MidiDesk$Parser", name := "<init>", desc := "(LMidiDesk$Bytes;LMidiDesk$Score;)V" } : Jvm.MethodName)) ∈ gw := gw_in 185 (by decide +kernel) (by decide +kernel)
theorem gw_186 : (Jvm.Cond.instanceMethod ({ cls := "MidiDesk$Parser", name := "<init>", desc := "(LMidiDesk$Bytes;LMidiDesk$Score;)V" } : Jvm.MethodName)) ∈ gw := gw_in 186 (by decide +kernel) (by decide +kernel)
theorem gw_187 : (Jvm.Cond.code ({ cls := "MidiDesk$Parser", name := "<init>", desc := "(LMidiDesk$Bytes;LMidiDesk$Score;)V" } : Jvm.MethodName) prog_4_method_1_code (3 : Nat) (Option.none : Option Jvm.ClassFile.FieldType)) ∈ gw := gw_in 187 (by decide +kernel) (by decide +kernel)
theorem gw_188 : (Jvm.Cond.methodLink "MidiDesk$Parser" (3 : Nat) ({ cls := "java/lang/Object", name := "<init>", desc := "()V" } : Jvm.MethodName)) ∈ gw := gw_in 188 (by decide +kernel) (by decide +kernel)
theorem gw_229 : (Jvm.Cond.methodLink "MidiDesk" (40 : Nat) ({ cls := "MidiDesk$Parser", name := "parse", desc := "()I" } : Jvm.MethodName)) ∈ gw := gw_in 229 (by decide +kernel) (by decide +kernel)
theorem gw_230 : (Jvm.Cond.instanceMethod ({ cls := "MidiDesk$Parser", name := "parse", desc := "()I" } : Jvm.MethodName)) ∈ gw := gw_in 230 (by decide +kernel) (by decide +kernel)
theorem gw_231 : (Jvm.Cond.selects "MidiDesk$Parser" ({ cls := "MidiDesk$Parser", name := "parse", desc := "()I" } : Jvm.MethodName) ({ cls := "MidiDesk$Parser", name := "parse", desc := "()I" } : Jvm.MethodName)) ∈ gw := gw_in 231 (by decide +kernel) (by decide +kernel)
theorem gw_232 : (Jvm.Cond.code ({ cls := "MidiDesk$Parser", name := "parse", desc := "()I" } : Jvm.MethodName) prog_4_method_2_code (2 : Nat) (Option.some Jvm.ClassFile.FieldType.int)) ∈ gw := gw_in 232 (by decide +kernel) (by decide +kernel)
theorem gw_656 : (Jvm.Cond.methodLink "MidiDesk$Printer" (3 : Nat) ({ cls := "java/lang/Object", name := "<init>", desc := "()V" } : Jvm.MethodName)) ∈ gw := gw_in 656 (by decide +kernel) (by decide +kernel)
section RW
variable {p : Program} {l : Launch} {e : Env} {R : Room} {s : State} {m : MethodId} {args : Array Value} {below : List Frame} {meth : Method} {c : Code} {H : Heap} {locs : List Loc} {cells slots : Nat} {Q : State → Prop} {cc : ByteArray} {nL pc : Nat} {ls : Array Slot} {rest : List Value} {g : gT} {A : Nat → Prop} {H0 : Heap} {qq ad ea : Nat → Nat} {X : va_W} {h : cH} {z : cZ} {own : String}
theorem c_callI {y : MethodName} {bytes : ByteArray} {maxL index n b : Nat} {rm : Room} {As : List Value} {X' : va_W} {z' : cZ} {st0 : List Value} (C : mCx p m c cc nL s args g own) (hl : ls.size = nL) (hw : cWd g A H0 qq ad ea h X z H locs)
    (hM : cMet l y bytes maxL none rm g qq ad ea h X z (.ref b :: As) none X' z') (hX : X.map Prod.fst = X'.map Prod.fst) (h1 : Cond.methodLink own index y ∈ gw) (h2 : Cond.instanceMethod y ∈ gw) (h4 : Cond.initialized y.cls ∈ gw) (h5 : Cond.code y bytes maxL none ∈ gw) (hy : y.name = "<init>")
    (hd : y.cls ≠ "java/lang/invoke/MethodHandle" ∧ y.cls ≠ "java/lang/invoke/VarHandle" ∧ (parseMethodDescriptor y.desc).map (fun d => d.parameters.length) = some n) (hR : rm.frames + 1 ≤ R.frames ∧ 8 + (maxL + 11) + rm.locals ≤ R.locals)
    (hn : As.length = n) (hst : st0 = As.reverse ++ .ref b :: rest) (hr : (rest.map fun v => v.category).sum ≤ 8) (hdg : decode cc pc = .ok (.invokespecial index, 3)) (hf : cells + rm.cells ≤ R.cells ∧ slots + rm.slots ≤ R.slots)
    (kk : ∀ (H1 : Heap) (locs1 : List Loc), cWd g A H0 qq ad ea h X' z' H1 locs1 → W p l e R s m args below meth c H1 locs1 (cells + rm.cells) (slots + rm.slots) Q (F0 m (pc + 3) ls rest)) : W p l e R s m args below meth c H locs cells slots Q (F0 m pc ls st0) := by
  refine x_call (B := fun t => va_P g.1 classes (cw g qq ad ea h z' X') t) (rv := none) (va_runI (b := b) (As := As) (rest := rest) C.1 (hM H.size) ⟨callB_of n C.1.2.2.2.2 (gw_GI h5) rfl rfl rfl (C.1.2.2.2.2 _ h4) (C.1.2.2.2.2 _ h1) hd hR, hy, C.1.2.2.2.2 _ h2⟩ ⟨cPc_blind, c_pre C.2 hw⟩ rfl hn hl hst (lv_room hr) hdg hf) hw.2.2.1 (fun y _ w => c_free rfl hw rfl y w) (c_free rfl hw rfl) (fun H1 locs1 hB hS => kk H1 locs1 ⟨hB, va_D_map (cw_map hX) hw.2.1, hS, hw.2.2.2⟩)
theorem cw_drop {x : Nat × va_E} (hw : cWd g A H0 qq ad ea h (x :: X) z H locs) : cWd g A H0 qq ad ea h X z H locs := ⟨cw_dropP hw.1, cw_dropD hw.2.1, hw.2.2.1, hw.2.2.2⟩
end RW
abbrev cP_init : ByteArray := prog_4_method_1_code
abbrev yP_init : MethodName := ⟨"MidiDesk$Parser", "<init>", "(LMidiDesk$Bytes;LMidiDesk$Score;)V"⟩
theorem kP_init : yP_init.cls ≠ "java/lang/invoke/MethodHandle" ∧ yP_init.cls ≠ "java/lang/invoke/VarHandle" ∧ (parseMethodDescriptor yP_init.desc).map (fun d => d.parameters.length) = some 2 := by decide +kernel
abbrev rP_init : Room := { frames := 1, cells := 0, slots := 0, locals := 12 }
theorem dP_init_0 : decode cP_init 0 = .ok (.aload_n 0, 1) := by decide +kernel
theorem dP_init_1 : decode cP_init 1 = .ok (.invokespecial 3, 3) := by decide +kernel
theorem dP_init_4 : decode cP_init 4 = .ok (.aload_n 0, 1) := by decide +kernel
theorem dP_init_5 : decode cP_init 5 = .ok (.aload_n 1, 1) := by decide +kernel
theorem dP_init_6 : decode cP_init 6 = .ok (.putfield 9, 3) := by decide +kernel
theorem dP_init_9 : decode cP_init 9 = .ok (.aload_n 0, 1) := by decide +kernel
theorem dP_init_10 : decode cP_init 10 = .ok (.aload_n 2, 1) := by decide +kernel
theorem dP_init_11 : decode cP_init 11 = .ok (.putfield 15, 3) := by decide +kernel
theorem dP_init_14 : decode cP_init 14 = .ok (.return_, 1) := by decide +kernel
set_option maxHeartbeats 4000000 in
set_option maxRecDepth 100000 in
theorem cP_init_met {l : Launch} {g : gT} {qq ad ea : Nat → Nat} {h : cH} {X : va_W} {qp : Nat} {z : cZ} : cMet l yP_init cP_init 3 none rP_init g qq ad ea h ((qp, .inr (2, [.null, .null, .int 0, .int 0, .int 0, .int 0, .int 0, .int 0, .int 0, .int 0, .int 0, .int 0, .int 0])) :: X) z [.ref qp, .ref (qq 1), .ref (qq 4)] none (pcell qp qq (fun _ => 0) :: X) z := by
  refine c_entry (by decide) (Nat.le_of_ble_eq_true rfl) ?_
  intro p e s m args below meth c ls C hr hlk hnm hl hw
  have C : mCx p m c cP_init 3 s args g "MidiDesk$Parser" := C
  have hnm : meth.name = "<init>" := hnm
  have hl : lv_has ls 3 [(0, .ref qp), (1, .ref (qq 1)), (2, .ref (qq 4))] := hl
  refine lv_aload_n C.1.1 C.1.2.1 dP_init_0 rfl (lv_at hl 0 rfl) ?_
  refine W.objInit C.1.1 C.1.2.1 C.1.2.2.2.1 (C.1.2.2.2.2 _ gw_188) (C.1.2.2.2.2 _ gw_73) (C.1.2.2.2.2 _ gw_74) rfl (by rw [C.1.2.2.1]; exact hl.1) rfl dP_init_1 (Nat.le_of_ble_eq_true rfl) (Nat.le_of_ble_eq_true rfl) ?_
  refine W.eq (g2 := F0 m 4 ls []) rfl ?_
  refine lv_aload_n C.1.1 C.1.2.1 dP_init_4 rfl (lv_at hl 0 rfl) ?_
  refine lv_aload_n C.1.1 C.1.2.1 dP_init_5 rfl (lv_at hl 1 rfl) ?_
  refine va_putF (ci := 2) (ty := .object "MidiDesk$Bytes") (v := .ref (qq 1)) (C := R_Parser) (T := F_Parser) (N := 13) C.1.1 C.1.2.1 C.1.2.2.2.2 i_Parser t_Parser t_Parser_ok n_Parser C.1.2.2.2.1 C.2.1 hw.1 hw.2.1 hw.2.2.1 (h.2.1 + 10) cw_x rfl 0 (by decide) (C.1.2.2.2.2 _ gw_189) (fun _ w => w) rfl hnm rfl (by decide +kernel) rfl rfl (Nat.le_of_ble_eq_true rfl) dP_init_6 (fun H locs hP hD hS => ?_)
  rw [cw_xset] at hP hD
  have hw : cWd g (cA g qq ad ea h ((qp, .inr (2, [.null, .null, .int 0, .int 0, .int 0, .int 0, .int 0, .int 0, .int 0, .int 0, .int 0, .int 0, .int 0])) :: X) s.heap.size) s.heap qq ad ea h ((qp, .inr (2, [.ref (qq 1), .null, .int 0, .int 0, .int 0, .int 0, .int 0, .int 0, .int 0, .int 0, .int 0, .int 0, .int 0])) :: X) z H locs := ⟨hP, hD, hS, hw.2.2.2⟩
  refine lv_aload_n C.1.1 C.1.2.1 dP_init_9 rfl (lv_at hl 0 rfl) ?_
  refine lv_aload_n C.1.1 C.1.2.1 dP_init_10 rfl (lv_at hl 2 rfl) ?_
  refine va_putF (ci := 2) (ty := .object "MidiDesk$Score") (v := .ref (qq 4)) (C := R_Parser) (T := F_Parser) (N := 13) C.1.1 C.1.2.1 C.1.2.2.2.2 i_Parser t_Parser t_Parser_ok n_Parser C.1.2.2.2.1 C.2.1 hw.1 hw.2.1 hw.2.2.1 (h.2.1 + 10) cw_x rfl 1 (by decide) (C.1.2.2.2.2 _ gw_190) (fun _ w => w) rfl hnm rfl (by decide +kernel) rfl rfl (Nat.le_of_ble_eq_true rfl) dP_init_11 (fun H locs hP hD hS => ?_)
  rw [cw_xset] at hP hD
  have hw : cWd g (cA g qq ad ea h ((qp, .inr (2, [.null, .null, .int 0, .int 0, .int 0, .int 0, .int 0, .int 0, .int 0, .int 0, .int 0, .int 0, .int 0])) :: X) s.heap.size) s.heap qq ad ea h ((qp, .inr (2, [.ref (qq 1), .ref (qq 4), .int 0, .int 0, .int 0, .int 0, .int 0, .int 0, .int 0, .int 0, .int 0, .int 0, .int 0])) :: X) z H locs := ⟨hP, hD, hS, hw.2.2.2⟩
  exact c_retv C hr hlk rfl hw (rfl : some z = some z) rfl ⟨(Nat.le_of_ble_eq_true rfl), (Nat.le_of_ble_eq_true rfl)⟩ dP_init_14
abbrev cT_init : ByteArray := prog_5_method_1_code
abbrev yT_init : MethodName := ⟨"MidiDesk$Printer", "<init>", "(LMidiDesk$Score;LMidiDesk$Bytes;Z)V"⟩
theorem kT_init : yT_init.cls ≠ "java/lang/invoke/MethodHandle" ∧ yT_init.cls ≠ "java/lang/invoke/VarHandle" ∧ (parseMethodDescriptor yT_init.desc).map (fun d => d.parameters.length) = some 3 := by decide +kernel
abbrev rT_init : Room := { frames := 1, cells := 0, slots := 0, locals := 12 }
theorem dT_init_0 : decode cT_init 0 = .ok (.aload_n 0, 1) := by decide +kernel
theorem dT_init_1 : decode cT_init 1 = .ok (.invokespecial 3, 3) := by decide +kernel
theorem dT_init_4 : decode cT_init 4 = .ok (.aload_n 0, 1) := by decide +kernel
theorem dT_init_5 : decode cT_init 5 = .ok (.aload_n 1, 1) := by decide +kernel
theorem dT_init_6 : decode cT_init 6 = .ok (.putfield 9, 3) := by decide +kernel
theorem dT_init_9 : decode cT_init 9 = .ok (.aload_n 0, 1) := by decide +kernel
theorem dT_init_10 : decode cT_init 10 = .ok (.aload_n 2, 1) := by decide +kernel
theorem dT_init_11 : decode cT_init 11 = .ok (.putfield 15, 3) := by decide +kernel
theorem dT_init_14 : decode cT_init 14 = .ok (.aload_n 0, 1) := by decide +kernel
theorem dT_init_15 : decode cT_init 15 = .ok (.iload_n 3, 1) := by decide +kernel
theorem dT_init_16 : decode cT_init 16 = .ok (.putfield 19, 3) := by decide +kernel
theorem dT_init_19 : decode cT_init 19 = .ok (.return_, 1) := by decide +kernel
set_option maxHeartbeats 4000000 in
set_option maxRecDepth 100000 in
theorem cT_init_met {l : Launch} {g : gT} {qq ad ea : Nat → Nat} {h : cH} {X : va_W} {qp : Nat} {z : cZ} {xb : Int32} (hz : xb = 0 ∨ xb = 1) : cMet l yT_init cT_init 4 none rT_init g qq ad ea h ((qp, .inr (3, [.null, .null, .int 0, .int 0, .int 0])) :: X) z [.ref qp, .ref (qq 4), .ref (qq 2), .int xb] none (tcell qp qq (upd (fun _ => 0) 0 xb) :: X) z := by
  refine c_entry (by decide) (Nat.le_of_ble_eq_true rfl) ?_
  intro p e s m args below meth c ls C hr hlk hnm hl hw
  have C : mCx p m c cT_init 4 s args g "MidiDesk$Printer" := C
  have hnm : meth.name = "<init>" := hnm
  have hl : lv_has ls 4 [(0, .ref qp), (1, .ref (qq 4)), (2, .ref (qq 2)), (3, .int xb)] := hl
  refine lv_aload_n C.1.1 C.1.2.1 dT_init_0 rfl (lv_at hl 0 rfl) ?_
  refine W.objInit C.1.1 C.1.2.1 C.1.2.2.2.1 (C.1.2.2.2.2 _ gw_656) (C.1.2.2.2.2 _ gw_73) (C.1.2.2.2.2 _ gw_74) rfl (by rw [C.1.2.2.1]; exact hl.1) rfl dT_init_1 (Nat.le_of_ble_eq_true rfl) (Nat.le_of_ble_eq_true rfl) ?_
  refine W.eq (g2 := F0 m 4 ls []) rfl ?_
  refine lv_aload_n C.1.1 C.1.2.1 dT_init_4 rfl (lv_at hl 0 rfl) ?_
  refine lv_aload_n C.1.1 C.1.2.1 dT_init_5 rfl (lv_at hl 1 rfl) ?_
  refine va_putF (ci := 3) (ty := .object "MidiDesk$Score") (v := .ref (qq 4)) (C := R_Printer) (T := F_Printer) (N := 5) C.1.1 C.1.2.1 C.1.2.2.2.2 i_Printer t_Printer t_Printer_ok n_Printer C.1.2.2.2.1 C.2.1 hw.1 hw.2.1 hw.2.2.1 (h.2.1 + 10) cw_x rfl 0 (by decide) (C.1.2.2.2.2 _ gw_657) (fun _ w => w) rfl hnm rfl (by decide +kernel) rfl rfl (Nat.le_of_ble_eq_true rfl) dT_init_6 (fun H locs hP hD hS => ?_)
  rw [cw_xset] at hP hD
  have hw : cWd g (cA g qq ad ea h ((qp, .inr (3, [.null, .null, .int 0, .int 0, .int 0])) :: X) s.heap.size) s.heap qq ad ea h ((qp, .inr (3, [.ref (qq 4), .null, .int 0, .int 0, .int 0])) :: X) z H locs := ⟨hP, hD, hS, hw.2.2.2⟩
  refine lv_aload_n C.1.1 C.1.2.1 dT_init_9 rfl (lv_at hl 0 rfl) ?_
  refine lv_aload_n C.1.1 C.1.2.1 dT_init_10 rfl (lv_at hl 2 rfl) ?_
  refine va_putF (ci := 3) (ty := .object "MidiDesk$Bytes") (v := .ref (qq 2)) (C := R_Printer) (T := F_Printer) (N := 5) C.1.1 C.1.2.1 C.1.2.2.2.2 i_Printer t_Printer t_Printer_ok n_Printer C.1.2.2.2.1 C.2.1 hw.1 hw.2.1 hw.2.2.1 (h.2.1 + 10) cw_x rfl 1 (by decide) (C.1.2.2.2.2 _ gw_658) (fun _ w => w) rfl hnm rfl (by decide +kernel) rfl rfl (Nat.le_of_ble_eq_true rfl) dT_init_11 (fun H locs hP hD hS => ?_)
  rw [cw_xset] at hP hD
  have hw : cWd g (cA g qq ad ea h ((qp, .inr (3, [.null, .null, .int 0, .int 0, .int 0])) :: X) s.heap.size) s.heap qq ad ea h ((qp, .inr (3, [.ref (qq 4), .ref (qq 2), .int 0, .int 0, .int 0])) :: X) z H locs := ⟨hP, hD, hS, hw.2.2.2⟩
  refine lv_aload_n C.1.1 C.1.2.1 dT_init_14 rfl (lv_at hl 0 rfl) ?_
  refine lv_iload_n C.1.1 C.1.2.1 dT_init_15 rfl (lv_at hl 3 rfl) ?_
  refine va_putF (ci := 3) (ty := .boolean) (v := .int xb) (C := R_Printer) (T := F_Printer) (N := 5) C.1.1 C.1.2.1 C.1.2.2.2.2 i_Printer t_Printer t_Printer_ok n_Printer C.1.2.2.2.1 C.2.1 hw.1 hw.2.1 hw.2.2.1 (h.2.1 + 10) cw_x rfl 2 (by decide) (C.1.2.2.2.2 _ gw_659) (fun _ w => w) rfl hnm rfl (by decide +kernel) (by rcases hz with rfl | rfl <;> rfl) (by rcases hz with rfl | rfl <;> rfl) (Nat.le_of_ble_eq_true rfl) dT_init_16 (fun H locs hP hD hS => ?_)
  rw [cw_xset] at hP hD
  have hw : cWd g (cA g qq ad ea h ((qp, .inr (3, [.null, .null, .int 0, .int 0, .int 0])) :: X) s.heap.size) s.heap qq ad ea h ((qp, .inr (3, [.ref (qq 4), .ref (qq 2), .int xb, .int 0, .int 0])) :: X) z H locs := ⟨hP, hD, hS, hw.2.2.2⟩
  exact c_retv C hr hlk rfl hw (rfl : some z = some z) rfl ⟨(Nat.le_of_ble_eq_true rfl), (Nat.le_of_ble_eq_true rfl)⟩ dT_init_19
abbrev cD_read : ByteArray := prog_1_method_3_code
abbrev yD_read : MethodName := ⟨"MidiDesk", "read", "()I"⟩
theorem kD_read : yD_read.cls ≠ "java/lang/invoke/MethodHandle" ∧ yD_read.cls ≠ "java/lang/invoke/VarHandle" ∧ (parseMethodDescriptor yD_read.desc).map (fun d => d.parameters.length) = some 0 := by decide +kernel
theorem dD_read_0 : decode cD_read 0 = .ok (.new 35, 3) := by decide +kernel
theorem dD_read_3 : decode cD_read 3 = .ok (.dup, 1) := by decide +kernel
theorem dD_read_4 : decode cD_read 4 = .ok (.aload_n 0, 1) := by decide +kernel
theorem dD_read_5 : decode cD_read 5 = .ok (.getfield 14, 3) := by decide +kernel
theorem dD_read_8 : decode cD_read 8 = .ok (.aload_n 0, 1) := by decide +kernel
theorem dD_read_9 : decode cD_read 9 = .ok (.getfield 24, 3) := by decide +kernel
theorem dD_read_12 : decode cD_read 12 = .ok (.invokespecial 37, 3) := by decide +kernel
theorem dD_read_15 : decode cD_read 15 = .ok (.astore_n 1, 1) := by decide +kernel
theorem dD_read_16 : decode cD_read 16 = .ok (.aload_n 1, 1) := by decide +kernel
theorem dD_read_17 : decode cD_read 17 = .ok (.invokevirtual 40, 3) := by decide +kernel
theorem dD_read_20 : decode cD_read 20 = .ok (.istore_n 2, 1) := by decide +kernel
theorem dD_read_21 : decode cD_read 21 = .ok (.aload_n 0, 1) := by decide +kernel
theorem dD_read_22 : decode cD_read 22 = .ok (.getfield 14, 3) := by decide +kernel
theorem dD_read_25 : decode cD_read 25 = .ok (.invokevirtual 43, 3) := by decide +kernel
theorem dD_read_28 : decode cD_read 28 = .ok (.iload_n 2, 1) := by decide +kernel
theorem dD_read_29 : decode cD_read 29 = .ok (.ireturn, 1) := by decide +kernel
abbrev frD_read : Nat := 7
abbrev loD_read : Nat := 171
noncomputable def fD_read (h : cH) (z : cZ) : Option (Int32 × cH × cZ) := (fP_parse (hC h 1 13) z (fun _ => 0)).bind fun (r1, h1, z1, _) => (fB0_empty h1 z1).bind fun z2 => some (r1, h1, z2)
theorem oD_read {h h' : cH} {z z' : cZ} {r' : Int32} (hf : fD_read h z = some (r', h', z')) : cle h h' := by
  unfold fD_read at hf
  obtain ⟨⟨r1, h1, z1, pv1⟩, g1, hf⟩ := ts_b hf
  dsimp only at hf
  obtain ⟨z2, g2, hf⟩ := ts_b hf
  cases hf
  exact cle.tr (show cle h (hC h 1 13) from ⟨Nat.le_add_right _ _, Nat.le_add_right _ _⟩) (oP_parse g1)
set_option maxHeartbeats 4000000 in
set_option maxRecDepth 100000 in
theorem cD_read_met {l : Launch} {g : gT} {qq ad ea : Nat → Nat} {h h' : cH} {X : va_W} {z z' : cZ} {r' : Int32} (hf : fD_read h z = some (r', h', z')) : cMeA l yD_read cD_read 3 (some .int) frD_read loD_read g qq ad ea h X z [.ref (qq 0)] False (fun ea => some (.int r')) X h' z' := by
  refine c_entryA (by decide) (Nat.le_of_ble_eq_true rfl) ?_
  intro p e s m args below meth c ls C hr hlk hnm hl hw
  have C : mCx p m c cD_read 3 s args g "MidiDesk" := C
  have hl : lv_has ls 3 [(0, .ref (qq 0))] := hl
  generalize cA g qq ad ea h X s.heap.size = A0 at hw ⊢
  unfold fD_read at hf
  obtain ⟨⟨r1, h1, z1, pv1⟩, g1, hf⟩ := ts_b hf
  dsimp only at hf
  obtain ⟨z2, g2, hf⟩ := ts_b hf
  have hmp : cle (hC h 1 13) h1 := oP_parse g1
  have hm1 : h.2.2.1 + 1 ≤ h1.2.2.1 := hmp.1
  have hm2 : h.2.2.2 + 13 ≤ h1.2.2.2 := hmp.2
  obtain ⟨rfl, rfl, rfl⟩ : r1 = r' ∧ h1 = h' ∧ z2 = z' := by cases hf; exact ⟨rfl, rfl, rfl⟩
  refine va_new (ci := 2) (fs := [.null, .null, .int 0, .int 0, .int 0, .int 0, .int 0, .int 0, .int 0, .int 0, .int 0, .int 0, .int 0]) (C := R_Parser) (T := F_Parser) (N := 13) C.1.1 C.1.2.1 C.1.2.2.2.2 i_Parser t_Parser t_Parser_ok C.1.2.2.2.1 (C.1.2.2.2.2 _ gw_183) (C.1.2.2.2.2 _ gw_184) (C.1.2.2.2.2 _ gw_59) C.2.1 hw.1 hw.2.1 hw.2.2.1 hw.2.2.2 rfl (fun j hj => by rcases (show j = 0 ∨ j = 1 ∨ j = 2 ∨ j = 3 ∨ j = 4 ∨ j = 5 ∨ j = 6 ∨ j = 7 ∨ j = 8 ∨ j = 9 ∨ j = 10 ∨ j = 11 ∨ j = 12 by omega) with rfl | rfl | rfl | rfl | rfl | rfl | rfl | rfl | rfl | rfl | rfl | rfl | rfl <;> rfl) (by show _ ≤ h1.2.2.1 - h.2.2.1; omega) (by show _ ≤ h1.2.2.2 - h.2.2.2; omega) dD_read_0 (fun qp H hP hD hS => ?_)
  have hw : cWd g A0 s.heap qq ad ea (hC h 1 13) ((qp, .inr (2, [.null, .null, .int 0, .int 0, .int 0, .int 0, .int 0, .int 0, .int 0, .int 0, .int 0, .int 0, .int 0])) :: X) z H _ := ⟨cw_pushP hP, cw_pushD hD, hS, hw.2.2.2⟩
  refine W.widen (k := h.2.2.1 + 1 - h.2.2.1) (n := h.2.2.2 + 13 - h.2.2.2) (by omega) (by omega) ?_
  refine lv_dup C.1.1 C.1.2.1 dD_read_3 rfl ?_
  refine lv_aload_n C.1.1 C.1.2.1 dD_read_4 rfl (lv_at hl 0 rfl) ?_
  refine cg_Desk_Desk_input C hw dD_read_5 ?_
  refine lv_aload_n C.1.1 C.1.2.1 dD_read_8 rfl (lv_at hl 0 rfl) ?_
  refine cg_Desk_Desk_score C hw dD_read_9 ?_
  refine c_callI (rest := [.ref qp]) (As := [.ref (qq 1), .ref (qq 4)]) (b := qp) C hl.1 hw cP_init_met rfl gw_185 gw_186 gw_59 gw_187 rfl kP_init ⟨(Nat.le_of_ble_eq_true rfl), (Nat.le_of_ble_eq_true rfl)⟩ rfl rfl (Nat.le_of_ble_eq_true rfl) dD_read_12 ⟨by show h.2.2.1 + 1 - h.2.2.1 + 0 ≤ h1.2.2.1 - h.2.2.1; omega, by show h.2.2.2 + 13 - h.2.2.2 + 0 ≤ h1.2.2.2 - h.2.2.2; omega⟩ (fun H locs hw => ?_)
  refine lv_astore_n (lv' := [(1, .ref qp), (0, .ref (qq 0))]) C.1.1 C.1.2.1 dD_read_15 rfl hl (by decide) rfl (fun ls hl => ?_)
  refine lv_aload_n C.1.1 C.1.2.1 dD_read_16 rfl (lv_at hl 0 rfl) ?_
  refine W.widen (k := h.2.2.1 + 1 - h.2.2.1) (n := h.2.2.2 + 13 - h.2.2.2) (Nat.le_refl _) (Nat.le_refl _) ?_
  refine c_callA (rest := []) (As := []) (rv := fun ea => some (.int r1)) (b := qp) C hl.1 hw (cP_parse_met g1) (callW_of (rm := rmA frP_parse loP_parse (hC h 1 13) h1) (C := "MidiDesk$Parser") 0 C.1.2.2.2.2 gw_229 gw_230 gw_231 gw_59 gw_232 kP_parse ⟨(Nat.le_of_ble_eq_true rfl), (Nat.le_of_ble_eq_true rfl)⟩) (c_recvX (ci := 2) C.2 rfl hw) rfl rfl (Nat.le_of_ble_eq_true rfl) dD_read_17 ⟨by show h.2.2.1 + 1 - h.2.2.1 + (h1.2.2.1 - (h.2.2.1 + 1)) ≤ h1.2.2.1 - h.2.2.1; omega, by show h.2.2.2 + 13 - h.2.2.2 + (h1.2.2.2 - (h.2.2.2 + 13)) ≤ h1.2.2.2 - h.2.2.2; omega⟩ (fun ad ea H locs hea hw => ?_)
  refine W.widen (k := h1.2.2.1 - h.2.2.1) (n := h1.2.2.2 - h.2.2.2) (by show h.2.2.1 + 1 - h.2.2.1 + (h1.2.2.1 - (h.2.2.1 + 1)) ≤ _; omega) (by show h.2.2.2 + 13 - h.2.2.2 + (h1.2.2.2 - (h.2.2.2 + 13)) ≤ _; omega) ?_
  refine W.eq (g2 := F0 m 20 ls [.int r1]) rfl ?_
  refine lv_istore_n (lv' := [(2, .int r1), (1, .ref qp), (0, .ref (qq 0))]) C.1.1 C.1.2.1 dD_read_20 rfl hl (by decide) rfl (fun ls hl => ?_)
  refine lv_aload_n C.1.1 C.1.2.1 dD_read_21 rfl (lv_at hl 2 rfl) ?_
  refine cg_Desk_Desk_input C hw dD_read_22 ?_
  refine c_callV (rest := []) (As := []) (rv := none) (b := (qq 1)) C hl.1 hw (cB0_empty_met g2) rfl (callW_of (rm := rB0_empty) (C := "MidiDesk$Bytes") 0 C.1.2.2.2.2 gw_392 gw_238 gw_239 gw_53 gw_240 kB0_empty ⟨(Nat.le_of_ble_eq_true rfl), (Nat.le_of_ble_eq_true rfl)⟩) (c_recv_B0 C.2 hw) rfl rfl (Nat.le_of_ble_eq_true rfl) dD_read_25 ⟨Nat.le_refl _, Nat.le_refl _⟩ (fun H locs hw => ?_)
  refine W.eq (g2 := F0 m 28 ls []) rfl ?_
  refine lv_iload_n C.1.1 C.1.2.1 dD_read_28 rfl (lv_at hl 0 rfl) ?_
  have hw := cw_drop hw
  exact c_retAi (r := r1) C hr hlk rfl (fun w => w.elim) hw rfl rfl ⟨Nat.le_refl _, Nat.le_refl _⟩ dD_read_29
