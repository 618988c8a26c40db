theorem gw_476 : (Jvm.Cond.methodLink "MidiDeskLaw" (7 : Nat) ({ cls := "MidiDesk", name := "time", desc := "(I)J" } : Jvm.MethodName)) ∈ gw := gw_in 476 (by decide +kernel) (by decide +kernel)
theorem gw_477 : (Jvm.Cond.instanceMethod ({ cls := "MidiDesk", name := "time", desc := "(I)J" } : Jvm.MethodName)) ∈ gw := gw_in 477 (by decide +kernel) (by decide +kernel)
theorem gw_478 : (Jvm.Cond.selects "MidiDesk" ({ cls := "MidiDesk", name := "time", desc := "(I)J" } : Jvm.MethodName) ({ cls := "MidiDesk", name := "time", desc := "(I)J" } : Jvm.MethodName)) ∈ gw := gw_in 478 (by decide +kernel) (by decide +kernel)
theorem gw_479 : (Jvm.Cond.code ({ cls := "MidiDesk", name := "time", desc := "(I)J" } : Jvm.MethodName) prog_1_method_6_code (2 : Nat) (Option.some Jvm.ClassFile.FieldType.long)) ∈ gw := gw_in 479 (by decide +kernel) (by decide +kernel)
theorem gw_472 : (Jvm.Cond.static ({ cls := "MidiDeskLaw", name := "time", desc := "(LMidiDesk;I[J)I" } : Jvm.MethodName)) ∈ gw := gw_in 472 (by decide +kernel) (by decide +kernel)
theorem gw_473 : (Jvm.Cond.codeWith ({ cls := "MidiDeskLaw", name := "time", desc := "(LMidiDesk;I[J)I" } : Jvm.MethodName) method_3_code (4 : Nat) (Option.some Jvm.ClassFile.FieldType.int) [((0 : Nat), (8 : Nat), (11 : Nat), (13 : Nat)), ((0 : Nat), (8 : Nat), (14 : Nat), (15 : Nat))]) ∈ gw := gw_in 473 (by decide +kernel) (by decide +kernel)
theorem gw_587 : (Jvm.Cond.methodLink "MidiDeskLaw" (17 : Nat) ({ cls := "MidiDesk", name := "rest", desc := "(I)J" } : Jvm.MethodName)) ∈ gw := gw_in 587 (by decide +kernel) (by decide +kernel)
theorem gw_588 : (Jvm.Cond.instanceMethod ({ cls := "MidiDesk", name := "rest", desc := "(I)J" } : Jvm.MethodName)) ∈ gw := gw_in 588 (by decide +kernel) (by decide +kernel)
theorem gw_589 : (Jvm.Cond.selects "MidiDesk" ({ cls := "MidiDesk", name := "rest", desc := "(I)J" } : Jvm.MethodName) ({ cls := "MidiDesk", name := "rest", desc := "(I)J" } : Jvm.MethodName)) ∈ gw := gw_in 589 (by decide +kernel) (by decide +kernel)
theorem gw_590 : (Jvm.Cond.code ({ cls := "MidiDesk", name := "rest", desc := "(I)J" } : Jvm.MethodName) prog_1_method_7_code (2 : Nat) (Option.some Jvm.ClassFile.FieldType.long)) ∈ gw := gw_in 590 (by decide +kernel) (by decide +kernel)
theorem gw_584 : (Jvm.Cond.methodLink "MidiDeskLaw" (68 : Nat) ({ cls := "MidiDeskLaw", name := "rest", desc := "(LMidiDesk;I[J)I" } : Jvm.MethodName)) ∈ gw := gw_in 584 (by decide +kernel) (by decide +kernel)
theorem gw_585 : (Jvm.Cond.static ({ cls := "MidiDeskLaw", name := "rest", desc := "(LMidiDesk;I[J)I" } : Jvm.MethodName)) ∈ gw := gw_in 585 (by decide +kernel) (by decide +kernel)
theorem gw_586 : (Jvm.Cond.codeWith ({ cls := "MidiDeskLaw", name := "rest", desc := "(LMidiDesk;I[J)I" } : Jvm.MethodName) method_4_code (4 : Nat) (Option.some Jvm.ClassFile.FieldType.int) [((0 : Nat), (8 : Nat), (11 : Nat), (13 : Nat)), ((0 : Nat), (8 : Nat), (14 : Nat), (15 : Nat))]) ∈ gw := gw_in 586 (by decide +kernel) (by decide +kernel)
theorem gw_594 : (Jvm.Cond.methodLink "MidiDeskLaw" (20 : Nat) ({ cls := "MidiDesk", name := "transpose", desc := "(II)I" } : Jvm.MethodName)) ∈ gw := gw_in 594 (by decide +kernel) (by decide +kernel)
theorem gw_595 : (Jvm.Cond.instanceMethod ({ cls := "MidiDesk", name := "transpose", desc := "(II)I" } : Jvm.MethodName)) ∈ gw := gw_in 595 (by decide +kernel) (by decide +kernel)
theorem gw_596 : (Jvm.Cond.selects "MidiDesk" ({ cls := "MidiDesk", name := "transpose", desc := "(II)I" } : Jvm.MethodName) ({ cls := "MidiDesk", name := "transpose", desc := "(II)I" } : Jvm.MethodName)) ∈ gw := gw_in 596 (by decide +kernel) (by decide +kernel)
theorem gw_597 : (Jvm.Cond.code ({ cls := "MidiDesk", name := "transpose", desc := "(II)I" } : Jvm.MethodName) prog_1_method_9_code (3 : Nat) (Option.some Jvm.ClassFile.FieldType.int)) ∈ gw := gw_in 597 (by decide +kernel) (by decide +kernel)
theorem gw_591 : (Jvm.Cond.methodLink "MidiDeskLaw" (75 : Nat) ({ cls := "MidiDeskLaw", name := "transpose", desc := "(LMidiDesk;II[J)I" } : Jvm.MethodName)) ∈ gw := gw_in 591 (by decide +kernel) (by decide +kernel)
theorem gw_592 : (Jvm.Cond.static ({ cls := "MidiDeskLaw", name := "transpose", desc := "(LMidiDesk;II[J)I" } : Jvm.MethodName)) ∈ gw := gw_in 592 (by decide +kernel) (by decide +kernel)
theorem gw_593 : (Jvm.Cond.codeWith ({ cls := "MidiDeskLaw", name := "transpose", desc := "(LMidiDesk;II[J)I" } : Jvm.MethodName) method_5_code (5 : Nat) (Option.some Jvm.ClassFile.FieldType.int) [((0 : Nat), (10 : Nat), (13 : Nat), (13 : Nat)), ((0 : Nat), (10 : Nat), (17 : Nat), (15 : Nat))]) ∈ gw := gw_in 593 (by decide +kernel) (by decide +kernel)
theorem gw_615 : (Jvm.Cond.methodLink "MidiDeskLaw" (24 : Nat) ({ cls := "MidiDesk", name := "grid", desc := "(I)I" } : Jvm.MethodName)) ∈ gw := gw_in 615 (by decide +kernel) (by decide +kernel)
theorem gw_616 : (Jvm.Cond.instanceMethod ({ cls := "MidiDesk", name := "grid", desc := "(I)I" } : Jvm.MethodName)) ∈ gw := gw_in 616 (by decide +kernel) (by decide +kernel)
theorem gw_617 : (Jvm.Cond.selects "MidiDesk" ({ cls := "MidiDesk", name := "grid", desc := "(I)I" } : Jvm.MethodName) ({ cls := "MidiDesk", name := "grid", desc := "(I)I" } : Jvm.MethodName)) ∈ gw := gw_in 617 (by decide +kernel) (by decide +kernel)
theorem gw_618 : (Jvm.Cond.code ({ cls := "MidiDesk", name := "grid", desc := "(I)I" } : Jvm.MethodName) prog_1_method_10_code (2 : Nat) (Option.some Jvm.ClassFile.FieldType.int)) ∈ gw := gw_in 618 (by decide +kernel) (by decide +kernel)
theorem gw_612 : (Jvm.Cond.methodLink "MidiDeskLaw" (79 : Nat) ({ cls := "MidiDeskLaw", name := "grid", desc := "(LMidiDesk;I[J)I" } : Jvm.MethodName)) ∈ gw := gw_in 612 (by decide +kernel) (by decide +kernel)
theorem gw_613 : (Jvm.Cond.static ({ cls := "MidiDeskLaw", name := "grid", desc := "(LMidiDesk;I[J)I" } : Jvm.MethodName)) ∈ gw := gw_in 613 (by decide +kernel) (by decide +kernel)
theorem gw_614 : (Jvm.Cond.codeWith ({ cls := "MidiDeskLaw", name := "grid", desc := "(LMidiDesk;I[J)I" } : Jvm.MethodName) method_6_code (4 : Nat) (Option.some Jvm.ClassFile.FieldType.int) [((0 : Nat), (9 : Nat), (12 : Nat), (13 : Nat)), ((0 : Nat), (9 : Nat), (15 : Nat), (15 : Nat))]) ∈ gw := gw_in 614 (by decide +kernel) (by decide +kernel)
theorem gw_634 : (Jvm.Cond.methodLink "MidiDeskLaw" (28 : Nat) ({ cls := "MidiDesk", name := "clear", desc := "(I)I" } : Jvm.MethodName)) ∈ gw := gw_in 634 (by decide +kernel) (by decide +kernel)
theorem gw_635 : (Jvm.Cond.instanceMethod ({ cls := "MidiDesk", name := "clear", desc := "(I)I" } : Jvm.MethodName)) ∈ gw := gw_in 635 (by decide +kernel) (by decide +kernel)
theorem gw_636 : (Jvm.Cond.selects "MidiDesk" ({ cls := "MidiDesk", name := "clear", desc := "(I)I" } : Jvm.MethodName) ({ cls := "MidiDesk", name := "clear", desc := "(I)I" } : Jvm.MethodName)) ∈ gw := gw_in 636 (by decide +kernel) (by decide +kernel)
theorem gw_637 : (Jvm.Cond.code ({ cls := "MidiDesk", name := "clear", desc := "(I)I" } : Jvm.MethodName) prog_1_method_11_code (2 : Nat) (Option.some Jvm.ClassFile.FieldType.int)) ∈ gw := gw_in 637 (by decide +kernel) (by decide +kernel)
theorem gw_631 : (Jvm.Cond.methodLink "MidiDeskLaw" (82 : Nat) ({ cls := "MidiDeskLaw", name := "clear", desc := "(LMidiDesk;I[J)I" } : Jvm.MethodName)) ∈ gw := gw_in 631 (by decide +kernel) (by decide +kernel)
theorem gw_632 : (Jvm.Cond.static ({ cls := "MidiDeskLaw", name := "clear", desc := "(LMidiDesk;I[J)I" } : Jvm.MethodName)) ∈ gw := gw_in 632 (by decide +kernel) (by decide +kernel)
theorem gw_633 : (Jvm.Cond.codeWith ({ cls := "MidiDeskLaw", name := "clear", desc := "(LMidiDesk;I[J)I" } : Jvm.MethodName) method_7_code (4 : Nat) (Option.some Jvm.ClassFile.FieldType.int) [((0 : Nat), (9 : Nat), (12 : Nat), (13 : Nat)), ((0 : Nat), (9 : Nat), (15 : Nat), (15 : Nat))]) ∈ gw := gw_in 633 (by decide +kernel) (by decide +kernel)
theorem gw_646 : (Jvm.Cond.methodLink "MidiDeskLaw" (31 : Nat) ({ cls := "MidiDesk", name := "write", desc := "(IZ)I" } : Jvm.MethodName)) ∈ gw := gw_in 646 (by decide +kernel) (by decide +kernel)
theorem gw_647 : (Jvm.Cond.instanceMethod ({ cls := "MidiDesk", name := "write", desc := "(IZ)I" } : Jvm.MethodName)) ∈ gw := gw_in 647 (by decide +kernel) (by decide +kernel)
theorem gw_648 : (Jvm.Cond.selects "MidiDesk" ({ cls := "MidiDesk", name := "write", desc := "(IZ)I" } : Jvm.MethodName) ({ cls := "MidiDesk", name := "write", desc := "(IZ)I" } : Jvm.MethodName)) ∈ gw := gw_in 648 (by decide +kernel) (by decide +kernel)
theorem gw_649 : (Jvm.Cond.code ({ cls := "MidiDesk", name := "write", desc := "(IZ)I" } : Jvm.MethodName) prog_1_method_12_code (4 : Nat) (Option.some Jvm.ClassFile.FieldType.int)) ∈ gw := gw_in 649 (by decide +kernel) (by decide +kernel)
theorem gw_643 : (Jvm.Cond.methodLink "MidiDeskLaw" (85 : Nat) ({ cls := "MidiDeskLaw", name := "write", desc := "(LMidiDesk;IZ[J)I" } : Jvm.MethodName)) ∈ gw := gw_in 643 (by decide +kernel) (by decide +kernel)
theorem gw_644 : (Jvm.Cond.static ({ cls := "MidiDeskLaw", name := "write", desc := "(LMidiDesk;IZ[J)I" } : Jvm.MethodName)) ∈ gw := gw_in 644 (by decide +kernel) (by decide +kernel)
theorem gw_645 : (Jvm.Cond.codeWith ({ cls := "MidiDeskLaw", name := "write", desc := "(LMidiDesk;IZ[J)I" } : Jvm.MethodName) method_8_code (5 : Nat) (Option.some Jvm.ClassFile.FieldType.int) [((0 : Nat), (10 : Nat), (13 : Nat), (13 : Nat)), ((0 : Nat), (10 : Nat), (17 : Nat), (15 : Nat))]) ∈ gw := gw_in 645 (by decide +kernel) (by decide +kernel)
theorem gw_51 : (Jvm.Cond.initialized "MidiDeskLaw") ∈ gw := gw_in 51 (by decide +kernel) (by decide +kernel)
abbrev cL_time : ByteArray := method_3_code
abbrev yL_time : MethodName := ⟨"MidiDeskLaw", "time", "(LMidiDesk;I[J)I"⟩
abbrev hhL_time : List (Nat × Nat × Nat × Nat) := [(0, 8, 11, 13), (0, 8, 14, 15)]
theorem kL_time : yL_time.cls ≠ "java/lang/invoke/MethodHandle" ∧ yL_time.cls ≠ "java/lang/invoke/VarHandle" ∧ (parseMethodDescriptor yL_time.desc).map (fun d => d.parameters.length) = some 3 := by decide +kernel
theorem dL_time_0 : decode cL_time 0 = .ok (.aload_n 2, 1) := by decide +kernel
theorem dL_time_1 : decode cL_time 1 = .ok (.iconst 0, 1) := by decide +kernel
theorem dL_time_2 : decode cL_time 2 = .ok (.aload_n 0, 1) := by decide +kernel
theorem dL_time_3 : decode cL_time 3 = .ok (.iload_n 1, 1) := by decide +kernel
theorem dL_time_4 : decode cL_time 4 = .ok (.invokevirtual 7, 3) := by decide +kernel
theorem dL_time_7 : decode cL_time 7 = .ok (.lastore, 1) := by decide +kernel
theorem dL_time_8 : decode cL_time 8 = .ok (.goto 9, 3) := by decide +kernel
theorem dL_time_11 : decode cL_time 11 = .ok (.astore_n 3, 1) := by decide +kernel
theorem dL_time_12 : decode cL_time 12 = .ok (.iconst 1, 1) := by decide +kernel
theorem dL_time_13 : decode cL_time 13 = .ok (.ireturn, 1) := by decide +kernel
theorem dL_time_14 : decode cL_time 14 = .ok (.astore_n 3, 1) := by decide +kernel
theorem dL_time_15 : decode cL_time 15 = .ok (.iconst 2, 1) := by decide +kernel
theorem dL_time_16 : decode cL_time 16 = .ok (.ireturn, 1) := by decide +kernel
theorem dL_time_17 : decode cL_time 17 = .ok (.iconst 0, 1) := by decide +kernel
theorem dL_time_18 : decode cL_time 18 = .ok (.ireturn, 1) := by decide +kernel
abbrev rL_time : Room := { frames := rD_time.frames + 1, cells := 0, slots := 0, locals := rD_time.locals + 24 }
set_option maxHeartbeats 4000000 in
set_option maxRecDepth 100000 in
theorem cL_time_ret {l : Launch} {g : gT} {qq ad ea : Nat → Nat} {h : cH} {X : va_W} {z z' : cZ} {qo : Nat} {f : Nat → Int64} {x1 : Int32} {r' : Int64} (hf : fD_time h z x1 = some (r', z')) : hMet l yL_time cL_time 4 hhL_time rL_time g qq ad ea h (oc g qo f :: X) z [.ref (qq 0), .int x1, .ref qo] (some (.int 0)) (oc g qo (vp_updL f 0 r') :: X) z' := by
  refine h_entry (by decide) (Nat.le_of_ble_eq_true rfl) ?_
  intro p e s m args below meth c ls C hr hlk ht hl hw hE hno
  have C : mCx p m c cL_time 4 s args g "MidiDeskLaw" := C
  have hl : lv_has ls 4 [(0, .ref (qq 0)), (1, .int x1), (2, .ref qo)] := hl
  refine lv_aload_n C.1.1 C.1.2.1 dL_time_0 rfl (lv_at hl 2 rfl) ?_
  refine lv_iconst (v := 0) C.1.1 C.1.2.1 dL_time_1 (by decide) ?_
  refine lv_aload_n C.1.1 C.1.2.1 dL_time_2 rfl (lv_at hl 0 rfl) ?_
  refine lv_iload_n C.1.1 C.1.2.1 dL_time_3 rfl (lv_at hl 1 rfl) ?_
  refine c_callV (rest := [.int 0, .ref qo]) (As := [.int x1]) (b := qq 0) C hl.1 hw (cD_time_met hf) rfl (callW_of (rm := rD_time) (C := "MidiDesk") 1 C.1.2.2.2.2 gw_476 gw_477 gw_478 gw_52 gw_479 kD_time ⟨(Nat.le_of_ble_eq_true rfl), (Nat.le_of_ble_eq_true rfl)⟩) (c_recv_desk C.2 hw) rfl rfl (Nat.le_of_ble_eq_true rfl) dL_time_4 ⟨(Nat.le_of_ble_eq_true rfl), (Nat.le_of_ble_eq_true rfl)⟩ (fun H1 locs1 hw => ?_)
  refine W.eq (g2 := F0 m 7 ls [.long r', .int 0, .ref qo]) rfl ?_
  refine va_last (D := g.1) (x := r') C.1.1 C.1.2.1 C.2.1 hw.1 hw.2.1 hw.2.2.1 (h.2.1 + 10) 1 cw_x rfl vi01 dL_time_7 (fun H2 locs2 hP hD hS => ?_)
  rw [cw_xset] at hP hD
  have hZ := hw.2.2.2
  refine lv_goto (tgt := 17) C.1.1 C.1.2.1 dL_time_8 (by decide) ?_
  refine lv_iconst (v := 0) C.1.1 C.1.2.1 dL_time_17 (by decide) ?_
  exact c_reti C hr hlk rfl ⟨hP, hD, hS, hZ⟩ rfl rfl ⟨(Nat.le_of_ble_eq_true rfl), (Nat.le_of_ble_eq_true rfl)⟩ dL_time_18
abbrev rtL_time : Room := { frames := tfrD_time + 1, cells := 1, slots := 6, locals := tloD_time + 24 }
set_option maxHeartbeats 4000000 in
set_option maxRecDepth 100000 in
theorem cL_time_thr {l : Launch} {g : gT} {qq ad ea : Nat → Nat} {h : cH} {X : va_W} {z : cZ} {qo : Nat} {f : Nat → Int64} {x1 : Int32} {k : Nat} (hfl : l.flags = flags0) (hk : k = 1 ∨ k = 2) (hf : tD_time h z x1 = some k) : hMet l yL_time cL_time 4 hhL_time rtL_time g qq ad ea h (oc g qo f :: X) z [.ref (qq 0), .int x1, .ref qo] (some (.int (if k = 1 then 1 else 2))) (oc g qo f :: X) z := by
  refine h_entry (by decide) (Nat.le_of_ble_eq_true rfl) ?_
  intro p e s m args below meth c ls C hr hlk ht hl hw hE hno
  have C : mCx p m c cL_time 4 s args g "MidiDeskLaw" := C
  have hl : lv_has ls 4 [(0, .ref (qq 0)), (1, .int x1), (2, .ref qo)] := hl
  refine lv_aload_n C.1.1 C.1.2.1 dL_time_0 rfl (lv_at hl 2 rfl) ?_
  refine lv_iconst (v := 0) C.1.1 C.1.2.1 dL_time_1 (by decide) ?_
  refine lv_aload_n C.1.1 C.1.2.1 dL_time_2 rfl (lv_at hl 0 rfl) ?_
  refine lv_iload_n C.1.1 C.1.2.1 dL_time_3 rfl (lv_at hl 1 rfl) ?_
  refine t_catch (k := k) (rest := [.int 0, .ref qo]) (As := [.int x1]) (b := qq 0) C hl.1 hw hE (tD_time_met hfl hf) hk (callW_of (rm := { frames := tfrD_time, cells := 1, slots := 6, locals := tloD_time }) (C := "MidiDesk") 1 C.1.2.2.2.2 gw_476 gw_477 gw_478 gw_52 gw_479 kD_time ⟨(Nat.le_of_ble_eq_true rfl), (Nat.le_of_ble_eq_true rfl)⟩) (c_recv_desk C.2 hw) rfl rfl (Nat.le_of_ble_eq_true rfl) dL_time_4 ⟨(Nat.le_of_ble_eq_true rfl), (Nat.le_of_ble_eq_true rfl)⟩ ht (by decide) hno (fun x H1 locs1 hw => ?_)
  rcases hk with q | q <;> subst q
  · refine W.eq (g2 := F0 m 11 ls [.ref x]) rfl ?_
    refine lv_astore_n (lv' := [(3, .ref x), (0, .ref (qq 0)), (1, .int x1), (2, .ref qo)]) C.1.1 C.1.2.1 dL_time_11 rfl hl (by decide) rfl (fun ls hl => ?_)
    refine lv_iconst (v := 1) C.1.1 C.1.2.1 dL_time_12 (by decide) ?_
    exact c_reti C hr hlk rfl hw rfl rfl ⟨(Nat.le_of_ble_eq_true rfl), (Nat.le_of_ble_eq_true rfl)⟩ dL_time_13
  · refine W.eq (g2 := F0 m 14 ls [.ref x]) rfl ?_
    refine lv_astore_n (lv' := [(3, .ref x), (0, .ref (qq 0)), (1, .int x1), (2, .ref qo)]) C.1.1 C.1.2.1 dL_time_14 rfl hl (by decide) rfl (fun ls hl => ?_)
    refine lv_iconst (v := 2) C.1.1 C.1.2.1 dL_time_15 (by decide) ?_
    exact c_reti C hr hlk rfl hw rfl rfl ⟨(Nat.le_of_ble_eq_true rfl), (Nat.le_of_ble_eq_true rfl)⟩ dL_time_16
abbrev cL_rest : ByteArray := method_4_code
abbrev yL_rest : MethodName := ⟨"MidiDeskLaw", "rest", "(LMidiDesk;I[J)I"⟩
abbrev hhL_rest : List (Nat × Nat × Nat × Nat) := [(0, 8, 11, 13), (0, 8, 14, 15)]
theorem kL_rest : yL_rest.cls ≠ "java/lang/invoke/MethodHandle" ∧ yL_rest.cls ≠ "java/lang/invoke/VarHandle" ∧ (parseMethodDescriptor yL_rest.desc).map (fun d => d.parameters.length) = some 3 := by decide +kernel
theorem dL_rest_0 : decode cL_rest 0 = .ok (.aload_n 2, 1) := by decide +kernel
theorem dL_rest_1 : decode cL_rest 1 = .ok (.iconst 0, 1) := by decide +kernel
theorem dL_rest_2 : decode cL_rest 2 = .ok (.aload_n 0, 1) := by decide +kernel
theorem dL_rest_3 : decode cL_rest 3 = .ok (.iload_n 1, 1) := by decide +kernel
theorem dL_rest_4 : decode cL_rest 4 = .ok (.invokevirtual 17, 3) := by decide +kernel
theorem dL_rest_7 : decode cL_rest 7 = .ok (.lastore, 1) := by decide +kernel
theorem dL_rest_8 : decode cL_rest 8 = .ok (.goto 9, 3) := by decide +kernel
theorem dL_rest_11 : decode cL_rest 11 = .ok (.astore_n 3, 1) := by decide +kernel
theorem dL_rest_12 : decode cL_rest 12 = .ok (.iconst 1, 1) := by decide +kernel
theorem dL_rest_13 : decode cL_rest 13 = .ok (.ireturn, 1) := by decide +kernel
theorem dL_rest_14 : decode cL_rest 14 = .ok (.astore_n 3, 1) := by decide +kernel
theorem dL_rest_15 : decode cL_rest 15 = .ok (.iconst 2, 1) := by decide +kernel
theorem dL_rest_16 : decode cL_rest 16 = .ok (.ireturn, 1) := by decide +kernel
theorem dL_rest_17 : decode cL_rest 17 = .ok (.iconst 0, 1) := by decide +kernel
theorem dL_rest_18 : decode cL_rest 18 = .ok (.ireturn, 1) := by decide +kernel
abbrev rL_rest : Room := { frames := rD_rest.frames + 1, cells := 0, slots := 0, locals := rD_rest.locals + 24 }
set_option maxHeartbeats 4000000 in
set_option maxRecDepth 100000 in
theorem cL_rest_ret {l : Launch} {g : gT} {qq ad ea : Nat → Nat} {h : cH} {X : va_W} {z z' : cZ} {qo : Nat} {f : Nat → Int64} {x1 : Int32} {r' : Int64} (hf : fD_rest h z x1 = some (r', z')) : hMet l yL_rest cL_rest 4 hhL_rest rL_rest g qq ad ea h (oc g qo f :: X) z [.ref (qq 0), .int x1, .ref qo] (some (.int 0)) (oc g qo (vp_updL f 0 r') :: X) z' := by
  refine h_entry (by decide) (Nat.le_of_ble_eq_true rfl) ?_
  intro p e s m args below meth c ls C hr hlk ht hl hw hE hno
  have C : mCx p m c cL_rest 4 s args g "MidiDeskLaw" := C
  have hl : lv_has ls 4 [(0, .ref (qq 0)), (1, .int x1), (2, .ref qo)] := hl
  refine lv_aload_n C.1.1 C.1.2.1 dL_rest_0 rfl (lv_at hl 2 rfl) ?_
  refine lv_iconst (v := 0) C.1.1 C.1.2.1 dL_rest_1 (by decide) ?_
  refine lv_aload_n C.1.1 C.1.2.1 dL_rest_2 rfl (lv_at hl 0 rfl) ?_
  refine lv_iload_n C.1.1 C.1.2.1 dL_rest_3 rfl (lv_at hl 1 rfl) ?_
  refine c_callV (rest := [.int 0, .ref qo]) (As := [.int x1]) (b := qq 0) C hl.1 hw (cD_rest_met hf) rfl (callW_of (rm := rD_rest) (C := "MidiDesk") 1 C.1.2.2.2.2 gw_587 gw_588 gw_589 gw_52 gw_590 kD_rest ⟨(Nat.le_of_ble_eq_true rfl), (Nat.le_of_ble_eq_true rfl)⟩) (c_recv_desk C.2 hw) rfl rfl (Nat.le_of_ble_eq_true rfl) dL_rest_4 ⟨(Nat.le_of_ble_eq_true rfl), (Nat.le_of_ble_eq_true rfl)⟩ (fun H1 locs1 hw => ?_)
  refine W.eq (g2 := F0 m 7 ls [.long r', .int 0, .ref qo]) rfl ?_
  refine va_last (D := g.1) (x := r') C.1.1 C.1.2.1 C.2.1 hw.1 hw.2.1 hw.2.2.1 (h.2.1 + 10) 1 cw_x rfl vi01 dL_rest_7 (fun H2 locs2 hP hD hS => ?_)
  rw [cw_xset] at hP hD
  have hZ := hw.2.2.2
  refine lv_goto (tgt := 17) C.1.1 C.1.2.1 dL_rest_8 (by decide) ?_
  refine lv_iconst (v := 0) C.1.1 C.1.2.1 dL_rest_17 (by decide) ?_
  exact c_reti C hr hlk rfl ⟨hP, hD, hS, hZ⟩ rfl rfl ⟨(Nat.le_of_ble_eq_true rfl), (Nat.le_of_ble_eq_true rfl)⟩ dL_rest_18
abbrev rtL_rest : Room := { frames := tfrD_rest + 1, cells := 1, slots := 6, locals := tloD_rest + 24 }
set_option maxHeartbeats 4000000 in
set_option maxRecDepth 100000 in
theorem cL_rest_thr {l : Launch} {g : gT} {qq ad ea : Nat → Nat} {h : cH} {X : va_W} {z : cZ} {qo : Nat} {f : Nat → Int64} {x1 : Int32} {k : Nat} (hfl : l.flags = flags0) (hk : k = 1 ∨ k = 2) (hf : tD_rest h z x1 = some k) : hMet l yL_rest cL_rest 4 hhL_rest rtL_rest g qq ad ea h (oc g qo f :: X) z [.ref (qq 0), .int x1, .ref qo] (some (.int (if k = 1 then 1 else 2))) (oc g qo f :: X) z := by
  refine h_entry (by decide) (Nat.le_of_ble_eq_true rfl) ?_
  intro p e s m args below meth c ls C hr hlk ht hl hw hE hno
  have C : mCx p m c cL_rest 4 s args g "MidiDeskLaw" := C
  have hl : lv_has ls 4 [(0, .ref (qq 0)), (1, .int x1), (2, .ref qo)] := hl
  refine lv_aload_n C.1.1 C.1.2.1 dL_rest_0 rfl (lv_at hl 2 rfl) ?_
  refine lv_iconst (v := 0) C.1.1 C.1.2.1 dL_rest_1 (by decide) ?_
  refine lv_aload_n C.1.1 C.1.2.1 dL_rest_2 rfl (lv_at hl 0 rfl) ?_
  refine lv_iload_n C.1.1 C.1.2.1 dL_rest_3 rfl (lv_at hl 1 rfl) ?_
  refine t_catch (k := k) (rest := [.int 0, .ref qo]) (As := [.int x1]) (b := qq 0) C hl.1 hw hE (tD_rest_met hfl hf) hk (callW_of (rm := { frames := tfrD_rest, cells := 1, slots := 6, locals := tloD_rest }) (C := "MidiDesk") 1 C.1.2.2.2.2 gw_587 gw_588 gw_589 gw_52 gw_590 kD_rest ⟨(Nat.le_of_ble_eq_true rfl), (Nat.le_of_ble_eq_true rfl)⟩) (c_recv_desk C.2 hw) rfl rfl (Nat.le_of_ble_eq_true rfl) dL_rest_4 ⟨(Nat.le_of_ble_eq_true rfl), (Nat.le_of_ble_eq_true rfl)⟩ ht (by decide) hno (fun x H1 locs1 hw => ?_)
  rcases hk with q | q <;> subst q
  · refine W.eq (g2 := F0 m 11 ls [.ref x]) rfl ?_
    refine lv_astore_n (lv' := [(3, .ref x), (0, .ref (qq 0)), (1, .int x1), (2, .ref qo)]) C.1.1 C.1.2.1 dL_rest_11 rfl hl (by decide) rfl (fun ls hl => ?_)
    refine lv_iconst (v := 1) C.1.1 C.1.2.1 dL_rest_12 (by decide) ?_
    exact c_reti C hr hlk rfl hw rfl rfl ⟨(Nat.le_of_ble_eq_true rfl), (Nat.le_of_ble_eq_true rfl)⟩ dL_rest_13
  · refine W.eq (g2 := F0 m 14 ls [.ref x]) rfl ?_
    refine lv_astore_n (lv' := [(3, .ref x), (0, .ref (qq 0)), (1, .int x1), (2, .ref qo)]) C.1.1 C.1.2.1 dL_rest_14 rfl hl (by decide) rfl (fun ls hl => ?_)
    refine lv_iconst (v := 2) C.1.1 C.1.2.1 dL_rest_15 (by decide) ?_
    exact c_reti C hr hlk rfl hw rfl rfl ⟨(Nat.le_of_ble_eq_true rfl), (Nat.le_of_ble_eq_true rfl)⟩ dL_rest_16
abbrev cL_transpose : ByteArray := method_5_code
abbrev yL_transpose : MethodName := ⟨"MidiDeskLaw", "transpose", "(LMidiDesk;II[J)I"⟩
abbrev hhL_transpose : List (Nat × Nat × Nat × Nat) := [(0, 10, 13, 13), (0, 10, 17, 15)]
theorem kL_transpose : yL_transpose.cls ≠ "java/lang/invoke/MethodHandle" ∧ yL_transpose.cls ≠ "java/lang/invoke/VarHandle" ∧ (parseMethodDescriptor yL_transpose.desc).map (fun d => d.parameters.length) = some 4 := by decide +kernel
theorem dL_transpose_0 : decode cL_transpose 0 = .ok (.aload_n 3, 1) := by decide +kernel
theorem dL_transpose_1 : decode cL_transpose 1 = .ok (.iconst 0, 1) := by decide +kernel
theorem dL_transpose_2 : decode cL_transpose 2 = .ok (.aload_n 0, 1) := by decide +kernel
theorem dL_transpose_3 : decode cL_transpose 3 = .ok (.iload_n 1, 1) := by decide +kernel
theorem dL_transpose_4 : decode cL_transpose 4 = .ok (.iload_n 2, 1) := by decide +kernel
theorem dL_transpose_5 : decode cL_transpose 5 = .ok (.invokevirtual 20, 3) := by decide +kernel
theorem dL_transpose_8 : decode cL_transpose 8 = .ok (.i2l, 1) := by decide +kernel
theorem dL_transpose_9 : decode cL_transpose 9 = .ok (.lastore, 1) := by decide +kernel
theorem dL_transpose_10 : decode cL_transpose 10 = .ok (.goto 11, 3) := by decide +kernel
theorem dL_transpose_13 : decode cL_transpose 13 = .ok (.astore 4, 2) := by decide +kernel
theorem dL_transpose_15 : decode cL_transpose 15 = .ok (.iconst 1, 1) := by decide +kernel
theorem dL_transpose_16 : decode cL_transpose 16 = .ok (.ireturn, 1) := by decide +kernel
theorem dL_transpose_17 : decode cL_transpose 17 = .ok (.astore 4, 2) := by decide +kernel
theorem dL_transpose_19 : decode cL_transpose 19 = .ok (.iconst 2, 1) := by decide +kernel
theorem dL_transpose_20 : decode cL_transpose 20 = .ok (.ireturn, 1) := by decide +kernel
theorem dL_transpose_21 : decode cL_transpose 21 = .ok (.iconst 0, 1) := by decide +kernel
theorem dL_transpose_22 : decode cL_transpose 22 = .ok (.ireturn, 1) := by decide +kernel
abbrev rL_transpose : Room := { frames := rD_transpose.frames + 1, cells := 0, slots := 0, locals := rD_transpose.locals + 24 }
set_option maxHeartbeats 4000000 in
set_option maxRecDepth 100000 in
theorem cL_transpose_ret {l : Launch} {g : gT} {qq ad ea : Nat → Nat} {h : cH} {X : va_W} {z z' : cZ} {qo : Nat} {f : Nat → Int64} {x1 x2 : Int32} {r' : Int32} (hf : fD_transpose h z x1 x2 = some (r', z')) : hMet l yL_transpose cL_transpose 5 hhL_transpose rL_transpose g qq ad ea h (oc g qo f :: X) z [.ref (qq 0), .int x1, .int x2, .ref qo] (some (.int 0)) (oc g qo (vp_updL f 0 r'.toInt64) :: X) z' := by
  refine h_entry (by decide) (Nat.le_of_ble_eq_true rfl) ?_
  intro p e s m args below meth c ls C hr hlk ht hl hw hE hno
  have C : mCx p m c cL_transpose 5 s args g "MidiDeskLaw" := C
  have hl : lv_has ls 5 [(0, .ref (qq 0)), (1, .int x1), (2, .int x2), (3, .ref qo)] := hl
  refine lv_aload_n C.1.1 C.1.2.1 dL_transpose_0 rfl (lv_at hl 3 rfl) ?_
  refine lv_iconst (v := 0) C.1.1 C.1.2.1 dL_transpose_1 (by decide) ?_
  refine lv_aload_n C.1.1 C.1.2.1 dL_transpose_2 rfl (lv_at hl 0 rfl) ?_
  refine lv_iload_n C.1.1 C.1.2.1 dL_transpose_3 rfl (lv_at hl 1 rfl) ?_
  refine lv_iload_n C.1.1 C.1.2.1 dL_transpose_4 rfl (lv_at hl 2 rfl) ?_
  refine c_callV (rest := [.int 0, .ref qo]) (As := [.int x1, .int x2]) (b := qq 0) C hl.1 hw (cD_transpose_met hf) rfl (callW_of (rm := rD_transpose) (C := "MidiDesk") 2 C.1.2.2.2.2 gw_594 gw_595 gw_596 gw_52 gw_597 kD_transpose ⟨(Nat.le_of_ble_eq_true rfl), (Nat.le_of_ble_eq_true rfl)⟩) (c_recv_desk C.2 hw) rfl rfl (Nat.le_of_ble_eq_true rfl) dL_transpose_5 ⟨(Nat.le_of_ble_eq_true rfl), (Nat.le_of_ble_eq_true rfl)⟩ (fun H1 locs1 hw => ?_)
  refine W.eq (g2 := F0 m 8 ls [.int r', .int 0, .ref qo]) rfl ?_
  refine lv_i2l (v := r'.toInt64) C.1.1 C.1.2.1 dL_transpose_8 rfl ?_
  refine va_last (D := g.1) (x := r'.toInt64) C.1.1 C.1.2.1 C.2.1 hw.1 hw.2.1 hw.2.2.1 (h.2.1 + 10) 1 cw_x rfl vi01 dL_transpose_9 (fun H2 locs2 hP hD hS => ?_)
  rw [cw_xset] at hP hD
  have hZ := hw.2.2.2
  refine lv_goto (tgt := 21) C.1.1 C.1.2.1 dL_transpose_10 (by decide) ?_
  refine lv_iconst (v := 0) C.1.1 C.1.2.1 dL_transpose_21 (by decide) ?_
  exact c_reti C hr hlk rfl ⟨hP, hD, hS, hZ⟩ rfl rfl ⟨(Nat.le_of_ble_eq_true rfl), (Nat.le_of_ble_eq_true rfl)⟩ dL_transpose_22
abbrev rtL_transpose : Room := { frames := tfrD_transpose + 1, cells := 1, slots := 6, locals := tloD_transpose + 24 }
set_option maxHeartbeats 4000000 in
set_option maxRecDepth 100000 in
theorem cL_transpose_thr {l : Launch} {g : gT} {qq ad ea : Nat → Nat} {h : cH} {X : va_W} {z : cZ} {qo : Nat} {f : Nat → Int64} {x1 x2 : Int32} {k : Nat} (hfl : l.flags = flags0) (hk : k = 1 ∨ k = 2) (hf : tD_transpose h z x1 x2 = some k) : hMet l yL_transpose cL_transpose 5 hhL_transpose rtL_transpose g qq ad ea h (oc g qo f :: X) z [.ref (qq 0), .int x1, .int x2, .ref qo] (some (.int (if k = 1 then 1 else 2))) (oc g qo f :: X) z := by
  refine h_entry (by decide) (Nat.le_of_ble_eq_true rfl) ?_
  intro p e s m args below meth c ls C hr hlk ht hl hw hE hno
  have C : mCx p m c cL_transpose 5 s args g "MidiDeskLaw" := C
  have hl : lv_has ls 5 [(0, .ref (qq 0)), (1, .int x1), (2, .int x2), (3, .ref qo)] := hl
  refine lv_aload_n C.1.1 C.1.2.1 dL_transpose_0 rfl (lv_at hl 3 rfl) ?_
  refine lv_iconst (v := 0) C.1.1 C.1.2.1 dL_transpose_1 (by decide) ?_
  refine lv_aload_n C.1.1 C.1.2.1 dL_transpose_2 rfl (lv_at hl 0 rfl) ?_
  refine lv_iload_n C.1.1 C.1.2.1 dL_transpose_3 rfl (lv_at hl 1 rfl) ?_
  refine lv_iload_n C.1.1 C.1.2.1 dL_transpose_4 rfl (lv_at hl 2 rfl) ?_
  refine t_catch (k := k) (rest := [.int 0, .ref qo]) (As := [.int x1, .int x2]) (b := qq 0) C hl.1 hw hE (tD_transpose_met hfl hf) hk (callW_of (rm := { frames := tfrD_transpose, cells := 1, slots := 6, locals := tloD_transpose }) (C := "MidiDesk") 2 C.1.2.2.2.2 gw_594 gw_595 gw_596 gw_52 gw_597 kD_transpose ⟨(Nat.le_of_ble_eq_true rfl), (Nat.le_of_ble_eq_true rfl)⟩) (c_recv_desk C.2 hw) rfl rfl (Nat.le_of_ble_eq_true rfl) dL_transpose_5 ⟨(Nat.le_of_ble_eq_true rfl), (Nat.le_of_ble_eq_true rfl)⟩ ht (by decide) hno (fun x H1 locs1 hw => ?_)
  rcases hk with q | q <;> subst q
  · refine W.eq (g2 := F0 m 13 ls [.ref x]) rfl ?_
    refine lv_astore (lv' := [(4, .ref x), (0, .ref (qq 0)), (1, .int x1), (2, .int x2), (3, .ref qo)]) C.1.1 C.1.2.1 dL_transpose_13 hl (by decide) rfl (fun ls hl => ?_)
    refine lv_iconst (v := 1) C.1.1 C.1.2.1 dL_transpose_15 (by decide) ?_
    exact c_reti C hr hlk rfl hw rfl rfl ⟨(Nat.le_of_ble_eq_true rfl), (Nat.le_of_ble_eq_true rfl)⟩ dL_transpose_16
  · refine W.eq (g2 := F0 m 17 ls [.ref x]) rfl ?_
    refine lv_astore (lv' := [(4, .ref x), (0, .ref (qq 0)), (1, .int x1), (2, .int x2), (3, .ref qo)]) C.1.1 C.1.2.1 dL_transpose_17 hl (by decide) rfl (fun ls hl => ?_)
    refine lv_iconst (v := 2) C.1.1 C.1.2.1 dL_transpose_19 (by decide) ?_
    exact c_reti C hr hlk rfl hw rfl rfl ⟨(Nat.le_of_ble_eq_true rfl), (Nat.le_of_ble_eq_true rfl)⟩ dL_transpose_20
abbrev cL_grid : ByteArray := method_6_code
abbrev yL_grid : MethodName := ⟨"MidiDeskLaw", "grid", "(LMidiDesk;I[J)I"⟩
abbrev hhL_grid : List (Nat × Nat × Nat × Nat) := [(0, 9, 12, 13), (0, 9, 15, 15)]
theorem kL_grid : yL_grid.cls ≠ "java/lang/invoke/MethodHandle" ∧ yL_grid.cls ≠ "java/lang/invoke/VarHandle" ∧ (parseMethodDescriptor yL_grid.desc).map (fun d => d.parameters.length) = some 3 := by decide +kernel
theorem dL_grid_0 : decode cL_grid 0 = .ok (.aload_n 2, 1) := by decide +kernel
theorem dL_grid_1 : decode cL_grid 1 = .ok (.iconst 0, 1) := by decide +kernel
theorem dL_grid_2 : decode cL_grid 2 = .ok (.aload_n 0, 1) := by decide +kernel
theorem dL_grid_3 : decode cL_grid 3 = .ok (.iload_n 1, 1) := by decide +kernel
theorem dL_grid_4 : decode cL_grid 4 = .ok (.invokevirtual 24, 3) := by decide +kernel
theorem dL_grid_7 : decode cL_grid 7 = .ok (.i2l, 1) := by decide +kernel
theorem dL_grid_8 : decode cL_grid 8 = .ok (.lastore, 1) := by decide +kernel
theorem dL_grid_9 : decode cL_grid 9 = .ok (.goto 9, 3) := by decide +kernel
theorem dL_grid_12 : decode cL_grid 12 = .ok (.astore_n 3, 1) := by decide +kernel
theorem dL_grid_13 : decode cL_grid 13 = .ok (.iconst 1, 1) := by decide +kernel
theorem dL_grid_14 : decode cL_grid 14 = .ok (.ireturn, 1) := by decide +kernel
theorem dL_grid_15 : decode cL_grid 15 = .ok (.astore_n 3, 1) := by decide +kernel
theorem dL_grid_16 : decode cL_grid 16 = .ok (.iconst 2, 1) := by decide +kernel
theorem dL_grid_17 : decode cL_grid 17 = .ok (.ireturn, 1) := by decide +kernel
theorem dL_grid_18 : decode cL_grid 18 = .ok (.iconst 0, 1) := by decide +kernel
theorem dL_grid_19 : decode cL_grid 19 = .ok (.ireturn, 1) := by decide +kernel
abbrev rL_grid : Room := { frames := rD_grid.frames + 1, cells := 0, slots := 0, locals := rD_grid.locals + 24 }
set_option maxHeartbeats 4000000 in
set_option maxRecDepth 100000 in
theorem cL_grid_ret {l : Launch} {g : gT} {qq ad ea : Nat → Nat} {h : cH} {X : va_W} {z z' : cZ} {qo : Nat} {f : Nat → Int64} {x1 : Int32} {r' : Int32} (hf : fD_grid h z x1 = some (r', z')) : hMet l yL_grid cL_grid 4 hhL_grid rL_grid g qq ad ea h (oc g qo f :: X) z [.ref (qq 0), .int x1, .ref qo] (some (.int 0)) (oc g qo (vp_updL f 0 r'.toInt64) :: X) z' := by
  refine h_entry (by decide) (Nat.le_of_ble_eq_true rfl) ?_
  intro p e s m args below meth c ls C hr hlk ht hl hw hE hno
  have C : mCx p m c cL_grid 4 s args g "MidiDeskLaw" := C
  have hl : lv_has ls 4 [(0, .ref (qq 0)), (1, .int x1), (2, .ref qo)] := hl
  refine lv_aload_n C.1.1 C.1.2.1 dL_grid_0 rfl (lv_at hl 2 rfl) ?_
  refine lv_iconst (v := 0) C.1.1 C.1.2.1 dL_grid_1 (by decide) ?_
  refine lv_aload_n C.1.1 C.1.2.1 dL_grid_2 rfl (lv_at hl 0 rfl) ?_
  refine lv_iload_n C.1.1 C.1.2.1 dL_grid_3 rfl (lv_at hl 1 rfl) ?_
  refine c_callV (rest := [.int 0, .ref qo]) (As := [.int x1]) (b := qq 0) C hl.1 hw (cD_grid_met hf) rfl (callW_of (rm := rD_grid) (C := "MidiDesk") 1 C.1.2.2.2.2 gw_615 gw_616 gw_617 gw_52 gw_618 kD_grid ⟨(Nat.le_of_ble_eq_true rfl), (Nat.le_of_ble_eq_true rfl)⟩) (c_recv_desk C.2 hw) rfl rfl (Nat.le_of_ble_eq_true rfl) dL_grid_4 ⟨(Nat.le_of_ble_eq_true rfl), (Nat.le_of_ble_eq_true rfl)⟩ (fun H1 locs1 hw => ?_)
  refine W.eq (g2 := F0 m 7 ls [.int r', .int 0, .ref qo]) rfl ?_
  refine lv_i2l (v := r'.toInt64) C.1.1 C.1.2.1 dL_grid_7 rfl ?_
  refine va_last (D := g.1) (x := r'.toInt64) C.1.1 C.1.2.1 C.2.1 hw.1 hw.2.1 hw.2.2.1 (h.2.1 + 10) 1 cw_x rfl vi01 dL_grid_8 (fun H2 locs2 hP hD hS => ?_)
  rw [cw_xset] at hP hD
  have hZ := hw.2.2.2
  refine lv_goto (tgt := 18) C.1.1 C.1.2.1 dL_grid_9 (by decide) ?_
  refine lv_iconst (v := 0) C.1.1 C.1.2.1 dL_grid_18 (by decide) ?_
  exact c_reti C hr hlk rfl ⟨hP, hD, hS, hZ⟩ rfl rfl ⟨(Nat.le_of_ble_eq_true rfl), (Nat.le_of_ble_eq_true rfl)⟩ dL_grid_19
abbrev rtL_grid : Room := { frames := tfrD_grid + 1, cells := 1, slots := 6, locals := tloD_grid + 24 }
set_option maxHeartbeats 4000000 in
set_option maxRecDepth 100000 in
theorem cL_grid_thr {l : Launch} {g : gT} {qq ad ea : Nat → Nat} {h : cH} {X : va_W} {z : cZ} {qo : Nat} {f : Nat → Int64} {x1 : Int32} {k : Nat} (hfl : l.flags = flags0) (hk : k = 1 ∨ k = 2) (hf : tD_grid h z x1 = some k) : hMet l yL_grid cL_grid 4 hhL_grid rtL_grid g qq ad ea h (oc g qo f :: X) z [.ref (qq 0), .int x1, .ref qo] (some (.int (if k = 1 then 1 else 2))) (oc g qo f :: X) z := by
  refine h_entry (by decide) (Nat.le_of_ble_eq_true rfl) ?_
  intro p e s m args below meth c ls C hr hlk ht hl hw hE hno
  have C : mCx p m c cL_grid 4 s args g "MidiDeskLaw" := C
  have hl : lv_has ls 4 [(0, .ref (qq 0)), (1, .int x1), (2, .ref qo)] := hl
  refine lv_aload_n C.1.1 C.1.2.1 dL_grid_0 rfl (lv_at hl 2 rfl) ?_
  refine lv_iconst (v := 0) C.1.1 C.1.2.1 dL_grid_1 (by decide) ?_
  refine lv_aload_n C.1.1 C.1.2.1 dL_grid_2 rfl (lv_at hl 0 rfl) ?_
  refine lv_iload_n C.1.1 C.1.2.1 dL_grid_3 rfl (lv_at hl 1 rfl) ?_
  refine t_catch (k := k) (rest := [.int 0, .ref qo]) (As := [.int x1]) (b := qq 0) C hl.1 hw hE (tD_grid_met hfl hf) hk (callW_of (rm := { frames := tfrD_grid, cells := 1, slots := 6, locals := tloD_grid }) (C := "MidiDesk") 1 C.1.2.2.2.2 gw_615 gw_616 gw_617 gw_52 gw_618 kD_grid ⟨(Nat.le_of_ble_eq_true rfl), (Nat.le_of_ble_eq_true rfl)⟩) (c_recv_desk C.2 hw) rfl rfl (Nat.le_of_ble_eq_true rfl) dL_grid_4 ⟨(Nat.le_of_ble_eq_true rfl), (Nat.le_of_ble_eq_true rfl)⟩ ht (by decide) hno (fun x H1 locs1 hw => ?_)
  rcases hk with q | q <;> subst q
  · refine W.eq (g2 := F0 m 12 ls [.ref x]) rfl ?_
    refine lv_astore_n (lv' := [(3, .ref x), (0, .ref (qq 0)), (1, .int x1), (2, .ref qo)]) C.1.1 C.1.2.1 dL_grid_12 rfl hl (by decide) rfl (fun ls hl => ?_)
    refine lv_iconst (v := 1) C.1.1 C.1.2.1 dL_grid_13 (by decide) ?_
    exact c_reti C hr hlk rfl hw rfl rfl ⟨(Nat.le_of_ble_eq_true rfl), (Nat.le_of_ble_eq_true rfl)⟩ dL_grid_14
  · refine W.eq (g2 := F0 m 15 ls [.ref x]) rfl ?_
    refine lv_astore_n (lv' := [(3, .ref x), (0, .ref (qq 0)), (1, .int x1), (2, .ref qo)]) C.1.1 C.1.2.1 dL_grid_15 rfl hl (by decide) rfl (fun ls hl => ?_)
    refine lv_iconst (v := 2) C.1.1 C.1.2.1 dL_grid_16 (by decide) ?_
    exact c_reti C hr hlk rfl hw rfl rfl ⟨(Nat.le_of_ble_eq_true rfl), (Nat.le_of_ble_eq_true rfl)⟩ dL_grid_17
abbrev cL_clear : ByteArray := method_7_code
abbrev yL_clear : MethodName := ⟨"MidiDeskLaw", "clear", "(LMidiDesk;I[J)I"⟩
abbrev hhL_clear : List (Nat × Nat × Nat × Nat) := [(0, 9, 12, 13), (0, 9, 15, 15)]
theorem kL_clear : yL_clear.cls ≠ "java/lang/invoke/MethodHandle" ∧ yL_clear.cls ≠ "java/lang/invoke/VarHandle" ∧ (parseMethodDescriptor yL_clear.desc).map (fun d => d.parameters.length) = some 3 := by decide +kernel
theorem dL_clear_0 : decode cL_clear 0 = .ok (.aload_n 2, 1) := by decide +kernel
theorem dL_clear_1 : decode cL_clear 1 = .ok (.iconst 0, 1) := by decide +kernel
theorem dL_clear_2 : decode cL_clear 2 = .ok (.aload_n 0, 1) := by decide +kernel
theorem dL_clear_3 : decode cL_clear 3 = .ok (.iload_n 1, 1) := by decide +kernel
theorem dL_clear_4 : decode cL_clear 4 = .ok (.invokevirtual 28, 3) := by decide +kernel
theorem dL_clear_7 : decode cL_clear 7 = .ok (.i2l, 1) := by decide +kernel
theorem dL_clear_8 : decode cL_clear 8 = .ok (.lastore, 1) := by decide +kernel
theorem dL_clear_9 : decode cL_clear 9 = .ok (.goto 9, 3) := by decide +kernel
theorem dL_clear_12 : decode cL_clear 12 = .ok (.astore_n 3, 1) := by decide +kernel
theorem dL_clear_13 : decode cL_clear 13 = .ok (.iconst 1, 1) := by decide +kernel
theorem dL_clear_14 : decode cL_clear 14 = .ok (.ireturn, 1) := by decide +kernel
theorem dL_clear_15 : decode cL_clear 15 = .ok (.astore_n 3, 1) := by decide +kernel
theorem dL_clear_16 : decode cL_clear 16 = .ok (.iconst 2, 1) := by decide +kernel
theorem dL_clear_17 : decode cL_clear 17 = .ok (.ireturn, 1) := by decide +kernel
theorem dL_clear_18 : decode cL_clear 18 = .ok (.iconst 0, 1) := by decide +kernel
theorem dL_clear_19 : decode cL_clear 19 = .ok (.ireturn, 1) := by decide +kernel
abbrev rL_clear : Room := { frames := rD_clear.frames + 1, cells := 0, slots := 0, locals := rD_clear.locals + 24 }
set_option maxHeartbeats 4000000 in
set_option maxRecDepth 100000 in
theorem cL_clear_ret {l : Launch} {g : gT} {qq ad ea : Nat → Nat} {h : cH} {X : va_W} {z z' : cZ} {qo : Nat} {f : Nat → Int64} {x1 : Int32} {r' : Int32} (hf : fD_clear h z x1 = some (r', z')) : hMet l yL_clear cL_clear 4 hhL_clear rL_clear g qq ad ea h (oc g qo f :: X) z [.ref (qq 0), .int x1, .ref qo] (some (.int 0)) (oc g qo (vp_updL f 0 r'.toInt64) :: X) z' := by
  refine h_entry (by decide) (Nat.le_of_ble_eq_true rfl) ?_
  intro p e s m args below meth c ls C hr hlk ht hl hw hE hno
  have C : mCx p m c cL_clear 4 s args g "MidiDeskLaw" := C
  have hl : lv_has ls 4 [(0, .ref (qq 0)), (1, .int x1), (2, .ref qo)] := hl
  refine lv_aload_n C.1.1 C.1.2.1 dL_clear_0 rfl (lv_at hl 2 rfl) ?_
  refine lv_iconst (v := 0) C.1.1 C.1.2.1 dL_clear_1 (by decide) ?_
  refine lv_aload_n C.1.1 C.1.2.1 dL_clear_2 rfl (lv_at hl 0 rfl) ?_
  refine lv_iload_n C.1.1 C.1.2.1 dL_clear_3 rfl (lv_at hl 1 rfl) ?_
  refine c_callV (rest := [.int 0, .ref qo]) (As := [.int x1]) (b := qq 0) C hl.1 hw (cD_clear_met hf) rfl (callW_of (rm := rD_clear) (C := "MidiDesk") 1 C.1.2.2.2.2 gw_634 gw_635 gw_636 gw_52 gw_637 kD_clear ⟨(Nat.le_of_ble_eq_true rfl), (Nat.le_of_ble_eq_true rfl)⟩) (c_recv_desk C.2 hw) rfl rfl (Nat.le_of_ble_eq_true rfl) dL_clear_4 ⟨(Nat.le_of_ble_eq_true rfl), (Nat.le_of_ble_eq_true rfl)⟩ (fun H1 locs1 hw => ?_)
  refine W.eq (g2 := F0 m 7 ls [.int r', .int 0, .ref qo]) rfl ?_
  refine lv_i2l (v := r'.toInt64) C.1.1 C.1.2.1 dL_clear_7 rfl ?_
  refine va_last (D := g.1) (x := r'.toInt64) C.1.1 C.1.2.1 C.2.1 hw.1 hw.2.1 hw.2.2.1 (h.2.1 + 10) 1 cw_x rfl vi01 dL_clear_8 (fun H2 locs2 hP hD hS => ?_)
  rw [cw_xset] at hP hD
  have hZ := hw.2.2.2
  refine lv_goto (tgt := 18) C.1.1 C.1.2.1 dL_clear_9 (by decide) ?_
  refine lv_iconst (v := 0) C.1.1 C.1.2.1 dL_clear_18 (by decide) ?_
  exact c_reti C hr hlk rfl ⟨hP, hD, hS, hZ⟩ rfl rfl ⟨(Nat.le_of_ble_eq_true rfl), (Nat.le_of_ble_eq_true rfl)⟩ dL_clear_19
abbrev rtL_clear : Room := { frames := tfrD_clear + 1, cells := 1, slots := 6, locals := tloD_clear + 24 }
set_option maxHeartbeats 4000000 in
set_option maxRecDepth 100000 in
theorem cL_clear_thr {l : Launch} {g : gT} {qq ad ea : Nat → Nat} {h : cH} {X : va_W} {z : cZ} {qo : Nat} {f : Nat → Int64} {x1 : Int32} {k : Nat} (hfl : l.flags = flags0) (hk : k = 1 ∨ k = 2) (hf : tD_clear h z x1 = some k) : hMet l yL_clear cL_clear 4 hhL_clear rtL_clear g qq ad ea h (oc g qo f :: X) z [.ref (qq 0), .int x1, .ref qo] (some (.int (if k = 1 then 1 else 2))) (oc g qo f :: X) z := by
  refine h_entry (by decide) (Nat.le_of_ble_eq_true rfl) ?_
  intro p e s m args below meth c ls C hr hlk ht hl hw hE hno
  have C : mCx p m c cL_clear 4 s args g "MidiDeskLaw" := C
  have hl : lv_has ls 4 [(0, .ref (qq 0)), (1, .int x1), (2, .ref qo)] := hl
  refine lv_aload_n C.1.1 C.1.2.1 dL_clear_0 rfl (lv_at hl 2 rfl) ?_
  refine lv_iconst (v := 0) C.1.1 C.1.2.1 dL_clear_1 (by decide) ?_
  refine lv_aload_n C.1.1 C.1.2.1 dL_clear_2 rfl (lv_at hl 0 rfl) ?_
  refine lv_iload_n C.1.1 C.1.2.1 dL_clear_3 rfl (lv_at hl 1 rfl) ?_
  refine t_catch (k := k) (rest := [.int 0, .ref qo]) (As := [.int x1]) (b := qq 0) C hl.1 hw hE (tD_clear_met hfl hf) hk (callW_of (rm := { frames := tfrD_clear, cells := 1, slots := 6, locals := tloD_clear }) (C := "MidiDesk") 1 C.1.2.2.2.2 gw_634 gw_635 gw_636 gw_52 gw_637 kD_clear ⟨(Nat.le_of_ble_eq_true rfl), (Nat.le_of_ble_eq_true rfl)⟩) (c_recv_desk C.2 hw) rfl rfl (Nat.le_of_ble_eq_true rfl) dL_clear_4 ⟨(Nat.le_of_ble_eq_true rfl), (Nat.le_of_ble_eq_true rfl)⟩ ht (by decide) hno (fun x H1 locs1 hw => ?_)
  rcases hk with q | q <;> subst q
  · refine W.eq (g2 := F0 m 12 ls [.ref x]) rfl ?_
    refine lv_astore_n (lv' := [(3, .ref x), (0, .ref (qq 0)), (1, .int x1), (2, .ref qo)]) C.1.1 C.1.2.1 dL_clear_12 rfl hl (by decide) rfl (fun ls hl => ?_)
    refine lv_iconst (v := 1) C.1.1 C.1.2.1 dL_clear_13 (by decide) ?_
    exact c_reti C hr hlk rfl hw rfl rfl ⟨(Nat.le_of_ble_eq_true rfl), (Nat.le_of_ble_eq_true rfl)⟩ dL_clear_14
  · refine W.eq (g2 := F0 m 15 ls [.ref x]) rfl ?_
    refine lv_astore_n (lv' := [(3, .ref x), (0, .ref (qq 0)), (1, .int x1), (2, .ref qo)]) C.1.1 C.1.2.1 dL_clear_15 rfl hl (by decide) rfl (fun ls hl => ?_)
    refine lv_iconst (v := 2) C.1.1 C.1.2.1 dL_clear_16 (by decide) ?_
    exact c_reti C hr hlk rfl hw rfl rfl ⟨(Nat.le_of_ble_eq_true rfl), (Nat.le_of_ble_eq_true rfl)⟩ dL_clear_17
abbrev cL_write : ByteArray := method_8_code
abbrev yL_write : MethodName := ⟨"MidiDeskLaw", "write", "(LMidiDesk;IZ[J)I"⟩
abbrev hhL_write : List (Nat × Nat × Nat × Nat) := [(0, 10, 13, 13), (0, 10, 17, 15)]
theorem kL_write : yL_write.cls ≠ "java/lang/invoke/MethodHandle" ∧ yL_write.cls ≠ "java/lang/invoke/VarHandle" ∧ (parseMethodDescriptor yL_write.desc).map (fun d => d.parameters.length) = some 4 := by decide +kernel
theorem dL_write_0 : decode cL_write 0 = .ok (.aload_n 3, 1) := by decide +kernel
theorem dL_write_1 : decode cL_write 1 = .ok (.iconst 0, 1) := by decide +kernel
theorem dL_write_2 : decode cL_write 2 = .ok (.aload_n 0, 1) := by decide +kernel
theorem dL_write_3 : decode cL_write 3 = .ok (.iload_n 1, 1) := by decide +kernel
theorem dL_write_4 : decode cL_write 4 = .ok (.iload_n 2, 1) := by decide +kernel
theorem dL_write_5 : decode cL_write 5 = .ok (.invokevirtual 31, 3) := by decide +kernel
theorem dL_write_8 : decode cL_write 8 = .ok (.i2l, 1) := by decide +kernel
theorem dL_write_9 : decode cL_write 9 = .ok (.lastore, 1) := by decide +kernel
theorem dL_write_10 : decode cL_write 10 = .ok (.goto 11, 3) := by decide +kernel
theorem dL_write_13 : decode cL_write 13 = .ok (.astore 4, 2) := by decide +kernel
theorem dL_write_15 : decode cL_write 15 = .ok (.iconst 1, 1) := by decide +kernel
theorem dL_write_16 : decode cL_write 16 = .ok (.ireturn, 1) := by decide +kernel
theorem dL_write_17 : decode cL_write 17 = .ok (.astore 4, 2) := by decide +kernel
theorem dL_write_19 : decode cL_write 19 = .ok (.iconst 2, 1) := by decide +kernel
theorem dL_write_20 : decode cL_write 20 = .ok (.ireturn, 1) := by decide +kernel
theorem dL_write_21 : decode cL_write 21 = .ok (.iconst 0, 1) := by decide +kernel
theorem dL_write_22 : decode cL_write 22 = .ok (.ireturn, 1) := by decide +kernel
abbrev frL_write : Nat := frD_write + 1
abbrev loL_write : Nat := loD_write + 24
set_option maxHeartbeats 4000000 in
set_option maxRecDepth 100000 in
theorem cL_write_ret {l : Launch} {g : gT} {qq ad ea : Nat → Nat} {h h' : cH} {X : va_W} {z z' : cZ} {qo : Nat} {f : Nat → Int64} {x1 x2 : Int32} {r' : Int32} (hf : fD_write h z x1 x2 = some (r', h', z')) : hMeA l yL_write cL_write 5 hhL_write frL_write loL_write g qq ad ea h (oc g qo f :: X) z [.ref (qq 0), .int x1, .int x2, .ref qo] (fun _ => some (.int 0)) (oc g qo (vp_updL f 0 r'.toInt64) :: X) h' z' := by
  intro sz
  refine hb_entry (by decide) (Nat.le_of_ble_eq_true rfl) ?_
  intro p e s m args below meth c ls hsz C hr hlk ht hl hw hE hno
  subst hsz
  have C : mCx p m c cL_write 5 s args g "MidiDeskLaw" := C
  have hl : lv_has ls 5 [(0, .ref (qq 0)), (1, .int x1), (2, .int x2), (3, .ref qo)] := hl
  refine lv_aload_n C.1.1 C.1.2.1 dL_write_0 rfl (lv_at hl 3 rfl) ?_
  refine lv_iconst (v := 0) C.1.1 C.1.2.1 dL_write_1 (by decide) ?_
  refine lv_aload_n C.1.1 C.1.2.1 dL_write_2 rfl (lv_at hl 0 rfl) ?_
  refine lv_iload_n C.1.1 C.1.2.1 dL_write_3 rfl (lv_at hl 1 rfl) ?_
  refine lv_iload_n C.1.1 C.1.2.1 dL_write_4 rfl (lv_at hl 2 rfl) ?_
  refine c_callAA (rest := [.int 0, .ref qo]) (As := [.int x1, .int x2]) (b := qq 0) C hl.1 hw (cD_write_met hf) (callW_of (rm := rmA frD_write loD_write h h') (C := "MidiDesk") 2 C.1.2.2.2.2 gw_646 gw_647 gw_648 gw_52 gw_649 kD_write ⟨(Nat.le_of_ble_eq_true rfl), (Nat.le_of_ble_eq_true rfl)⟩) (c_recv_desk C.2 hw) rfl rfl (Nat.le_of_ble_eq_true rfl) dL_write_5 ⟨Nat.le_of_eq (Nat.zero_add _), Nat.le_of_eq (Nat.zero_add _)⟩ (fun ad' H1 locs1 hw => ?_)
  refine W.eq (g2 := F0 m 8 ls [.int r', .int 0, .ref qo]) rfl ?_
  refine lv_i2l (v := r'.toInt64) C.1.1 C.1.2.1 dL_write_8 rfl ?_
  refine va_last (D := g.1) (x := r'.toInt64) C.1.1 C.1.2.1 C.2.1 hw.1 hw.2.1 hw.2.2.1 (h'.2.1 + 10) 1 cw_x rfl vi01 dL_write_9 (fun H2 locs2 hP hD hS => ?_)
  rw [cw_xset] at hP hD
  have hZ := hw.2.2.2
  refine lv_goto (tgt := 21) C.1.1 C.1.2.1 dL_write_10 (by decide) ?_
  refine lv_iconst (v := 0) C.1.1 C.1.2.1 dL_write_21 (by decide) ?_
  exact c_retAi (ke := True) C hr hlk rfl (fun _ => rfl) ⟨hP, hD, hS, hZ⟩ rfl rfl ⟨Nat.le_of_eq (Nat.zero_add _), Nat.le_of_eq (Nat.zero_add _)⟩ dL_write_22
abbrev rtL_write : Room := { frames := tfrD_write + 1, cells := 1, slots := 6, locals := tloD_write + 24 }
set_option maxHeartbeats 4000000 in
set_option maxRecDepth 100000 in
theorem cL_write_thr {l : Launch} {g : gT} {qq ad ea : Nat → Nat} {h : cH} {X : va_W} {z : cZ} {qo : Nat} {f : Nat → Int64} {x1 x2 : Int32} {k : Nat} (hfl : l.flags = flags0) (hk : k = 1 ∨ k = 2) (hf : tD_write h z x1 x2 = some k) : hMet l yL_write cL_write 5 hhL_write rtL_write g qq ad ea h (oc g qo f :: X) z [.ref (qq 0), .int x1, .int x2, .ref qo] (some (.int (if k = 1 then 1 else 2))) (oc g qo f :: X) z := by
  refine h_entry (by decide) (Nat.le_of_ble_eq_true rfl) ?_
  intro p e s m args below meth c ls C hr hlk ht hl hw hE hno
  have C : mCx p m c cL_write 5 s args g "MidiDeskLaw" := C
  have hl : lv_has ls 5 [(0, .ref (qq 0)), (1, .int x1), (2, .int x2), (3, .ref qo)] := hl
  refine lv_aload_n C.1.1 C.1.2.1 dL_write_0 rfl (lv_at hl 3 rfl) ?_
  refine lv_iconst (v := 0) C.1.1 C.1.2.1 dL_write_1 (by decide) ?_
  refine lv_aload_n C.1.1 C.1.2.1 dL_write_2 rfl (lv_at hl 0 rfl) ?_
  refine lv_iload_n C.1.1 C.1.2.1 dL_write_3 rfl (lv_at hl 1 rfl) ?_
  refine lv_iload_n C.1.1 C.1.2.1 dL_write_4 rfl (lv_at hl 2 rfl) ?_
  refine t_catch (k := k) (rest := [.int 0, .ref qo]) (As := [.int x1, .int x2]) (b := qq 0) C hl.1 hw hE (tD_write_met hfl hf) hk (callW_of (rm := { frames := tfrD_write, cells := 1, slots := 6, locals := tloD_write }) (C := "MidiDesk") 2 C.1.2.2.2.2 gw_646 gw_647 gw_648 gw_52 gw_649 kD_write ⟨(Nat.le_of_ble_eq_true rfl), (Nat.le_of_ble_eq_true rfl)⟩) (c_recv_desk C.2 hw) rfl rfl (Nat.le_of_ble_eq_true rfl) dL_write_5 ⟨(Nat.le_of_ble_eq_true rfl), (Nat.le_of_ble_eq_true rfl)⟩ ht (by decide) hno (fun x H1 locs1 hw => ?_)
  rcases hk with q | q <;> subst q
  · refine W.eq (g2 := F0 m 13 ls [.ref x]) rfl ?_
    refine lv_astore (lv' := [(4, .ref x), (0, .ref (qq 0)), (1, .int x1), (2, .int x2), (3, .ref qo)]) C.1.1 C.1.2.1 dL_write_13 hl (by decide) rfl (fun ls hl => ?_)
    refine lv_iconst (v := 1) C.1.1 C.1.2.1 dL_write_15 (by decide) ?_
    exact c_reti C hr hlk rfl hw rfl rfl ⟨(Nat.le_of_ble_eq_true rfl), (Nat.le_of_ble_eq_true rfl)⟩ dL_write_16
  · refine W.eq (g2 := F0 m 17 ls [.ref x]) rfl ?_
    refine lv_astore (lv' := [(4, .ref x), (0, .ref (qq 0)), (1, .int x1), (2, .int x2), (3, .ref qo)]) C.1.1 C.1.2.1 dL_write_17 hl (by decide) rfl (fun ls hl => ?_)
    refine lv_iconst (v := 2) C.1.1 C.1.2.1 dL_write_19 (by decide) ?_
    exact c_reti C hr hlk rfl hw rfl rfl ⟨(Nat.le_of_ble_eq_true rfl), (Nat.le_of_ble_eq_true rfl)⟩ dL_write_20

