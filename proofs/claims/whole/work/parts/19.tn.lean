theorem gw_18 : (Cond.selects "MidiDesk" ({ cls := "MidiDesk", name := "needList", desc := "()V" } : Jvm.MethodName) ({ cls := "MidiDesk", name := "needList", desc := "()V" } : Jvm.MethodName)) ∈ gw := gw_in 18 (by decide +kernel) (by decide +kernel)
theorem gw_20 : (Cond.selects "MidiDesk" ({ cls := "MidiDesk", name := "needTick", desc := "(I)V" } : Jvm.MethodName) ({ cls := "MidiDesk", name := "needTick", desc := "(I)V" } : Jvm.MethodName)) ∈ gw := gw_in 20 (by decide +kernel) (by decide +kernel)
theorem gw_480 : (Jvm.Cond.methodLink "MidiDesk" (79 : Nat) ({ cls := "MidiDesk", name := "needList", desc := "()V" } : Jvm.MethodName)) ∈ gw := gw_in 480 (by decide +kernel) (by decide +kernel)
theorem gw_482 : (Jvm.Cond.instanceMethod ({ cls := "MidiDesk", name := "needList", desc := "()V" } : Jvm.MethodName)) ∈ gw := gw_in 482 (by decide +kernel) (by decide +kernel)
theorem gw_483 : (Jvm.Cond.code ({ cls := "MidiDesk", name := "needList", desc := "()V" } : Jvm.MethodName) prog_1_method_17_code (1 : Nat) (Option.none : Option Jvm.ClassFile.FieldType)) ∈ gw := gw_in 483 (by decide +kernel) (by decide +kernel)
theorem gw_551 : (Jvm.Cond.methodLink "MidiDesk" (82 : Nat) ({ cls := "MidiDesk", name := "needTick", desc := "(I)V" } : Jvm.MethodName)) ∈ gw := gw_in 551 (by decide +kernel) (by decide +kernel)
theorem gw_553 : (Jvm.Cond.instanceMethod ({ cls := "MidiDesk", name := "needTick", desc := "(I)V" } : Jvm.MethodName)) ∈ gw := gw_in 553 (by decide +kernel) (by decide +kernel)
theorem gw_554 : (Jvm.Cond.code ({ cls := "MidiDesk", name := "needTick", desc := "(I)V" } : Jvm.MethodName) prog_1_method_18_code (2 : Nat) (Option.none : Option Jvm.ClassFile.FieldType)) ∈ gw := gw_in 554 (by decide +kernel) (by decide +kernel)
theorem gw_555 : (Jvm.Cond.constant "MidiDesk" (115 : Nat) (268435455 : Int32)) ∈ gw := gw_in 555 (by decide +kernel) (by decide +kernel)
theorem gw_572 : (Jvm.Cond.methodLink "MidiDesk" (85 : Nat) ({ cls := "MidiDesk$Score", name := "partsBefore", desc := "(I)J" } : Jvm.MethodName)) ∈ gw := gw_in 572 (by decide +kernel) (by decide +kernel)
theorem gw_573 : (Jvm.Cond.instanceMethod ({ cls := "MidiDesk$Score", name := "partsBefore", desc := "(I)J" } : Jvm.MethodName)) ∈ gw := gw_in 573 (by decide +kernel) (by decide +kernel)
theorem gw_574 : (Jvm.Cond.selects "MidiDesk$Score" ({ cls := "MidiDesk$Score", name := "partsBefore", desc := "(I)J" } : Jvm.MethodName) ({ cls := "MidiDesk$Score", name := "partsBefore", desc := "(I)J" } : Jvm.MethodName)) ∈ gw := gw_in 574 (by decide +kernel) (by decide +kernel)
theorem gw_575 : (Jvm.Cond.code ({ cls := "MidiDesk$Score", name := "partsBefore", desc := "(I)J" } : Jvm.MethodName) prog_6_method_19_code (9 : Nat) (Option.some Jvm.ClassFile.FieldType.long)) ∈ gw := gw_in 575 (by decide +kernel) (by decide +kernel)
theorem gw_599 : (Jvm.Cond.methodLink "MidiDesk" (102 : Nat) ({ cls := "MidiDesk$Score", name := "shiftNotes", desc := "(II)I" } : Jvm.MethodName)) ∈ gw := gw_in 599 (by decide +kernel) (by decide +kernel)
theorem gw_600 : (Jvm.Cond.instanceMethod ({ cls := "MidiDesk$Score", name := "shiftNotes", desc := "(II)I" } : Jvm.MethodName)) ∈ gw := gw_in 600 (by decide +kernel) (by decide +kernel)
theorem gw_601 : (Jvm.Cond.selects "MidiDesk$Score" ({ cls := "MidiDesk$Score", name := "shiftNotes", desc := "(II)I" } : Jvm.MethodName) ({ cls := "MidiDesk$Score", name := "shiftNotes", desc := "(II)I" } : Jvm.MethodName)) ∈ gw := gw_in 601 (by decide +kernel) (by decide +kernel)
theorem gw_602 : (Jvm.Cond.code ({ cls := "MidiDesk$Score", name := "shiftNotes", desc := "(II)I" } : Jvm.MethodName) prog_6_method_13_code (8 : Nat) (Option.some Jvm.ClassFile.FieldType.int)) ∈ gw := gw_in 602 (by decide +kernel) (by decide +kernel)
theorem gw_619 : (Jvm.Cond.constant "MidiDesk" (106 : Nat) (100000 : Int32)) ∈ gw := gw_in 619 (by decide +kernel) (by decide +kernel)
theorem gw_621 : (Jvm.Cond.methodLink "MidiDesk" (112 : Nat) ({ cls := "MidiDesk", name := "nearest", desc := "(II)I" } : Jvm.MethodName)) ∈ gw := gw_in 621 (by decide +kernel) (by decide +kernel)
theorem gw_625 : (Jvm.Cond.methodLink "MidiDesk" (118 : Nat) ({ cls := "MidiDesk$Score", name := "roundTicks", desc := "(I)I" } : Jvm.MethodName)) ∈ gw := gw_in 625 (by decide +kernel) (by decide +kernel)
theorem gw_626 : (Jvm.Cond.instanceMethod ({ cls := "MidiDesk$Score", name := "roundTicks", desc := "(I)I" } : Jvm.MethodName)) ∈ gw := gw_in 626 (by decide +kernel) (by decide +kernel)
theorem gw_627 : (Jvm.Cond.selects "MidiDesk$Score" ({ cls := "MidiDesk$Score", name := "roundTicks", desc := "(I)I" } : Jvm.MethodName) ({ cls := "MidiDesk$Score", name := "roundTicks", desc := "(I)I" } : Jvm.MethodName)) ∈ gw := gw_in 627 (by decide +kernel) (by decide +kernel)
theorem gw_628 : (Jvm.Cond.code ({ cls := "MidiDesk$Score", name := "roundTicks", desc := "(I)I" } : Jvm.MethodName) prog_6_method_14_code (5 : Nat) (Option.some Jvm.ClassFile.FieldType.int)) ∈ gw := gw_in 628 (by decide +kernel) (by decide +kernel)
theorem gw_639 : (Jvm.Cond.methodLink "MidiDesk" (126 : Nat) ({ cls := "MidiDesk$Score", name := "dropTrack", desc := "(I)I" } : Jvm.MethodName)) ∈ gw := gw_in 639 (by decide +kernel) (by decide +kernel)
theorem gw_640 : (Jvm.Cond.instanceMethod ({ cls := "MidiDesk$Score", name := "dropTrack", desc := "(I)I" } : Jvm.MethodName)) ∈ gw := gw_in 640 (by decide +kernel) (by decide +kernel)
theorem gw_641 : (Jvm.Cond.selects "MidiDesk$Score" ({ cls := "MidiDesk$Score", name := "dropTrack", desc := "(I)I" } : Jvm.MethodName) ({ cls := "MidiDesk$Score", name := "dropTrack", desc := "(I)I" } : Jvm.MethodName)) ∈ gw := gw_in 641 (by decide +kernel) (by decide +kernel)
theorem gw_642 : (Jvm.Cond.code ({ cls := "MidiDesk$Score", name := "dropTrack", desc := "(I)I" } : Jvm.MethodName) prog_6_method_15_code (6 : Nat) (Option.some Jvm.ClassFile.FieldType.int)) ∈ gw := gw_in 642 (by decide +kernel) (by decide +kernel)
abbrev cD_needList : ByteArray := prog_1_method_17_code
abbrev yD_needList : MethodName := ⟨"MidiDesk", "needList", "()V"⟩
theorem kD_needList : yD_needList.cls ≠ "java/lang/invoke/MethodHandle" ∧ yD_needList.cls ≠ "java/lang/invoke/VarHandle" ∧ (parseMethodDescriptor yD_needList.desc).map (fun d => d.parameters.length) = some 0 := by decide +kernel
abbrev rD_needList : Room := { frames := 0, cells := 0, slots := 0, locals := 0 }
theorem dD_needList_0 : decode cD_needList 0 = .ok (.aload_n 0, 1) := by decide +kernel
theorem dD_needList_1 : decode cD_needList 1 = .ok (.getfield 24, 3) := by decide +kernel
theorem dD_needList_4 : decode cD_needList 4 = .ok (.getfield 146, 3) := by decide +kernel
theorem dD_needList_7 : decode cD_needList 7 = .ok (.ifCond .ne 13, 3) := by decide +kernel
theorem dD_needList_10 : decode cD_needList 10 = .ok (.new 159, 3) := by decide +kernel
theorem dD_needList_20 : decode cD_needList 20 = .ok (.return_, 1) := by decide +kernel
def fD_needList (h : cH) (z : cZ) : Option (cZ) := if (zi z 3) = 0 then none else (some z)
set_option maxHeartbeats 4000000 in
set_option maxRecDepth 100000 in
theorem cD_needList_met {l : Launch} {g : gT} {qq ad ea : Nat → Nat} {h : cH} {X : va_W} {z z' : cZ} (hf : fD_needList h z = some z') : cMet l yD_needList cD_needList 1 none rD_needList g qq ad ea h X z [.ref (qq 0)] (none) X z' := by
  refine c_entry (by decide) (Nat.le_of_ble_eq_true rfl) ?_
  intro p e s m args below meth c ls C hr hlk hnm hl hw
  have hrv : (none : Option Value) = none := rfl
  have C : mCx p m c cD_needList 1 s args g "MidiDesk" := C
  have hl : lv_has ls 1 [(0, .ref (qq 0))] := hl
  unfold fD_needList at hf
  refine lv_aload_n C.1.1 C.1.2.1 dD_needList_0 rfl (lv_at hl 0 rfl) ?_
  refine cg_Desk_Desk_score C hw dD_needList_1 ?_
  refine cg_Desk_Score_present C hw dD_needList_4 ?_
  refine lv_if_ne (tgt := 20) C.1.1 C.1.2.1 dD_needList_7 (by decide) (fun c1 => ?_) (fun c1 => ?_)
  · have hf := ts_f hf c1
    exact c_retv C hr hlk hrv hw hf rfl ⟨Nat.le_of_ble_eq_true rfl, Nat.le_of_ble_eq_true rfl⟩ dD_needList_20
  · have hf := ts_t hf c1
    cases hf
abbrev cD_needTick : ByteArray := prog_1_method_18_code
abbrev yD_needTick : MethodName := ⟨"MidiDesk", "needTick", "(I)V"⟩
theorem kD_needTick : yD_needTick.cls ≠ "java/lang/invoke/MethodHandle" ∧ yD_needTick.cls ≠ "java/lang/invoke/VarHandle" ∧ (parseMethodDescriptor yD_needTick.desc).map (fun d => d.parameters.length) = some 1 := by decide +kernel
abbrev rD_needTick : Room := { frames := 0, cells := 0, slots := 0, locals := 0 }
theorem dD_needTick_0 : decode cD_needTick 0 = .ok (.iload_n 1, 1) := by decide +kernel
theorem dD_needTick_1 : decode cD_needTick 1 = .ok (.ifCond .lt 9, 3) := by decide +kernel
theorem dD_needTick_4 : decode cD_needTick 4 = .ok (.iload_n 1, 1) := by decide +kernel
theorem dD_needTick_5 : decode cD_needTick 5 = .ok (.ldc 115, 2) := by decide +kernel
theorem dD_needTick_7 : decode cD_needTick 7 = .ok (.if_icmp .le 13, 3) := by decide +kernel
theorem dD_needTick_10 : decode cD_needTick 10 = .ok (.new 95, 3) := by decide +kernel
theorem dD_needTick_20 : decode cD_needTick 20 = .ok (.return_, 1) := by decide +kernel
def fD_needTick (h : cH) (z : cZ) (x1 : Int32) : Option (cZ) := if x1 < 0 then none else (if x1 ≤ (268435455 : Int32) then (some z) else none)
set_option maxHeartbeats 4000000 in
set_option maxRecDepth 100000 in
theorem cD_needTick_met {l : Launch} {g : gT} {qq ad ea : Nat → Nat} {h : cH} {X : va_W} {z z' : cZ} {x1 : Int32} (hf : fD_needTick h z x1 = some z') : cMet l yD_needTick cD_needTick 2 none rD_needTick g qq ad ea h X z [.ref (qq 0), .int x1] (none) X z' := by
  refine c_entry (by decide) (Nat.le_of_ble_eq_true rfl) ?_
  intro p e s m args below meth c ls C hr hlk hnm hl hw
  have hrv : (none : Option Value) = none := rfl
  have C : mCx p m c cD_needTick 2 s args g "MidiDesk" := C
  have hl : lv_has ls 2 [(0, .ref (qq 0)), (1, .int x1)] := hl
  unfold fD_needTick at hf
  refine lv_iload_n C.1.1 C.1.2.1 dD_needTick_0 rfl (lv_at hl 1 rfl) ?_
  refine lv_if_lt (tgt := 10) C.1.1 C.1.2.1 dD_needTick_1 (by decide) (fun c1 => ?_) (fun c1 => ?_)
  · have hf := ts_t hf c1
    cases hf
  · have hf := ts_f hf c1
    refine lv_iload_n C.1.1 C.1.2.1 dD_needTick_4 rfl (lv_at hl 1 rfl) ?_
    refine lv_ldc C.1.1 C.1.2.1 C.1.2.2.2.1 (C.1.2.2.2.2 _ gw_555) dD_needTick_5 ?_
    refine lv_icmp_le (tgt := 20) C.1.1 C.1.2.1 dD_needTick_7 (by decide) (fun c2 => ?_) (fun c2 => ?_)
    · have hf := ts_t hf c2
      exact c_retv C hr hlk hrv hw hf rfl ⟨Nat.le_of_ble_eq_true rfl, Nat.le_of_ble_eq_true rfl⟩ dD_needTick_20
    · have hf := ts_f hf c2
      cases hf
abbrev cD_time : ByteArray := prog_1_method_6_code
abbrev yD_time : MethodName := ⟨"MidiDesk", "time", "(I)J"⟩
theorem kD_time : yD_time.cls ≠ "java/lang/invoke/MethodHandle" ∧ yD_time.cls ≠ "java/lang/invoke/VarHandle" ∧ (parseMethodDescriptor yD_time.desc).map (fun d => d.parameters.length) = some 1 := by decide +kernel
abbrev rD_time : Room := { frames := 3, cells := 0, slots := 0, locals := 70 }
theorem dD_time_0 : decode cD_time 0 = .ok (.aload_n 0, 1) := by decide +kernel
theorem dD_time_1 : decode cD_time 1 = .ok (.invokevirtual 79, 3) := by decide +kernel
theorem dD_time_4 : decode cD_time 4 = .ok (.aload_n 0, 1) := by decide +kernel
theorem dD_time_5 : decode cD_time 5 = .ok (.iload_n 1, 1) := by decide +kernel
theorem dD_time_6 : decode cD_time 6 = .ok (.invokevirtual 82, 3) := by decide +kernel
theorem dD_time_9 : decode cD_time 9 = .ok (.aload_n 0, 1) := by decide +kernel
theorem dD_time_10 : decode cD_time 10 = .ok (.getfield 24, 3) := by decide +kernel
theorem dD_time_13 : decode cD_time 13 = .ok (.iload_n 1, 1) := by decide +kernel
theorem dD_time_14 : decode cD_time 14 = .ok (.invokevirtual 85, 3) := by decide +kernel
theorem dD_time_17 : decode cD_time 17 = .ok (.aload_n 0, 1) := by decide +kernel
theorem dD_time_18 : decode cD_time 18 = .ok (.getfield 24, 3) := by decide +kernel
theorem dD_time_21 : decode cD_time 21 = .ok (.invokevirtual 89, 3) := by decide +kernel
theorem dD_time_24 : decode cD_time 24 = .ok (.i2l, 1) := by decide +kernel
theorem dD_time_25 : decode cD_time 25 = .ok (.ldiv, 1) := by decide +kernel
theorem dD_time_26 : decode cD_time 26 = .ok (.lreturn, 1) := by decide +kernel
def fD_time (h : cH) (z : cZ) (x1 : Int32) : Option (Int64 × cZ) := (fD_needList h z).bind fun z1 => (fD_needTick h z1 x1).bind fun z2 => (fS_partsBefore h z2 x1).bind fun (r3, z3) => (fS_partsOfMicrosecond h z3).bind fun (r4, z4) => if r4.toInt64 = 0 then none else (some (r3 / r4.toInt64, z4))
set_option maxHeartbeats 4000000 in
set_option maxRecDepth 100000 in
theorem cD_time_met {l : Launch} {g : gT} {qq ad ea : Nat → Nat} {h : cH} {X : va_W} {z z' : cZ} {x1 : Int32} {r' : Int64} (hf : fD_time h z x1 = some (r', z')) : cMet l yD_time cD_time 2 (some .long) rD_time g qq ad ea h X z [.ref (qq 0), .int x1] (some (.long r')) X z' := by
  refine c_entry (by decide) (Nat.le_of_ble_eq_true rfl) ?_
  intro p e s m args below meth c ls C hr hlk hnm hl hw
  have hrv : (some (.long r') : Option Value) = some (.long r') := rfl
  have C : mCx p m c cD_time 2 s args g "MidiDesk" := C
  have hl : lv_has ls 2 [(0, .ref (qq 0)), (1, .int x1)] := hl
  unfold fD_time at hf
  refine lv_aload_n C.1.1 C.1.2.1 dD_time_0 rfl (lv_at hl 0 rfl) ?_
  obtain ⟨z1, g1, hf⟩ := ts_b hf
  try dsimp only at hf
  refine c_callV (rest := []) (As := []) (rv := none) (b := (qq 0)) C hl.1 hw (cD_needList_met g1) rfl (callW_of (rm := rD_needList) (C := "MidiDesk") 0 C.1.2.2.2.2 gw_480 gw_482 gw_18 gw_52 gw_483 kD_needList ⟨Nat.le_of_ble_eq_true rfl, Nat.le_of_ble_eq_true rfl⟩) (c_recv_desk C.2 hw) rfl rfl (Nat.le_of_ble_eq_true rfl) dD_time_1 ⟨Nat.le_of_ble_eq_true rfl, Nat.le_of_ble_eq_true rfl⟩ (fun H locs hw => ?_)
  refine W.eq (g2 := F0 m 4 ls []) rfl ?_
  refine lv_aload_n C.1.1 C.1.2.1 dD_time_4 rfl (lv_at hl 0 rfl) ?_
  refine lv_iload_n C.1.1 C.1.2.1 dD_time_5 rfl (lv_at hl 1 rfl) ?_
  obtain ⟨z2, g2, hf⟩ := ts_b hf
  try dsimp only at hf
  refine c_callV (rest := []) (As := [.int x1]) (rv := none) (b := (qq 0)) C hl.1 hw (cD_needTick_met g2) rfl (callW_of (rm := rD_needTick) (C := "MidiDesk") 1 C.1.2.2.2.2 gw_551 gw_553 gw_20 gw_52 gw_554 kD_needTick ⟨Nat.le_of_ble_eq_true rfl, Nat.le_of_ble_eq_true rfl⟩) (c_recv_desk C.2 hw) rfl rfl (Nat.le_of_ble_eq_true rfl) dD_time_6 ⟨Nat.le_of_ble_eq_true rfl, Nat.le_of_ble_eq_true rfl⟩ (fun H locs hw => ?_)
  refine W.eq (g2 := F0 m 9 ls []) rfl ?_
  refine lv_aload_n C.1.1 C.1.2.1 dD_time_9 rfl (lv_at hl 0 rfl) ?_
  refine cg_Desk_Desk_score C hw dD_time_10 ?_
  refine lv_iload_n C.1.1 C.1.2.1 dD_time_13 rfl (lv_at hl 1 rfl) ?_
  obtain ⟨⟨r3, z3⟩, g3, hf⟩ := ts_b hf
  try dsimp only at hf
  refine c_callV (rest := []) (As := [.int x1]) (rv := (some (.long r3))) (b := (qq 4)) C hl.1 hw (cS_partsBefore_met g3) rfl (callW_of (rm := rS_partsBefore) (C := "MidiDesk$Score") 1 C.1.2.2.2.2 gw_572 gw_573 gw_574 gw_54 gw_575 kS_partsBefore ⟨Nat.le_of_ble_eq_true rfl, Nat.le_of_ble_eq_true rfl⟩) (c_recv_score C.2 hw) rfl rfl (Nat.le_of_ble_eq_true rfl) dD_time_14 ⟨Nat.le_of_ble_eq_true rfl, Nat.le_of_ble_eq_true rfl⟩ (fun H locs hw => ?_)
  refine W.eq (g2 := F0 m 17 ls [.long r3]) rfl ?_
  refine lv_aload_n C.1.1 C.1.2.1 dD_time_17 rfl (lv_at hl 0 rfl) ?_
  refine cg_Desk_Desk_score C hw dD_time_18 ?_
  obtain ⟨⟨r4, z4⟩, g4, hf⟩ := ts_b hf
  try dsimp only at hf
  refine c_callV (rest := [.long r3]) (As := []) (rv := (some (.int r4))) (b := (qq 4)) C hl.1 hw (cS_partsOfMicrosecond_met g4) rfl (callW_of (rm := rS_partsOfMicrosecond) (C := "MidiDesk$Score") 0 C.1.2.2.2.2 gw_459 gw_460 gw_461 gw_54 gw_462 kS_partsOfMicrosecond ⟨Nat.le_of_ble_eq_true rfl, Nat.le_of_ble_eq_true rfl⟩) (c_recv_score C.2 hw) rfl rfl (Nat.le_of_ble_eq_true rfl) dD_time_21 ⟨Nat.le_of_ble_eq_true rfl, Nat.le_of_ble_eq_true rfl⟩ (fun H locs hw => ?_)
  refine W.eq (g2 := F0 m 24 ls [.int r4, .long r3]) rfl ?_
  refine lv_i2l C.1.1 C.1.2.1 dD_time_24 rfl ?_
  obtain ⟨h5, hf⟩ := ts_g hf
  refine lv_ldiv C.1.1 C.1.2.1 dD_time_25 h5 ?_
  exact c_retl C hr hlk hrv hw hf rfl ⟨Nat.le_of_ble_eq_true rfl, Nat.le_of_ble_eq_true rfl⟩ dD_time_26
abbrev cD_rest : ByteArray := prog_1_method_7_code
abbrev yD_rest : MethodName := ⟨"MidiDesk", "rest", "(I)J"⟩
theorem kD_rest : yD_rest.cls ≠ "java/lang/invoke/MethodHandle" ∧ yD_rest.cls ≠ "java/lang/invoke/VarHandle" ∧ (parseMethodDescriptor yD_rest.desc).map (fun d => d.parameters.length) = some 1 := by decide +kernel
abbrev rD_rest : Room := { frames := 3, cells := 0, slots := 0, locals := 70 }
theorem dD_rest_0 : decode cD_rest 0 = .ok (.aload_n 0, 1) := by decide +kernel
theorem dD_rest_1 : decode cD_rest 1 = .ok (.invokevirtual 79, 3) := by decide +kernel
theorem dD_rest_4 : decode cD_rest 4 = .ok (.aload_n 0, 1) := by decide +kernel
theorem dD_rest_5 : decode cD_rest 5 = .ok (.iload_n 1, 1) := by decide +kernel
theorem dD_rest_6 : decode cD_rest 6 = .ok (.invokevirtual 82, 3) := by decide +kernel
theorem dD_rest_9 : decode cD_rest 9 = .ok (.aload_n 0, 1) := by decide +kernel
theorem dD_rest_10 : decode cD_rest 10 = .ok (.getfield 24, 3) := by decide +kernel
theorem dD_rest_13 : decode cD_rest 13 = .ok (.iload_n 1, 1) := by decide +kernel
theorem dD_rest_14 : decode cD_rest 14 = .ok (.invokevirtual 85, 3) := by decide +kernel
theorem dD_rest_17 : decode cD_rest 17 = .ok (.aload_n 0, 1) := by decide +kernel
theorem dD_rest_18 : decode cD_rest 18 = .ok (.getfield 24, 3) := by decide +kernel
theorem dD_rest_21 : decode cD_rest 21 = .ok (.invokevirtual 89, 3) := by decide +kernel
theorem dD_rest_24 : decode cD_rest 24 = .ok (.i2l, 1) := by decide +kernel
theorem dD_rest_25 : decode cD_rest 25 = .ok (.lrem, 1) := by decide +kernel
theorem dD_rest_26 : decode cD_rest 26 = .ok (.lreturn, 1) := by decide +kernel
def fD_rest (h : cH) (z : cZ) (x1 : Int32) : Option (Int64 × cZ) := (fD_needList h z).bind fun z1 => (fD_needTick h z1 x1).bind fun z2 => (fS_partsBefore h z2 x1).bind fun (r3, z3) => (fS_partsOfMicrosecond h z3).bind fun (r4, z4) => if r4.toInt64 = 0 then none else (some (r3 - r3 / r4.toInt64 * r4.toInt64, z4))
set_option maxHeartbeats 4000000 in
set_option maxRecDepth 100000 in
theorem cD_rest_met {l : Launch} {g : gT} {qq ad ea : Nat → Nat} {h : cH} {X : va_W} {z z' : cZ} {x1 : Int32} {r' : Int64} (hf : fD_rest h z x1 = some (r', z')) : cMet l yD_rest cD_rest 2 (some .long) rD_rest g qq ad ea h X z [.ref (qq 0), .int x1] (some (.long r')) X z' := by
  refine c_entry (by decide) (Nat.le_of_ble_eq_true rfl) ?_
  intro p e s m args below meth c ls C hr hlk hnm hl hw
  have hrv : (some (.long r') : Option Value) = some (.long r') := rfl
  have C : mCx p m c cD_rest 2 s args g "MidiDesk" := C
  have hl : lv_has ls 2 [(0, .ref (qq 0)), (1, .int x1)] := hl
  unfold fD_rest at hf
  refine lv_aload_n C.1.1 C.1.2.1 dD_rest_0 rfl (lv_at hl 0 rfl) ?_
  obtain ⟨z1, g1, hf⟩ := ts_b hf
  try dsimp only at hf
  refine c_callV (rest := []) (As := []) (rv := none) (b := (qq 0)) C hl.1 hw (cD_needList_met g1) rfl (callW_of (rm := rD_needList) (C := "MidiDesk") 0 C.1.2.2.2.2 gw_480 gw_482 gw_18 gw_52 gw_483 kD_needList ⟨Nat.le_of_ble_eq_true rfl, Nat.le_of_ble_eq_true rfl⟩) (c_recv_desk C.2 hw) rfl rfl (Nat.le_of_ble_eq_true rfl) dD_rest_1 ⟨Nat.le_of_ble_eq_true rfl, Nat.le_of_ble_eq_true rfl⟩ (fun H locs hw => ?_)
  refine W.eq (g2 := F0 m 4 ls []) rfl ?_
  refine lv_aload_n C.1.1 C.1.2.1 dD_rest_4 rfl (lv_at hl 0 rfl) ?_
  refine lv_iload_n C.1.1 C.1.2.1 dD_rest_5 rfl (lv_at hl 1 rfl) ?_
  obtain ⟨z2, g2, hf⟩ := ts_b hf
  try dsimp only at hf
  refine c_callV (rest := []) (As := [.int x1]) (rv := none) (b := (qq 0)) C hl.1 hw (cD_needTick_met g2) rfl (callW_of (rm := rD_needTick) (C := "MidiDesk") 1 C.1.2.2.2.2 gw_551 gw_553 gw_20 gw_52 gw_554 kD_needTick ⟨Nat.le_of_ble_eq_true rfl, Nat.le_of_ble_eq_true rfl⟩) (c_recv_desk C.2 hw) rfl rfl (Nat.le_of_ble_eq_true rfl) dD_rest_6 ⟨Nat.le_of_ble_eq_true rfl, Nat.le_of_ble_eq_true rfl⟩ (fun H locs hw => ?_)
  refine W.eq (g2 := F0 m 9 ls []) rfl ?_
  refine lv_aload_n C.1.1 C.1.2.1 dD_rest_9 rfl (lv_at hl 0 rfl) ?_
  refine cg_Desk_Desk_score C hw dD_rest_10 ?_
  refine lv_iload_n C.1.1 C.1.2.1 dD_rest_13 rfl (lv_at hl 1 rfl) ?_
  obtain ⟨⟨r3, z3⟩, g3, hf⟩ := ts_b hf
  try dsimp only at hf
  refine c_callV (rest := []) (As := [.int x1]) (rv := (some (.long r3))) (b := (qq 4)) C hl.1 hw (cS_partsBefore_met g3) rfl (callW_of (rm := rS_partsBefore) (C := "MidiDesk$Score") 1 C.1.2.2.2.2 gw_572 gw_573 gw_574 gw_54 gw_575 kS_partsBefore ⟨Nat.le_of_ble_eq_true rfl, Nat.le_of_ble_eq_true rfl⟩) (c_recv_score C.2 hw) rfl rfl (Nat.le_of_ble_eq_true rfl) dD_rest_14 ⟨Nat.le_of_ble_eq_true rfl, Nat.le_of_ble_eq_true rfl⟩ (fun H locs hw => ?_)
  refine W.eq (g2 := F0 m 17 ls [.long r3]) rfl ?_
  refine lv_aload_n C.1.1 C.1.2.1 dD_rest_17 rfl (lv_at hl 0 rfl) ?_
  refine cg_Desk_Desk_score C hw dD_rest_18 ?_
  obtain ⟨⟨r4, z4⟩, g4, hf⟩ := ts_b hf
  try dsimp only at hf
  refine c_callV (rest := [.long r3]) (As := []) (rv := (some (.int r4))) (b := (qq 4)) C hl.1 hw (cS_partsOfMicrosecond_met g4) rfl (callW_of (rm := rS_partsOfMicrosecond) (C := "MidiDesk$Score") 0 C.1.2.2.2.2 gw_459 gw_460 gw_461 gw_54 gw_462 kS_partsOfMicrosecond ⟨Nat.le_of_ble_eq_true rfl, Nat.le_of_ble_eq_true rfl⟩) (c_recv_score C.2 hw) rfl rfl (Nat.le_of_ble_eq_true rfl) dD_rest_21 ⟨Nat.le_of_ble_eq_true rfl, Nat.le_of_ble_eq_true rfl⟩ (fun H locs hw => ?_)
  refine W.eq (g2 := F0 m 24 ls [.int r4, .long r3]) rfl ?_
  refine lv_i2l C.1.1 C.1.2.1 dD_rest_24 rfl ?_
  obtain ⟨h5, hf⟩ := ts_g hf
  refine lv_lrem C.1.1 C.1.2.1 dD_rest_25 h5 ?_
  exact c_retl C hr hlk hrv hw hf rfl ⟨Nat.le_of_ble_eq_true rfl, Nat.le_of_ble_eq_true rfl⟩ dD_rest_26
abbrev cD_transpose : ByteArray := prog_1_method_9_code
abbrev yD_transpose : MethodName := ⟨"MidiDesk", "transpose", "(II)I"⟩
theorem kD_transpose : yD_transpose.cls ≠ "java/lang/invoke/MethodHandle" ∧ yD_transpose.cls ≠ "java/lang/invoke/VarHandle" ∧ (parseMethodDescriptor yD_transpose.desc).map (fun d => d.parameters.length) = some 2 := by decide +kernel
abbrev rD_transpose : Room := { frames := 2, cells := 0, slots := 0, locals := 48 }
theorem dD_transpose_0 : decode cD_transpose 0 = .ok (.aload_n 0, 1) := by decide +kernel
theorem dD_transpose_1 : decode cD_transpose 1 = .ok (.invokevirtual 79, 3) := by decide +kernel
theorem dD_transpose_4 : decode cD_transpose 4 = .ok (.iload_n 1, 1) := by decide +kernel
theorem dD_transpose_5 : decode cD_transpose 5 = .ok (.ifCond .lt 9, 3) := by decide +kernel
theorem dD_transpose_8 : decode cD_transpose 8 = .ok (.iload_n 1, 1) := by decide +kernel
theorem dD_transpose_9 : decode cD_transpose 9 = .ok (.bipush 16, 2) := by decide +kernel
theorem dD_transpose_11 : decode cD_transpose 11 = .ok (.if_icmp .le 13, 3) := by decide +kernel
theorem dD_transpose_14 : decode cD_transpose 14 = .ok (.new 95, 3) := by decide +kernel
theorem dD_transpose_24 : decode cD_transpose 24 = .ok (.aload_n 0, 1) := by decide +kernel
theorem dD_transpose_25 : decode cD_transpose 25 = .ok (.getfield 24, 3) := by decide +kernel
theorem dD_transpose_28 : decode cD_transpose 28 = .ok (.iload_n 1, 1) := by decide +kernel
theorem dD_transpose_29 : decode cD_transpose 29 = .ok (.iload_n 2, 1) := by decide +kernel
theorem dD_transpose_30 : decode cD_transpose 30 = .ok (.invokevirtual 102, 3) := by decide +kernel
theorem dD_transpose_33 : decode cD_transpose 33 = .ok (.ireturn, 1) := by decide +kernel
def fD_transpose (h : cH) (z : cZ) (x1 : Int32) (x2 : Int32) : Option (Int32 × cZ) := (fD_needList h z).bind fun z1 => if x1 < 0 then none else (if x1 ≤ (16 : Int32) then ((fS_shiftNotes h z1 x1 x2).bind fun (r4, z4) => some (r4, z4)) else none)
set_option maxHeartbeats 4000000 in
set_option maxRecDepth 100000 in
theorem cD_transpose_met {l : Launch} {g : gT} {qq ad ea : Nat → Nat} {h : cH} {X : va_W} {z z' : cZ} {x1 : Int32} {x2 : Int32} {r' : Int32} (hf : fD_transpose h z x1 x2 = some (r', z')) : cMet l yD_transpose cD_transpose 3 (some .int) rD_transpose g qq ad ea h X z [.ref (qq 0), .int x1, .int x2] (some (.int r')) X z' := by
  refine c_entry (by decide) (Nat.le_of_ble_eq_true rfl) ?_
  intro p e s m args below meth c ls C hr hlk hnm hl hw
  have hrv : (some (.int r') : Option Value) = some (.int r') := rfl
  have C : mCx p m c cD_transpose 3 s args g "MidiDesk" := C
  have hl : lv_has ls 3 [(0, .ref (qq 0)), (1, .int x1), (2, .int x2)] := hl
  unfold fD_transpose at hf
  refine lv_aload_n C.1.1 C.1.2.1 dD_transpose_0 rfl (lv_at hl 0 rfl) ?_
  obtain ⟨z1, g1, hf⟩ := ts_b hf
  try dsimp only at hf
  refine c_callV (rest := []) (As := []) (rv := none) (b := (qq 0)) C hl.1 hw (cD_needList_met g1) rfl (callW_of (rm := rD_needList) (C := "MidiDesk") 0 C.1.2.2.2.2 gw_480 gw_482 gw_18 gw_52 gw_483 kD_needList ⟨Nat.le_of_ble_eq_true rfl, Nat.le_of_ble_eq_true rfl⟩) (c_recv_desk C.2 hw) rfl rfl (Nat.le_of_ble_eq_true rfl) dD_transpose_1 ⟨Nat.le_of_ble_eq_true rfl, Nat.le_of_ble_eq_true rfl⟩ (fun H locs hw => ?_)
  refine W.eq (g2 := F0 m 4 ls []) rfl ?_
  refine lv_iload_n C.1.1 C.1.2.1 dD_transpose_4 rfl (lv_at hl 1 rfl) ?_
  refine lv_if_lt (tgt := 14) C.1.1 C.1.2.1 dD_transpose_5 (by decide) (fun c2 => ?_) (fun c2 => ?_)
  · have hf := ts_t hf c2
    cases hf
  · have hf := ts_f hf c2
    refine lv_iload_n C.1.1 C.1.2.1 dD_transpose_8 rfl (lv_at hl 1 rfl) ?_
    refine lv_bipush (v := (16 : Int32)) C.1.1 C.1.2.1 dD_transpose_9 (by decide) ?_
    refine lv_icmp_le (tgt := 24) C.1.1 C.1.2.1 dD_transpose_11 (by decide) (fun c3 => ?_) (fun c3 => ?_)
    · have hf := ts_t hf c3
      refine lv_aload_n C.1.1 C.1.2.1 dD_transpose_24 rfl (lv_at hl 0 rfl) ?_
      refine cg_Desk_Desk_score C hw dD_transpose_25 ?_
      refine lv_iload_n C.1.1 C.1.2.1 dD_transpose_28 rfl (lv_at hl 1 rfl) ?_
      refine lv_iload_n C.1.1 C.1.2.1 dD_transpose_29 rfl (lv_at hl 2 rfl) ?_
      obtain ⟨⟨r4, z4⟩, g4, hf⟩ := ts_b hf
      try dsimp only at hf
      refine c_callV (rest := []) (As := [.int x1, .int x2]) (rv := (some (.int r4))) (b := (qq 4)) C hl.1 hw (cS_shiftNotes_met g4) rfl (callW_of (rm := rS_shiftNotes) (C := "MidiDesk$Score") 2 C.1.2.2.2.2 gw_599 gw_600 gw_601 gw_54 gw_602 kS_shiftNotes ⟨Nat.le_of_ble_eq_true rfl, Nat.le_of_ble_eq_true rfl⟩) (c_recv_score C.2 hw) rfl rfl (Nat.le_of_ble_eq_true rfl) dD_transpose_30 ⟨Nat.le_of_ble_eq_true rfl, Nat.le_of_ble_eq_true rfl⟩ (fun H locs hw => ?_)
      refine W.eq (g2 := F0 m 33 ls [.int r4]) rfl ?_
      exact c_reti C hr hlk hrv hw hf rfl ⟨Nat.le_of_ble_eq_true rfl, Nat.le_of_ble_eq_true rfl⟩ dD_transpose_33
    · have hf := ts_f hf c3
      cases hf
abbrev cD_grid : ByteArray := prog_1_method_10_code
abbrev yD_grid : MethodName := ⟨"MidiDesk", "grid", "(I)I"⟩
theorem kD_grid : yD_grid.cls ≠ "java/lang/invoke/MethodHandle" ∧ yD_grid.cls ≠ "java/lang/invoke/VarHandle" ∧ (parseMethodDescriptor yD_grid.desc).map (fun d => d.parameters.length) = some 1 := by decide +kernel
abbrev rD_grid : Room := { frames := 4, cells := 0, slots := 0, locals := 95 }
theorem dD_grid_0 : decode cD_grid 0 = .ok (.aload_n 0, 1) := by decide +kernel
theorem dD_grid_1 : decode cD_grid 1 = .ok (.invokevirtual 79, 3) := by decide +kernel
theorem dD_grid_4 : decode cD_grid 4 = .ok (.iload_n 1, 1) := by decide +kernel
theorem dD_grid_5 : decode cD_grid 5 = .ok (.iconst 1, 1) := by decide +kernel
theorem dD_grid_6 : decode cD_grid 6 = .ok (.if_icmp .lt 9, 3) := by decide +kernel
theorem dD_grid_9 : decode cD_grid 9 = .ok (.iload_n 1, 1) := by decide +kernel
theorem dD_grid_10 : decode cD_grid 10 = .ok (.ldc 106, 2) := by decide +kernel
theorem dD_grid_12 : decode cD_grid 12 = .ok (.if_icmp .le 13, 3) := by decide +kernel
theorem dD_grid_15 : decode cD_grid 15 = .ok (.new 95, 3) := by decide +kernel
theorem dD_grid_25 : decode cD_grid 25 = .ok (.aload_n 0, 1) := by decide +kernel
theorem dD_grid_26 : decode cD_grid 26 = .ok (.getfield 24, 3) := by decide +kernel
theorem dD_grid_29 : decode cD_grid 29 = .ok (.invokevirtual 109, 3) := by decide +kernel
theorem dD_grid_32 : decode cD_grid 32 = .ok (.iload_n 1, 1) := by decide +kernel
theorem dD_grid_33 : decode cD_grid 33 = .ok (.invokestatic 112, 3) := by decide +kernel
theorem dD_grid_36 : decode cD_grid 36 = .ok (.ldc 115, 2) := by decide +kernel
theorem dD_grid_38 : decode cD_grid 38 = .ok (.if_icmp .le 13, 3) := by decide +kernel
theorem dD_grid_41 : decode cD_grid 41 = .ok (.new 95, 3) := by decide +kernel
theorem dD_grid_51 : decode cD_grid 51 = .ok (.aload_n 0, 1) := by decide +kernel
theorem dD_grid_52 : decode cD_grid 52 = .ok (.getfield 24, 3) := by decide +kernel
theorem dD_grid_55 : decode cD_grid 55 = .ok (.iload_n 1, 1) := by decide +kernel
theorem dD_grid_56 : decode cD_grid 56 = .ok (.invokevirtual 118, 3) := by decide +kernel
theorem dD_grid_59 : decode cD_grid 59 = .ok (.ireturn, 1) := by decide +kernel
def fD_grid (h : cH) (z : cZ) (x1 : Int32) : Option (Int32 × cZ) := (fD_needList h z).bind fun z1 => if x1 < (1 : Int32) then none else (if x1 ≤ (100000 : Int32) then ((fS_greatestTick h z1).bind fun (r4, z4) => (fD_nearest h z4 r4 x1).bind fun (r5, z5) => if r5 ≤ (268435455 : Int32) then ((fS_roundTicks h z5 x1).bind fun (r7, z7) => some (r7, z7)) else none) else none)
set_option maxHeartbeats 4000000 in
set_option maxRecDepth 100000 in
theorem cD_grid_met {l : Launch} {g : gT} {qq ad ea : Nat → Nat} {h : cH} {X : va_W} {z z' : cZ} {x1 : Int32} {r' : Int32} (hf : fD_grid h z x1 = some (r', z')) : cMet l yD_grid cD_grid 2 (some .int) rD_grid g qq ad ea h X z [.ref (qq 0), .int x1] (some (.int r')) X z' := by
  refine c_entry (by decide) (Nat.le_of_ble_eq_true rfl) ?_
  intro p e s m args below meth c ls C hr hlk hnm hl hw
  have hrv : (some (.int r') : Option Value) = some (.int r') := rfl
  have C : mCx p m c cD_grid 2 s args g "MidiDesk" := C
  have hl : lv_has ls 2 [(0, .ref (qq 0)), (1, .int x1)] := hl
  unfold fD_grid at hf
  refine lv_aload_n C.1.1 C.1.2.1 dD_grid_0 rfl (lv_at hl 0 rfl) ?_
  obtain ⟨z1, g1, hf⟩ := ts_b hf
  try dsimp only at hf
  refine c_callV (rest := []) (As := []) (rv := none) (b := (qq 0)) C hl.1 hw (cD_needList_met g1) rfl (callW_of (rm := rD_needList) (C := "MidiDesk") 0 C.1.2.2.2.2 gw_480 gw_482 gw_18 gw_52 gw_483 kD_needList ⟨Nat.le_of_ble_eq_true rfl, Nat.le_of_ble_eq_true rfl⟩) (c_recv_desk C.2 hw) rfl rfl (Nat.le_of_ble_eq_true rfl) dD_grid_1 ⟨Nat.le_of_ble_eq_true rfl, Nat.le_of_ble_eq_true rfl⟩ (fun H locs hw => ?_)
  refine W.eq (g2 := F0 m 4 ls []) rfl ?_
  refine lv_iload_n C.1.1 C.1.2.1 dD_grid_4 rfl (lv_at hl 1 rfl) ?_
  refine lv_iconst (v := (1 : Int32)) C.1.1 C.1.2.1 dD_grid_5 (by decide) ?_
  refine lv_icmp_lt (tgt := 15) C.1.1 C.1.2.1 dD_grid_6 (by decide) (fun c2 => ?_) (fun c2 => ?_)
  · have hf := ts_t hf c2
    cases hf
  · have hf := ts_f hf c2
    refine lv_iload_n C.1.1 C.1.2.1 dD_grid_9 rfl (lv_at hl 1 rfl) ?_
    refine lv_ldc C.1.1 C.1.2.1 C.1.2.2.2.1 (C.1.2.2.2.2 _ gw_619) dD_grid_10 ?_
    refine lv_icmp_le (tgt := 25) C.1.1 C.1.2.1 dD_grid_12 (by decide) (fun c3 => ?_) (fun c3 => ?_)
    · have hf := ts_t hf c3
      refine lv_aload_n C.1.1 C.1.2.1 dD_grid_25 rfl (lv_at hl 0 rfl) ?_
      refine cg_Desk_Desk_score C hw dD_grid_26 ?_
      obtain ⟨⟨r4, z4⟩, g4, hf⟩ := ts_b hf
      try dsimp only at hf
      refine c_callV (rest := []) (As := []) (rv := (some (.int r4))) (b := (qq 4)) C hl.1 hw (cS_greatestTick_met g4) rfl (callW_of (rm := rS_greatestTick) (C := "MidiDesk$Score") 0 C.1.2.2.2.2 gw_439 gw_440 gw_441 gw_54 gw_442 kS_greatestTick ⟨Nat.le_of_ble_eq_true rfl, Nat.le_of_ble_eq_true rfl⟩) (c_recv_score C.2 hw) rfl rfl (Nat.le_of_ble_eq_true rfl) dD_grid_29 ⟨Nat.le_of_ble_eq_true rfl, Nat.le_of_ble_eq_true rfl⟩ (fun H locs hw => ?_)
      refine W.eq (g2 := F0 m 32 ls [.int r4]) rfl ?_
      refine lv_iload_n C.1.1 C.1.2.1 dD_grid_32 rfl (lv_at hl 1 rfl) ?_
      obtain ⟨⟨r5, z5⟩, g5, hf⟩ := ts_b hf
      try dsimp only at hf
      refine c_callS (rest := []) (As := [.int r4, .int x1]) (rv := (some (.int r5))) C hl.1 hw (cD_nearest_met g5) (callS_of (rm := rD_nearest) 2 C.1.2.2.2.2 gw_621 gw_622 gw_52 gw_623 kD_nearest ⟨Nat.le_of_ble_eq_true rfl, Nat.le_of_ble_eq_true rfl⟩) rfl rfl (Nat.le_of_ble_eq_true rfl) dD_grid_33 ⟨Nat.le_of_ble_eq_true rfl, Nat.le_of_ble_eq_true rfl⟩ (fun H locs hw => ?_)
      refine W.eq (g2 := F0 m 36 ls [.int r5]) rfl ?_
      refine lv_ldc C.1.1 C.1.2.1 C.1.2.2.2.1 (C.1.2.2.2.2 _ gw_555) dD_grid_36 ?_
      refine lv_icmp_le (tgt := 51) C.1.1 C.1.2.1 dD_grid_38 (by decide) (fun c6 => ?_) (fun c6 => ?_)
      · have hf := ts_t hf c6
        refine lv_aload_n C.1.1 C.1.2.1 dD_grid_51 rfl (lv_at hl 0 rfl) ?_
        refine cg_Desk_Desk_score C hw dD_grid_52 ?_
        refine lv_iload_n C.1.1 C.1.2.1 dD_grid_55 rfl (lv_at hl 1 rfl) ?_
        obtain ⟨⟨r7, z7⟩, g7, hf⟩ := ts_b hf
        try dsimp only at hf
        refine c_callV (rest := []) (As := [.int x1]) (rv := (some (.int r7))) (b := (qq 4)) C hl.1 hw (cS_roundTicks_met g7) rfl (callW_of (rm := rS_roundTicks) (C := "MidiDesk$Score") 1 C.1.2.2.2.2 gw_625 gw_626 gw_627 gw_54 gw_628 kS_roundTicks ⟨Nat.le_of_ble_eq_true rfl, Nat.le_of_ble_eq_true rfl⟩) (c_recv_score C.2 hw) rfl rfl (Nat.le_of_ble_eq_true rfl) dD_grid_56 ⟨Nat.le_of_ble_eq_true rfl, Nat.le_of_ble_eq_true rfl⟩ (fun H locs hw => ?_)
        refine W.eq (g2 := F0 m 59 ls [.int r7]) rfl ?_
        exact c_reti C hr hlk hrv hw hf rfl ⟨Nat.le_of_ble_eq_true rfl, Nat.le_of_ble_eq_true rfl⟩ dD_grid_59
      · have hf := ts_f hf c6
        cases hf
    · have hf := ts_f hf c3
      cases hf
abbrev cD_clear : ByteArray := prog_1_method_11_code
abbrev yD_clear : MethodName := ⟨"MidiDesk", "clear", "(I)I"⟩
theorem kD_clear : yD_clear.cls ≠ "java/lang/invoke/MethodHandle" ∧ yD_clear.cls ≠ "java/lang/invoke/VarHandle" ∧ (parseMethodDescriptor yD_clear.desc).map (fun d => d.parameters.length) = some 1 := by decide +kernel
abbrev rD_clear : Room := { frames := 2, cells := 0, slots := 0, locals := 49 }
theorem dD_clear_0 : decode cD_clear 0 = .ok (.aload_n 0, 1) := by decide +kernel
theorem dD_clear_1 : decode cD_clear 1 = .ok (.invokevirtual 79, 3) := by decide +kernel
theorem dD_clear_4 : decode cD_clear 4 = .ok (.iload_n 1, 1) := by decide +kernel
theorem dD_clear_5 : decode cD_clear 5 = .ok (.ifCond .lt 14, 3) := by decide +kernel
theorem dD_clear_8 : decode cD_clear 8 = .ok (.iload_n 1, 1) := by decide +kernel
theorem dD_clear_9 : decode cD_clear 9 = .ok (.aload_n 0, 1) := by decide +kernel
theorem dD_clear_10 : decode cD_clear 10 = .ok (.getfield 24, 3) := by decide +kernel
theorem dD_clear_13 : decode cD_clear 13 = .ok (.getfield 121, 3) := by decide +kernel
theorem dD_clear_16 : decode cD_clear 16 = .ok (.if_icmp .lt 13, 3) := by decide +kernel
theorem dD_clear_19 : decode cD_clear 19 = .ok (.new 95, 3) := by decide +kernel
theorem dD_clear_29 : decode cD_clear 29 = .ok (.aload_n 0, 1) := by decide +kernel
theorem dD_clear_30 : decode cD_clear 30 = .ok (.getfield 24, 3) := by decide +kernel
theorem dD_clear_33 : decode cD_clear 33 = .ok (.iload_n 1, 1) := by decide +kernel
theorem dD_clear_34 : decode cD_clear 34 = .ok (.invokevirtual 126, 3) := by decide +kernel
theorem dD_clear_37 : decode cD_clear 37 = .ok (.ireturn, 1) := by decide +kernel
def fD_clear (h : cH) (z : cZ) (x1 : Int32) : Option (Int32 × cZ) := (fD_needList h z).bind fun z1 => if x1 < 0 then none else (if x1 < (zi z1 5) then ((fS_dropTrack h z1 x1).bind fun (r4, z4) => some (r4, z4)) else none)
set_option maxHeartbeats 4000000 in
set_option maxRecDepth 100000 in
theorem cD_clear_met {l : Launch} {g : gT} {qq ad ea : Nat → Nat} {h : cH} {X : va_W} {z z' : cZ} {x1 : Int32} {r' : Int32} (hf : fD_clear h z x1 = some (r', z')) : cMet l yD_clear cD_clear 2 (some .int) rD_clear g qq ad ea h X z [.ref (qq 0), .int x1] (some (.int r')) X z' := by
  refine c_entry (by decide) (Nat.le_of_ble_eq_true rfl) ?_
  intro p e s m args below meth c ls C hr hlk hnm hl hw
  have hrv : (some (.int r') : Option Value) = some (.int r') := rfl
  have C : mCx p m c cD_clear 2 s args g "MidiDesk" := C
  have hl : lv_has ls 2 [(0, .ref (qq 0)), (1, .int x1)] := hl
  unfold fD_clear at hf
  refine lv_aload_n C.1.1 C.1.2.1 dD_clear_0 rfl (lv_at hl 0 rfl) ?_
  obtain ⟨z1, g1, hf⟩ := ts_b hf
  try dsimp only at hf
  refine c_callV (rest := []) (As := []) (rv := none) (b := (qq 0)) C hl.1 hw (cD_needList_met g1) rfl (callW_of (rm := rD_needList) (C := "MidiDesk") 0 C.1.2.2.2.2 gw_480 gw_482 gw_18 gw_52 gw_483 kD_needList ⟨Nat.le_of_ble_eq_true rfl, Nat.le_of_ble_eq_true rfl⟩) (c_recv_desk C.2 hw) rfl rfl (Nat.le_of_ble_eq_true rfl) dD_clear_1 ⟨Nat.le_of_ble_eq_true rfl, Nat.le_of_ble_eq_true rfl⟩ (fun H locs hw => ?_)
  refine W.eq (g2 := F0 m 4 ls []) rfl ?_
  refine lv_iload_n C.1.1 C.1.2.1 dD_clear_4 rfl (lv_at hl 1 rfl) ?_
  refine lv_if_lt (tgt := 19) C.1.1 C.1.2.1 dD_clear_5 (by decide) (fun c2 => ?_) (fun c2 => ?_)
  · have hf := ts_t hf c2
    cases hf
  · have hf := ts_f hf c2
    refine lv_iload_n C.1.1 C.1.2.1 dD_clear_8 rfl (lv_at hl 1 rfl) ?_
    refine lv_aload_n C.1.1 C.1.2.1 dD_clear_9 rfl (lv_at hl 0 rfl) ?_
    refine cg_Desk_Desk_score C hw dD_clear_10 ?_
    refine cg_Desk_Score_tracks C hw dD_clear_13 ?_
    refine lv_icmp_lt (tgt := 29) C.1.1 C.1.2.1 dD_clear_16 (by decide) (fun c3 => ?_) (fun c3 => ?_)
    · have hf := ts_t hf c3
      refine lv_aload_n C.1.1 C.1.2.1 dD_clear_29 rfl (lv_at hl 0 rfl) ?_
      refine cg_Desk_Desk_score C hw dD_clear_30 ?_
      refine lv_iload_n C.1.1 C.1.2.1 dD_clear_33 rfl (lv_at hl 1 rfl) ?_
      obtain ⟨⟨r4, z4⟩, g4, hf⟩ := ts_b hf
      try dsimp only at hf
      refine c_callV (rest := []) (As := [.int x1]) (rv := (some (.int r4))) (b := (qq 4)) C hl.1 hw (cS_dropTrack_met g4) rfl (callW_of (rm := rS_dropTrack) (C := "MidiDesk$Score") 1 C.1.2.2.2.2 gw_639 gw_640 gw_641 gw_54 gw_642 kS_dropTrack ⟨Nat.le_of_ble_eq_true rfl, Nat.le_of_ble_eq_true rfl⟩) (c_recv_score C.2 hw) rfl rfl (Nat.le_of_ble_eq_true rfl) dD_clear_34 ⟨Nat.le_of_ble_eq_true rfl, Nat.le_of_ble_eq_true rfl⟩ (fun H locs hw => ?_)
      refine W.eq (g2 := F0 m 37 ls [.int r4]) rfl ?_
      exact c_reti C hr hlk hrv hw hf rfl ⟨Nat.le_of_ble_eq_true rfl, Nat.le_of_ble_eq_true rfl⟩ dD_clear_37
    · have hf := ts_f hf c3
      cases hf
