abbrev cB0_size : ByteArray := prog_2_method_2_code
abbrev yB0_size : MethodName := ⟨"MidiDesk$Bytes", "size", "()I"⟩
theorem kB0_size : yB0_size.cls ≠ "java/lang/invoke/MethodHandle" ∧ yB0_size.cls ≠ "java/lang/invoke/VarHandle" ∧ (parseMethodDescriptor yB0_size.desc).map (fun d => d.parameters.length) = some 0 := by decide +kernel
abbrev rB0_size : Room := { frames := 0, cells := 0, slots := 0, locals := 0 }
theorem dB0_size_0 : decode cB0_size 0 = .ok (.aload_n 0, 1) := by decide +kernel
theorem dB0_size_1 : decode cB0_size 1 = .ok (.getfield 19, 3) := by decide +kernel
theorem dB0_size_4 : decode cB0_size 4 = .ok (.ireturn, 1) := by decide +kernel
def fB0_size (h : cH) (z : cZ) : Option (Int32 × cZ) := some (zi z 0, z)
set_option maxHeartbeats 4000000 in
set_option maxRecDepth 100000 in
theorem cB0_size_met {l : Launch} {g : gT} {qq ad ea : Nat → Nat} {h : cH} {X : va_W} {z z' : cZ} {r' : Int32} (hf : fB0_size h z = some (r', z')) : cMet l yB0_size cB0_size 1 (some .int) rB0_size g qq ad ea h X z [.ref (qq 1)] (some (.int r')) X z' := by
  refine c_entry (by decide) (Nat.le_of_ble_eq_true rfl) ?_
  intro p e s m args below meth c ls C hr hlk hnm hl hw
  have hrv : (some (.int r') : Option Value) = some (.int r') := rfl
  have C : mCx p m c cB0_size 1 s args g "MidiDesk$Bytes" := C
  have hl : lv_has ls 1 [(0, .ref (qq 1))] := hl
  unfold fB0_size at hf
  refine lv_aload_n C.1.1 C.1.2.1 dB0_size_0 rfl (lv_at hl 0 rfl) ?_
  refine cg_Bytes_Bytes_size_B0 C hw dB0_size_1 ?_
  exact c_reti C hr hlk hrv hw hf rfl ⟨Nat.le_of_ble_eq_true rfl, Nat.le_of_ble_eq_true rfl⟩ dB0_size_4
abbrev cB0_at : ByteArray := prog_2_method_3_code
abbrev yB0_at : MethodName := ⟨"MidiDesk$Bytes", "at", "(I)I"⟩
theorem kB0_at : yB0_at.cls ≠ "java/lang/invoke/MethodHandle" ∧ yB0_at.cls ≠ "java/lang/invoke/VarHandle" ∧ (parseMethodDescriptor yB0_at.desc).map (fun d => d.parameters.length) = some 1 := by decide +kernel
abbrev rB0_at : Room := { frames := 0, cells := 0, slots := 0, locals := 0 }
theorem dB0_at_0 : decode cB0_at 0 = .ok (.iload_n 1, 1) := by decide +kernel
theorem dB0_at_1 : decode cB0_at 1 = .ok (.ifCond .lt 20, 3) := by decide +kernel
theorem dB0_at_4 : decode cB0_at 4 = .ok (.iload_n 1, 1) := by decide +kernel
theorem dB0_at_5 : decode cB0_at 5 = .ok (.aload_n 0, 1) := by decide +kernel
theorem dB0_at_6 : decode cB0_at 6 = .ok (.getfield 19, 3) := by decide +kernel
theorem dB0_at_9 : decode cB0_at 9 = .ok (.if_icmp .ge 12, 3) := by decide +kernel
theorem dB0_at_12 : decode cB0_at 12 = .ok (.aload_n 0, 1) := by decide +kernel
theorem dB0_at_13 : decode cB0_at 13 = .ok (.getfield 15, 3) := by decide +kernel
theorem dB0_at_16 : decode cB0_at 16 = .ok (.iload_n 1, 1) := by decide +kernel
theorem dB0_at_17 : decode cB0_at 17 = .ok (.iaload, 1) := by decide +kernel
theorem dB0_at_18 : decode cB0_at 18 = .ok (.goto 4, 3) := by decide +kernel
theorem dB0_at_21 : decode cB0_at 21 = .ok (.iconst (-1), 1) := by decide +kernel
theorem dB0_at_22 : decode cB0_at 22 = .ok (.ireturn, 1) := by decide +kernel
def fB0_at (h : cH) (z : cZ) (x1 : Int32) : Option (Int32 × cZ) := if x1 < 0 then (some ((-1 : Int32), z)) else (if (zi z 0) ≤ x1 then (some ((-1 : Int32), z)) else (if x1 < 0 ∨ h.1 0 ≤ x1.toNatClampNeg then none else (some (za z 0 x1.toNatClampNeg, z))))
set_option maxHeartbeats 4000000 in
set_option maxRecDepth 100000 in
theorem cB0_at_met {l : Launch} {g : gT} {qq ad ea : Nat → Nat} {h : cH} {X : va_W} {z z' : cZ} {x1 : Int32} {r' : Int32} (hf : fB0_at h z x1 = some (r', z')) : cMet l yB0_at cB0_at 2 (some .int) rB0_at g qq ad ea h X z [.ref (qq 1), .int x1] (some (.int r')) X z' := by
  refine c_entry (by decide) (Nat.le_of_ble_eq_true rfl) ?_
  intro p e s m args below meth c ls C hr hlk hnm hl hw
  have hrv : (some (.int r') : Option Value) = some (.int r') := rfl
  have C : mCx p m c cB0_at 2 s args g "MidiDesk$Bytes" := C
  have hl : lv_has ls 2 [(0, .ref (qq 1)), (1, .int x1)] := hl
  unfold fB0_at at hf
  refine lv_iload_n C.1.1 C.1.2.1 dB0_at_0 rfl (lv_at hl 1 rfl) ?_
  refine lv_if_lt (tgt := 21) C.1.1 C.1.2.1 dB0_at_1 (by decide) (fun c1 => ?_) (fun c1 => ?_)
  · have hf := ts_t hf c1
    refine lv_iconst (v := (-1 : Int32)) C.1.1 C.1.2.1 dB0_at_21 (by decide) ?_
    exact c_reti C hr hlk hrv hw hf rfl ⟨Nat.le_of_ble_eq_true rfl, Nat.le_of_ble_eq_true rfl⟩ dB0_at_22
  · have hf := ts_f hf c1
    refine lv_iload_n C.1.1 C.1.2.1 dB0_at_4 rfl (lv_at hl 1 rfl) ?_
    refine lv_aload_n C.1.1 C.1.2.1 dB0_at_5 rfl (lv_at hl 0 rfl) ?_
    refine cg_Bytes_Bytes_size_B0 C hw dB0_at_6 ?_
    refine lv_icmp_ge (tgt := 21) C.1.1 C.1.2.1 dB0_at_9 (by decide) (fun c2 => ?_) (fun c2 => ?_)
    · have hf := ts_t hf c2
      refine lv_iconst (v := (-1 : Int32)) C.1.1 C.1.2.1 dB0_at_21 (by decide) ?_
      exact c_reti C hr hlk hrv hw hf rfl ⟨Nat.le_of_ble_eq_true rfl, Nat.le_of_ble_eq_true rfl⟩ dB0_at_22
    · have hf := ts_f hf c2
      refine lv_aload_n C.1.1 C.1.2.1 dB0_at_12 rfl (lv_at hl 0 rfl) ?_
      refine cg_Bytes_Bytes_row_B0 C hw dB0_at_13 ?_
      refine lv_iload_n C.1.1 C.1.2.1 dB0_at_16 rfl (lv_at hl 1 rfl) ?_
      obtain ⟨h3, hf⟩ := ts_g hf
      refine ca_0 C hw h3 dB0_at_17 ?_
      refine lv_goto (tgt := 22) C.1.1 C.1.2.1 dB0_at_18 (by decide) ?_
      exact c_reti C hr hlk hrv hw hf rfl ⟨Nat.le_of_ble_eq_true rfl, Nat.le_of_ble_eq_true rfl⟩ dB0_at_22
abbrev cB0_empty : ByteArray := prog_2_method_6_code
abbrev yB0_empty : MethodName := ⟨"MidiDesk$Bytes", "empty", "()V"⟩
theorem kB0_empty : yB0_empty.cls ≠ "java/lang/invoke/MethodHandle" ∧ yB0_empty.cls ≠ "java/lang/invoke/VarHandle" ∧ (parseMethodDescriptor yB0_empty.desc).map (fun d => d.parameters.length) = some 0 := by decide +kernel
abbrev rB0_empty : Room := { frames := 0, cells := 0, slots := 0, locals := 0 }
theorem dB0_empty_0 : decode cB0_empty 0 = .ok (.aload_n 0, 1) := by decide +kernel
theorem dB0_empty_1 : decode cB0_empty 1 = .ok (.iconst 0, 1) := by decide +kernel
theorem dB0_empty_2 : decode cB0_empty 2 = .ok (.putfield 19, 3) := by decide +kernel
theorem dB0_empty_5 : decode cB0_empty 5 = .ok (.return_, 1) := by decide +kernel
def fB0_empty (h : cH) (z : cZ) : Option (cZ) := some (zU z 0 (0 : Int32))
set_option maxHeartbeats 4000000 in
set_option maxRecDepth 100000 in
theorem cB0_empty_met {l : Launch} {g : gT} {qq ad ea : Nat → Nat} {h : cH} {X : va_W} {z z' : cZ} (hf : fB0_empty h z = some z') : cMet l yB0_empty cB0_empty 1 none rB0_empty g qq ad ea h X z [.ref (qq 1)] (none) X z' := by
  refine c_entry (by decide) (Nat.le_of_ble_eq_true rfl) ?_
  intro p e s m args below meth c ls C hr hlk hnm hl hw
  have hrv : (none : Option Value) = none := rfl
  have C : mCx p m c cB0_empty 1 s args g "MidiDesk$Bytes" := C
  have hl : lv_has ls 1 [(0, .ref (qq 1))] := hl
  unfold fB0_empty at hf
  refine lv_aload_n C.1.1 C.1.2.1 dB0_empty_0 rfl (lv_at hl 0 rfl) ?_
  refine lv_iconst (v := (0 : Int32)) C.1.1 C.1.2.1 dB0_empty_1 (by decide) ?_
  refine cp_Bytes_Bytes_size_B0 C hw dB0_empty_2 (fun H locs hw => ?_)
  exact c_retv C hr hlk hrv hw hf rfl ⟨Nat.le_of_ble_eq_true rfl, Nat.le_of_ble_eq_true rfl⟩ dB0_empty_5
abbrev cB1_size : ByteArray := prog_2_method_2_code
abbrev yB1_size : MethodName := ⟨"MidiDesk$Bytes", "size", "()I"⟩
theorem kB1_size : yB1_size.cls ≠ "java/lang/invoke/MethodHandle" ∧ yB1_size.cls ≠ "java/lang/invoke/VarHandle" ∧ (parseMethodDescriptor yB1_size.desc).map (fun d => d.parameters.length) = some 0 := by decide +kernel
abbrev rB1_size : Room := { frames := 0, cells := 0, slots := 0, locals := 0 }
theorem dB1_size_0 : decode cB1_size 0 = .ok (.aload_n 0, 1) := by decide +kernel
theorem dB1_size_1 : decode cB1_size 1 = .ok (.getfield 19, 3) := by decide +kernel
theorem dB1_size_4 : decode cB1_size 4 = .ok (.ireturn, 1) := by decide +kernel
def fB1_size (h : cH) (z : cZ) : Option (Int32 × cZ) := some (zi z 1, z)
set_option maxHeartbeats 4000000 in
set_option maxRecDepth 100000 in
theorem cB1_size_met {l : Launch} {g : gT} {qq ad ea : Nat → Nat} {h : cH} {X : va_W} {z z' : cZ} {r' : Int32} (hf : fB1_size h z = some (r', z')) : cMet l yB1_size cB1_size 1 (some .int) rB1_size g qq ad ea h X z [.ref (qq 2)] (some (.int r')) X z' := by
  refine c_entry (by decide) (Nat.le_of_ble_eq_true rfl) ?_
  intro p e s m args below meth c ls C hr hlk hnm hl hw
  have hrv : (some (.int r') : Option Value) = some (.int r') := rfl
  have C : mCx p m c cB1_size 1 s args g "MidiDesk$Bytes" := C
  have hl : lv_has ls 1 [(0, .ref (qq 2))] := hl
  unfold fB1_size at hf
  refine lv_aload_n C.1.1 C.1.2.1 dB1_size_0 rfl (lv_at hl 0 rfl) ?_
  refine cg_Bytes_Bytes_size_B1 C hw dB1_size_1 ?_
  exact c_reti C hr hlk hrv hw hf rfl ⟨Nat.le_of_ble_eq_true rfl, Nat.le_of_ble_eq_true rfl⟩ dB1_size_4
abbrev cB1_at : ByteArray := prog_2_method_3_code
abbrev yB1_at : MethodName := ⟨"MidiDesk$Bytes", "at", "(I)I"⟩
theorem kB1_at : yB1_at.cls ≠ "java/lang/invoke/MethodHandle" ∧ yB1_at.cls ≠ "java/lang/invoke/VarHandle" ∧ (parseMethodDescriptor yB1_at.desc).map (fun d => d.parameters.length) = some 1 := by decide +kernel
abbrev rB1_at : Room := { frames := 0, cells := 0, slots := 0, locals := 0 }
theorem dB1_at_0 : decode cB1_at 0 = .ok (.iload_n 1, 1) := by decide +kernel
theorem dB1_at_1 : decode cB1_at 1 = .ok (.ifCond .lt 20, 3) := by decide +kernel
theorem dB1_at_4 : decode cB1_at 4 = .ok (.iload_n 1, 1) := by decide +kernel
theorem dB1_at_5 : decode cB1_at 5 = .ok (.aload_n 0, 1) := by decide +kernel
theorem dB1_at_6 : decode cB1_at 6 = .ok (.getfield 19, 3) := by decide +kernel
theorem dB1_at_9 : decode cB1_at 9 = .ok (.if_icmp .ge 12, 3) := by decide +kernel
theorem dB1_at_12 : decode cB1_at 12 = .ok (.aload_n 0, 1) := by decide +kernel
theorem dB1_at_13 : decode cB1_at 13 = .ok (.getfield 15, 3) := by decide +kernel
theorem dB1_at_16 : decode cB1_at 16 = .ok (.iload_n 1, 1) := by decide +kernel
theorem dB1_at_17 : decode cB1_at 17 = .ok (.iaload, 1) := by decide +kernel
theorem dB1_at_18 : decode cB1_at 18 = .ok (.goto 4, 3) := by decide +kernel
theorem dB1_at_21 : decode cB1_at 21 = .ok (.iconst (-1), 1) := by decide +kernel
theorem dB1_at_22 : decode cB1_at 22 = .ok (.ireturn, 1) := by decide +kernel
def fB1_at (h : cH) (z : cZ) (x1 : Int32) : Option (Int32 × cZ) := if x1 < 0 then (some ((-1 : Int32), z)) else (if (zi z 1) ≤ x1 then (some ((-1 : Int32), z)) else (if x1 < 0 ∨ h.1 1 ≤ x1.toNatClampNeg then none else (some (za z 1 x1.toNatClampNeg, z))))
set_option maxHeartbeats 4000000 in
set_option maxRecDepth 100000 in
theorem cB1_at_met {l : Launch} {g : gT} {qq ad ea : Nat → Nat} {h : cH} {X : va_W} {z z' : cZ} {x1 : Int32} {r' : Int32} (hf : fB1_at h z x1 = some (r', z')) : cMet l yB1_at cB1_at 2 (some .int) rB1_at g qq ad ea h X z [.ref (qq 2), .int x1] (some (.int r')) X z' := by
  refine c_entry (by decide) (Nat.le_of_ble_eq_true rfl) ?_
  intro p e s m args below meth c ls C hr hlk hnm hl hw
  have hrv : (some (.int r') : Option Value) = some (.int r') := rfl
  have C : mCx p m c cB1_at 2 s args g "MidiDesk$Bytes" := C
  have hl : lv_has ls 2 [(0, .ref (qq 2)), (1, .int x1)] := hl
  unfold fB1_at at hf
  refine lv_iload_n C.1.1 C.1.2.1 dB1_at_0 rfl (lv_at hl 1 rfl) ?_
  refine lv_if_lt (tgt := 21) C.1.1 C.1.2.1 dB1_at_1 (by decide) (fun c1 => ?_) (fun c1 => ?_)
  · have hf := ts_t hf c1
    refine lv_iconst (v := (-1 : Int32)) C.1.1 C.1.2.1 dB1_at_21 (by decide) ?_
    exact c_reti C hr hlk hrv hw hf rfl ⟨Nat.le_of_ble_eq_true rfl, Nat.le_of_ble_eq_true rfl⟩ dB1_at_22
  · have hf := ts_f hf c1
    refine lv_iload_n C.1.1 C.1.2.1 dB1_at_4 rfl (lv_at hl 1 rfl) ?_
    refine lv_aload_n C.1.1 C.1.2.1 dB1_at_5 rfl (lv_at hl 0 rfl) ?_
    refine cg_Bytes_Bytes_size_B1 C hw dB1_at_6 ?_
    refine lv_icmp_ge (tgt := 21) C.1.1 C.1.2.1 dB1_at_9 (by decide) (fun c2 => ?_) (fun c2 => ?_)
    · have hf := ts_t hf c2
      refine lv_iconst (v := (-1 : Int32)) C.1.1 C.1.2.1 dB1_at_21 (by decide) ?_
      exact c_reti C hr hlk hrv hw hf rfl ⟨Nat.le_of_ble_eq_true rfl, Nat.le_of_ble_eq_true rfl⟩ dB1_at_22
    · have hf := ts_f hf c2
      refine lv_aload_n C.1.1 C.1.2.1 dB1_at_12 rfl (lv_at hl 0 rfl) ?_
      refine cg_Bytes_Bytes_row_B1 C hw dB1_at_13 ?_
      refine lv_iload_n C.1.1 C.1.2.1 dB1_at_16 rfl (lv_at hl 1 rfl) ?_
      obtain ⟨h3, hf⟩ := ts_g hf
      refine ca_1 C hw h3 dB1_at_17 ?_
      refine lv_goto (tgt := 22) C.1.1 C.1.2.1 dB1_at_18 (by decide) ?_
      exact c_reti C hr hlk hrv hw hf rfl ⟨Nat.le_of_ble_eq_true rfl, Nat.le_of_ble_eq_true rfl⟩ dB1_at_22
abbrev cB1_change : ByteArray := prog_2_method_5_code
abbrev yB1_change : MethodName := ⟨"MidiDesk$Bytes", "change", "(II)V"⟩
theorem kB1_change : yB1_change.cls ≠ "java/lang/invoke/MethodHandle" ∧ yB1_change.cls ≠ "java/lang/invoke/VarHandle" ∧ (parseMethodDescriptor yB1_change.desc).map (fun d => d.parameters.length) = some 2 := by decide +kernel
abbrev rB1_change : Room := { frames := 0, cells := 0, slots := 0, locals := 0 }
theorem dB1_change_0 : decode cB1_change 0 = .ok (.iload_n 1, 1) := by decide +kernel
theorem dB1_change_1 : decode cB1_change 1 = .ok (.ifCond .lt 22, 3) := by decide +kernel
theorem dB1_change_4 : decode cB1_change 4 = .ok (.iload_n 1, 1) := by decide +kernel
theorem dB1_change_5 : decode cB1_change 5 = .ok (.aload_n 0, 1) := by decide +kernel
theorem dB1_change_6 : decode cB1_change 6 = .ok (.getfield 19, 3) := by decide +kernel
theorem dB1_change_9 : decode cB1_change 9 = .ok (.if_icmp .ge 14, 3) := by decide +kernel
theorem dB1_change_12 : decode cB1_change 12 = .ok (.aload_n 0, 1) := by decide +kernel
theorem dB1_change_13 : decode cB1_change 13 = .ok (.getfield 15, 3) := by decide +kernel
theorem dB1_change_16 : decode cB1_change 16 = .ok (.iload_n 1, 1) := by decide +kernel
theorem dB1_change_17 : decode cB1_change 17 = .ok (.iload_n 2, 1) := by decide +kernel
theorem dB1_change_18 : decode cB1_change 18 = .ok (.sipush 255, 3) := by decide +kernel
theorem dB1_change_21 : decode cB1_change 21 = .ok (.iand, 1) := by decide +kernel
theorem dB1_change_22 : decode cB1_change 22 = .ok (.iastore, 1) := by decide +kernel
theorem dB1_change_23 : decode cB1_change 23 = .ok (.return_, 1) := by decide +kernel
def fB1_change (h : cH) (z : cZ) (x1 : Int32) (x2 : Int32) : Option (cZ) := if x1 < 0 then (some z) else (if (zi z 1) ≤ x1 then (some z) else (if x1 < 0 ∨ h.1 1 ≤ x1.toNatClampNeg then none else (some (zA z 1 x1.toNatClampNeg (x2 &&& (255 : Int32))))))
set_option maxHeartbeats 4000000 in
set_option maxRecDepth 100000 in
theorem cB1_change_met {l : Launch} {g : gT} {qq ad ea : Nat → Nat} {h : cH} {X : va_W} {z z' : cZ} {x1 : Int32} {x2 : Int32} (hf : fB1_change h z x1 x2 = some z') : cMet l yB1_change cB1_change 3 none rB1_change g qq ad ea h X z [.ref (qq 2), .int x1, .int x2] (none) X z' := by
  refine c_entry (by decide) (Nat.le_of_ble_eq_true rfl) ?_
  intro p e s m args below meth c ls C hr hlk hnm hl hw
  have hrv : (none : Option Value) = none := rfl
  have C : mCx p m c cB1_change 3 s args g "MidiDesk$Bytes" := C
  have hl : lv_has ls 3 [(0, .ref (qq 2)), (1, .int x1), (2, .int x2)] := hl
  unfold fB1_change at hf
  refine lv_iload_n C.1.1 C.1.2.1 dB1_change_0 rfl (lv_at hl 1 rfl) ?_
  refine lv_if_lt (tgt := 23) C.1.1 C.1.2.1 dB1_change_1 (by decide) (fun c1 => ?_) (fun c1 => ?_)
  · have hf := ts_t hf c1
    exact c_retv C hr hlk hrv hw hf rfl ⟨Nat.le_of_ble_eq_true rfl, Nat.le_of_ble_eq_true rfl⟩ dB1_change_23
  · have hf := ts_f hf c1
    refine lv_iload_n C.1.1 C.1.2.1 dB1_change_4 rfl (lv_at hl 1 rfl) ?_
    refine lv_aload_n C.1.1 C.1.2.1 dB1_change_5 rfl (lv_at hl 0 rfl) ?_
    refine cg_Bytes_Bytes_size_B1 C hw dB1_change_6 ?_
    refine lv_icmp_ge (tgt := 23) C.1.1 C.1.2.1 dB1_change_9 (by decide) (fun c2 => ?_) (fun c2 => ?_)
    · have hf := ts_t hf c2
      exact c_retv C hr hlk hrv hw hf rfl ⟨Nat.le_of_ble_eq_true rfl, Nat.le_of_ble_eq_true rfl⟩ dB1_change_23
    · have hf := ts_f hf c2
      refine lv_aload_n C.1.1 C.1.2.1 dB1_change_12 rfl (lv_at hl 0 rfl) ?_
      refine cg_Bytes_Bytes_row_B1 C hw dB1_change_13 ?_
      refine lv_iload_n C.1.1 C.1.2.1 dB1_change_16 rfl (lv_at hl 1 rfl) ?_
      refine lv_iload_n C.1.1 C.1.2.1 dB1_change_17 rfl (lv_at hl 2 rfl) ?_
      refine lv_sipush (v := (255 : Int32)) C.1.1 C.1.2.1 dB1_change_18 (by decide) ?_
      refine lv_iand C.1.1 C.1.2.1 dB1_change_21 ?_
      obtain ⟨h3, hf⟩ := ts_g hf
      refine cs_1 C hw h3 dB1_change_22 (fun H locs hw => ?_)
      exact c_retv C hr hlk hrv hw hf rfl ⟨Nat.le_of_ble_eq_true rfl, Nat.le_of_ble_eq_true rfl⟩ dB1_change_23
abbrev cB1_empty : ByteArray := prog_2_method_6_code
abbrev yB1_empty : MethodName := ⟨"MidiDesk$Bytes", "empty", "()V"⟩
theorem kB1_empty : yB1_empty.cls ≠ "java/lang/invoke/MethodHandle" ∧ yB1_empty.cls ≠ "java/lang/invoke/VarHandle" ∧ (parseMethodDescriptor yB1_empty.desc).map (fun d => d.parameters.length) = some 0 := by decide +kernel
abbrev rB1_empty : Room := { frames := 0, cells := 0, slots := 0, locals := 0 }
theorem dB1_empty_0 : decode cB1_empty 0 = .ok (.aload_n 0, 1) := by decide +kernel
theorem dB1_empty_1 : decode cB1_empty 1 = .ok (.iconst 0, 1) := by decide +kernel
theorem dB1_empty_2 : decode cB1_empty 2 = .ok (.putfield 19, 3) := by decide +kernel
theorem dB1_empty_5 : decode cB1_empty 5 = .ok (.return_, 1) := by decide +kernel
def fB1_empty (h : cH) (z : cZ) : Option (cZ) := some (zU z 1 (0 : Int32))
set_option maxHeartbeats 4000000 in
set_option maxRecDepth 100000 in
theorem cB1_empty_met {l : Launch} {g : gT} {qq ad ea : Nat → Nat} {h : cH} {X : va_W} {z z' : cZ} (hf : fB1_empty h z = some z') : cMet l yB1_empty cB1_empty 1 none rB1_empty g qq ad ea h X z [.ref (qq 2)] (none) X z' := by
  refine c_entry (by decide) (Nat.le_of_ble_eq_true rfl) ?_
  intro p e s m args below meth c ls C hr hlk hnm hl hw
  have hrv : (none : Option Value) = none := rfl
  have C : mCx p m c cB1_empty 1 s args g "MidiDesk$Bytes" := C
  have hl : lv_has ls 1 [(0, .ref (qq 2))] := hl
  unfold fB1_empty at hf
  refine lv_aload_n C.1.1 C.1.2.1 dB1_empty_0 rfl (lv_at hl 0 rfl) ?_
  refine lv_iconst (v := (0 : Int32)) C.1.1 C.1.2.1 dB1_empty_1 (by decide) ?_
  refine cp_Bytes_Bytes_size_B1 C hw dB1_empty_2 (fun H locs hw => ?_)
  exact c_retv C hr hlk hrv hw hf rfl ⟨Nat.le_of_ble_eq_true rfl, Nat.le_of_ble_eq_true rfl⟩ dB1_empty_5
abbrev cB2_size : ByteArray := prog_2_method_2_code
abbrev yB2_size : MethodName := ⟨"MidiDesk$Bytes", "size", "()I"⟩
theorem kB2_size : yB2_size.cls ≠ "java/lang/invoke/MethodHandle" ∧ yB2_size.cls ≠ "java/lang/invoke/VarHandle" ∧ (parseMethodDescriptor yB2_size.desc).map (fun d => d.parameters.length) = some 0 := by decide +kernel
abbrev rB2_size : Room := { frames := 0, cells := 0, slots := 0, locals := 0 }
theorem dB2_size_0 : decode cB2_size 0 = .ok (.aload_n 0, 1) := by decide +kernel
theorem dB2_size_1 : decode cB2_size 1 = .ok (.getfield 19, 3) := by decide +kernel
theorem dB2_size_4 : decode cB2_size 4 = .ok (.ireturn, 1) := by decide +kernel
def fB2_size (h : cH) (z : cZ) : Option (Int32 × cZ) := some (zi z 2, z)
set_option maxHeartbeats 4000000 in
set_option maxRecDepth 100000 in
theorem cB2_size_met {l : Launch} {g : gT} {qq ad ea : Nat → Nat} {h : cH} {X : va_W} {z z' : cZ} {r' : Int32} (hf : fB2_size h z = some (r', z')) : cMet l yB2_size cB2_size 1 (some .int) rB2_size g qq ad ea h X z [.ref (qq 3)] (some (.int r')) X z' := by
  refine c_entry (by decide) (Nat.le_of_ble_eq_true rfl) ?_
  intro p e s m args below meth c ls C hr hlk hnm hl hw
  have hrv : (some (.int r') : Option Value) = some (.int r') := rfl
  have C : mCx p m c cB2_size 1 s args g "MidiDesk$Bytes" := C
  have hl : lv_has ls 1 [(0, .ref (qq 3))] := hl
  unfold fB2_size at hf
  refine lv_aload_n C.1.1 C.1.2.1 dB2_size_0 rfl (lv_at hl 0 rfl) ?_
  refine cg_Bytes_Bytes_size_B2 C hw dB2_size_1 ?_
  exact c_reti C hr hlk hrv hw hf rfl ⟨Nat.le_of_ble_eq_true rfl, Nat.le_of_ble_eq_true rfl⟩ dB2_size_4
abbrev cB2_at : ByteArray := prog_2_method_3_code
abbrev yB2_at : MethodName := ⟨"MidiDesk$Bytes", "at", "(I)I"⟩
theorem kB2_at : yB2_at.cls ≠ "java/lang/invoke/MethodHandle" ∧ yB2_at.cls ≠ "java/lang/invoke/VarHandle" ∧ (parseMethodDescriptor yB2_at.desc).map (fun d => d.parameters.length) = some 1 := by decide +kernel
abbrev rB2_at : Room := { frames := 0, cells := 0, slots := 0, locals := 0 }
theorem dB2_at_0 : decode cB2_at 0 = .ok (.iload_n 1, 1) := by decide +kernel
theorem dB2_at_1 : decode cB2_at 1 = .ok (.ifCond .lt 20, 3) := by decide +kernel
theorem dB2_at_4 : decode cB2_at 4 = .ok (.iload_n 1, 1) := by decide +kernel
theorem dB2_at_5 : decode cB2_at 5 = .ok (.aload_n 0, 1) := by decide +kernel
theorem dB2_at_6 : decode cB2_at 6 = .ok (.getfield 19, 3) := by decide +kernel
theorem dB2_at_9 : decode cB2_at 9 = .ok (.if_icmp .ge 12, 3) := by decide +kernel
theorem dB2_at_12 : decode cB2_at 12 = .ok (.aload_n 0, 1) := by decide +kernel
theorem dB2_at_13 : decode cB2_at 13 = .ok (.getfield 15, 3) := by decide +kernel
theorem dB2_at_16 : decode cB2_at 16 = .ok (.iload_n 1, 1) := by decide +kernel
theorem dB2_at_17 : decode cB2_at 17 = .ok (.iaload, 1) := by decide +kernel
theorem dB2_at_18 : decode cB2_at 18 = .ok (.goto 4, 3) := by decide +kernel
theorem dB2_at_21 : decode cB2_at 21 = .ok (.iconst (-1), 1) := by decide +kernel
theorem dB2_at_22 : decode cB2_at 22 = .ok (.ireturn, 1) := by decide +kernel
def fB2_at (h : cH) (z : cZ) (x1 : Int32) : Option (Int32 × cZ) := if x1 < 0 then (some ((-1 : Int32), z)) else (if (zi z 2) ≤ x1 then (some ((-1 : Int32), z)) else (if x1 < 0 ∨ h.1 2 ≤ x1.toNatClampNeg then none else (some (za z 2 x1.toNatClampNeg, z))))
set_option maxHeartbeats 4000000 in
set_option maxRecDepth 100000 in
theorem cB2_at_met {l : Launch} {g : gT} {qq ad ea : Nat → Nat} {h : cH} {X : va_W} {z z' : cZ} {x1 : Int32} {r' : Int32} (hf : fB2_at h z x1 = some (r', z')) : cMet l yB2_at cB2_at 2 (some .int) rB2_at g qq ad ea h X z [.ref (qq 3), .int x1] (some (.int r')) X z' := by
  refine c_entry (by decide) (Nat.le_of_ble_eq_true rfl) ?_
  intro p e s m args below meth c ls C hr hlk hnm hl hw
  have hrv : (some (.int r') : Option Value) = some (.int r') := rfl
  have C : mCx p m c cB2_at 2 s args g "MidiDesk$Bytes" := C
  have hl : lv_has ls 2 [(0, .ref (qq 3)), (1, .int x1)] := hl
  unfold fB2_at at hf
  refine lv_iload_n C.1.1 C.1.2.1 dB2_at_0 rfl (lv_at hl 1 rfl) ?_
  refine lv_if_lt (tgt := 21) C.1.1 C.1.2.1 dB2_at_1 (by decide) (fun c1 => ?_) (fun c1 => ?_)
  · have hf := ts_t hf c1
    refine lv_iconst (v := (-1 : Int32)) C.1.1 C.1.2.1 dB2_at_21 (by decide) ?_
    exact c_reti C hr hlk hrv hw hf rfl ⟨Nat.le_of_ble_eq_true rfl, Nat.le_of_ble_eq_true rfl⟩ dB2_at_22
  · have hf := ts_f hf c1
    refine lv_iload_n C.1.1 C.1.2.1 dB2_at_4 rfl (lv_at hl 1 rfl) ?_
    refine lv_aload_n C.1.1 C.1.2.1 dB2_at_5 rfl (lv_at hl 0 rfl) ?_
    refine cg_Bytes_Bytes_size_B2 C hw dB2_at_6 ?_
    refine lv_icmp_ge (tgt := 21) C.1.1 C.1.2.1 dB2_at_9 (by decide) (fun c2 => ?_) (fun c2 => ?_)
    · have hf := ts_t hf c2
      refine lv_iconst (v := (-1 : Int32)) C.1.1 C.1.2.1 dB2_at_21 (by decide) ?_
      exact c_reti C hr hlk hrv hw hf rfl ⟨Nat.le_of_ble_eq_true rfl, Nat.le_of_ble_eq_true rfl⟩ dB2_at_22
    · have hf := ts_f hf c2
      refine lv_aload_n C.1.1 C.1.2.1 dB2_at_12 rfl (lv_at hl 0 rfl) ?_
      refine cg_Bytes_Bytes_row_B2 C hw dB2_at_13 ?_
      refine lv_iload_n C.1.1 C.1.2.1 dB2_at_16 rfl (lv_at hl 1 rfl) ?_
      obtain ⟨h3, hf⟩ := ts_g hf
      refine ca_2 C hw h3 dB2_at_17 ?_
      refine lv_goto (tgt := 22) C.1.1 C.1.2.1 dB2_at_18 (by decide) ?_
      exact c_reti C hr hlk hrv hw hf rfl ⟨Nat.le_of_ble_eq_true rfl, Nat.le_of_ble_eq_true rfl⟩ dB2_at_22
abbrev cB2_empty : ByteArray := prog_2_method_6_code
abbrev yB2_empty : MethodName := ⟨"MidiDesk$Bytes", "empty", "()V"⟩
theorem kB2_empty : yB2_empty.cls ≠ "java/lang/invoke/MethodHandle" ∧ yB2_empty.cls ≠ "java/lang/invoke/VarHandle" ∧ (parseMethodDescriptor yB2_empty.desc).map (fun d => d.parameters.length) = some 0 := by decide +kernel
abbrev rB2_empty : Room := { frames := 0, cells := 0, slots := 0, locals := 0 }
theorem dB2_empty_0 : decode cB2_empty 0 = .ok (.aload_n 0, 1) := by decide +kernel
theorem dB2_empty_1 : decode cB2_empty 1 = .ok (.iconst 0, 1) := by decide +kernel
theorem dB2_empty_2 : decode cB2_empty 2 = .ok (.putfield 19, 3) := by decide +kernel
theorem dB2_empty_5 : decode cB2_empty 5 = .ok (.return_, 1) := by decide +kernel
def fB2_empty (h : cH) (z : cZ) : Option (cZ) := some (zU z 2 (0 : Int32))
set_option maxHeartbeats 4000000 in
set_option maxRecDepth 100000 in
theorem cB2_empty_met {l : Launch} {g : gT} {qq ad ea : Nat → Nat} {h : cH} {X : va_W} {z z' : cZ} (hf : fB2_empty h z = some z') : cMet l yB2_empty cB2_empty 1 none rB2_empty g qq ad ea h X z [.ref (qq 3)] (none) X z' := by
  refine c_entry (by decide) (Nat.le_of_ble_eq_true rfl) ?_
  intro p e s m args below meth c ls C hr hlk hnm hl hw
  have hrv : (none : Option Value) = none := rfl
  have C : mCx p m c cB2_empty 1 s args g "MidiDesk$Bytes" := C
  have hl : lv_has ls 1 [(0, .ref (qq 3))] := hl
  unfold fB2_empty at hf
  refine lv_aload_n C.1.1 C.1.2.1 dB2_empty_0 rfl (lv_at hl 0 rfl) ?_
  refine lv_iconst (v := (0 : Int32)) C.1.1 C.1.2.1 dB2_empty_1 (by decide) ?_
  refine cp_Bytes_Bytes_size_B2 C hw dB2_empty_2 (fun H locs hw => ?_)
  exact c_retv C hr hlk hrv hw hf rfl ⟨Nat.le_of_ble_eq_true rfl, Nat.le_of_ble_eq_true rfl⟩ dB2_empty_5
abbrev cE_isChannelEvent : ByteArray := prog_3_method_2_code
abbrev yE_isChannelEvent : MethodName := ⟨"MidiDesk$Event", "isChannelEvent", "()Z"⟩
theorem kE_isChannelEvent : yE_isChannelEvent.cls ≠ "java/lang/invoke/MethodHandle" ∧ yE_isChannelEvent.cls ≠ "java/lang/invoke/VarHandle" ∧ (parseMethodDescriptor yE_isChannelEvent.desc).map (fun d => d.parameters.length) = some 0 := by decide +kernel
abbrev rE_isChannelEvent : Room := { frames := 0, cells := 0, slots := 0, locals := 0 }
theorem dE_isChannelEvent_0 : decode cE_isChannelEvent 0 = .ok (.aload_n 0, 1) := by decide +kernel
theorem dE_isChannelEvent_1 : decode cE_isChannelEvent 1 = .ok (.getfield 9, 3) := by decide +kernel
theorem dE_isChannelEvent_4 : decode cE_isChannelEvent 4 = .ok (.sipush 240, 3) := by decide +kernel
theorem dE_isChannelEvent_7 : decode cE_isChannelEvent 7 = .ok (.if_icmp .ge 7, 3) := by decide +kernel
theorem dE_isChannelEvent_10 : decode cE_isChannelEvent 10 = .ok (.iconst 1, 1) := by decide +kernel
theorem dE_isChannelEvent_11 : decode cE_isChannelEvent 11 = .ok (.goto 4, 3) := by decide +kernel
theorem dE_isChannelEvent_14 : decode cE_isChannelEvent 14 = .ok (.iconst 0, 1) := by decide +kernel
theorem dE_isChannelEvent_15 : decode cE_isChannelEvent 15 = .ok (.ireturn, 1) := by decide +kernel
def fE_isChannelEvent (h : cH) (z : cZ) (x0 : Nat) : Option (Int32 × cZ) := if h.2.1 ≤ x0 then none else (if (240 : Int32) ≤ (ze z x0 2) then (some ((0 : Int32), z)) else (some ((1 : Int32), z)))
set_option maxHeartbeats 4000000 in
set_option maxRecDepth 100000 in
theorem cE_isChannelEvent_met {l : Launch} {g : gT} {qq ad ea : Nat → Nat} {h : cH} {X : va_W} {z z' : cZ} {x0 : Nat} {r' : Int32} (hf : fE_isChannelEvent h z x0 = some (r', z')) : cMet l yE_isChannelEvent cE_isChannelEvent 1 (some .boolean) rE_isChannelEvent g qq ad ea h X z [.ref (ea x0)] (some (.int r')) X z' := by
  refine c_entry (by decide) (Nat.le_of_ble_eq_true rfl) ?_
  intro p e s m args below meth c ls C hr hlk hnm hl hw
  have hrv : (some (.int r') : Option Value) = some (.int r') := rfl
  have C : mCx p m c cE_isChannelEvent 1 s args g "MidiDesk$Event" := C
  have hl : lv_has ls 1 [(0, .ref (ea x0))] := hl
  unfold fE_isChannelEvent at hf
  refine lv_aload_n C.1.1 C.1.2.1 dE_isChannelEvent_0 rfl (lv_at hl 0 rfl) ?_
  obtain ⟨hb1, hf⟩ := ts_g hf
  have hb1 := Nat.lt_of_not_le hb1
  refine cgt_Event_Event_status C hw hb1 dE_isChannelEvent_1 ?_
  refine lv_sipush (v := (240 : Int32)) C.1.1 C.1.2.1 dE_isChannelEvent_4 (by decide) ?_
  refine lv_icmp_ge (tgt := 14) C.1.1 C.1.2.1 dE_isChannelEvent_7 (by decide) (fun c2 => ?_) (fun c2 => ?_)
  · have hf := ts_t hf c2
    refine lv_iconst (v := (0 : Int32)) C.1.1 C.1.2.1 dE_isChannelEvent_14 (by decide) ?_
    exact c_retz C hr hlk hrv hw (Or.inl rfl) hf rfl ⟨Nat.le_of_ble_eq_true rfl, Nat.le_of_ble_eq_true rfl⟩ dE_isChannelEvent_15
  · have hf := ts_f hf c2
    refine lv_iconst (v := (1 : Int32)) C.1.1 C.1.2.1 dE_isChannelEvent_10 (by decide) ?_
    refine lv_goto (tgt := 15) C.1.1 C.1.2.1 dE_isChannelEvent_11 (by decide) ?_
    exact c_retz C hr hlk hrv hw (Or.inr rfl) hf rfl ⟨Nat.le_of_ble_eq_true rfl, Nat.le_of_ble_eq_true rfl⟩ dE_isChannelEvent_15
abbrev cE_isTempo : ByteArray := prog_3_method_3_code
abbrev yE_isTempo : MethodName := ⟨"MidiDesk$Event", "isTempo", "()Z"⟩
theorem kE_isTempo : yE_isTempo.cls ≠ "java/lang/invoke/MethodHandle" ∧ yE_isTempo.cls ≠ "java/lang/invoke/VarHandle" ∧ (parseMethodDescriptor yE_isTempo.desc).map (fun d => d.parameters.length) = some 0 := by decide +kernel
abbrev rE_isTempo : Room := { frames := 0, cells := 0, slots := 0, locals := 0 }
theorem dE_isTempo_0 : decode cE_isTempo 0 = .ok (.aload_n 0, 1) := by decide +kernel
theorem dE_isTempo_1 : decode cE_isTempo 1 = .ok (.getfield 9, 3) := by decide +kernel
theorem dE_isTempo_4 : decode cE_isTempo 4 = .ok (.sipush 255, 3) := by decide +kernel
theorem dE_isTempo_7 : decode cE_isTempo 7 = .ok (.if_icmp .ne 16, 3) := by decide +kernel
theorem dE_isTempo_10 : decode cE_isTempo 10 = .ok (.aload_n 0, 1) := by decide +kernel
theorem dE_isTempo_11 : decode cE_isTempo 11 = .ok (.getfield 15, 3) := by decide +kernel
theorem dE_isTempo_14 : decode cE_isTempo 14 = .ok (.bipush 81, 2) := by decide +kernel
theorem dE_isTempo_16 : decode cE_isTempo 16 = .ok (.if_icmp .ne 7, 3) := by decide +kernel
theorem dE_isTempo_19 : decode cE_isTempo 19 = .ok (.iconst 1, 1) := by decide +kernel
theorem dE_isTempo_20 : decode cE_isTempo 20 = .ok (.goto 4, 3) := by decide +kernel
theorem dE_isTempo_23 : decode cE_isTempo 23 = .ok (.iconst 0, 1) := by decide +kernel
theorem dE_isTempo_24 : decode cE_isTempo 24 = .ok (.ireturn, 1) := by decide +kernel
def fE_isTempo (h : cH) (z : cZ) (x0 : Nat) : Option (Int32 × cZ) := if h.2.1 ≤ x0 then none else (if (ze z x0 2) = (255 : Int32) then (if (ze z x0 3) = (81 : Int32) then (some ((1 : Int32), z)) else (some ((0 : Int32), z))) else (some ((0 : Int32), z)))
set_option maxHeartbeats 4000000 in
set_option maxRecDepth 100000 in
theorem cE_isTempo_met {l : Launch} {g : gT} {qq ad ea : Nat → Nat} {h : cH} {X : va_W} {z z' : cZ} {x0 : Nat} {r' : Int32} (hf : fE_isTempo h z x0 = some (r', z')) : cMet l yE_isTempo cE_isTempo 1 (some .boolean) rE_isTempo g qq ad ea h X z [.ref (ea x0)] (some (.int r')) X z' := by
  refine c_entry (by decide) (Nat.le_of_ble_eq_true rfl) ?_
  intro p e s m args below meth c ls C hr hlk hnm hl hw
  have hrv : (some (.int r') : Option Value) = some (.int r') := rfl
  have C : mCx p m c cE_isTempo 1 s args g "MidiDesk$Event" := C
  have hl : lv_has ls 1 [(0, .ref (ea x0))] := hl
  unfold fE_isTempo at hf
  refine lv_aload_n C.1.1 C.1.2.1 dE_isTempo_0 rfl (lv_at hl 0 rfl) ?_
  obtain ⟨hb1, hf⟩ := ts_g hf
  have hb1 := Nat.lt_of_not_le hb1
  refine cgt_Event_Event_status C hw hb1 dE_isTempo_1 ?_
  refine lv_sipush (v := (255 : Int32)) C.1.1 C.1.2.1 dE_isTempo_4 (by decide) ?_
  refine lv_icmp_ne (tgt := 23) C.1.1 C.1.2.1 dE_isTempo_7 (by decide) (fun c2 => ?_) (fun c2 => ?_)
  · have hf := ts_f hf c2
    refine lv_iconst (v := (0 : Int32)) C.1.1 C.1.2.1 dE_isTempo_23 (by decide) ?_
    exact c_retz C hr hlk hrv hw (Or.inl rfl) hf rfl ⟨Nat.le_of_ble_eq_true rfl, Nat.le_of_ble_eq_true rfl⟩ dE_isTempo_24
  · have hf := ts_t hf c2
    refine lv_aload_n C.1.1 C.1.2.1 dE_isTempo_10 rfl (lv_at hl 0 rfl) ?_
    refine cgt_Event_Event_first C hw hb1 dE_isTempo_11 ?_
    refine lv_bipush (v := (81 : Int32)) C.1.1 C.1.2.1 dE_isTempo_14 (by decide) ?_
    refine lv_icmp_ne (tgt := 23) C.1.1 C.1.2.1 dE_isTempo_16 (by decide) (fun c3 => ?_) (fun c3 => ?_)
    · have hf := ts_f hf c3
      refine lv_iconst (v := (0 : Int32)) C.1.1 C.1.2.1 dE_isTempo_23 (by decide) ?_
      exact c_retz C hr hlk hrv hw (Or.inl rfl) hf rfl ⟨Nat.le_of_ble_eq_true rfl, Nat.le_of_ble_eq_true rfl⟩ dE_isTempo_24
    · have hf := ts_t hf c3
      refine lv_iconst (v := (1 : Int32)) C.1.1 C.1.2.1 dE_isTempo_19 (by decide) ?_
      refine lv_goto (tgt := 24) C.1.1 C.1.2.1 dE_isTempo_20 (by decide) ?_
      exact c_retz C hr hlk hrv hw (Or.inr rfl) hf rfl ⟨Nat.le_of_ble_eq_true rfl, Nat.le_of_ble_eq_true rfl⟩ dE_isTempo_24
abbrev cE_isOfNote : ByteArray := prog_3_method_4_code
abbrev yE_isOfNote : MethodName := ⟨"MidiDesk$Event", "isOfNote", "()Z"⟩
theorem kE_isOfNote : yE_isOfNote.cls ≠ "java/lang/invoke/MethodHandle" ∧ yE_isOfNote.cls ≠ "java/lang/invoke/VarHandle" ∧ (parseMethodDescriptor yE_isOfNote.desc).map (fun d => d.parameters.length) = some 0 := by decide +kernel
abbrev rE_isOfNote : Room := { frames := 0, cells := 0, slots := 0, locals := 0 }
theorem dE_isOfNote_0 : decode cE_isOfNote 0 = .ok (.aload_n 0, 1) := by decide +kernel
theorem dE_isOfNote_1 : decode cE_isOfNote 1 = .ok (.getfield 9, 3) := by decide +kernel
theorem dE_isOfNote_4 : decode cE_isOfNote 4 = .ok (.sipush 176, 3) := by decide +kernel
theorem dE_isOfNote_7 : decode cE_isOfNote 7 = .ok (.if_icmp .ge 7, 3) := by decide +kernel
theorem dE_isOfNote_10 : decode cE_isOfNote 10 = .ok (.iconst 1, 1) := by decide +kernel
theorem dE_isOfNote_11 : decode cE_isOfNote 11 = .ok (.goto 4, 3) := by decide +kernel
theorem dE_isOfNote_14 : decode cE_isOfNote 14 = .ok (.iconst 0, 1) := by decide +kernel
theorem dE_isOfNote_15 : decode cE_isOfNote 15 = .ok (.ireturn, 1) := by decide +kernel
def fE_isOfNote (h : cH) (z : cZ) (x0 : Nat) : Option (Int32 × cZ) := if h.2.1 ≤ x0 then none else (if (176 : Int32) ≤ (ze z x0 2) then (some ((0 : Int32), z)) else (some ((1 : Int32), z)))
set_option maxHeartbeats 4000000 in
set_option maxRecDepth 100000 in
theorem cE_isOfNote_met {l : Launch} {g : gT} {qq ad ea : Nat → Nat} {h : cH} {X : va_W} {z z' : cZ} {x0 : Nat} {r' : Int32} (hf : fE_isOfNote h z x0 = some (r', z')) : cMet l yE_isOfNote cE_isOfNote 1 (some .boolean) rE_isOfNote g qq ad ea h X z [.ref (ea x0)] (some (.int r')) X z' := by
  refine c_entry (by decide) (Nat.le_of_ble_eq_true rfl) ?_
  intro p e s m args below meth c ls C hr hlk hnm hl hw
  have hrv : (some (.int r') : Option Value) = some (.int r') := rfl
  have C : mCx p m c cE_isOfNote 1 s args g "MidiDesk$Event" := C
  have hl : lv_has ls 1 [(0, .ref (ea x0))] := hl
  unfold fE_isOfNote at hf
  refine lv_aload_n C.1.1 C.1.2.1 dE_isOfNote_0 rfl (lv_at hl 0 rfl) ?_
  obtain ⟨hb1, hf⟩ := ts_g hf
  have hb1 := Nat.lt_of_not_le hb1
  refine cgt_Event_Event_status C hw hb1 dE_isOfNote_1 ?_
  refine lv_sipush (v := (176 : Int32)) C.1.1 C.1.2.1 dE_isOfNote_4 (by decide) ?_
  refine lv_icmp_ge (tgt := 14) C.1.1 C.1.2.1 dE_isOfNote_7 (by decide) (fun c2 => ?_) (fun c2 => ?_)
  · have hf := ts_t hf c2
    refine lv_iconst (v := (0 : Int32)) C.1.1 C.1.2.1 dE_isOfNote_14 (by decide) ?_
    exact c_retz C hr hlk hrv hw (Or.inl rfl) hf rfl ⟨Nat.le_of_ble_eq_true rfl, Nat.le_of_ble_eq_true rfl⟩ dE_isOfNote_15
  · have hf := ts_f hf c2
    refine lv_iconst (v := (1 : Int32)) C.1.1 C.1.2.1 dE_isOfNote_10 (by decide) ?_
    refine lv_goto (tgt := 15) C.1.1 C.1.2.1 dE_isOfNote_11 (by decide) ?_
    exact c_retz C hr hlk hrv hw (Or.inr rfl) hf rfl ⟨Nat.le_of_ble_eq_true rfl, Nat.le_of_ble_eq_true rfl⟩ dE_isOfNote_15
abbrev cE_beginsNote : ByteArray := prog_3_method_5_code
abbrev yE_beginsNote : MethodName := ⟨"MidiDesk$Event", "beginsNote", "()Z"⟩
theorem kE_beginsNote : yE_beginsNote.cls ≠ "java/lang/invoke/MethodHandle" ∧ yE_beginsNote.cls ≠ "java/lang/invoke/VarHandle" ∧ (parseMethodDescriptor yE_beginsNote.desc).map (fun d => d.parameters.length) = some 0 := by decide +kernel
abbrev rE_beginsNote : Room := { frames := 0, cells := 0, slots := 0, locals := 0 }
theorem dE_beginsNote_0 : decode cE_beginsNote 0 = .ok (.aload_n 0, 1) := by decide +kernel
theorem dE_beginsNote_1 : decode cE_beginsNote 1 = .ok (.getfield 9, 3) := by decide +kernel
theorem dE_beginsNote_4 : decode cE_beginsNote 4 = .ok (.sipush 240, 3) := by decide +kernel
theorem dE_beginsNote_7 : decode cE_beginsNote 7 = .ok (.iand, 1) := by decide +kernel
theorem dE_beginsNote_8 : decode cE_beginsNote 8 = .ok (.sipush 144, 3) := by decide +kernel
theorem dE_beginsNote_11 : decode cE_beginsNote 11 = .ok (.if_icmp .ne 14, 3) := by decide +kernel
theorem dE_beginsNote_14 : decode cE_beginsNote 14 = .ok (.aload_n 0, 1) := by decide +kernel
theorem dE_beginsNote_15 : decode cE_beginsNote 15 = .ok (.getfield 18, 3) := by decide +kernel
theorem dE_beginsNote_18 : decode cE_beginsNote 18 = .ok (.ifCond .le 7, 3) := by decide +kernel
theorem dE_beginsNote_21 : decode cE_beginsNote 21 = .ok (.iconst 1, 1) := by decide +kernel
theorem dE_beginsNote_22 : decode cE_beginsNote 22 = .ok (.goto 4, 3) := by decide +kernel
theorem dE_beginsNote_25 : decode cE_beginsNote 25 = .ok (.iconst 0, 1) := by decide +kernel
theorem dE_beginsNote_26 : decode cE_beginsNote 26 = .ok (.ireturn, 1) := by decide +kernel
def fE_beginsNote (h : cH) (z : cZ) (x0 : Nat) : Option (Int32 × cZ) := if h.2.1 ≤ x0 then none else (if ((ze z x0 2) &&& (240 : Int32)) = (144 : Int32) then (if (ze z x0 4) ≤ 0 then (some ((0 : Int32), z)) else (some ((1 : Int32), z))) else (some ((0 : Int32), z)))
set_option maxHeartbeats 4000000 in
set_option maxRecDepth 100000 in
theorem cE_beginsNote_met {l : Launch} {g : gT} {qq ad ea : Nat → Nat} {h : cH} {X : va_W} {z z' : cZ} {x0 : Nat} {r' : Int32} (hf : fE_beginsNote h z x0 = some (r', z')) : cMet l yE_beginsNote cE_beginsNote 1 (some .boolean) rE_beginsNote g qq ad ea h X z [.ref (ea x0)] (some (.int r')) X z' := by
  refine c_entry (by decide) (Nat.le_of_ble_eq_true rfl) ?_
  intro p e s m args below meth c ls C hr hlk hnm hl hw
  have hrv : (some (.int r') : Option Value) = some (.int r') := rfl
  have C : mCx p m c cE_beginsNote 1 s args g "MidiDesk$Event" := C
  have hl : lv_has ls 1 [(0, .ref (ea x0))] := hl
  unfold fE_beginsNote at hf
  refine lv_aload_n C.1.1 C.1.2.1 dE_beginsNote_0 rfl (lv_at hl 0 rfl) ?_
  obtain ⟨hb1, hf⟩ := ts_g hf
  have hb1 := Nat.lt_of_not_le hb1
  refine cgt_Event_Event_status C hw hb1 dE_beginsNote_1 ?_
  refine lv_sipush (v := (240 : Int32)) C.1.1 C.1.2.1 dE_beginsNote_4 (by decide) ?_
  refine lv_iand C.1.1 C.1.2.1 dE_beginsNote_7 ?_
  refine lv_sipush (v := (144 : Int32)) C.1.1 C.1.2.1 dE_beginsNote_8 (by decide) ?_
  refine lv_icmp_ne (tgt := 25) C.1.1 C.1.2.1 dE_beginsNote_11 (by decide) (fun c2 => ?_) (fun c2 => ?_)
  · have hf := ts_f hf c2
    refine lv_iconst (v := (0 : Int32)) C.1.1 C.1.2.1 dE_beginsNote_25 (by decide) ?_
    exact c_retz C hr hlk hrv hw (Or.inl rfl) hf rfl ⟨Nat.le_of_ble_eq_true rfl, Nat.le_of_ble_eq_true rfl⟩ dE_beginsNote_26
  · have hf := ts_t hf c2
    refine lv_aload_n C.1.1 C.1.2.1 dE_beginsNote_14 rfl (lv_at hl 0 rfl) ?_
    refine cgt_Event_Event_second C hw hb1 dE_beginsNote_15 ?_
    refine lv_if_le (tgt := 25) C.1.1 C.1.2.1 dE_beginsNote_18 (by decide) (fun c3 => ?_) (fun c3 => ?_)
    · have hf := ts_t hf c3
      refine lv_iconst (v := (0 : Int32)) C.1.1 C.1.2.1 dE_beginsNote_25 (by decide) ?_
      exact c_retz C hr hlk hrv hw (Or.inl rfl) hf rfl ⟨Nat.le_of_ble_eq_true rfl, Nat.le_of_ble_eq_true rfl⟩ dE_beginsNote_26
    · have hf := ts_f hf c3
      refine lv_iconst (v := (1 : Int32)) C.1.1 C.1.2.1 dE_beginsNote_21 (by decide) ?_
      refine lv_goto (tgt := 26) C.1.1 C.1.2.1 dE_beginsNote_22 (by decide) ?_
      exact c_retz C hr hlk hrv hw (Or.inr rfl) hf rfl ⟨Nat.le_of_ble_eq_true rfl, Nat.le_of_ble_eq_true rfl⟩ dE_beginsNote_26
abbrev cE_endsNote : ByteArray := prog_3_method_6_code
abbrev yE_endsNote : MethodName := ⟨"MidiDesk$Event", "endsNote", "()Z"⟩
theorem kE_endsNote : yE_endsNote.cls ≠ "java/lang/invoke/MethodHandle" ∧ yE_endsNote.cls ≠ "java/lang/invoke/VarHandle" ∧ (parseMethodDescriptor yE_endsNote.desc).map (fun d => d.parameters.length) = some 0 := by decide +kernel
abbrev rE_endsNote : Room := { frames := 0, cells := 0, slots := 0, locals := 0 }
theorem dE_endsNote_0 : decode cE_endsNote 0 = .ok (.aload_n 0, 1) := by decide +kernel
theorem dE_endsNote_1 : decode cE_endsNote 1 = .ok (.getfield 9, 3) := by decide +kernel
theorem dE_endsNote_4 : decode cE_endsNote 4 = .ok (.sipush 240, 3) := by decide +kernel
theorem dE_endsNote_7 : decode cE_endsNote 7 = .ok (.iand, 1) := by decide +kernel
theorem dE_endsNote_8 : decode cE_endsNote 8 = .ok (.istore_n 1, 1) := by decide +kernel
theorem dE_endsNote_9 : decode cE_endsNote 9 = .ok (.iload_n 1, 1) := by decide +kernel
theorem dE_endsNote_10 : decode cE_endsNote 10 = .ok (.sipush 128, 3) := by decide +kernel
theorem dE_endsNote_13 : decode cE_endsNote 13 = .ok (.if_icmp .eq 17, 3) := by decide +kernel
theorem dE_endsNote_16 : decode cE_endsNote 16 = .ok (.iload_n 1, 1) := by decide +kernel
theorem dE_endsNote_17 : decode cE_endsNote 17 = .ok (.sipush 144, 3) := by decide +kernel
theorem dE_endsNote_20 : decode cE_endsNote 20 = .ok (.if_icmp .ne 14, 3) := by decide +kernel
theorem dE_endsNote_23 : decode cE_endsNote 23 = .ok (.aload_n 0, 1) := by decide +kernel
theorem dE_endsNote_24 : decode cE_endsNote 24 = .ok (.getfield 18, 3) := by decide +kernel
theorem dE_endsNote_27 : decode cE_endsNote 27 = .ok (.ifCond .ne 7, 3) := by decide +kernel
theorem dE_endsNote_30 : decode cE_endsNote 30 = .ok (.iconst 1, 1) := by decide +kernel
theorem dE_endsNote_31 : decode cE_endsNote 31 = .ok (.goto 4, 3) := by decide +kernel
theorem dE_endsNote_34 : decode cE_endsNote 34 = .ok (.iconst 0, 1) := by decide +kernel
theorem dE_endsNote_35 : decode cE_endsNote 35 = .ok (.ireturn, 1) := by decide +kernel
def fE_endsNote (h : cH) (z : cZ) (x0 : Nat) : Option (Int32 × cZ) := if h.2.1 ≤ x0 then none else (if ((ze z x0 2) &&& (240 : Int32)) = (128 : Int32) then (some ((1 : Int32), z)) else (if ((ze z x0 2) &&& (240 : Int32)) = (144 : Int32) then (if (ze z x0 4) = 0 then (some ((1 : Int32), z)) else (some ((0 : Int32), z))) else (some ((0 : Int32), z))))
set_option maxHeartbeats 4000000 in
set_option maxRecDepth 100000 in
theorem cE_endsNote_met {l : Launch} {g : gT} {qq ad ea : Nat → Nat} {h : cH} {X : va_W} {z z' : cZ} {x0 : Nat} {r' : Int32} (hf : fE_endsNote h z x0 = some (r', z')) : cMet l yE_endsNote cE_endsNote 2 (some .boolean) rE_endsNote g qq ad ea h X z [.ref (ea x0)] (some (.int r')) X z' := by
  refine c_entry (by decide) (Nat.le_of_ble_eq_true rfl) ?_
  intro p e s m args below meth c ls C hr hlk hnm hl hw
  have hrv : (some (.int r') : Option Value) = some (.int r') := rfl
  have C : mCx p m c cE_endsNote 2 s args g "MidiDesk$Event" := C
  have hl : lv_has ls 2 [(0, .ref (ea x0))] := hl
  unfold fE_endsNote at hf
  refine lv_aload_n C.1.1 C.1.2.1 dE_endsNote_0 rfl (lv_at hl 0 rfl) ?_
  obtain ⟨hb1, hf⟩ := ts_g hf
  have hb1 := Nat.lt_of_not_le hb1
  refine cgt_Event_Event_status C hw hb1 dE_endsNote_1 ?_
  refine lv_sipush (v := (240 : Int32)) C.1.1 C.1.2.1 dE_endsNote_4 (by decide) ?_
  refine lv_iand C.1.1 C.1.2.1 dE_endsNote_7 ?_
  refine lv_istore_n (lv' := [(1, .int ((ze z x0 2) &&& (240 : Int32))), (0, .ref (ea x0))]) C.1.1 C.1.2.1 dE_endsNote_8 rfl hl (by decide) rfl (fun ls hl => ?_)
  refine lv_iload_n C.1.1 C.1.2.1 dE_endsNote_9 rfl (lv_at hl 0 rfl) ?_
  refine lv_sipush (v := (128 : Int32)) C.1.1 C.1.2.1 dE_endsNote_10 (by decide) ?_
  refine lv_icmp_eq (tgt := 30) C.1.1 C.1.2.1 dE_endsNote_13 (by decide) (fun c2 => ?_) (fun c2 => ?_)
  · have hf := ts_t hf c2
    refine lv_iconst (v := (1 : Int32)) C.1.1 C.1.2.1 dE_endsNote_30 (by decide) ?_
    refine lv_goto (tgt := 35) C.1.1 C.1.2.1 dE_endsNote_31 (by decide) ?_
    exact c_retz C hr hlk hrv hw (Or.inr rfl) hf rfl ⟨Nat.le_of_ble_eq_true rfl, Nat.le_of_ble_eq_true rfl⟩ dE_endsNote_35
  · have hf := ts_f hf c2
    refine lv_iload_n C.1.1 C.1.2.1 dE_endsNote_16 rfl (lv_at hl 0 rfl) ?_
    refine lv_sipush (v := (144 : Int32)) C.1.1 C.1.2.1 dE_endsNote_17 (by decide) ?_
    refine lv_icmp_ne (tgt := 34) C.1.1 C.1.2.1 dE_endsNote_20 (by decide) (fun c3 => ?_) (fun c3 => ?_)
    · have hf := ts_f hf c3
      refine lv_iconst (v := (0 : Int32)) C.1.1 C.1.2.1 dE_endsNote_34 (by decide) ?_
      exact c_retz C hr hlk hrv hw (Or.inl rfl) hf rfl ⟨Nat.le_of_ble_eq_true rfl, Nat.le_of_ble_eq_true rfl⟩ dE_endsNote_35
    · have hf := ts_t hf c3
      refine lv_aload_n C.1.1 C.1.2.1 dE_endsNote_23 rfl (lv_at hl 1 rfl) ?_
      refine cgt_Event_Event_second C hw hb1 dE_endsNote_24 ?_
      refine lv_if_ne (tgt := 34) C.1.1 C.1.2.1 dE_endsNote_27 (by decide) (fun c4 => ?_) (fun c4 => ?_)
      · have hf := ts_f hf c4
        refine lv_iconst (v := (0 : Int32)) C.1.1 C.1.2.1 dE_endsNote_34 (by decide) ?_
        exact c_retz C hr hlk hrv hw (Or.inl rfl) hf rfl ⟨Nat.le_of_ble_eq_true rfl, Nat.le_of_ble_eq_true rfl⟩ dE_endsNote_35
      · have hf := ts_t hf c4
        refine lv_iconst (v := (1 : Int32)) C.1.1 C.1.2.1 dE_endsNote_30 (by decide) ?_
        refine lv_goto (tgt := 35) C.1.1 C.1.2.1 dE_endsNote_31 (by decide) ?_
        exact c_retz C hr hlk hrv hw (Or.inr rfl) hf rfl ⟨Nat.le_of_ble_eq_true rfl, Nat.le_of_ble_eq_true rfl⟩ dE_endsNote_35
abbrev cE_isOfChannel : ByteArray := prog_3_method_7_code
abbrev yE_isOfChannel : MethodName := ⟨"MidiDesk$Event", "isOfChannel", "(I)Z"⟩
theorem kE_isOfChannel : yE_isOfChannel.cls ≠ "java/lang/invoke/MethodHandle" ∧ yE_isOfChannel.cls ≠ "java/lang/invoke/VarHandle" ∧ (parseMethodDescriptor yE_isOfChannel.desc).map (fun d => d.parameters.length) = some 1 := by decide +kernel
abbrev rE_isOfChannel : Room := { frames := 0, cells := 0, slots := 0, locals := 0 }
theorem dE_isOfChannel_0 : decode cE_isOfChannel 0 = .ok (.iload_n 1, 1) := by decide +kernel
theorem dE_isOfChannel_1 : decode cE_isOfChannel 1 = .ok (.bipush 16, 2) := by decide +kernel
theorem dE_isOfChannel_3 : decode cE_isOfChannel 3 = .ok (.if_icmp .eq 14, 3) := by decide +kernel
theorem dE_isOfChannel_6 : decode cE_isOfChannel 6 = .ok (.aload_n 0, 1) := by decide +kernel
theorem dE_isOfChannel_7 : decode cE_isOfChannel 7 = .ok (.getfield 9, 3) := by decide +kernel
theorem dE_isOfChannel_10 : decode cE_isOfChannel 10 = .ok (.bipush 15, 2) := by decide +kernel
theorem dE_isOfChannel_12 : decode cE_isOfChannel 12 = .ok (.iand, 1) := by decide +kernel
theorem dE_isOfChannel_13 : decode cE_isOfChannel 13 = .ok (.iload_n 1, 1) := by decide +kernel
theorem dE_isOfChannel_14 : decode cE_isOfChannel 14 = .ok (.if_icmp .ne 7, 3) := by decide +kernel
theorem dE_isOfChannel_17 : decode cE_isOfChannel 17 = .ok (.iconst 1, 1) := by decide +kernel
theorem dE_isOfChannel_18 : decode cE_isOfChannel 18 = .ok (.goto 4, 3) := by decide +kernel
theorem dE_isOfChannel_21 : decode cE_isOfChannel 21 = .ok (.iconst 0, 1) := by decide +kernel
theorem dE_isOfChannel_22 : decode cE_isOfChannel 22 = .ok (.ireturn, 1) := by decide +kernel
def fE_isOfChannel (h : cH) (z : cZ) (x0 : Nat) (x1 : Int32) : Option (Int32 × cZ) := if x1 = (16 : Int32) then (some ((1 : Int32), z)) else (if h.2.1 ≤ x0 then none else (if ((ze z x0 2) &&& (15 : Int32)) = x1 then (some ((1 : Int32), z)) else (some ((0 : Int32), z))))
set_option maxHeartbeats 4000000 in
set_option maxRecDepth 100000 in
theorem cE_isOfChannel_met {l : Launch} {g : gT} {qq ad ea : Nat → Nat} {h : cH} {X : va_W} {z z' : cZ} {x0 : Nat} {x1 : Int32} {r' : Int32} (hf : fE_isOfChannel h z x0 x1 = some (r', z')) : cMet l yE_isOfChannel cE_isOfChannel 2 (some .boolean) rE_isOfChannel g qq ad ea h X z [.ref (ea x0), .int x1] (some (.int r')) X z' := by
  refine c_entry (by decide) (Nat.le_of_ble_eq_true rfl) ?_
  intro p e s m args below meth c ls C hr hlk hnm hl hw
  have hrv : (some (.int r') : Option Value) = some (.int r') := rfl
  have C : mCx p m c cE_isOfChannel 2 s args g "MidiDesk$Event" := C
  have hl : lv_has ls 2 [(0, .ref (ea x0)), (1, .int x1)] := hl
  unfold fE_isOfChannel at hf
  refine lv_iload_n C.1.1 C.1.2.1 dE_isOfChannel_0 rfl (lv_at hl 1 rfl) ?_
  refine lv_bipush (v := (16 : Int32)) C.1.1 C.1.2.1 dE_isOfChannel_1 (by decide) ?_
  refine lv_icmp_eq (tgt := 17) C.1.1 C.1.2.1 dE_isOfChannel_3 (by decide) (fun c1 => ?_) (fun c1 => ?_)
  · have hf := ts_t hf c1
    refine lv_iconst (v := (1 : Int32)) C.1.1 C.1.2.1 dE_isOfChannel_17 (by decide) ?_
    refine lv_goto (tgt := 22) C.1.1 C.1.2.1 dE_isOfChannel_18 (by decide) ?_
    exact c_retz C hr hlk hrv hw (Or.inr rfl) hf rfl ⟨Nat.le_of_ble_eq_true rfl, Nat.le_of_ble_eq_true rfl⟩ dE_isOfChannel_22
  · have hf := ts_f hf c1
    refine lv_aload_n C.1.1 C.1.2.1 dE_isOfChannel_6 rfl (lv_at hl 0 rfl) ?_
    obtain ⟨hb2, hf⟩ := ts_g hf
    have hb2 := Nat.lt_of_not_le hb2
    refine cgt_Event_Event_status C hw hb2 dE_isOfChannel_7 ?_
    refine lv_bipush (v := (15 : Int32)) C.1.1 C.1.2.1 dE_isOfChannel_10 (by decide) ?_
    refine lv_iand C.1.1 C.1.2.1 dE_isOfChannel_12 ?_
    refine lv_iload_n C.1.1 C.1.2.1 dE_isOfChannel_13 rfl (lv_at hl 1 rfl) ?_
    refine lv_icmp_ne (tgt := 21) C.1.1 C.1.2.1 dE_isOfChannel_14 (by decide) (fun c3 => ?_) (fun c3 => ?_)
    · have hf := ts_f hf c3
      refine lv_iconst (v := (0 : Int32)) C.1.1 C.1.2.1 dE_isOfChannel_21 (by decide) ?_
      exact c_retz C hr hlk hrv hw (Or.inl rfl) hf rfl ⟨Nat.le_of_ble_eq_true rfl, Nat.le_of_ble_eq_true rfl⟩ dE_isOfChannel_22
    · have hf := ts_t hf c3
      refine lv_iconst (v := (1 : Int32)) C.1.1 C.1.2.1 dE_isOfChannel_17 (by decide) ?_
      refine lv_goto (tgt := 22) C.1.1 C.1.2.1 dE_isOfChannel_18 (by decide) ?_
      exact c_retz C hr hlk hrv hw (Or.inr rfl) hf rfl ⟨Nat.le_of_ble_eq_true rfl, Nat.le_of_ble_eq_true rfl⟩ dE_isOfChannel_22
abbrev cE_endsNoteOf : ByteArray := prog_3_method_8_code
abbrev yE_endsNoteOf : MethodName := ⟨"MidiDesk$Event", "endsNoteOf", "(LMidiDesk$Event;)Z"⟩
theorem kE_endsNoteOf : yE_endsNoteOf.cls ≠ "java/lang/invoke/MethodHandle" ∧ yE_endsNoteOf.cls ≠ "java/lang/invoke/VarHandle" ∧ (parseMethodDescriptor yE_endsNoteOf.desc).map (fun d => d.parameters.length) = some 1 := by decide +kernel
abbrev rE_endsNoteOf : Room := { frames := 1, cells := 0, slots := 0, locals := 21 }
theorem dE_endsNoteOf_0 : decode cE_endsNoteOf 0 = .ok (.aload_n 0, 1) := by decide +kernel
theorem dE_endsNoteOf_1 : decode cE_endsNoteOf 1 = .ok (.invokevirtual 21, 3) := by decide +kernel
theorem dE_endsNoteOf_4 : decode cE_endsNoteOf 4 = .ok (.ifCond .eq 46, 3) := by decide +kernel
theorem dE_endsNoteOf_7 : decode cE_endsNoteOf 7 = .ok (.aload_n 0, 1) := by decide +kernel
theorem dE_endsNoteOf_8 : decode cE_endsNoteOf 8 = .ok (.getfield 25, 3) := by decide +kernel
theorem dE_endsNoteOf_11 : decode cE_endsNoteOf 11 = .ok (.aload_n 1, 1) := by decide +kernel
theorem dE_endsNoteOf_12 : decode cE_endsNoteOf 12 = .ok (.getfield 25, 3) := by decide +kernel
theorem dE_endsNoteOf_15 : decode cE_endsNoteOf 15 = .ok (.if_icmp .ne 35, 3) := by decide +kernel
theorem dE_endsNoteOf_18 : decode cE_endsNoteOf 18 = .ok (.aload_n 0, 1) := by decide +kernel
theorem dE_endsNoteOf_19 : decode cE_endsNoteOf 19 = .ok (.getfield 15, 3) := by decide +kernel
theorem dE_endsNoteOf_22 : decode cE_endsNoteOf 22 = .ok (.aload_n 1, 1) := by decide +kernel
theorem dE_endsNoteOf_23 : decode cE_endsNoteOf 23 = .ok (.getfield 15, 3) := by decide +kernel
theorem dE_endsNoteOf_26 : decode cE_endsNoteOf 26 = .ok (.if_icmp .ne 24, 3) := by decide +kernel
theorem dE_endsNoteOf_29 : decode cE_endsNoteOf 29 = .ok (.aload_n 0, 1) := by decide +kernel
theorem dE_endsNoteOf_30 : decode cE_endsNoteOf 30 = .ok (.getfield 9, 3) := by decide +kernel
theorem dE_endsNoteOf_33 : decode cE_endsNoteOf 33 = .ok (.bipush 15, 2) := by decide +kernel
theorem dE_endsNoteOf_35 : decode cE_endsNoteOf 35 = .ok (.iand, 1) := by decide +kernel
theorem dE_endsNoteOf_36 : decode cE_endsNoteOf 36 = .ok (.aload_n 1, 1) := by decide +kernel
theorem dE_endsNoteOf_37 : decode cE_endsNoteOf 37 = .ok (.getfield 9, 3) := by decide +kernel
theorem dE_endsNoteOf_40 : decode cE_endsNoteOf 40 = .ok (.bipush 15, 2) := by decide +kernel
theorem dE_endsNoteOf_42 : decode cE_endsNoteOf 42 = .ok (.iand, 1) := by decide +kernel
theorem dE_endsNoteOf_43 : decode cE_endsNoteOf 43 = .ok (.if_icmp .ne 7, 3) := by decide +kernel
theorem dE_endsNoteOf_46 : decode cE_endsNoteOf 46 = .ok (.iconst 1, 1) := by decide +kernel
theorem dE_endsNoteOf_47 : decode cE_endsNoteOf 47 = .ok (.goto 4, 3) := by decide +kernel
theorem dE_endsNoteOf_50 : decode cE_endsNoteOf 50 = .ok (.iconst 0, 1) := by decide +kernel
theorem dE_endsNoteOf_51 : decode cE_endsNoteOf 51 = .ok (.ireturn, 1) := by decide +kernel
def fE_endsNoteOf (h : cH) (z : cZ) (x0 : Nat) (o1 : Option Nat) : Option (Int32 × cZ) := if h.2.1 ≤ x0 then none else ((fE_endsNote h z x0).bind fun (r2, z2) => if r2 = 0 then (some ((0 : Int32), z2)) else ((o1).bind fun j4 => if h.2.1 ≤ j4 then none else (if (ze z2 x0 1) = (ze z2 j4 1) then (if (ze z2 x0 3) = (ze z2 j4 3) then (if ((ze z2 x0 2) &&& (15 : Int32)) = ((ze z2 j4 2) &&& (15 : Int32)) then (some ((1 : Int32), z2)) else (some ((0 : Int32), z2))) else (some ((0 : Int32), z2))) else (some ((0 : Int32), z2)))))
set_option maxHeartbeats 4000000 in
set_option maxRecDepth 100000 in
theorem cE_endsNoteOf_met {l : Launch} {g : gT} {qq ad ea : Nat → Nat} {h : cH} {X : va_W} {z z' : cZ} {x0 : Nat} {o1 : Option Nat} {r' : Int32} (hf : fE_endsNoteOf h z x0 o1 = some (r', z')) : cMet l yE_endsNoteOf cE_endsNoteOf 2 (some .boolean) rE_endsNoteOf g qq ad ea h X z [.ref (ea x0), va_rf (Option.map ea o1)] (some (.int r')) X z' := by
  refine c_entry (by decide) (by cases o1 <;> exact Nat.le_of_ble_eq_true rfl) ?_
  intro p e s m args below meth c ls C hr hlk hnm hl hw
  have hrv : (some (.int r') : Option Value) = some (.int r') := rfl
  have C : mCx p m c cE_endsNoteOf 2 s args g "MidiDesk$Event" := C
  have hl : lv_has ls 2 [(0, .ref (ea x0)), (1, va_rf (Option.map ea o1))] := hl
  unfold fE_endsNoteOf at hf
  refine lv_aload_n C.1.1 C.1.2.1 dE_endsNoteOf_0 rfl (lv_at hl 0 rfl) ?_
  obtain ⟨hb1, hf⟩ := ts_g hf
  have hb1 := Nat.lt_of_not_le hb1
  obtain ⟨⟨r2, z2⟩, g2, hf⟩ := ts_b hf
  try dsimp only at hf
  refine c_callV (rest := []) (As := []) (rv := (some (.int r2))) (b := (ea x0)) C hl.1 hw (cE_endsNote_met g2) rfl (callW_of (rm := rE_endsNote) (C := "MidiDesk$Event") 0 C.1.2.2.2.2 gw_423 gw_424 gw_425 gw_60 gw_426 kE_endsNote ⟨Nat.le_of_ble_eq_true rfl, Nat.le_of_ble_eq_true rfl⟩) (c_recvE C.2 hb1 hw) rfl rfl (Nat.le_of_ble_eq_true rfl) dE_endsNoteOf_1 ⟨Nat.le_of_ble_eq_true rfl, Nat.le_of_ble_eq_true rfl⟩ (fun H locs hw => ?_)
  refine W.eq (g2 := F0 m 4 ls [.int r2]) rfl ?_
  refine lv_if_eq (tgt := 50) C.1.1 C.1.2.1 dE_endsNoteOf_4 (by decide) (fun c3 => ?_) (fun c3 => ?_)
  · have hf := ts_t hf c3
    refine lv_iconst (v := (0 : Int32)) C.1.1 C.1.2.1 dE_endsNoteOf_50 (by decide) ?_
    exact c_retz C hr hlk hrv hw (Or.inl rfl) hf rfl ⟨Nat.le_of_ble_eq_true rfl, Nat.le_of_ble_eq_true rfl⟩ dE_endsNoteOf_51
  · have hf := ts_f hf c3
    refine lv_aload_n C.1.1 C.1.2.1 dE_endsNoteOf_7 rfl (lv_at hl 0 rfl) ?_
    refine cgt_Event_Event_track C hw hb1 dE_endsNoteOf_8 ?_
    refine c_aload_n C.1.1 C.1.2.1 dE_endsNoteOf_11 rfl (lv_at hl 1 rfl) ?_
    obtain ⟨j4, ho4, hf⟩ := ts_b hf
    try dsimp only at hf
    obtain ⟨hb4, hf⟩ := ts_g hf
    have hb4 := Nat.lt_of_not_le hb4
    refine cg_Event_Event_track C hw ho4 hb4 dE_endsNoteOf_12 ?_
    refine lv_icmp_ne (tgt := 50) C.1.1 C.1.2.1 dE_endsNoteOf_15 (by decide) (fun c5 => ?_) (fun c5 => ?_)
    · have hf := ts_f hf c5
      refine lv_iconst (v := (0 : Int32)) C.1.1 C.1.2.1 dE_endsNoteOf_50 (by decide) ?_
      exact c_retz C hr hlk hrv hw (Or.inl rfl) hf rfl ⟨Nat.le_of_ble_eq_true rfl, Nat.le_of_ble_eq_true rfl⟩ dE_endsNoteOf_51
    · have hf := ts_t hf c5
      refine lv_aload_n C.1.1 C.1.2.1 dE_endsNoteOf_18 rfl (lv_at hl 0 rfl) ?_
      refine cgt_Event_Event_first C hw hb1 dE_endsNoteOf_19 ?_
      refine c_aload_n C.1.1 C.1.2.1 dE_endsNoteOf_22 rfl (lv_at hl 1 rfl) ?_
      refine cg_Event_Event_first C hw ho4 hb4 dE_endsNoteOf_23 ?_
      refine lv_icmp_ne (tgt := 50) C.1.1 C.1.2.1 dE_endsNoteOf_26 (by decide) (fun c6 => ?_) (fun c6 => ?_)
      · have hf := ts_f hf c6
        refine lv_iconst (v := (0 : Int32)) C.1.1 C.1.2.1 dE_endsNoteOf_50 (by decide) ?_
        exact c_retz C hr hlk hrv hw (Or.inl rfl) hf rfl ⟨Nat.le_of_ble_eq_true rfl, Nat.le_of_ble_eq_true rfl⟩ dE_endsNoteOf_51
      · have hf := ts_t hf c6
        refine lv_aload_n C.1.1 C.1.2.1 dE_endsNoteOf_29 rfl (lv_at hl 0 rfl) ?_
        refine cgt_Event_Event_status C hw hb1 dE_endsNoteOf_30 ?_
        refine lv_bipush (v := (15 : Int32)) C.1.1 C.1.2.1 dE_endsNoteOf_33 (by decide) ?_
        refine lv_iand C.1.1 C.1.2.1 dE_endsNoteOf_35 ?_
        refine c_aload_n C.1.1 C.1.2.1 dE_endsNoteOf_36 rfl (lv_at hl 1 rfl) ?_
        refine cg_Event_Event_status C hw ho4 hb4 dE_endsNoteOf_37 ?_
        refine lv_bipush (v := (15 : Int32)) C.1.1 C.1.2.1 dE_endsNoteOf_40 (by decide) ?_
        refine lv_iand C.1.1 C.1.2.1 dE_endsNoteOf_42 ?_
        refine lv_icmp_ne (tgt := 50) C.1.1 C.1.2.1 dE_endsNoteOf_43 (by decide) (fun c7 => ?_) (fun c7 => ?_)
        · have hf := ts_f hf c7
          refine lv_iconst (v := (0 : Int32)) C.1.1 C.1.2.1 dE_endsNoteOf_50 (by decide) ?_
          exact c_retz C hr hlk hrv hw (Or.inl rfl) hf rfl ⟨Nat.le_of_ble_eq_true rfl, Nat.le_of_ble_eq_true rfl⟩ dE_endsNoteOf_51
        · have hf := ts_t hf c7
          refine lv_iconst (v := (1 : Int32)) C.1.1 C.1.2.1 dE_endsNoteOf_46 (by decide) ?_
          refine lv_goto (tgt := 51) C.1.1 C.1.2.1 dE_endsNoteOf_47 (by decide) ?_
          exact c_retz C hr hlk hrv hw (Or.inr rfl) hf rfl ⟨Nat.le_of_ble_eq_true rfl, Nat.le_of_ble_eq_true rfl⟩ dE_endsNoteOf_51
abbrev cE_belongsBehind : ByteArray := prog_3_method_9_code
abbrev yE_belongsBehind : MethodName := ⟨"MidiDesk$Event", "belongsBehind", "(LMidiDesk$Event;)Z"⟩
theorem kE_belongsBehind : yE_belongsBehind.cls ≠ "java/lang/invoke/MethodHandle" ∧ yE_belongsBehind.cls ≠ "java/lang/invoke/VarHandle" ∧ (parseMethodDescriptor yE_belongsBehind.desc).map (fun d => d.parameters.length) = some 1 := by decide +kernel
abbrev rE_belongsBehind : Room := { frames := 0, cells := 0, slots := 0, locals := 0 }
theorem dE_belongsBehind_0 : decode cE_belongsBehind 0 = .ok (.aload_n 0, 1) := by decide +kernel
theorem dE_belongsBehind_1 : decode cE_belongsBehind 1 = .ok (.getfield 28, 3) := by decide +kernel
theorem dE_belongsBehind_4 : decode cE_belongsBehind 4 = .ok (.aload_n 1, 1) := by decide +kernel
theorem dE_belongsBehind_5 : decode cE_belongsBehind 5 = .ok (.getfield 28, 3) := by decide +kernel
theorem dE_belongsBehind_8 : decode cE_belongsBehind 8 = .ok (.if_icmp .gt 25, 3) := by decide +kernel
theorem dE_belongsBehind_11 : decode cE_belongsBehind 11 = .ok (.aload_n 0, 1) := by decide +kernel
theorem dE_belongsBehind_12 : decode cE_belongsBehind 12 = .ok (.getfield 28, 3) := by decide +kernel
theorem dE_belongsBehind_15 : decode cE_belongsBehind 15 = .ok (.aload_n 1, 1) := by decide +kernel
theorem dE_belongsBehind_16 : decode cE_belongsBehind 16 = .ok (.getfield 28, 3) := by decide +kernel
theorem dE_belongsBehind_19 : decode cE_belongsBehind 19 = .ok (.if_icmp .ne 18, 3) := by decide +kernel
theorem dE_belongsBehind_22 : decode cE_belongsBehind 22 = .ok (.aload_n 0, 1) := by decide +kernel
theorem dE_belongsBehind_23 : decode cE_belongsBehind 23 = .ok (.getfield 25, 3) := by decide +kernel
theorem dE_belongsBehind_26 : decode cE_belongsBehind 26 = .ok (.aload_n 1, 1) := by decide +kernel
theorem dE_belongsBehind_27 : decode cE_belongsBehind 27 = .ok (.getfield 25, 3) := by decide +kernel
theorem dE_belongsBehind_30 : decode cE_belongsBehind 30 = .ok (.if_icmp .le 7, 3) := by decide +kernel
theorem dE_belongsBehind_33 : decode cE_belongsBehind 33 = .ok (.iconst 1, 1) := by decide +kernel
theorem dE_belongsBehind_34 : decode cE_belongsBehind 34 = .ok (.goto 4, 3) := by decide +kernel
theorem dE_belongsBehind_37 : decode cE_belongsBehind 37 = .ok (.iconst 0, 1) := by decide +kernel
theorem dE_belongsBehind_38 : decode cE_belongsBehind 38 = .ok (.ireturn, 1) := by decide +kernel
def fE_belongsBehind (h : cH) (z : cZ) (x0 : Nat) (o1 : Option Nat) : Option (Int32 × cZ) := if h.2.1 ≤ x0 then none else ((o1).bind fun j2 => if h.2.1 ≤ j2 then none else (if (ze z j2 0) < (ze z x0 0) then (some ((1 : Int32), z)) else (if (ze z x0 0) = (ze z j2 0) then (if (ze z x0 1) ≤ (ze z j2 1) then (some ((0 : Int32), z)) else (some ((1 : Int32), z))) else (some ((0 : Int32), z)))))
set_option maxHeartbeats 4000000 in
set_option maxRecDepth 100000 in
theorem cE_belongsBehind_met {l : Launch} {g : gT} {qq ad ea : Nat → Nat} {h : cH} {X : va_W} {z z' : cZ} {x0 : Nat} {o1 : Option Nat} {r' : Int32} (hf : fE_belongsBehind h z x0 o1 = some (r', z')) : cMet l yE_belongsBehind cE_belongsBehind 2 (some .boolean) rE_belongsBehind g qq ad ea h X z [.ref (ea x0), va_rf (Option.map ea o1)] (some (.int r')) X z' := by
  refine c_entry (by decide) (by cases o1 <;> exact Nat.le_of_ble_eq_true rfl) ?_
  intro p e s m args below meth c ls C hr hlk hnm hl hw
  have hrv : (some (.int r') : Option Value) = some (.int r') := rfl
  have C : mCx p m c cE_belongsBehind 2 s args g "MidiDesk$Event" := C
  have hl : lv_has ls 2 [(0, .ref (ea x0)), (1, va_rf (Option.map ea o1))] := hl
  unfold fE_belongsBehind at hf
  refine lv_aload_n C.1.1 C.1.2.1 dE_belongsBehind_0 rfl (lv_at hl 0 rfl) ?_
  obtain ⟨hb1, hf⟩ := ts_g hf
  have hb1 := Nat.lt_of_not_le hb1
  refine cgt_Event_Event_tick C hw hb1 dE_belongsBehind_1 ?_
  refine c_aload_n C.1.1 C.1.2.1 dE_belongsBehind_4 rfl (lv_at hl 1 rfl) ?_
  obtain ⟨j2, ho2, hf⟩ := ts_b hf
  try dsimp only at hf
  obtain ⟨hb2, hf⟩ := ts_g hf
  have hb2 := Nat.lt_of_not_le hb2
  refine cg_Event_Event_tick C hw ho2 hb2 dE_belongsBehind_5 ?_
  refine lv_icmp_gt (tgt := 33) C.1.1 C.1.2.1 dE_belongsBehind_8 (by decide) (fun c3 => ?_) (fun c3 => ?_)
  · have hf := ts_t hf c3
    refine lv_iconst (v := (1 : Int32)) C.1.1 C.1.2.1 dE_belongsBehind_33 (by decide) ?_
    refine lv_goto (tgt := 38) C.1.1 C.1.2.1 dE_belongsBehind_34 (by decide) ?_
    exact c_retz C hr hlk hrv hw (Or.inr rfl) hf rfl ⟨Nat.le_of_ble_eq_true rfl, Nat.le_of_ble_eq_true rfl⟩ dE_belongsBehind_38
  · have hf := ts_f hf c3
    refine lv_aload_n C.1.1 C.1.2.1 dE_belongsBehind_11 rfl (lv_at hl 0 rfl) ?_
    refine cgt_Event_Event_tick C hw hb1 dE_belongsBehind_12 ?_
    refine c_aload_n C.1.1 C.1.2.1 dE_belongsBehind_15 rfl (lv_at hl 1 rfl) ?_
    refine cg_Event_Event_tick C hw ho2 hb2 dE_belongsBehind_16 ?_
    refine lv_icmp_ne (tgt := 37) C.1.1 C.1.2.1 dE_belongsBehind_19 (by decide) (fun c4 => ?_) (fun c4 => ?_)
    · have hf := ts_f hf c4
      refine lv_iconst (v := (0 : Int32)) C.1.1 C.1.2.1 dE_belongsBehind_37 (by decide) ?_
      exact c_retz C hr hlk hrv hw (Or.inl rfl) hf rfl ⟨Nat.le_of_ble_eq_true rfl, Nat.le_of_ble_eq_true rfl⟩ dE_belongsBehind_38
    · have hf := ts_t hf c4
      refine lv_aload_n C.1.1 C.1.2.1 dE_belongsBehind_22 rfl (lv_at hl 0 rfl) ?_
      refine cgt_Event_Event_track C hw hb1 dE_belongsBehind_23 ?_
      refine c_aload_n C.1.1 C.1.2.1 dE_belongsBehind_26 rfl (lv_at hl 1 rfl) ?_
      refine cg_Event_Event_track C hw ho2 hb2 dE_belongsBehind_27 ?_
      refine lv_icmp_le (tgt := 37) C.1.1 C.1.2.1 dE_belongsBehind_30 (by decide) (fun c5 => ?_) (fun c5 => ?_)
      · have hf := ts_t hf c5
        refine lv_iconst (v := (0 : Int32)) C.1.1 C.1.2.1 dE_belongsBehind_37 (by decide) ?_
        exact c_retz C hr hlk hrv hw (Or.inl rfl) hf rfl ⟨Nat.le_of_ble_eq_true rfl, Nat.le_of_ble_eq_true rfl⟩ dE_belongsBehind_38
      · have hf := ts_f hf c5
        refine lv_iconst (v := (1 : Int32)) C.1.1 C.1.2.1 dE_belongsBehind_33 (by decide) ?_
        refine lv_goto (tgt := 38) C.1.1 C.1.2.1 dE_belongsBehind_34 (by decide) ?_
        exact c_retz C hr hlk hrv hw (Or.inr rfl) hf rfl ⟨Nat.le_of_ble_eq_true rfl, Nat.le_of_ble_eq_true rfl⟩ dE_belongsBehind_38
abbrev cD_nearest : ByteArray := prog_1_method_19_code
abbrev yD_nearest : MethodName := ⟨"MidiDesk", "nearest", "(II)I"⟩
theorem kD_nearest : yD_nearest.cls ≠ "java/lang/invoke/MethodHandle" ∧ yD_nearest.cls ≠ "java/lang/invoke/VarHandle" ∧ (parseMethodDescriptor yD_nearest.desc).map (fun d => d.parameters.length) = some 2 := by decide +kernel
abbrev rD_nearest : Room := { frames := 0, cells := 0, slots := 0, locals := 0 }
theorem dD_nearest_0 : decode cD_nearest 0 = .ok (.iload_n 0, 1) := by decide +kernel
theorem dD_nearest_1 : decode cD_nearest 1 = .ok (.iload_n 1, 1) := by decide +kernel
theorem dD_nearest_2 : decode cD_nearest 2 = .ok (.iconst 2, 1) := by decide +kernel
theorem dD_nearest_3 : decode cD_nearest 3 = .ok (.idiv, 1) := by decide +kernel
theorem dD_nearest_4 : decode cD_nearest 4 = .ok (.iadd, 1) := by decide +kernel
theorem dD_nearest_5 : decode cD_nearest 5 = .ok (.iload_n 1, 1) := by decide +kernel
theorem dD_nearest_6 : decode cD_nearest 6 = .ok (.idiv, 1) := by decide +kernel
theorem dD_nearest_7 : decode cD_nearest 7 = .ok (.iload_n 1, 1) := by decide +kernel
theorem dD_nearest_8 : decode cD_nearest 8 = .ok (.imul, 1) := by decide +kernel
theorem dD_nearest_9 : decode cD_nearest 9 = .ok (.ireturn, 1) := by decide +kernel
def fD_nearest (h : cH) (z : cZ) (x0 : Int32) (x1 : Int32) : Option (Int32 × cZ) := if (2 : Int32) = 0 then none else (if x1 = 0 then none else (some (((x0 + (x1 / (2 : Int32))) / x1) * x1, z)))
set_option maxHeartbeats 4000000 in
set_option maxRecDepth 100000 in
theorem cD_nearest_met {l : Launch} {g : gT} {qq ad ea : Nat → Nat} {h : cH} {X : va_W} {z z' : cZ} {x0 : Int32} {x1 : Int32} {r' : Int32} (hf : fD_nearest h z x0 x1 = some (r', z')) : cMet l yD_nearest cD_nearest 2 (some .int) rD_nearest g qq ad ea h X z [.int x0, .int x1] (some (.int r')) X z' := by
  refine c_entry (by decide) (Nat.le_of_ble_eq_true rfl) ?_
  intro p e s m args below meth c ls C hr hlk hnm hl hw
  have hrv : (some (.int r') : Option Value) = some (.int r') := rfl
  have C : mCx p m c cD_nearest 2 s args g "MidiDesk" := C
  have hl : lv_has ls 2 [(0, .int x0), (1, .int x1)] := hl
  unfold fD_nearest at hf
  refine lv_iload_n C.1.1 C.1.2.1 dD_nearest_0 rfl (lv_at hl 0 rfl) ?_
  refine lv_iload_n C.1.1 C.1.2.1 dD_nearest_1 rfl (lv_at hl 1 rfl) ?_
  refine lv_iconst (v := (2 : Int32)) C.1.1 C.1.2.1 dD_nearest_2 (by decide) ?_
  obtain ⟨h1, hf⟩ := ts_g hf
  refine lv_idiv C.1.1 C.1.2.1 dD_nearest_3 h1 ?_
  refine lv_iadd C.1.1 C.1.2.1 dD_nearest_4 ?_
  refine lv_iload_n C.1.1 C.1.2.1 dD_nearest_5 rfl (lv_at hl 1 rfl) ?_
  obtain ⟨h2, hf⟩ := ts_g hf
  refine lv_idiv C.1.1 C.1.2.1 dD_nearest_6 h2 ?_
  refine lv_iload_n C.1.1 C.1.2.1 dD_nearest_7 rfl (lv_at hl 1 rfl) ?_
  refine lv_imul C.1.1 C.1.2.1 dD_nearest_8 ?_
  exact c_reti C hr hlk hrv hw hf rfl ⟨Nat.le_of_ble_eq_true rfl, Nat.le_of_ble_eq_true rfl⟩ dD_nearest_9
abbrev cD_hasOneByte : ByteArray := prog_1_method_20_code
abbrev yD_hasOneByte : MethodName := ⟨"MidiDesk", "hasOneByte", "(I)Z"⟩
theorem kD_hasOneByte : yD_hasOneByte.cls ≠ "java/lang/invoke/MethodHandle" ∧ yD_hasOneByte.cls ≠ "java/lang/invoke/VarHandle" ∧ (parseMethodDescriptor yD_hasOneByte.desc).map (fun d => d.parameters.length) = some 1 := by decide +kernel
abbrev rD_hasOneByte : Room := { frames := 0, cells := 0, slots := 0, locals := 0 }
theorem dD_hasOneByte_0 : decode cD_hasOneByte 0 = .ok (.iload_n 0, 1) := by decide +kernel
theorem dD_hasOneByte_1 : decode cD_hasOneByte 1 = .ok (.sipush 240, 3) := by decide +kernel
theorem dD_hasOneByte_4 : decode cD_hasOneByte 4 = .ok (.iand, 1) := by decide +kernel
theorem dD_hasOneByte_5 : decode cD_hasOneByte 5 = .ok (.istore_n 1, 1) := by decide +kernel
theorem dD_hasOneByte_6 : decode cD_hasOneByte 6 = .ok (.iload_n 1, 1) := by decide +kernel
theorem dD_hasOneByte_7 : decode cD_hasOneByte 7 = .ok (.sipush 192, 3) := by decide +kernel
theorem dD_hasOneByte_10 : decode cD_hasOneByte 10 = .ok (.if_icmp .eq 10, 3) := by decide +kernel
theorem dD_hasOneByte_13 : decode cD_hasOneByte 13 = .ok (.iload_n 1, 1) := by decide +kernel
theorem dD_hasOneByte_14 : decode cD_hasOneByte 14 = .ok (.sipush 208, 3) := by decide +kernel
theorem dD_hasOneByte_17 : decode cD_hasOneByte 17 = .ok (.if_icmp .ne 7, 3) := by decide +kernel
theorem dD_hasOneByte_20 : decode cD_hasOneByte 20 = .ok (.iconst 1, 1) := by decide +kernel
theorem dD_hasOneByte_21 : decode cD_hasOneByte 21 = .ok (.goto 4, 3) := by decide +kernel
theorem dD_hasOneByte_24 : decode cD_hasOneByte 24 = .ok (.iconst 0, 1) := by decide +kernel
theorem dD_hasOneByte_25 : decode cD_hasOneByte 25 = .ok (.ireturn, 1) := by decide +kernel
def fD_hasOneByte (h : cH) (z : cZ) (x0 : Int32) : Option (Int32 × cZ) := if (x0 &&& (240 : Int32)) = (192 : Int32) then (some ((1 : Int32), z)) else (if (x0 &&& (240 : Int32)) = (208 : Int32) then (some ((1 : Int32), z)) else (some ((0 : Int32), z)))
set_option maxHeartbeats 4000000 in
set_option maxRecDepth 100000 in
theorem cD_hasOneByte_met {l : Launch} {g : gT} {qq ad ea : Nat → Nat} {h : cH} {X : va_W} {z z' : cZ} {x0 : Int32} {r' : Int32} (hf : fD_hasOneByte h z x0 = some (r', z')) : cMet l yD_hasOneByte cD_hasOneByte 2 (some .boolean) rD_hasOneByte g qq ad ea h X z [.int x0] (some (.int r')) X z' := by
  refine c_entry (by decide) (Nat.le_of_ble_eq_true rfl) ?_
  intro p e s m args below meth c ls C hr hlk hnm hl hw
  have hrv : (some (.int r') : Option Value) = some (.int r') := rfl
  have C : mCx p m c cD_hasOneByte 2 s args g "MidiDesk" := C
  have hl : lv_has ls 2 [(0, .int x0)] := hl
  unfold fD_hasOneByte at hf
  refine lv_iload_n C.1.1 C.1.2.1 dD_hasOneByte_0 rfl (lv_at hl 0 rfl) ?_
  refine lv_sipush (v := (240 : Int32)) C.1.1 C.1.2.1 dD_hasOneByte_1 (by decide) ?_
  refine lv_iand C.1.1 C.1.2.1 dD_hasOneByte_4 ?_
  refine lv_istore_n (lv' := [(1, .int (x0 &&& (240 : Int32))), (0, .int x0)]) C.1.1 C.1.2.1 dD_hasOneByte_5 rfl hl (by decide) rfl (fun ls hl => ?_)
  refine lv_iload_n C.1.1 C.1.2.1 dD_hasOneByte_6 rfl (lv_at hl 0 rfl) ?_
  refine lv_sipush (v := (192 : Int32)) C.1.1 C.1.2.1 dD_hasOneByte_7 (by decide) ?_
  refine lv_icmp_eq (tgt := 20) C.1.1 C.1.2.1 dD_hasOneByte_10 (by decide) (fun c1 => ?_) (fun c1 => ?_)
  · have hf := ts_t hf c1
    refine lv_iconst (v := (1 : Int32)) C.1.1 C.1.2.1 dD_hasOneByte_20 (by decide) ?_
    refine lv_goto (tgt := 25) C.1.1 C.1.2.1 dD_hasOneByte_21 (by decide) ?_
    exact c_retz C hr hlk hrv hw (Or.inr rfl) hf rfl ⟨Nat.le_of_ble_eq_true rfl, Nat.le_of_ble_eq_true rfl⟩ dD_hasOneByte_25
  · have hf := ts_f hf c1
    refine lv_iload_n C.1.1 C.1.2.1 dD_hasOneByte_13 rfl (lv_at hl 0 rfl) ?_
    refine lv_sipush (v := (208 : Int32)) C.1.1 C.1.2.1 dD_hasOneByte_14 (by decide) ?_
    refine lv_icmp_ne (tgt := 24) C.1.1 C.1.2.1 dD_hasOneByte_17 (by decide) (fun c2 => ?_) (fun c2 => ?_)
    · have hf := ts_f hf c2
      refine lv_iconst (v := (0 : Int32)) C.1.1 C.1.2.1 dD_hasOneByte_24 (by decide) ?_
      exact c_retz C hr hlk hrv hw (Or.inl rfl) hf rfl ⟨Nat.le_of_ble_eq_true rfl, Nat.le_of_ble_eq_true rfl⟩ dD_hasOneByte_25
    · have hf := ts_t hf c2
      refine lv_iconst (v := (1 : Int32)) C.1.1 C.1.2.1 dD_hasOneByte_20 (by decide) ?_
      refine lv_goto (tgt := 25) C.1.1 C.1.2.1 dD_hasOneByte_21 (by decide) ?_
      exact c_retz C hr hlk hrv hw (Or.inr rfl) hf rfl ⟨Nat.le_of_ble_eq_true rfl, Nat.le_of_ble_eq_true rfl⟩ dD_hasOneByte_25
abbrev cS_copy10 : ByteArray := prog_6_method_6_code
abbrev yS_copy10 : MethodName := ⟨"MidiDesk$Score", "copyEvents", "([LMidiDesk$Event;[LMidiDesk$Event;II)V"⟩
theorem kS_copy10 : yS_copy10.cls ≠ "java/lang/invoke/MethodHandle" ∧ yS_copy10.cls ≠ "java/lang/invoke/VarHandle" ∧ (parseMethodDescriptor yS_copy10.desc).map (fun d => d.parameters.length) = some 4 := by decide +kernel
abbrev rS_copy10 : Room := { frames := 0, cells := 0, slots := 0, locals := 0 }
theorem dS_copy10_0 : decode cS_copy10 0 = .ok (.iconst 0, 1) := by decide +kernel
theorem dS_copy10_1 : decode cS_copy10 1 = .ok (.istore 4, 2) := by decide +kernel
theorem dS_copy10_3 : decode cS_copy10 3 = .ok (.iload 4, 2) := by decide +kernel
theorem dS_copy10_5 : decode cS_copy10 5 = .ok (.iload_n 3, 1) := by decide +kernel
theorem dS_copy10_6 : decode cS_copy10 6 = .ok (.if_icmp .ge 19, 3) := by decide +kernel
theorem dS_copy10_9 : decode cS_copy10 9 = .ok (.aload_n 1, 1) := by decide +kernel
theorem dS_copy10_10 : decode cS_copy10 10 = .ok (.iload_n 2, 1) := by decide +kernel
theorem dS_copy10_11 : decode cS_copy10 11 = .ok (.iload 4, 2) := by decide +kernel
theorem dS_copy10_13 : decode cS_copy10 13 = .ok (.iadd, 1) := by decide +kernel
theorem dS_copy10_14 : decode cS_copy10 14 = .ok (.aload_n 0, 1) := by decide +kernel
theorem dS_copy10_15 : decode cS_copy10 15 = .ok (.iload 4, 2) := by decide +kernel
theorem dS_copy10_17 : decode cS_copy10 17 = .ok (.aaload, 1) := by decide +kernel
theorem dS_copy10_18 : decode cS_copy10 18 = .ok (.aastore, 1) := by decide +kernel
theorem dS_copy10_19 : decode cS_copy10 19 = .ok (.iinc 4 1, 3) := by decide +kernel
theorem dS_copy10_22 : decode cS_copy10 22 = .ok (.goto (-19), 3) := by decide +kernel
theorem dS_copy10_25 : decode cS_copy10 25 = .ok (.return_, 1) := by decide +kernel
def lS_copy10_3 (h : cH) : Nat → cZ → Int32 → Int32 → Int32 → Option (cZ)
  | 0 => fun _ _ _ _ => none
  | k + 1 => fun z x2 x3 x4 => if x3 ≤ x4 then (some z) else (if x4 < 0 ∨ h.1 4 ≤ x4.toNatClampNeg then none else (if (x2 + x4) < 0 ∨ h.1 3 ≤ (x2 + x4).toNatClampNeg then none else (if okr h.2.1 (zr z 1 x4.toNatClampNeg) = false then none else (lS_copy10_3 h k (zR z 0 (x2 + x4).toNatClampNeg (zr z 1 x4.toNatClampNeg)) x2 x3 (x4 + 1)))))
def fS_copy10 (h : cH) (z : cZ) (x2 : Int32) (x3 : Int32) : Option (cZ) := lS_copy10_3 h FU z x2 x3 (0 : Int32)
set_option maxHeartbeats 4000000 in
set_option maxRecDepth 100000 in
theorem wS_copy10_3 {p : Program} {l : Launch} {e : Env} {s : State} {m : MethodId} {args : Array Value} {below : List Frame} {meth : Method} {c : Code} {g : gT} {qq ad ea : Nat → Nat} {h : cH} {X : va_W} {rv : Option Value} {z' : cZ} (C : mCx p m c cS_copy10 5 s args g "MidiDesk$Score") (hr : meth.sig.returnType = none) (hlk : meth.locks = false) (hrv : rv = none) (k : Nat) : ∀ (z : cZ) (x2 : Int32) (x3 : Int32) (x4 : Int32) (H : Heap) (locs : List Loc) (ls : Array Slot), lv_has ls 5 [(0, .ref (ad 4)), (1, .ref (ad 3)), (2, .int x2), (3, .int x3), (4, .int x4)] → cWd g (cA g qq ad ea h X s.heap.size) s.heap qq ad ea h X z H locs → lS_copy10_3 h k z x2 x3 x4 = some z' → cG p l e rS_copy10 s m args below meth c g qq ad ea h X rv X z' H locs 0 0 (F0 m 3 ls []) := by
  induction k with
  | zero => intro z x2 x3 x4 H locs ls hl hw hf; cases hf
  | succ k ih =>
    intro z x2 x3 x4 H locs ls hl hw hf
    have hf : (if x3 ≤ x4 then (some z) else (if x4 < 0 ∨ h.1 4 ≤ x4.toNatClampNeg then none else (if (x2 + x4) < 0 ∨ h.1 3 ≤ (x2 + x4).toNatClampNeg then none else (if okr h.2.1 (zr z 1 x4.toNatClampNeg) = false then none else (lS_copy10_3 h k (zR z 0 (x2 + x4).toNatClampNeg (zr z 1 x4.toNatClampNeg)) x2 x3 (x4 + 1)))))) = some z' := hf
    refine lv_iload C.1.1 C.1.2.1 dS_copy10_3 (lv_at hl 4 rfl) ?_
    refine lv_iload_n C.1.1 C.1.2.1 dS_copy10_5 rfl (lv_at hl 3 rfl) ?_
    refine lv_icmp_ge (tgt := 25) C.1.1 C.1.2.1 dS_copy10_6 (by decide) (fun c1 => ?_) (fun c1 => ?_)
    · have hf := ts_t hf c1
      exact c_retv C hr hlk hrv hw hf rfl ⟨Nat.le_of_ble_eq_true rfl, Nat.le_of_ble_eq_true rfl⟩ dS_copy10_25
    · have hf := ts_f hf c1
      refine lv_aload_n C.1.1 C.1.2.1 dS_copy10_9 rfl (lv_at hl 1 rfl) ?_
      refine lv_iload_n C.1.1 C.1.2.1 dS_copy10_10 rfl (lv_at hl 2 rfl) ?_
      refine lv_iload C.1.1 C.1.2.1 dS_copy10_11 (lv_at hl 4 rfl) ?_
      refine lv_iadd C.1.1 C.1.2.1 dS_copy10_13 ?_
      refine lv_aload_n C.1.1 C.1.2.1 dS_copy10_14 rfl (lv_at hl 0 rfl) ?_
      refine lv_iload C.1.1 C.1.2.1 dS_copy10_15 (lv_at hl 4 rfl) ?_
      obtain ⟨h2, hf⟩ := ts_g hf
      refine cra_1 C hw h2 dS_copy10_17 ?_
      obtain ⟨h3, hf⟩ := ts_g hf
      obtain ⟨h4, hf⟩ := ts_g hf
      refine crs_0 C hw h3 h4 dS_copy10_18 (fun H locs hw => ?_)
      refine lv_iinc (v := x4 + 1) (lv' := [(4, .int (x4 + 1)), (0, .ref (ad 4)), (1, .ref (ad 3)), (2, .int x2), (3, .int x3)]) C.1.1 C.1.2.1 dS_copy10_19 hl (k := 4) rfl rfl (by decide) rfl (fun ls hl => ?_)
      refine lv_goto (tgt := 3) C.1.1 C.1.2.1 dS_copy10_22 (by decide) ?_
      exact ih (zR z 0 (x2 + x4).toNatClampNeg (zr z 1 x4.toNatClampNeg)) x2 x3 (x4 + 1) _ _ ls (lv_sub hl [1, 2, 3, 4, 0] rfl) hw hf
set_option maxHeartbeats 4000000 in
set_option maxRecDepth 100000 in
theorem cS_copy10_met {l : Launch} {g : gT} {qq ad ea : Nat → Nat} {h : cH} {X : va_W} {z z' : cZ} {x2 : Int32} {x3 : Int32} (hf : fS_copy10 h z x2 x3 = some z') : cMet l yS_copy10 cS_copy10 5 none rS_copy10 g qq ad ea h X z [.ref (ad 4), .ref (ad 3), .int x2, .int x3] (none) X z' := by
  refine c_entry (by decide) (Nat.le_of_ble_eq_true rfl) ?_
  intro p e s m args below meth c ls C hr hlk hnm hl hw
  have hrv : (none : Option Value) = none := rfl
  have C : mCx p m c cS_copy10 5 s args g "MidiDesk$Score" := C
  have hl : lv_has ls 5 [(0, .ref (ad 4)), (1, .ref (ad 3)), (2, .int x2), (3, .int x3)] := hl
  unfold fS_copy10 at hf
  refine lv_iconst (v := (0 : Int32)) C.1.1 C.1.2.1 dS_copy10_0 (by decide) ?_
  refine lv_istore (lv' := [(4, .int (0 : Int32)), (0, .ref (ad 4)), (1, .ref (ad 3)), (2, .int x2), (3, .int x3)]) C.1.1 C.1.2.1 dS_copy10_1 hl (by decide) rfl (fun ls hl => ?_)
  exact wS_copy10_3 C hr hlk hrv FU z x2 x3 (0 : Int32) _ _ ls (lv_sub hl [1, 2, 3, 4, 0] rfl) hw hf
abbrev cS_forget : ByteArray := prog_6_method_2_code
abbrev yS_forget : MethodName := ⟨"MidiDesk$Score", "forget", "()V"⟩
theorem kS_forget : yS_forget.cls ≠ "java/lang/invoke/MethodHandle" ∧ yS_forget.cls ≠ "java/lang/invoke/VarHandle" ∧ (parseMethodDescriptor yS_forget.desc).map (fun d => d.parameters.length) = some 0 := by decide +kernel
abbrev rS_forget : Room := { frames := 1, cells := 0, slots := 0, locals := 20 }
theorem dS_forget_0 : decode cS_forget 0 = .ok (.aload_n 0, 1) := by decide +kernel
theorem dS_forget_1 : decode cS_forget 1 = .ok (.iconst 0, 1) := by decide +kernel
theorem dS_forget_2 : decode cS_forget 2 = .ok (.putfield 29, 3) := by decide +kernel
theorem dS_forget_5 : decode cS_forget 5 = .ok (.aload_n 0, 1) := by decide +kernel
theorem dS_forget_6 : decode cS_forget 6 = .ok (.iconst 0, 1) := by decide +kernel
theorem dS_forget_7 : decode cS_forget 7 = .ok (.putfield 33, 3) := by decide +kernel
theorem dS_forget_10 : decode cS_forget 10 = .ok (.aload_n 0, 1) := by decide +kernel
theorem dS_forget_11 : decode cS_forget 11 = .ok (.getfield 14, 3) := by decide +kernel
theorem dS_forget_14 : decode cS_forget 14 = .ok (.invokevirtual 37, 3) := by decide +kernel
theorem dS_forget_17 : decode cS_forget 17 = .ok (.return_, 1) := by decide +kernel
def fS_forget (h : cH) (z : cZ) : Option (cZ) := (fB2_empty h (zU (zU z 3 (0 : Int32)) 7 (0 : Int32))).bind fun z1 => some z1
set_option maxHeartbeats 4000000 in
set_option maxRecDepth 100000 in
theorem cS_forget_met {l : Launch} {g : gT} {qq ad ea : Nat → Nat} {h : cH} {X : va_W} {z z' : cZ} (hf : fS_forget h z = some z') : cMet l yS_forget cS_forget 1 none rS_forget g qq ad ea h X z [.ref (qq 4)] (none) X z' := by
  refine c_entry (by decide) (Nat.le_of_ble_eq_true rfl) ?_
  intro p e s m args below meth c ls C hr hlk hnm hl hw
  have hrv : (none : Option Value) = none := rfl
  have C : mCx p m c cS_forget 1 s args g "MidiDesk$Score" := C
  have hl : lv_has ls 1 [(0, .ref (qq 4))] := hl
  unfold fS_forget at hf
  refine lv_aload_n C.1.1 C.1.2.1 dS_forget_0 rfl (lv_at hl 0 rfl) ?_
  refine lv_iconst (v := (0 : Int32)) C.1.1 C.1.2.1 dS_forget_1 (by decide) ?_
  refine cp_Score_Score_present C hw (Or.inl rfl) dS_forget_2 (fun H locs hw => ?_)
  refine lv_aload_n C.1.1 C.1.2.1 dS_forget_5 rfl (lv_at hl 0 rfl) ?_
  refine lv_iconst (v := (0 : Int32)) C.1.1 C.1.2.1 dS_forget_6 (by decide) ?_
  refine cp_Score_Score_size C hw dS_forget_7 (fun H locs hw => ?_)
  refine lv_aload_n C.1.1 C.1.2.1 dS_forget_10 rfl (lv_at hl 0 rfl) ?_
  refine cg_Score_Score_data C hw dS_forget_11 ?_
  obtain ⟨z1, g1, hf⟩ := ts_b hf
  try dsimp only at hf
  refine c_callV (rest := []) (As := []) (rv := none) (b := (qq 3)) C hl.1 hw (cB2_empty_met g1) rfl (callW_of (rm := rB2_empty) (C := "MidiDesk$Bytes") 0 C.1.2.2.2.2 gw_237 gw_238 gw_239 gw_53 gw_240 kB2_empty ⟨Nat.le_of_ble_eq_true rfl, Nat.le_of_ble_eq_true rfl⟩) (c_recv_B2 C.2 hw) rfl rfl (Nat.le_of_ble_eq_true rfl) dS_forget_14 ⟨Nat.le_of_ble_eq_true rfl, Nat.le_of_ble_eq_true rfl⟩ (fun H locs hw => ?_)
  refine W.eq (g2 := F0 m 17 ls []) rfl ?_
  exact c_retv C hr hlk hrv hw hf rfl ⟨Nat.le_of_ble_eq_true rfl, Nat.le_of_ble_eq_true rfl⟩ dS_forget_17
abbrev cS_at : ByteArray := prog_6_method_3_code
abbrev yS_at : MethodName := ⟨"MidiDesk$Score", "at", "(I)LMidiDesk$Event;"⟩
theorem kS_at : yS_at.cls ≠ "java/lang/invoke/MethodHandle" ∧ yS_at.cls ≠ "java/lang/invoke/VarHandle" ∧ (parseMethodDescriptor yS_at.desc).map (fun d => d.parameters.length) = some 1 := by decide +kernel
abbrev rS_at : Room := { frames := 0, cells := 0, slots := 0, locals := 0 }
theorem dS_at_0 : decode cS_at 0 = .ok (.iload_n 1, 1) := by decide +kernel
theorem dS_at_1 : decode cS_at 1 = .ok (.ifCond .lt 20, 3) := by decide +kernel
theorem dS_at_4 : decode cS_at 4 = .ok (.iload_n 1, 1) := by decide +kernel
theorem dS_at_5 : decode cS_at 5 = .ok (.aload_n 0, 1) := by decide +kernel
theorem dS_at_6 : decode cS_at 6 = .ok (.getfield 33, 3) := by decide +kernel
theorem dS_at_9 : decode cS_at 9 = .ok (.if_icmp .ge 12, 3) := by decide +kernel
theorem dS_at_12 : decode cS_at 12 = .ok (.aload_n 0, 1) := by decide +kernel
theorem dS_at_13 : decode cS_at 13 = .ok (.getfield 22, 3) := by decide +kernel
theorem dS_at_16 : decode cS_at 16 = .ok (.iload_n 1, 1) := by decide +kernel
theorem dS_at_17 : decode cS_at 17 = .ok (.aaload, 1) := by decide +kernel
theorem dS_at_18 : decode cS_at 18 = .ok (.goto 4, 3) := by decide +kernel
theorem dS_at_21 : decode cS_at 21 = .ok (.aconst_null, 1) := by decide +kernel
theorem dS_at_22 : decode cS_at 22 = .ok (.areturn, 1) := by decide +kernel
def fS_at (h : cH) (z : cZ) (x1 : Int32) : Option (Option Nat × cZ) := if x1 < 0 then (some (none, z)) else (if (zi z 7) ≤ x1 then (some (none, z)) else (if x1 < 0 ∨ h.1 3 ≤ x1.toNatClampNeg then none else (some (zr z 0 x1.toNatClampNeg, z))))
set_option maxHeartbeats 4000000 in
set_option maxRecDepth 100000 in
theorem cS_at_met {l : Launch} {g : gT} {qq ad ea : Nat → Nat} {h : cH} {X : va_W} {z z' : cZ} {x1 : Int32} {r' : Option Nat} (hf : fS_at h z x1 = some (r', z')) : cMet l yS_at cS_at 2 (some (.object "MidiDesk$Event")) rS_at g qq ad ea h X z [.ref (qq 4), .int x1] (some (va_rf (Option.map ea r'))) X z' := by
  refine c_entry (by decide) (Nat.le_of_ble_eq_true rfl) ?_
  intro p e s m args below meth c ls C hr hlk hnm hl hw
  have hrv : (some (va_rf (Option.map ea r')) : Option Value) = some (va_rf (Option.map ea r')) := rfl
  have C : mCx p m c cS_at 2 s args g "MidiDesk$Score" := C
  have hl : lv_has ls 2 [(0, .ref (qq 4)), (1, .int x1)] := hl
  unfold fS_at at hf
  refine lv_iload_n C.1.1 C.1.2.1 dS_at_0 rfl (lv_at hl 1 rfl) ?_
  refine lv_if_lt (tgt := 21) C.1.1 C.1.2.1 dS_at_1 (by decide) (fun c1 => ?_) (fun c1 => ?_)
  · have hf := ts_t hf c1
    refine c_null (ea := ea) C.1.1 C.1.2.1 dS_at_21 ?_
    exact c_reto C hr hlk hrv hw hf rfl ⟨Nat.le_of_ble_eq_true rfl, Nat.le_of_ble_eq_true rfl⟩ dS_at_22
  · have hf := ts_f hf c1
    refine lv_iload_n C.1.1 C.1.2.1 dS_at_4 rfl (lv_at hl 1 rfl) ?_
    refine lv_aload_n C.1.1 C.1.2.1 dS_at_5 rfl (lv_at hl 0 rfl) ?_
    refine cg_Score_Score_size C hw dS_at_6 ?_
    refine lv_icmp_ge (tgt := 21) C.1.1 C.1.2.1 dS_at_9 (by decide) (fun c2 => ?_) (fun c2 => ?_)
    · have hf := ts_t hf c2
      refine c_null (ea := ea) C.1.1 C.1.2.1 dS_at_21 ?_
      exact c_reto C hr hlk hrv hw hf rfl ⟨Nat.le_of_ble_eq_true rfl, Nat.le_of_ble_eq_true rfl⟩ dS_at_22
    · have hf := ts_f hf c2
      refine lv_aload_n C.1.1 C.1.2.1 dS_at_12 rfl (lv_at hl 0 rfl) ?_
      refine cg_Score_Score_row C hw dS_at_13 ?_
      refine lv_iload_n C.1.1 C.1.2.1 dS_at_16 rfl (lv_at hl 1 rfl) ?_
      obtain ⟨h3, hf⟩ := ts_g hf
      refine cra_0 C hw h3 dS_at_17 ?_
      refine lv_goto (tgt := 22) C.1.1 C.1.2.1 dS_at_18 (by decide) ?_
      exact c_reto C hr hlk hrv hw hf rfl ⟨Nat.le_of_ble_eq_true rfl, Nat.le_of_ble_eq_true rfl⟩ dS_at_22
abbrev cS_hasRoomFor : ByteArray := prog_6_method_4_code
abbrev yS_hasRoomFor : MethodName := ⟨"MidiDesk$Score", "hasRoomFor", "(I)Z"⟩
theorem kS_hasRoomFor : yS_hasRoomFor.cls ≠ "java/lang/invoke/MethodHandle" ∧ yS_hasRoomFor.cls ≠ "java/lang/invoke/VarHandle" ∧ (parseMethodDescriptor yS_hasRoomFor.desc).map (fun d => d.parameters.length) = some 1 := by decide +kernel
abbrev rS_hasRoomFor : Room := { frames := 1, cells := 0, slots := 0, locals := 21 }
theorem dS_hasRoomFor_0 : decode cS_hasRoomFor 0 = .ok (.aload_n 0, 1) := by decide +kernel
theorem dS_hasRoomFor_1 : decode cS_hasRoomFor 1 = .ok (.getfield 33, 3) := by decide +kernel
theorem dS_hasRoomFor_4 : decode cS_hasRoomFor 4 = .ok (.sipush 1000, 3) := by decide +kernel
theorem dS_hasRoomFor_7 : decode cS_hasRoomFor 7 = .ok (.if_icmp .ge 26, 3) := by decide +kernel
theorem dS_hasRoomFor_10 : decode cS_hasRoomFor 10 = .ok (.aload_n 0, 1) := by decide +kernel
theorem dS_hasRoomFor_11 : decode cS_hasRoomFor 11 = .ok (.getfield 14, 3) := by decide +kernel
theorem dS_hasRoomFor_14 : decode cS_hasRoomFor 14 = .ok (.invokevirtual 40, 3) := by decide +kernel
theorem dS_hasRoomFor_17 : decode cS_hasRoomFor 17 = .ok (.iconst 0, 1) := by decide +kernel
theorem dS_hasRoomFor_18 : decode cS_hasRoomFor 18 = .ok (.iload_n 1, 1) := by decide +kernel
theorem dS_hasRoomFor_19 : decode cS_hasRoomFor 19 = .ok (.invokestatic 43, 3) := by decide +kernel
theorem dS_hasRoomFor_22 : decode cS_hasRoomFor 22 = .ok (.iadd, 1) := by decide +kernel
theorem dS_hasRoomFor_23 : decode cS_hasRoomFor 23 = .ok (.sipush 8000, 3) := by decide +kernel
theorem dS_hasRoomFor_26 : decode cS_hasRoomFor 26 = .ok (.if_icmp .gt 7, 3) := by decide +kernel
theorem dS_hasRoomFor_29 : decode cS_hasRoomFor 29 = .ok (.iconst 1, 1) := by decide +kernel
theorem dS_hasRoomFor_30 : decode cS_hasRoomFor 30 = .ok (.goto 4, 3) := by decide +kernel
theorem dS_hasRoomFor_33 : decode cS_hasRoomFor 33 = .ok (.iconst 0, 1) := by decide +kernel
theorem dS_hasRoomFor_34 : decode cS_hasRoomFor 34 = .ok (.ireturn, 1) := by decide +kernel
def fS_hasRoomFor (h : cH) (z : cZ) (x1 : Int32) : Option (Int32 × cZ) := if (1000 : Int32) ≤ (zi z 7) then (some ((0 : Int32), z)) else ((fB2_size h z).bind fun (r2, z2) => if (8000 : Int32) < (r2 + (if (0 : Int32) < x1 then x1 else (0 : Int32))) then (some ((0 : Int32), z2)) else (some ((1 : Int32), z2)))
set_option maxHeartbeats 4000000 in
set_option maxRecDepth 100000 in
theorem cS_hasRoomFor_met {l : Launch} {g : gT} {qq ad ea : Nat → Nat} {h : cH} {X : va_W} {z z' : cZ} {x1 : Int32} {r' : Int32} (hf : fS_hasRoomFor h z x1 = some (r', z')) : cMet l yS_hasRoomFor cS_hasRoomFor 2 (some .boolean) rS_hasRoomFor g qq ad ea h X z [.ref (qq 4), .int x1] (some (.int r')) X z' := by
  refine c_entry (by decide) (Nat.le_of_ble_eq_true rfl) ?_
  intro p e s m args below meth c ls C hr hlk hnm hl hw
  have hrv : (some (.int r') : Option Value) = some (.int r') := rfl
  have C : mCx p m c cS_hasRoomFor 2 s args g "MidiDesk$Score" := C
  have hl : lv_has ls 2 [(0, .ref (qq 4)), (1, .int x1)] := hl
  unfold fS_hasRoomFor at hf
  refine lv_aload_n C.1.1 C.1.2.1 dS_hasRoomFor_0 rfl (lv_at hl 0 rfl) ?_
  refine cg_Score_Score_size C hw dS_hasRoomFor_1 ?_
  refine lv_sipush (v := (1000 : Int32)) C.1.1 C.1.2.1 dS_hasRoomFor_4 (by decide) ?_
  refine lv_icmp_ge (tgt := 33) C.1.1 C.1.2.1 dS_hasRoomFor_7 (by decide) (fun c1 => ?_) (fun c1 => ?_)
  · have hf := ts_t hf c1
    refine lv_iconst (v := (0 : Int32)) C.1.1 C.1.2.1 dS_hasRoomFor_33 (by decide) ?_
    exact c_retz C hr hlk hrv hw (Or.inl rfl) hf rfl ⟨Nat.le_of_ble_eq_true rfl, Nat.le_of_ble_eq_true rfl⟩ dS_hasRoomFor_34
  · have hf := ts_f hf c1
    refine lv_aload_n C.1.1 C.1.2.1 dS_hasRoomFor_10 rfl (lv_at hl 0 rfl) ?_
    refine cg_Score_Score_data C hw dS_hasRoomFor_11 ?_
    obtain ⟨⟨r2, z2⟩, g2, hf⟩ := ts_b hf
    try dsimp only at hf
    refine c_callV (rest := []) (As := []) (rv := (some (.int r2))) (b := (qq 3)) C hl.1 hw (cB2_size_met g2) rfl (callW_of (rm := rB2_size) (C := "MidiDesk$Bytes") 0 C.1.2.2.2.2 gw_313 gw_156 gw_157 gw_53 gw_158 kB2_size ⟨Nat.le_of_ble_eq_true rfl, Nat.le_of_ble_eq_true rfl⟩) (c_recv_B2 C.2 hw) rfl rfl (Nat.le_of_ble_eq_true rfl) dS_hasRoomFor_14 ⟨Nat.le_of_ble_eq_true rfl, Nat.le_of_ble_eq_true rfl⟩ (fun H locs hw => ?_)
    refine W.eq (g2 := F0 m 17 ls [.int r2]) rfl ?_
    refine lv_iconst (v := (0 : Int32)) C.1.1 C.1.2.1 dS_hasRoomFor_17 (by decide) ?_
    refine lv_iload_n C.1.1 C.1.2.1 dS_hasRoomFor_18 rfl (lv_at hl 1 rfl) ?_
    refine va_mmax C.1.1 C.1.2.1 (by rw [hl.1]; exact C.1.2.2.1) C.1.2.2.2.1 (C.1.2.2.2.2 _ gw_314) (C.1.2.2.2.2 _ gw_315) (C.1.2.2.2.2 _ gw_57) (C.1.2.2.2.2 _ gw_316) (Nat.le_of_ble_eq_true rfl) (Nat.le_of_ble_eq_true rfl) (Nat.le_of_ble_eq_true rfl) (Nat.le_of_ble_eq_true rfl) dS_hasRoomFor_19 ?_
    refine lv_iadd C.1.1 C.1.2.1 dS_hasRoomFor_22 ?_
    refine lv_sipush (v := (8000 : Int32)) C.1.1 C.1.2.1 dS_hasRoomFor_23 (by decide) ?_
    refine lv_icmp_gt (tgt := 33) C.1.1 C.1.2.1 dS_hasRoomFor_26 (by decide) (fun c3 => ?_) (fun c3 => ?_)
    · have hf := ts_t hf c3
      refine lv_iconst (v := (0 : Int32)) C.1.1 C.1.2.1 dS_hasRoomFor_33 (by decide) ?_
      exact c_retz C hr hlk hrv hw (Or.inl rfl) hf rfl ⟨Nat.le_of_ble_eq_true rfl, Nat.le_of_ble_eq_true rfl⟩ dS_hasRoomFor_34
    · have hf := ts_f hf c3
      refine lv_iconst (v := (1 : Int32)) C.1.1 C.1.2.1 dS_hasRoomFor_29 (by decide) ?_
      refine lv_goto (tgt := 34) C.1.1 C.1.2.1 dS_hasRoomFor_30 (by decide) ?_
      exact c_retz C hr hlk hrv hw (Or.inr rfl) hf rfl ⟨Nat.le_of_ble_eq_true rfl, Nat.le_of_ble_eq_true rfl⟩ dS_hasRoomFor_34
