theorem gw_22 : (Cond.selects "MidiDesk$Printer" ({ cls := "MidiDesk$Printer", name := "putFixed", desc := "(II)V" } : Jvm.MethodName) ({ cls := "MidiDesk$Printer", name := "putFixed", desc := "(II)V" } : Jvm.MethodName)) ∈ gw := gw_in 22 (by decide +kernel) (by decide +kernel)
theorem gw_23 : (Cond.selects "MidiDesk$Printer" ({ cls := "MidiDesk$Printer", name := "putTrack", desc := "(I)V" } : Jvm.MethodName) ({ cls := "MidiDesk$Printer", name := "putTrack", desc := "(I)V" } : Jvm.MethodName)) ∈ gw := gw_in 23 (by decide +kernel) (by decide +kernel)
theorem gw_24 : (Cond.selects "MidiDesk$Printer" ({ cls := "MidiDesk$Printer", name := "putEvent", desc := "(LMidiDesk$Event;)V" } : Jvm.MethodName) ({ cls := "MidiDesk$Printer", name := "putEvent", desc := "(LMidiDesk$Event;)V" } : Jvm.MethodName)) ∈ gw := gw_in 24 (by decide +kernel) (by decide +kernel)
theorem gw_25 : (Cond.selects "MidiDesk$Printer" ({ cls := "MidiDesk$Printer", name := "putNumber", desc := "(I)V" } : Jvm.MethodName) ({ cls := "MidiDesk$Printer", name := "putNumber", desc := "(I)V" } : Jvm.MethodName)) ∈ gw := gw_in 25 (by decide +kernel) (by decide +kernel)
theorem gw_66 : (Jvm.Cond.initialized "MidiDesk$Printer") ∈ gw := gw_in 66 (by decide +kernel) (by decide +kernel)
theorem gw_159 : (Jvm.Cond.methodLink "MidiDesk" (32 : Nat) ({ cls := "MidiDesk$Bytes", name := "put", desc := "(I)V" } : Jvm.MethodName)) ∈ gw := gw_in 159 (by decide +kernel) (by decide +kernel)
theorem gw_160 : (Jvm.Cond.instanceMethod ({ cls := "MidiDesk$Bytes", name := "put", desc := "(I)V" } : Jvm.MethodName)) ∈ gw := gw_in 160 (by decide +kernel) (by decide +kernel)
theorem gw_161 : (Jvm.Cond.selects "MidiDesk$Bytes" ({ cls := "MidiDesk$Bytes", name := "put", desc := "(I)V" } : Jvm.MethodName) ({ cls := "MidiDesk$Bytes", name := "put", desc := "(I)V" } : Jvm.MethodName)) ∈ gw := gw_in 161 (by decide +kernel) (by decide +kernel)
theorem gw_162 : (Jvm.Cond.code ({ cls := "MidiDesk$Bytes", name := "put", desc := "(I)V" } : Jvm.MethodName) prog_2_method_4_code (2 : Nat) (Option.none : Option Jvm.ClassFile.FieldType)) ∈ gw := gw_in 162 (by decide +kernel) (by decide +kernel)
theorem gw_392 : (Jvm.Cond.methodLink "MidiDesk" (43 : Nat) ({ cls := "MidiDesk$Bytes", name := "empty", desc := "()V" } : Jvm.MethodName)) ∈ gw := gw_in 392 (by decide +kernel) (by decide +kernel)
theorem gw_677 : (Jvm.Cond.methodLink "MidiDesk$Printer" (29 : Nat) ({ cls := "MidiDesk$Bytes", name := "empty", desc := "()V" } : Jvm.MethodName)) ∈ gw := gw_in 677 (by decide +kernel) (by decide +kernel)
theorem gw_678 : (Jvm.Cond.constant "MidiDesk$Printer" (34 : Nat) (1297377380 : Int32)) ∈ gw := gw_in 678 (by decide +kernel) (by decide +kernel)
theorem gw_679 : (Jvm.Cond.methodLink "MidiDesk$Printer" (35 : Nat) ({ cls := "MidiDesk$Printer", name := "putFixed", desc := "(II)V" } : Jvm.MethodName)) ∈ gw := gw_in 679 (by decide +kernel) (by decide +kernel)
theorem gw_681 : (Jvm.Cond.instanceMethod ({ cls := "MidiDesk$Printer", name := "putFixed", desc := "(II)V" } : Jvm.MethodName)) ∈ gw := gw_in 681 (by decide +kernel) (by decide +kernel)
theorem gw_682 : (Jvm.Cond.code ({ cls := "MidiDesk$Printer", name := "putFixed", desc := "(II)V" } : Jvm.MethodName) prog_5_method_5_code (4 : Nat) (Option.none : Option Jvm.ClassFile.FieldType)) ∈ gw := gw_in 682 (by decide +kernel) (by decide +kernel)
theorem gw_683 : (Jvm.Cond.methodLink "MidiDesk$Printer" (75 : Nat) ({ cls := "MidiDesk$Bytes", name := "put", desc := "(I)V" } : Jvm.MethodName)) ∈ gw := gw_in 683 (by decide +kernel) (by decide +kernel)
theorem gw_684 : (Jvm.Cond.methodLink "MidiDesk$Printer" (42 : Nat) ({ cls := "MidiDesk$Printer", name := "putTrack", desc := "(I)V" } : Jvm.MethodName)) ∈ gw := gw_in 684 (by decide +kernel) (by decide +kernel)
theorem gw_686 : (Jvm.Cond.instanceMethod ({ cls := "MidiDesk$Printer", name := "putTrack", desc := "(I)V" } : Jvm.MethodName)) ∈ gw := gw_in 686 (by decide +kernel) (by decide +kernel)
theorem gw_687 : (Jvm.Cond.code ({ cls := "MidiDesk$Printer", name := "putTrack", desc := "(I)V" } : Jvm.MethodName) prog_5_method_3_code (6 : Nat) (Option.none : Option Jvm.ClassFile.FieldType)) ∈ gw := gw_in 687 (by decide +kernel) (by decide +kernel)
theorem gw_688 : (Jvm.Cond.constant "MidiDesk$Printer" (52 : Nat) (1297379947 : Int32)) ∈ gw := gw_in 688 (by decide +kernel) (by decide +kernel)
theorem gw_689 : (Jvm.Cond.methodLink "MidiDesk$Printer" (53 : Nat) ({ cls := "MidiDesk$Bytes", name := "size", desc := "()I" } : Jvm.MethodName)) ∈ gw := gw_in 689 (by decide +kernel) (by decide +kernel)
theorem gw_690 : (Jvm.Cond.methodLink "MidiDesk$Printer" (59 : Nat) ({ cls := "MidiDesk$Score", name := "at", desc := "(I)LMidiDesk$Event;" } : Jvm.MethodName)) ∈ gw := gw_in 690 (by decide +kernel) (by decide +kernel)
theorem gw_691 : (Jvm.Cond.methodLink "MidiDesk$Printer" (68 : Nat) ({ cls := "MidiDesk$Printer", name := "putEvent", desc := "(LMidiDesk$Event;)V" } : Jvm.MethodName)) ∈ gw := gw_in 691 (by decide +kernel) (by decide +kernel)
theorem gw_693 : (Jvm.Cond.instanceMethod ({ cls := "MidiDesk$Printer", name := "putEvent", desc := "(LMidiDesk$Event;)V" } : Jvm.MethodName)) ∈ gw := gw_in 693 (by decide +kernel) (by decide +kernel)
theorem gw_694 : (Jvm.Cond.code ({ cls := "MidiDesk$Printer", name := "putEvent", desc := "(LMidiDesk$Event;)V" } : Jvm.MethodName) prog_5_method_4_code (3 : Nat) (Option.none : Option Jvm.ClassFile.FieldType)) ∈ gw := gw_in 694 (by decide +kernel) (by decide +kernel)
theorem gw_695 : (Jvm.Cond.methodLink "MidiDesk$Printer" (72 : Nat) ({ cls := "MidiDesk$Printer", name := "putNumber", desc := "(I)V" } : Jvm.MethodName)) ∈ gw := gw_in 695 (by decide +kernel) (by decide +kernel)
theorem gw_697 : (Jvm.Cond.instanceMethod ({ cls := "MidiDesk$Printer", name := "putNumber", desc := "(I)V" } : Jvm.MethodName)) ∈ gw := gw_in 697 (by decide +kernel) (by decide +kernel)
theorem gw_698 : (Jvm.Cond.code ({ cls := "MidiDesk$Printer", name := "putNumber", desc := "(I)V" } : Jvm.MethodName) prog_5_method_6_code (3 : Nat) (Option.none : Option Jvm.ClassFile.FieldType)) ∈ gw := gw_in 698 (by decide +kernel) (by decide +kernel)
theorem gw_699 : (Jvm.Cond.methodLink "MidiDesk$Printer" (85 : Nat) ({ cls := "MidiDesk$Event", name := "isChannelEvent", desc := "()Z" } : Jvm.MethodName)) ∈ gw := gw_in 699 (by decide +kernel) (by decide +kernel)
theorem gw_700 : (Jvm.Cond.instanceMethod ({ cls := "MidiDesk$Event", name := "isChannelEvent", desc := "()Z" } : Jvm.MethodName)) ∈ gw := gw_in 700 (by decide +kernel) (by decide +kernel)
theorem gw_701 : (Jvm.Cond.selects "MidiDesk$Event" ({ cls := "MidiDesk$Event", name := "isChannelEvent", desc := "()Z" } : Jvm.MethodName) ({ cls := "MidiDesk$Event", name := "isChannelEvent", desc := "()Z" } : Jvm.MethodName)) ∈ gw := gw_in 701 (by decide +kernel) (by decide +kernel)
theorem gw_702 : (Jvm.Cond.code ({ cls := "MidiDesk$Event", name := "isChannelEvent", desc := "()Z" } : Jvm.MethodName) prog_3_method_2_code (1 : Nat) (Option.some Jvm.ClassFile.FieldType.boolean)) ∈ gw := gw_in 702 (by decide +kernel) (by decide +kernel)
theorem gw_703 : (Jvm.Cond.methodLink "MidiDesk$Printer" (102 : Nat) ({ cls := "MidiDesk$Bytes", name := "at", desc := "(I)I" } : Jvm.MethodName)) ∈ gw := gw_in 703 (by decide +kernel) (by decide +kernel)
theorem gw_704 : (Jvm.Cond.methodLink "MidiDesk$Printer" (78 : Nat) ({ cls := "MidiDesk$Bytes", name := "change", desc := "(II)V" } : Jvm.MethodName)) ∈ gw := gw_in 704 (by decide +kernel) (by decide +kernel)
theorem gw_705 : (Jvm.Cond.instanceMethod ({ cls := "MidiDesk$Bytes", name := "change", desc := "(II)V" } : Jvm.MethodName)) ∈ gw := gw_in 705 (by decide +kernel) (by decide +kernel)
theorem gw_706 : (Jvm.Cond.selects "MidiDesk$Bytes" ({ cls := "MidiDesk$Bytes", name := "change", desc := "(II)V" } : Jvm.MethodName) ({ cls := "MidiDesk$Bytes", name := "change", desc := "(II)V" } : Jvm.MethodName)) ∈ gw := gw_in 706 (by decide +kernel) (by decide +kernel)
theorem gw_707 : (Jvm.Cond.code ({ cls := "MidiDesk$Bytes", name := "change", desc := "(II)V" } : Jvm.MethodName) prog_2_method_5_code (3 : Nat) (Option.none : Option Jvm.ClassFile.FieldType)) ∈ gw := gw_in 707 (by decide +kernel) (by decide +kernel)
abbrev cB0_put : ByteArray := prog_2_method_4_code
abbrev yB0_put : MethodName := ⟨"MidiDesk$Bytes", "put", "(I)V"⟩
theorem kB0_put : yB0_put.cls ≠ "java/lang/invoke/MethodHandle" ∧ yB0_put.cls ≠ "java/lang/invoke/VarHandle" ∧ (parseMethodDescriptor yB0_put.desc).map (fun d => d.parameters.length) = some 1 := by decide +kernel
abbrev frB0_put : Nat := 2
abbrev loB0_put : Nat := 62
theorem dB0_put_0 : decode cB0_put 0 = .ok (.aload_n 0, 1) := by decide +kernel
theorem dB0_put_1 : decode cB0_put 1 = .ok (.getfield 19, 3) := by decide +kernel
theorem dB0_put_4 : decode cB0_put 4 = .ok (.aload_n 0, 1) := by decide +kernel
theorem dB0_put_5 : decode cB0_put 5 = .ok (.getfield 9, 3) := by decide +kernel
theorem dB0_put_8 : decode cB0_put 8 = .ok (.if_icmp .lt 4, 3) := by decide +kernel
theorem dB0_put_11 : decode cB0_put 11 = .ok (.return_, 1) := by decide +kernel
theorem dB0_put_12 : decode cB0_put 12 = .ok (.aload_n 0, 1) := by decide +kernel
theorem dB0_put_13 : decode cB0_put 13 = .ok (.getfield 19, 3) := by decide +kernel
theorem dB0_put_16 : decode cB0_put 16 = .ok (.aload_n 0, 1) := by decide +kernel
theorem dB0_put_17 : decode cB0_put 17 = .ok (.getfield 15, 3) := by decide +kernel
theorem dB0_put_20 : decode cB0_put 20 = .ok (.arraylength, 1) := by decide +kernel
theorem dB0_put_21 : decode cB0_put 21 = .ok (.if_icmp .ne 20, 3) := by decide +kernel
theorem dB0_put_24 : decode cB0_put 24 = .ok (.aload_n 0, 1) := by decide +kernel
theorem dB0_put_25 : decode cB0_put 25 = .ok (.aload_n 0, 1) := by decide +kernel
theorem dB0_put_26 : decode cB0_put 26 = .ok (.getfield 15, 3) := by decide +kernel
theorem dB0_put_29 : decode cB0_put 29 = .ok (.iconst 2, 1) := by decide +kernel
theorem dB0_put_30 : decode cB0_put 30 = .ok (.aload_n 0, 1) := by decide +kernel
theorem dB0_put_31 : decode cB0_put 31 = .ok (.getfield 19, 3) := by decide +kernel
theorem dB0_put_34 : decode cB0_put 34 = .ok (.imul, 1) := by decide +kernel
theorem dB0_put_35 : decode cB0_put 35 = .ok (.invokestatic 22, 3) := by decide +kernel
theorem dB0_put_38 : decode cB0_put 38 = .ok (.putfield 15, 3) := by decide +kernel
theorem dB0_put_41 : decode cB0_put 41 = .ok (.aload_n 0, 1) := by decide +kernel
theorem dB0_put_42 : decode cB0_put 42 = .ok (.getfield 15, 3) := by decide +kernel
theorem dB0_put_45 : decode cB0_put 45 = .ok (.aload_n 0, 1) := by decide +kernel
theorem dB0_put_46 : decode cB0_put 46 = .ok (.getfield 19, 3) := by decide +kernel
theorem dB0_put_49 : decode cB0_put 49 = .ok (.iload_n 1, 1) := by decide +kernel
theorem dB0_put_50 : decode cB0_put 50 = .ok (.sipush 255, 3) := by decide +kernel
theorem dB0_put_53 : decode cB0_put 53 = .ok (.iand, 1) := by decide +kernel
theorem dB0_put_54 : decode cB0_put 54 = .ok (.iastore, 1) := by decide +kernel
theorem dB0_put_55 : decode cB0_put 55 = .ok (.aload_n 0, 1) := by decide +kernel
theorem dB0_put_56 : decode cB0_put 56 = .ok (.dup, 1) := by decide +kernel
theorem dB0_put_57 : decode cB0_put 57 = .ok (.getfield 19, 3) := by decide +kernel
theorem dB0_put_60 : decode cB0_put 60 = .ok (.iconst 1, 1) := by decide +kernel
theorem dB0_put_61 : decode cB0_put 61 = .ok (.iadd, 1) := by decide +kernel
theorem dB0_put_62 : decode cB0_put 62 = .ok (.putfield 19, 3) := by decide +kernel
theorem dB0_put_65 : decode cB0_put 65 = .ok (.return_, 1) := by decide +kernel
def jB0_put_41 (h : cH) (z : cZ) (x1 : Int32) : Option (cH × cZ) := if (zi z 0) < 0 ∨ h.1 0 ≤ (zi z 0).toNatClampNeg then none else (some (h, zU (zA z 0 (zi z 0).toNatClampNeg (x1 &&& (255 : Int32))) 0 ((zi (zA z 0 (zi z 0).toNatClampNeg (x1 &&& (255 : Int32))) 0) + (1 : Int32))))
set_option maxHeartbeats 4000000 in
set_option maxRecDepth 100000 in
theorem oB0_put_41 {h' : cH} {z' : cZ} (h : cH) (z : cZ) (x1 : Int32) (hf : jB0_put_41 h z x1 = some (h', z')) : cle h h' := by
  unfold jB0_put_41 at hf
  obtain ⟨h1, hf⟩ := ts_g hf
  cases hf
  exact cle.rf
def fB0_put (h : cH) (z : cZ) (x1 : Int32) : Option (cH × cZ) := if (zi z 0) < (12000 : Int32) then (if (zi z 0) = (Int32.ofNat (h.1 0)) then (if ((2 : Int32) * (zi z 0)) < 0 ∨ ((2 : Int32) * (zi z 0)).toNatClampNeg ≤ h.1 0 ∨ 536870912 < ((2 : Int32) * (zi z 0)).toNatClampNeg * 4 then none else (jB0_put_41 (hC (hL h 0 ((2 : Int32) * (zi z 0)).toNatClampNeg) 1 ((2 : Int32) * (zi z 0)).toNatClampNeg) (zF z 0 (va_cpy (za z 0) (fun _ => 0) 0 0 (h.1 0))) x1)) else (jB0_put_41 h z x1)) else (some (h, z))
set_option maxHeartbeats 4000000 in
set_option maxRecDepth 100000 in
theorem oB0_put {h' : cH} {z' : cZ} {h : cH} {z : cZ} {x1 : Int32} (hf : fB0_put h z x1 = some (h', z')) : cle h h' := by
  unfold fB0_put at hf
  rcases Decidable.em ((zi z 0) < (12000 : Int32)) with c1 | c1
  · have hf := ts_t hf c1
    rcases (Decidable.em ((zi z 0) = (Int32.ofNat (h.1 0)))).symm with c2 | c2
    · have hf := ts_f hf c2
      exact oB0_put_41 h z x1 hf
    · have hf := ts_t hf c2
      obtain ⟨h3, hf⟩ := ts_g hf
      exact cle.tr (show cle h (hC (hL h 0 ((2 : Int32) * (zi z 0)).toNatClampNeg) 1 ((2 : Int32) * (zi z 0)).toNatClampNeg) from ⟨Nat.le_add_right _ _, Nat.le_add_right _ _⟩) (oB0_put_41 (hC (hL h 0 ((2 : Int32) * (zi z 0)).toNatClampNeg) 1 ((2 : Int32) * (zi z 0)).toNatClampNeg) (zF z 0 (va_cpy (za z 0) (fun _ => 0) 0 0 (h.1 0))) x1 hf)
  · have hf := ts_f hf c1
    cases hf
    exact cle.rf
set_option maxHeartbeats 4000000 in
set_option maxRecDepth 100000 in
theorem wB0_put_41 {p : Program} {l : Launch} {e : Env} {s : State} {m : MethodId} {args : Array Value} {below : List Frame} {meth : Method} {c : Code} {g : gT} {qq ea : Nat → Nat} {A0 : Nat → Prop} {h0 : cH} {X : va_W} {rv : (Nat → Nat) → Option Value} {h' : cH} {z' : cZ} (C : mCx p m c cB0_put 2 s args g "MidiDesk$Bytes") (hr : meth.sig.returnType = none) (hlk : meth.locks = false) (hrv : rv = fun ea => none) (ad : Nat → Nat) (h : cH) (z : cZ) (x1 : Int32) (H : Heap) (locs : List Loc) (ls : Array Slot) (hle : cle h0 h) (hl : lv_has ls 2 [(0, .ref (qq 1)), (1, .int x1)]) (hw : cWd g A0 s.heap qq ad ea h X z H locs) (hf : jB0_put_41 h z x1 = some (h', z')) : cGa p l e (rmA frB0_put loB0_put h0 h') s m args below meth c g qq A0 True ea rv X h' z' H locs (h.2.2.1 - h0.2.2.1) (h.2.2.2 - h0.2.2.2) (F0 m 41 ls []) := by
  have hmn := oB0_put_41 h z x1 hf
  have hroom : h.2.2.1 - h0.2.2.1 + 0 ≤ (rmA frB0_put loB0_put h0 h').cells ∧ h.2.2.2 - h0.2.2.2 + 0 ≤ (rmA frB0_put loB0_put h0 h').slots := ⟨by have w := hmn.1; show _ ≤ h'.2.2.1 - h0.2.2.1; omega, by have w := hmn.2; show _ ≤ h'.2.2.2 - h0.2.2.2; omega⟩
  unfold jB0_put_41 at hf
  refine lv_aload_n C.1.1 C.1.2.1 dB0_put_41 rfl (lv_at hl 0 rfl) ?_
  refine cg_Bytes_Bytes_row_B0 C hw dB0_put_42 ?_
  refine lv_aload_n C.1.1 C.1.2.1 dB0_put_45 rfl (lv_at hl 0 rfl) ?_
  refine cg_Bytes_Bytes_size_B0 C hw dB0_put_46 ?_
  refine lv_iload_n C.1.1 C.1.2.1 dB0_put_49 rfl (lv_at hl 1 rfl) ?_
  refine lv_sipush (v := (255 : Int32)) C.1.1 C.1.2.1 dB0_put_50 (by decide) ?_
  refine lv_iand C.1.1 C.1.2.1 dB0_put_53 ?_
  obtain ⟨h1, hf⟩ := ts_g hf
  refine cs_0 C hw h1 dB0_put_54 (fun H locs hw => ?_)
  refine lv_aload_n C.1.1 C.1.2.1 dB0_put_55 rfl (lv_at hl 0 rfl) ?_
  refine lv_dup C.1.1 C.1.2.1 dB0_put_56 rfl ?_
  refine cg_Bytes_Bytes_size_B0 C hw dB0_put_57 ?_
  refine lv_iconst (v := (1 : Int32)) C.1.1 C.1.2.1 dB0_put_60 (by decide) ?_
  refine lv_iadd C.1.1 C.1.2.1 dB0_put_61 ?_
  refine cp_Bytes_Bytes_size_B0 C hw dB0_put_62 (fun H locs hw => ?_)
  exact c_retAv C hr hlk hrv (fun _ => rfl) hw hf rfl (by cases hf; exact ⟨Nat.le_refl _, Nat.le_refl _⟩) dB0_put_65
set_option maxHeartbeats 4000000 in
set_option maxRecDepth 100000 in
theorem cB0_put_met {l : Launch} {g : gT} {qq ad ea : Nat → Nat} {h h' : cH} {X : va_W} {z z' : cZ} {x1 : Int32} (hf : fB0_put h z x1 = some (h', z')) : cMeA l yB0_put cB0_put 2 none frB0_put loB0_put g qq ad ea h X z [.ref (qq 1), .int x1] True (fun ea => none) X h' z' := by
  refine c_entryA (by decide) (Nat.le_of_ble_eq_true rfl) ?_
  intro p e s m args below meth c ls C hr hlk hnm hl hw
  have hrv : (fun ea => none : (Nat → Nat) → Option Value) = fun ea => none := rfl
  have C : mCx p m c cB0_put 2 s args g "MidiDesk$Bytes" := C
  have hl : lv_has ls 2 [(0, .ref (qq 1)), (1, .int x1)] := hl
  generalize cA g qq ad ea h X s.heap.size = A0 at hw ⊢
  have hle : cle h h := cle.rf
  have hmn := oB0_put hf
  have hroom : h.2.2.1 - h.2.2.1 + 0 ≤ (rmA frB0_put loB0_put h h').cells ∧ h.2.2.2 - h.2.2.2 + 0 ≤ (rmA frB0_put loB0_put h h').slots := ⟨by have w := hmn.1; show _ ≤ h'.2.2.1 - h.2.2.1; omega, by have w := hmn.2; show _ ≤ h'.2.2.2 - h.2.2.2; omega⟩
  unfold fB0_put at hf
  refine lv_aload_n C.1.1 C.1.2.1 dB0_put_0 rfl (lv_at hl 0 rfl) ?_
  refine cg_Bytes_Bytes_size_B0 C hw dB0_put_1 ?_
  refine lv_aload_n C.1.1 C.1.2.1 dB0_put_4 rfl (lv_at hl 0 rfl) ?_
  refine cg_Bytes_Bytes_most_B0 C hw dB0_put_5 ?_
  refine lv_icmp_lt (tgt := 12) C.1.1 C.1.2.1 dB0_put_8 (by decide) (fun c1 => ?_) (fun c1 => ?_)
  · have hf := ts_t hf c1
    refine lv_aload_n C.1.1 C.1.2.1 dB0_put_12 rfl (lv_at hl 0 rfl) ?_
    refine cg_Bytes_Bytes_size_B0 C hw dB0_put_13 ?_
    refine lv_aload_n C.1.1 C.1.2.1 dB0_put_16 rfl (lv_at hl 0 rfl) ?_
    refine cg_Bytes_Bytes_row_B0 C hw dB0_put_17 ?_
    refine cn_0 C hw dB0_put_20 ?_
    refine lv_icmp_ne (tgt := 41) C.1.1 C.1.2.1 dB0_put_21 (by decide) (fun c2 => ?_) (fun c2 => ?_)
    · have hf := ts_f hf c2
      exact wB0_put_41 C hr hlk hrv _ h z x1 _ _ ls hle (lv_sub hl [0, 1] rfl) hw hf
    · have hf := ts_t hf c2
      refine lv_aload_n C.1.1 C.1.2.1 dB0_put_24 rfl (lv_at hl 0 rfl) ?_
      refine lv_aload_n C.1.1 C.1.2.1 dB0_put_25 rfl (lv_at hl 0 rfl) ?_
      refine cg_Bytes_Bytes_row_B0 C hw dB0_put_26 ?_
      refine lv_iconst (v := (2 : Int32)) C.1.1 C.1.2.1 dB0_put_29 (by decide) ?_
      refine lv_aload_n C.1.1 C.1.2.1 dB0_put_30 rfl (lv_at hl 0 rfl) ?_
      refine cg_Bytes_Bytes_size_B0 C hw dB0_put_31 ?_
      refine lv_imul C.1.1 C.1.2.1 dB0_put_34 ?_
      obtain ⟨h3, hf⟩ := ts_g hf
      have hm9 : cle (hC (hL h 0 ((2 : Int32) * (zi z 0)).toNatClampNeg) 1 ((2 : Int32) * (zi z 0)).toNatClampNeg) h' := oB0_put_41 _ _ _ hf
      have hm91 : h.2.2.1 + 1 ≤ h'.2.2.1 := hm9.1
      have hm92 : h.2.2.2 + ((2 : Int32) * (zi z 0)).toNatClampNeg ≤ h'.2.2.2 := hm9.2
      have hle1 := hle.1
      have hle2 := hle.2
      refine c_grow_0 (rest := []) C hl.1 hw (fun w => h3 (Or.inl w)) rfl (Nat.lt_of_not_le fun w => h3 (Or.inr (Or.inl w))) (Nat.le_of_not_lt fun w => h3 (Or.inr (Or.inr w))) ⟨Nat.le_of_ble_eq_true rfl, Nat.le_of_ble_eq_true rfl⟩ (Nat.le_of_ble_eq_true rfl) (by show _ + 1 ≤ h'.2.2.1 - h.2.2.1; omega) (by show _ ≤ h'.2.2.2 - h.2.2.2; omega) dB0_put_35 dB0_put_38 (fun q9 H locs hw => ?_)
      refine W.widen (k := (hC (hL h 0 ((2 : Int32) * (zi z 0)).toNatClampNeg) 1 ((2 : Int32) * (zi z 0)).toNatClampNeg).2.2.1 - h.2.2.1) (n := (hC (hL h 0 ((2 : Int32) * (zi z 0)).toNatClampNeg) 1 ((2 : Int32) * (zi z 0)).toNatClampNeg).2.2.2 - h.2.2.2) (by show _ ≤ h.2.2.1 + 1 - h.2.2.1; omega) (by show _ ≤ h.2.2.2 + ((2 : Int32) * (zi z 0)).toNatClampNeg - h.2.2.2; omega) ?_
      exact wB0_put_41 C hr hlk hrv _ (hC (hL h 0 ((2 : Int32) * (zi z 0)).toNatClampNeg) 1 ((2 : Int32) * (zi z 0)).toNatClampNeg) (zF z 0 (va_cpy (za z 0) (fun _ => 0) 0 0 (h.1 0))) x1 _ _ ls (hle.tr (show cle h (hC (hL h 0 ((2 : Int32) * (zi z 0)).toNatClampNeg) 1 ((2 : Int32) * (zi z 0)).toNatClampNeg) from ⟨Nat.le_add_right _ _, Nat.le_add_right _ _⟩)) (lv_sub hl [0, 1] rfl) hw hf
  · have hf := ts_f hf c1
    exact c_retAv C hr hlk hrv (fun _ => rfl) hw hf rfl (by cases hf; exact ⟨Nat.le_refl _, Nat.le_refl _⟩) dB0_put_11
abbrev cB1_put : ByteArray := prog_2_method_4_code
abbrev yB1_put : MethodName := ⟨"MidiDesk$Bytes", "put", "(I)V"⟩
theorem kB1_put : yB1_put.cls ≠ "java/lang/invoke/MethodHandle" ∧ yB1_put.cls ≠ "java/lang/invoke/VarHandle" ∧ (parseMethodDescriptor yB1_put.desc).map (fun d => d.parameters.length) = some 1 := by decide +kernel
abbrev frB1_put : Nat := 2
abbrev loB1_put : Nat := 62
theorem dB1_put_0 : decode cB1_put 0 = .ok (.aload_n 0, 1) := by decide +kernel
theorem dB1_put_1 : decode cB1_put 1 = .ok (.getfield 19, 3) := by decide +kernel
theorem dB1_put_4 : decode cB1_put 4 = .ok (.aload_n 0, 1) := by decide +kernel
theorem dB1_put_5 : decode cB1_put 5 = .ok (.getfield 9, 3) := by decide +kernel
theorem dB1_put_8 : decode cB1_put 8 = .ok (.if_icmp .lt 4, 3) := by decide +kernel
theorem dB1_put_11 : decode cB1_put 11 = .ok (.return_, 1) := by decide +kernel
theorem dB1_put_12 : decode cB1_put 12 = .ok (.aload_n 0, 1) := by decide +kernel
theorem dB1_put_13 : decode cB1_put 13 = .ok (.getfield 19, 3) := by decide +kernel
theorem dB1_put_16 : decode cB1_put 16 = .ok (.aload_n 0, 1) := by decide +kernel
theorem dB1_put_17 : decode cB1_put 17 = .ok (.getfield 15, 3) := by decide +kernel
theorem dB1_put_20 : decode cB1_put 20 = .ok (.arraylength, 1) := by decide +kernel
theorem dB1_put_21 : decode cB1_put 21 = .ok (.if_icmp .ne 20, 3) := by decide +kernel
theorem dB1_put_24 : decode cB1_put 24 = .ok (.aload_n 0, 1) := by decide +kernel
theorem dB1_put_25 : decode cB1_put 25 = .ok (.aload_n 0, 1) := by decide +kernel
theorem dB1_put_26 : decode cB1_put 26 = .ok (.getfield 15, 3) := by decide +kernel
theorem dB1_put_29 : decode cB1_put 29 = .ok (.iconst 2, 1) := by decide +kernel
theorem dB1_put_30 : decode cB1_put 30 = .ok (.aload_n 0, 1) := by decide +kernel
theorem dB1_put_31 : decode cB1_put 31 = .ok (.getfield 19, 3) := by decide +kernel
theorem dB1_put_34 : decode cB1_put 34 = .ok (.imul, 1) := by decide +kernel
theorem dB1_put_35 : decode cB1_put 35 = .ok (.invokestatic 22, 3) := by decide +kernel
theorem dB1_put_38 : decode cB1_put 38 = .ok (.putfield 15, 3) := by decide +kernel
theorem dB1_put_41 : decode cB1_put 41 = .ok (.aload_n 0, 1) := by decide +kernel
theorem dB1_put_42 : decode cB1_put 42 = .ok (.getfield 15, 3) := by decide +kernel
theorem dB1_put_45 : decode cB1_put 45 = .ok (.aload_n 0, 1) := by decide +kernel
theorem dB1_put_46 : decode cB1_put 46 = .ok (.getfield 19, 3) := by decide +kernel
theorem dB1_put_49 : decode cB1_put 49 = .ok (.iload_n 1, 1) := by decide +kernel
theorem dB1_put_50 : decode cB1_put 50 = .ok (.sipush 255, 3) := by decide +kernel
theorem dB1_put_53 : decode cB1_put 53 = .ok (.iand, 1) := by decide +kernel
theorem dB1_put_54 : decode cB1_put 54 = .ok (.iastore, 1) := by decide +kernel
theorem dB1_put_55 : decode cB1_put 55 = .ok (.aload_n 0, 1) := by decide +kernel
theorem dB1_put_56 : decode cB1_put 56 = .ok (.dup, 1) := by decide +kernel
theorem dB1_put_57 : decode cB1_put 57 = .ok (.getfield 19, 3) := by decide +kernel
theorem dB1_put_60 : decode cB1_put 60 = .ok (.iconst 1, 1) := by decide +kernel
theorem dB1_put_61 : decode cB1_put 61 = .ok (.iadd, 1) := by decide +kernel
theorem dB1_put_62 : decode cB1_put 62 = .ok (.putfield 19, 3) := by decide +kernel
theorem dB1_put_65 : decode cB1_put 65 = .ok (.return_, 1) := by decide +kernel
def jB1_put_41 (h : cH) (z : cZ) (x1 : Int32) : Option (cH × cZ) := if (zi z 1) < 0 ∨ h.1 1 ≤ (zi z 1).toNatClampNeg then none else (some (h, zU (zA z 1 (zi z 1).toNatClampNeg (x1 &&& (255 : Int32))) 1 ((zi (zA z 1 (zi z 1).toNatClampNeg (x1 &&& (255 : Int32))) 1) + (1 : Int32))))
set_option maxHeartbeats 4000000 in
set_option maxRecDepth 100000 in
theorem oB1_put_41 {h' : cH} {z' : cZ} (h : cH) (z : cZ) (x1 : Int32) (hf : jB1_put_41 h z x1 = some (h', z')) : cle h h' := by
  unfold jB1_put_41 at hf
  obtain ⟨h1, hf⟩ := ts_g hf
  cases hf
  exact cle.rf
def fB1_put (h : cH) (z : cZ) (x1 : Int32) : Option (cH × cZ) := if (zi z 1) < (16384 : Int32) then (if (zi z 1) = (Int32.ofNat (h.1 1)) then (if ((2 : Int32) * (zi z 1)) < 0 ∨ ((2 : Int32) * (zi z 1)).toNatClampNeg ≤ h.1 1 ∨ 536870912 < ((2 : Int32) * (zi z 1)).toNatClampNeg * 4 then none else (jB1_put_41 (hC (hL h 1 ((2 : Int32) * (zi z 1)).toNatClampNeg) 1 ((2 : Int32) * (zi z 1)).toNatClampNeg) (zF z 1 (va_cpy (za z 1) (fun _ => 0) 0 0 (h.1 1))) x1)) else (jB1_put_41 h z x1)) else (some (h, z))
set_option maxHeartbeats 4000000 in
set_option maxRecDepth 100000 in
theorem oB1_put {h' : cH} {z' : cZ} {h : cH} {z : cZ} {x1 : Int32} (hf : fB1_put h z x1 = some (h', z')) : cle h h' := by
  unfold fB1_put at hf
  rcases Decidable.em ((zi z 1) < (16384 : Int32)) with c1 | c1
  · have hf := ts_t hf c1
    rcases (Decidable.em ((zi z 1) = (Int32.ofNat (h.1 1)))).symm with c2 | c2
    · have hf := ts_f hf c2
      exact oB1_put_41 h z x1 hf
    · have hf := ts_t hf c2
      obtain ⟨h3, hf⟩ := ts_g hf
      exact cle.tr (show cle h (hC (hL h 1 ((2 : Int32) * (zi z 1)).toNatClampNeg) 1 ((2 : Int32) * (zi z 1)).toNatClampNeg) from ⟨Nat.le_add_right _ _, Nat.le_add_right _ _⟩) (oB1_put_41 (hC (hL h 1 ((2 : Int32) * (zi z 1)).toNatClampNeg) 1 ((2 : Int32) * (zi z 1)).toNatClampNeg) (zF z 1 (va_cpy (za z 1) (fun _ => 0) 0 0 (h.1 1))) x1 hf)
  · have hf := ts_f hf c1
    cases hf
    exact cle.rf
set_option maxHeartbeats 4000000 in
set_option maxRecDepth 100000 in
theorem wB1_put_41 {p : Program} {l : Launch} {e : Env} {s : State} {m : MethodId} {args : Array Value} {below : List Frame} {meth : Method} {c : Code} {g : gT} {qq ea : Nat → Nat} {A0 : Nat → Prop} {h0 : cH} {X : va_W} {rv : (Nat → Nat) → Option Value} {h' : cH} {z' : cZ} (C : mCx p m c cB1_put 2 s args g "MidiDesk$Bytes") (hr : meth.sig.returnType = none) (hlk : meth.locks = false) (hrv : rv = fun ea => none) (ad : Nat → Nat) (h : cH) (z : cZ) (x1 : Int32) (H : Heap) (locs : List Loc) (ls : Array Slot) (hle : cle h0 h) (hl : lv_has ls 2 [(0, .ref (qq 2)), (1, .int x1)]) (hw : cWd g A0 s.heap qq ad ea h X z H locs) (hf : jB1_put_41 h z x1 = some (h', z')) : cGa p l e (rmA frB1_put loB1_put h0 h') s m args below meth c g qq A0 True ea rv X h' z' H locs (h.2.2.1 - h0.2.2.1) (h.2.2.2 - h0.2.2.2) (F0 m 41 ls []) := by
  have hmn := oB1_put_41 h z x1 hf
  have hroom : h.2.2.1 - h0.2.2.1 + 0 ≤ (rmA frB1_put loB1_put h0 h').cells ∧ h.2.2.2 - h0.2.2.2 + 0 ≤ (rmA frB1_put loB1_put h0 h').slots := ⟨by have w := hmn.1; show _ ≤ h'.2.2.1 - h0.2.2.1; omega, by have w := hmn.2; show _ ≤ h'.2.2.2 - h0.2.2.2; omega⟩
  unfold jB1_put_41 at hf
  refine lv_aload_n C.1.1 C.1.2.1 dB1_put_41 rfl (lv_at hl 0 rfl) ?_
  refine cg_Bytes_Bytes_row_B1 C hw dB1_put_42 ?_
  refine lv_aload_n C.1.1 C.1.2.1 dB1_put_45 rfl (lv_at hl 0 rfl) ?_
  refine cg_Bytes_Bytes_size_B1 C hw dB1_put_46 ?_
  refine lv_iload_n C.1.1 C.1.2.1 dB1_put_49 rfl (lv_at hl 1 rfl) ?_
  refine lv_sipush (v := (255 : Int32)) C.1.1 C.1.2.1 dB1_put_50 (by decide) ?_
  refine lv_iand C.1.1 C.1.2.1 dB1_put_53 ?_
  obtain ⟨h1, hf⟩ := ts_g hf
  refine cs_1 C hw h1 dB1_put_54 (fun H locs hw => ?_)
  refine lv_aload_n C.1.1 C.1.2.1 dB1_put_55 rfl (lv_at hl 0 rfl) ?_
  refine lv_dup C.1.1 C.1.2.1 dB1_put_56 rfl ?_
  refine cg_Bytes_Bytes_size_B1 C hw dB1_put_57 ?_
  refine lv_iconst (v := (1 : Int32)) C.1.1 C.1.2.1 dB1_put_60 (by decide) ?_
  refine lv_iadd C.1.1 C.1.2.1 dB1_put_61 ?_
  refine cp_Bytes_Bytes_size_B1 C hw dB1_put_62 (fun H locs hw => ?_)
  exact c_retAv C hr hlk hrv (fun _ => rfl) hw hf rfl (by cases hf; exact ⟨Nat.le_refl _, Nat.le_refl _⟩) dB1_put_65
set_option maxHeartbeats 4000000 in
set_option maxRecDepth 100000 in
theorem cB1_put_met {l : Launch} {g : gT} {qq ad ea : Nat → Nat} {h h' : cH} {X : va_W} {z z' : cZ} {x1 : Int32} (hf : fB1_put h z x1 = some (h', z')) : cMeA l yB1_put cB1_put 2 none frB1_put loB1_put g qq ad ea h X z [.ref (qq 2), .int x1] True (fun ea => none) X h' z' := by
  refine c_entryA (by decide) (Nat.le_of_ble_eq_true rfl) ?_
  intro p e s m args below meth c ls C hr hlk hnm hl hw
  have hrv : (fun ea => none : (Nat → Nat) → Option Value) = fun ea => none := rfl
  have C : mCx p m c cB1_put 2 s args g "MidiDesk$Bytes" := C
  have hl : lv_has ls 2 [(0, .ref (qq 2)), (1, .int x1)] := hl
  generalize cA g qq ad ea h X s.heap.size = A0 at hw ⊢
  have hle : cle h h := cle.rf
  have hmn := oB1_put hf
  have hroom : h.2.2.1 - h.2.2.1 + 0 ≤ (rmA frB1_put loB1_put h h').cells ∧ h.2.2.2 - h.2.2.2 + 0 ≤ (rmA frB1_put loB1_put h h').slots := ⟨by have w := hmn.1; show _ ≤ h'.2.2.1 - h.2.2.1; omega, by have w := hmn.2; show _ ≤ h'.2.2.2 - h.2.2.2; omega⟩
  unfold fB1_put at hf
  refine lv_aload_n C.1.1 C.1.2.1 dB1_put_0 rfl (lv_at hl 0 rfl) ?_
  refine cg_Bytes_Bytes_size_B1 C hw dB1_put_1 ?_
  refine lv_aload_n C.1.1 C.1.2.1 dB1_put_4 rfl (lv_at hl 0 rfl) ?_
  refine cg_Bytes_Bytes_most_B1 C hw dB1_put_5 ?_
  refine lv_icmp_lt (tgt := 12) C.1.1 C.1.2.1 dB1_put_8 (by decide) (fun c1 => ?_) (fun c1 => ?_)
  · have hf := ts_t hf c1
    refine lv_aload_n C.1.1 C.1.2.1 dB1_put_12 rfl (lv_at hl 0 rfl) ?_
    refine cg_Bytes_Bytes_size_B1 C hw dB1_put_13 ?_
    refine lv_aload_n C.1.1 C.1.2.1 dB1_put_16 rfl (lv_at hl 0 rfl) ?_
    refine cg_Bytes_Bytes_row_B1 C hw dB1_put_17 ?_
    refine cn_1 C hw dB1_put_20 ?_
    refine lv_icmp_ne (tgt := 41) C.1.1 C.1.2.1 dB1_put_21 (by decide) (fun c2 => ?_) (fun c2 => ?_)
    · have hf := ts_f hf c2
      exact wB1_put_41 C hr hlk hrv _ h z x1 _ _ ls hle (lv_sub hl [0, 1] rfl) hw hf
    · have hf := ts_t hf c2
      refine lv_aload_n C.1.1 C.1.2.1 dB1_put_24 rfl (lv_at hl 0 rfl) ?_
      refine lv_aload_n C.1.1 C.1.2.1 dB1_put_25 rfl (lv_at hl 0 rfl) ?_
      refine cg_Bytes_Bytes_row_B1 C hw dB1_put_26 ?_
      refine lv_iconst (v := (2 : Int32)) C.1.1 C.1.2.1 dB1_put_29 (by decide) ?_
      refine lv_aload_n C.1.1 C.1.2.1 dB1_put_30 rfl (lv_at hl 0 rfl) ?_
      refine cg_Bytes_Bytes_size_B1 C hw dB1_put_31 ?_
      refine lv_imul C.1.1 C.1.2.1 dB1_put_34 ?_
      obtain ⟨h3, hf⟩ := ts_g hf
      have hm9 : cle (hC (hL h 1 ((2 : Int32) * (zi z 1)).toNatClampNeg) 1 ((2 : Int32) * (zi z 1)).toNatClampNeg) h' := oB1_put_41 _ _ _ hf
      have hm91 : h.2.2.1 + 1 ≤ h'.2.2.1 := hm9.1
      have hm92 : h.2.2.2 + ((2 : Int32) * (zi z 1)).toNatClampNeg ≤ h'.2.2.2 := hm9.2
      have hle1 := hle.1
      have hle2 := hle.2
      refine c_grow_1 (rest := []) C hl.1 hw (fun w => h3 (Or.inl w)) rfl (Nat.lt_of_not_le fun w => h3 (Or.inr (Or.inl w))) (Nat.le_of_not_lt fun w => h3 (Or.inr (Or.inr w))) ⟨Nat.le_of_ble_eq_true rfl, Nat.le_of_ble_eq_true rfl⟩ (Nat.le_of_ble_eq_true rfl) (by show _ + 1 ≤ h'.2.2.1 - h.2.2.1; omega) (by show _ ≤ h'.2.2.2 - h.2.2.2; omega) dB1_put_35 dB1_put_38 (fun q9 H locs hw => ?_)
      refine W.widen (k := (hC (hL h 1 ((2 : Int32) * (zi z 1)).toNatClampNeg) 1 ((2 : Int32) * (zi z 1)).toNatClampNeg).2.2.1 - h.2.2.1) (n := (hC (hL h 1 ((2 : Int32) * (zi z 1)).toNatClampNeg) 1 ((2 : Int32) * (zi z 1)).toNatClampNeg).2.2.2 - h.2.2.2) (by show _ ≤ h.2.2.1 + 1 - h.2.2.1; omega) (by show _ ≤ h.2.2.2 + ((2 : Int32) * (zi z 1)).toNatClampNeg - h.2.2.2; omega) ?_
      exact wB1_put_41 C hr hlk hrv _ (hC (hL h 1 ((2 : Int32) * (zi z 1)).toNatClampNeg) 1 ((2 : Int32) * (zi z 1)).toNatClampNeg) (zF z 1 (va_cpy (za z 1) (fun _ => 0) 0 0 (h.1 1))) x1 _ _ ls (hle.tr (show cle h (hC (hL h 1 ((2 : Int32) * (zi z 1)).toNatClampNeg) 1 ((2 : Int32) * (zi z 1)).toNatClampNeg) from ⟨Nat.le_add_right _ _, Nat.le_add_right _ _⟩)) (lv_sub hl [0, 1] rfl) hw hf
  · have hf := ts_f hf c1
    exact c_retAv C hr hlk hrv (fun _ => rfl) hw hf rfl (by cases hf; exact ⟨Nat.le_refl _, Nat.le_refl _⟩) dB1_put_11
abbrev cB2_put : ByteArray := prog_2_method_4_code
abbrev yB2_put : MethodName := ⟨"MidiDesk$Bytes", "put", "(I)V"⟩
theorem kB2_put : yB2_put.cls ≠ "java/lang/invoke/MethodHandle" ∧ yB2_put.cls ≠ "java/lang/invoke/VarHandle" ∧ (parseMethodDescriptor yB2_put.desc).map (fun d => d.parameters.length) = some 1 := by decide +kernel
abbrev frB2_put : Nat := 2
abbrev loB2_put : Nat := 62
theorem dB2_put_0 : decode cB2_put 0 = .ok (.aload_n 0, 1) := by decide +kernel
theorem dB2_put_1 : decode cB2_put 1 = .ok (.getfield 19, 3) := by decide +kernel
theorem dB2_put_4 : decode cB2_put 4 = .ok (.aload_n 0, 1) := by decide +kernel
theorem dB2_put_5 : decode cB2_put 5 = .ok (.getfield 9, 3) := by decide +kernel
theorem dB2_put_8 : decode cB2_put 8 = .ok (.if_icmp .lt 4, 3) := by decide +kernel
theorem dB2_put_11 : decode cB2_put 11 = .ok (.return_, 1) := by decide +kernel
theorem dB2_put_12 : decode cB2_put 12 = .ok (.aload_n 0, 1) := by decide +kernel
theorem dB2_put_13 : decode cB2_put 13 = .ok (.getfield 19, 3) := by decide +kernel
theorem dB2_put_16 : decode cB2_put 16 = .ok (.aload_n 0, 1) := by decide +kernel
theorem dB2_put_17 : decode cB2_put 17 = .ok (.getfield 15, 3) := by decide +kernel
theorem dB2_put_20 : decode cB2_put 20 = .ok (.arraylength, 1) := by decide +kernel
theorem dB2_put_21 : decode cB2_put 21 = .ok (.if_icmp .ne 20, 3) := by decide +kernel
theorem dB2_put_24 : decode cB2_put 24 = .ok (.aload_n 0, 1) := by decide +kernel
theorem dB2_put_25 : decode cB2_put 25 = .ok (.aload_n 0, 1) := by decide +kernel
theorem dB2_put_26 : decode cB2_put 26 = .ok (.getfield 15, 3) := by decide +kernel
theorem dB2_put_29 : decode cB2_put 29 = .ok (.iconst 2, 1) := by decide +kernel
theorem dB2_put_30 : decode cB2_put 30 = .ok (.aload_n 0, 1) := by decide +kernel
theorem dB2_put_31 : decode cB2_put 31 = .ok (.getfield 19, 3) := by decide +kernel
theorem dB2_put_34 : decode cB2_put 34 = .ok (.imul, 1) := by decide +kernel
theorem dB2_put_35 : decode cB2_put 35 = .ok (.invokestatic 22, 3) := by decide +kernel
theorem dB2_put_38 : decode cB2_put 38 = .ok (.putfield 15, 3) := by decide +kernel
theorem dB2_put_41 : decode cB2_put 41 = .ok (.aload_n 0, 1) := by decide +kernel
theorem dB2_put_42 : decode cB2_put 42 = .ok (.getfield 15, 3) := by decide +kernel
theorem dB2_put_45 : decode cB2_put 45 = .ok (.aload_n 0, 1) := by decide +kernel
theorem dB2_put_46 : decode cB2_put 46 = .ok (.getfield 19, 3) := by decide +kernel
theorem dB2_put_49 : decode cB2_put 49 = .ok (.iload_n 1, 1) := by decide +kernel
theorem dB2_put_50 : decode cB2_put 50 = .ok (.sipush 255, 3) := by decide +kernel
theorem dB2_put_53 : decode cB2_put 53 = .ok (.iand, 1) := by decide +kernel
theorem dB2_put_54 : decode cB2_put 54 = .ok (.iastore, 1) := by decide +kernel
theorem dB2_put_55 : decode cB2_put 55 = .ok (.aload_n 0, 1) := by decide +kernel
theorem dB2_put_56 : decode cB2_put 56 = .ok (.dup, 1) := by decide +kernel
theorem dB2_put_57 : decode cB2_put 57 = .ok (.getfield 19, 3) := by decide +kernel
theorem dB2_put_60 : decode cB2_put 60 = .ok (.iconst 1, 1) := by decide +kernel
theorem dB2_put_61 : decode cB2_put 61 = .ok (.iadd, 1) := by decide +kernel
theorem dB2_put_62 : decode cB2_put 62 = .ok (.putfield 19, 3) := by decide +kernel
theorem dB2_put_65 : decode cB2_put 65 = .ok (.return_, 1) := by decide +kernel
def jB2_put_41 (h : cH) (z : cZ) (x1 : Int32) : Option (cH × cZ) := if (zi z 2) < 0 ∨ h.1 2 ≤ (zi z 2).toNatClampNeg then none else (some (h, zU (zA z 2 (zi z 2).toNatClampNeg (x1 &&& (255 : Int32))) 2 ((zi (zA z 2 (zi z 2).toNatClampNeg (x1 &&& (255 : Int32))) 2) + (1 : Int32))))
set_option maxHeartbeats 4000000 in
set_option maxRecDepth 100000 in
theorem oB2_put_41 {h' : cH} {z' : cZ} (h : cH) (z : cZ) (x1 : Int32) (hf : jB2_put_41 h z x1 = some (h', z')) : cle h h' := by
  unfold jB2_put_41 at hf
  obtain ⟨h1, hf⟩ := ts_g hf
  cases hf
  exact cle.rf
def fB2_put (h : cH) (z : cZ) (x1 : Int32) : Option (cH × cZ) := if (zi z 2) < (8000 : Int32) then (if (zi z 2) = (Int32.ofNat (h.1 2)) then (if ((2 : Int32) * (zi z 2)) < 0 ∨ ((2 : Int32) * (zi z 2)).toNatClampNeg ≤ h.1 2 ∨ 536870912 < ((2 : Int32) * (zi z 2)).toNatClampNeg * 4 then none else (jB2_put_41 (hC (hL h 2 ((2 : Int32) * (zi z 2)).toNatClampNeg) 1 ((2 : Int32) * (zi z 2)).toNatClampNeg) (zF z 2 (va_cpy (za z 2) (fun _ => 0) 0 0 (h.1 2))) x1)) else (jB2_put_41 h z x1)) else (some (h, z))
set_option maxHeartbeats 4000000 in
set_option maxRecDepth 100000 in
theorem oB2_put {h' : cH} {z' : cZ} {h : cH} {z : cZ} {x1 : Int32} (hf : fB2_put h z x1 = some (h', z')) : cle h h' := by
  unfold fB2_put at hf
  rcases Decidable.em ((zi z 2) < (8000 : Int32)) with c1 | c1
  · have hf := ts_t hf c1
    rcases (Decidable.em ((zi z 2) = (Int32.ofNat (h.1 2)))).symm with c2 | c2
    · have hf := ts_f hf c2
      exact oB2_put_41 h z x1 hf
    · have hf := ts_t hf c2
      obtain ⟨h3, hf⟩ := ts_g hf
      exact cle.tr (show cle h (hC (hL h 2 ((2 : Int32) * (zi z 2)).toNatClampNeg) 1 ((2 : Int32) * (zi z 2)).toNatClampNeg) from ⟨Nat.le_add_right _ _, Nat.le_add_right _ _⟩) (oB2_put_41 (hC (hL h 2 ((2 : Int32) * (zi z 2)).toNatClampNeg) 1 ((2 : Int32) * (zi z 2)).toNatClampNeg) (zF z 2 (va_cpy (za z 2) (fun _ => 0) 0 0 (h.1 2))) x1 hf)
  · have hf := ts_f hf c1
    cases hf
    exact cle.rf
set_option maxHeartbeats 4000000 in
set_option maxRecDepth 100000 in
theorem wB2_put_41 {p : Program} {l : Launch} {e : Env} {s : State} {m : MethodId} {args : Array Value} {below : List Frame} {meth : Method} {c : Code} {g : gT} {qq ea : Nat → Nat} {A0 : Nat → Prop} {h0 : cH} {X : va_W} {rv : (Nat → Nat) → Option Value} {h' : cH} {z' : cZ} (C : mCx p m c cB2_put 2 s args g "MidiDesk$Bytes") (hr : meth.sig.returnType = none) (hlk : meth.locks = false) (hrv : rv = fun ea => none) (ad : Nat → Nat) (h : cH) (z : cZ) (x1 : Int32) (H : Heap) (locs : List Loc) (ls : Array Slot) (hle : cle h0 h) (hl : lv_has ls 2 [(0, .ref (qq 3)), (1, .int x1)]) (hw : cWd g A0 s.heap qq ad ea h X z H locs) (hf : jB2_put_41 h z x1 = some (h', z')) : cGa p l e (rmA frB2_put loB2_put h0 h') s m args below meth c g qq A0 True ea rv X h' z' H locs (h.2.2.1 - h0.2.2.1) (h.2.2.2 - h0.2.2.2) (F0 m 41 ls []) := by
  have hmn := oB2_put_41 h z x1 hf
  have hroom : h.2.2.1 - h0.2.2.1 + 0 ≤ (rmA frB2_put loB2_put h0 h').cells ∧ h.2.2.2 - h0.2.2.2 + 0 ≤ (rmA frB2_put loB2_put h0 h').slots := ⟨by have w := hmn.1; show _ ≤ h'.2.2.1 - h0.2.2.1; omega, by have w := hmn.2; show _ ≤ h'.2.2.2 - h0.2.2.2; omega⟩
  unfold jB2_put_41 at hf
  refine lv_aload_n C.1.1 C.1.2.1 dB2_put_41 rfl (lv_at hl 0 rfl) ?_
  refine cg_Bytes_Bytes_row_B2 C hw dB2_put_42 ?_
  refine lv_aload_n C.1.1 C.1.2.1 dB2_put_45 rfl (lv_at hl 0 rfl) ?_
  refine cg_Bytes_Bytes_size_B2 C hw dB2_put_46 ?_
  refine lv_iload_n C.1.1 C.1.2.1 dB2_put_49 rfl (lv_at hl 1 rfl) ?_
  refine lv_sipush (v := (255 : Int32)) C.1.1 C.1.2.1 dB2_put_50 (by decide) ?_
  refine lv_iand C.1.1 C.1.2.1 dB2_put_53 ?_
  obtain ⟨h1, hf⟩ := ts_g hf
  refine cs_2 C hw h1 dB2_put_54 (fun H locs hw => ?_)
  refine lv_aload_n C.1.1 C.1.2.1 dB2_put_55 rfl (lv_at hl 0 rfl) ?_
  refine lv_dup C.1.1 C.1.2.1 dB2_put_56 rfl ?_
  refine cg_Bytes_Bytes_size_B2 C hw dB2_put_57 ?_
  refine lv_iconst (v := (1 : Int32)) C.1.1 C.1.2.1 dB2_put_60 (by decide) ?_
  refine lv_iadd C.1.1 C.1.2.1 dB2_put_61 ?_
  refine cp_Bytes_Bytes_size_B2 C hw dB2_put_62 (fun H locs hw => ?_)
  exact c_retAv C hr hlk hrv (fun _ => rfl) hw hf rfl (by cases hf; exact ⟨Nat.le_refl _, Nat.le_refl _⟩) dB2_put_65
set_option maxHeartbeats 4000000 in
set_option maxRecDepth 100000 in
theorem cB2_put_met {l : Launch} {g : gT} {qq ad ea : Nat → Nat} {h h' : cH} {X : va_W} {z z' : cZ} {x1 : Int32} (hf : fB2_put h z x1 = some (h', z')) : cMeA l yB2_put cB2_put 2 none frB2_put loB2_put g qq ad ea h X z [.ref (qq 3), .int x1] True (fun ea => none) X h' z' := by
  refine c_entryA (by decide) (Nat.le_of_ble_eq_true rfl) ?_
  intro p e s m args below meth c ls C hr hlk hnm hl hw
  have hrv : (fun ea => none : (Nat → Nat) → Option Value) = fun ea => none := rfl
  have C : mCx p m c cB2_put 2 s args g "MidiDesk$Bytes" := C
  have hl : lv_has ls 2 [(0, .ref (qq 3)), (1, .int x1)] := hl
  generalize cA g qq ad ea h X s.heap.size = A0 at hw ⊢
  have hle : cle h h := cle.rf
  have hmn := oB2_put hf
  have hroom : h.2.2.1 - h.2.2.1 + 0 ≤ (rmA frB2_put loB2_put h h').cells ∧ h.2.2.2 - h.2.2.2 + 0 ≤ (rmA frB2_put loB2_put h h').slots := ⟨by have w := hmn.1; show _ ≤ h'.2.2.1 - h.2.2.1; omega, by have w := hmn.2; show _ ≤ h'.2.2.2 - h.2.2.2; omega⟩
  unfold fB2_put at hf
  refine lv_aload_n C.1.1 C.1.2.1 dB2_put_0 rfl (lv_at hl 0 rfl) ?_
  refine cg_Bytes_Bytes_size_B2 C hw dB2_put_1 ?_
  refine lv_aload_n C.1.1 C.1.2.1 dB2_put_4 rfl (lv_at hl 0 rfl) ?_
  refine cg_Bytes_Bytes_most_B2 C hw dB2_put_5 ?_
  refine lv_icmp_lt (tgt := 12) C.1.1 C.1.2.1 dB2_put_8 (by decide) (fun c1 => ?_) (fun c1 => ?_)
  · have hf := ts_t hf c1
    refine lv_aload_n C.1.1 C.1.2.1 dB2_put_12 rfl (lv_at hl 0 rfl) ?_
    refine cg_Bytes_Bytes_size_B2 C hw dB2_put_13 ?_
    refine lv_aload_n C.1.1 C.1.2.1 dB2_put_16 rfl (lv_at hl 0 rfl) ?_
    refine cg_Bytes_Bytes_row_B2 C hw dB2_put_17 ?_
    refine cn_2 C hw dB2_put_20 ?_
    refine lv_icmp_ne (tgt := 41) C.1.1 C.1.2.1 dB2_put_21 (by decide) (fun c2 => ?_) (fun c2 => ?_)
    · have hf := ts_f hf c2
      exact wB2_put_41 C hr hlk hrv _ h z x1 _ _ ls hle (lv_sub hl [0, 1] rfl) hw hf
    · have hf := ts_t hf c2
      refine lv_aload_n C.1.1 C.1.2.1 dB2_put_24 rfl (lv_at hl 0 rfl) ?_
      refine lv_aload_n C.1.1 C.1.2.1 dB2_put_25 rfl (lv_at hl 0 rfl) ?_
      refine cg_Bytes_Bytes_row_B2 C hw dB2_put_26 ?_
      refine lv_iconst (v := (2 : Int32)) C.1.1 C.1.2.1 dB2_put_29 (by decide) ?_
      refine lv_aload_n C.1.1 C.1.2.1 dB2_put_30 rfl (lv_at hl 0 rfl) ?_
      refine cg_Bytes_Bytes_size_B2 C hw dB2_put_31 ?_
      refine lv_imul C.1.1 C.1.2.1 dB2_put_34 ?_
      obtain ⟨h3, hf⟩ := ts_g hf
      have hm9 : cle (hC (hL h 2 ((2 : Int32) * (zi z 2)).toNatClampNeg) 1 ((2 : Int32) * (zi z 2)).toNatClampNeg) h' := oB2_put_41 _ _ _ hf
      have hm91 : h.2.2.1 + 1 ≤ h'.2.2.1 := hm9.1
      have hm92 : h.2.2.2 + ((2 : Int32) * (zi z 2)).toNatClampNeg ≤ h'.2.2.2 := hm9.2
      have hle1 := hle.1
      have hle2 := hle.2
      refine c_grow_2 (rest := []) C hl.1 hw (fun w => h3 (Or.inl w)) rfl (Nat.lt_of_not_le fun w => h3 (Or.inr (Or.inl w))) (Nat.le_of_not_lt fun w => h3 (Or.inr (Or.inr w))) ⟨Nat.le_of_ble_eq_true rfl, Nat.le_of_ble_eq_true rfl⟩ (Nat.le_of_ble_eq_true rfl) (by show _ + 1 ≤ h'.2.2.1 - h.2.2.1; omega) (by show _ ≤ h'.2.2.2 - h.2.2.2; omega) dB2_put_35 dB2_put_38 (fun q9 H locs hw => ?_)
      refine W.widen (k := (hC (hL h 2 ((2 : Int32) * (zi z 2)).toNatClampNeg) 1 ((2 : Int32) * (zi z 2)).toNatClampNeg).2.2.1 - h.2.2.1) (n := (hC (hL h 2 ((2 : Int32) * (zi z 2)).toNatClampNeg) 1 ((2 : Int32) * (zi z 2)).toNatClampNeg).2.2.2 - h.2.2.2) (by show _ ≤ h.2.2.1 + 1 - h.2.2.1; omega) (by show _ ≤ h.2.2.2 + ((2 : Int32) * (zi z 2)).toNatClampNeg - h.2.2.2; omega) ?_
      exact wB2_put_41 C hr hlk hrv _ (hC (hL h 2 ((2 : Int32) * (zi z 2)).toNatClampNeg) 1 ((2 : Int32) * (zi z 2)).toNatClampNeg) (zF z 2 (va_cpy (za z 2) (fun _ => 0) 0 0 (h.1 2))) x1 _ _ ls (hle.tr (show cle h (hC (hL h 2 ((2 : Int32) * (zi z 2)).toNatClampNeg) 1 ((2 : Int32) * (zi z 2)).toNatClampNeg) from ⟨Nat.le_add_right _ _, Nat.le_add_right _ _⟩)) (lv_sub hl [0, 1] rfl) hw hf
  · have hf := ts_f hf c1
    exact c_retAv C hr hlk hrv (fun _ => rfl) hw hf rfl (by cases hf; exact ⟨Nat.le_refl _, Nat.le_refl _⟩) dB2_put_11
abbrev cT_putFixed : ByteArray := prog_5_method_5_code
abbrev yT_putFixed : MethodName := ⟨"MidiDesk$Printer", "putFixed", "(II)V"⟩
theorem kT_putFixed : yT_putFixed.cls ≠ "java/lang/invoke/MethodHandle" ∧ yT_putFixed.cls ≠ "java/lang/invoke/VarHandle" ∧ (parseMethodDescriptor yT_putFixed.desc).map (fun d => d.parameters.length) = some 2 := by decide +kernel
abbrev frT_putFixed : Nat := 3
abbrev loT_putFixed : Nat := 83
theorem dT_putFixed_0 : decode cT_putFixed 0 = .ok (.iload_n 2, 1) := by decide +kernel
theorem dT_putFixed_1 : decode cT_putFixed 1 = .ok (.iconst 1, 1) := by decide +kernel
theorem dT_putFixed_2 : decode cT_putFixed 2 = .ok (.isub, 1) := by decide +kernel
theorem dT_putFixed_3 : decode cT_putFixed 3 = .ok (.istore_n 3, 1) := by decide +kernel
theorem dT_putFixed_4 : decode cT_putFixed 4 = .ok (.iload_n 3, 1) := by decide +kernel
theorem dT_putFixed_5 : decode cT_putFixed 5 = .ok (.ifCond .lt 22, 3) := by decide +kernel
theorem dT_putFixed_8 : decode cT_putFixed 8 = .ok (.aload_n 0, 1) := by decide +kernel
theorem dT_putFixed_9 : decode cT_putFixed 9 = .ok (.getfield 15, 3) := by decide +kernel
theorem dT_putFixed_12 : decode cT_putFixed 12 = .ok (.iload_n 1, 1) := by decide +kernel
theorem dT_putFixed_13 : decode cT_putFixed 13 = .ok (.bipush 8, 2) := by decide +kernel
theorem dT_putFixed_15 : decode cT_putFixed 15 = .ok (.iload_n 3, 1) := by decide +kernel
theorem dT_putFixed_16 : decode cT_putFixed 16 = .ok (.imul, 1) := by decide +kernel
theorem dT_putFixed_17 : decode cT_putFixed 17 = .ok (.ishr, 1) := by decide +kernel
theorem dT_putFixed_18 : decode cT_putFixed 18 = .ok (.invokevirtual 75, 3) := by decide +kernel
theorem dT_putFixed_21 : decode cT_putFixed 21 = .ok (.iinc 3 (-1), 3) := by decide +kernel
theorem dT_putFixed_24 : decode cT_putFixed 24 = .ok (.goto (-20), 3) := by decide +kernel
theorem dT_putFixed_27 : decode cT_putFixed 27 = .ok (.return_, 1) := by decide +kernel
def jT_putFixed_21 (K4 : cH → cZ → (Nat → Int32) → Int32 → Int32 → Option (cH × cZ × (Nat → Int32))) (h : cH) (z : cZ) (pv : Nat → Int32) (x1 : Int32) (x3 : Int32) : Option (cH × cZ × (Nat → Int32)) := K4 h z pv x1 (x3 + (-1))
set_option maxHeartbeats 4000000 in
set_option maxRecDepth 100000 in
theorem oT_putFixed_21 {h' : cH} {z' : cZ} {pv' : Nat → Int32} {K4 : cH → cZ → (Nat → Int32) → Int32 → Int32 → Option (cH × cZ × (Nat → Int32))} (hK4 : ∀ (h : cH) (z : cZ) (pv : Nat → Int32) (x1 : Int32) (x3 : Int32), K4 h z pv x1 x3 = some (h', z', pv') → cle h h') (h : cH) (z : cZ) (pv : Nat → Int32) (x1 : Int32) (x3 : Int32) (hf : jT_putFixed_21 K4 h z pv x1 x3 = some (h', z', pv')) : cle h h' := by
  unfold jT_putFixed_21 at hf
  exact hK4 h z pv x1 (x3 + (-1)) hf
def lT_putFixed_4 : Nat → cH → cZ → (Nat → Int32) → Int32 → Int32 → Option (cH × cZ × (Nat → Int32))
  | 0 => fun _ _ _ _ _ => none
  | k + 1 => fun h z pv x1 x3 => if x3 < 0 then (some (h, z, pv)) else ((fB1_put h z (x1 >>> (((8 : Int32) * x3) &&& 31))).bind fun (hh2, z2) => jT_putFixed_21 (lT_putFixed_4 k) hh2 z2 pv x1 x3)
set_option maxHeartbeats 4000000 in
set_option maxRecDepth 100000 in
theorem oT_putFixed_4 {h' : cH} {z' : cZ} {pv' : Nat → Int32} (k : Nat) : ∀ (h : cH) (z : cZ) (pv : Nat → Int32) (x1 : Int32) (x3 : Int32), lT_putFixed_4 k h z pv x1 x3 = some (h', z', pv') → cle h h' := by
  induction k with
  | zero => intro h z pv x1 x3 hf; cases hf
  | succ k ih =>
    intro h z pv x1 x3 hf
    have hf : (if x3 < 0 then (some (h, z, pv)) else ((fB1_put h z (x1 >>> (((8 : Int32) * x3) &&& 31))).bind fun (hh2, z2) => jT_putFixed_21 (lT_putFixed_4 k) hh2 z2 pv x1 x3)) = some (h', z', pv') := hf
    rcases Decidable.em (x3 < 0) with c1 | c1
    · have hf := ts_t hf c1
      cases hf
      exact cle.rf
    · have hf := ts_f hf c1
      obtain ⟨⟨hh2, z2⟩, g2, hf⟩ := ts_b hf
      try dsimp only at hf
      exact cle.tr (oB1_put g2) (oT_putFixed_21 ih hh2 z2 pv x1 x3 hf)
def fT_putFixed (h : cH) (z : cZ) (pv : Nat → Int32) (x1 : Int32) (x2 : Int32) : Option (cH × cZ × (Nat → Int32)) := lT_putFixed_4 FU h z pv x1 (x2 - (1 : Int32))
set_option maxHeartbeats 4000000 in
set_option maxRecDepth 100000 in
theorem oT_putFixed {h' : cH} {z' : cZ} {pv' : Nat → Int32} {h : cH} {z : cZ} {pv : Nat → Int32} {x1 : Int32} {x2 : Int32} (hf : fT_putFixed h z pv x1 x2 = some (h', z', pv')) : cle h h' := by
  unfold fT_putFixed at hf
  exact oT_putFixed_4 FU h z pv x1 (x2 - (1 : Int32)) hf
set_option maxHeartbeats 4000000 in
set_option maxRecDepth 100000 in
theorem wT_putFixed_21 {p : Program} {l : Launch} {e : Env} {s : State} {m : MethodId} {args : Array Value} {below : List Frame} {meth : Method} {c : Code} {g : gT} {qq ea : Nat → Nat} {A0 : Nat → Prop} {h0 : cH} {X : va_W} {rv : (Nat → Nat) → Option Value} {qp : Nat} {pv' : Nat → Int32} {h' : cH} {z' : cZ} (C : mCx p m c cT_putFixed 4 s args g "MidiDesk$Printer") (hr : meth.sig.returnType = none) (hlk : meth.locks = false) (hrv : rv = fun ea => none) {K4 : cH → cZ → (Nat → Int32) → Int32 → Int32 → Option (cH × cZ × (Nat → Int32))} (hK4 : ∀ (ad : Nat → Nat) (h : cH) (z : cZ) (pv : Nat → Int32) (x1 : Int32) (x3 : Int32) (H : Heap) (locs : List Loc) (ls : Array Slot), cle h0 h → lv_has ls 4 [(0, .ref qp), (1, .int x1), (3, .int x3)] → cWd g A0 s.heap qq ad ea h (tcell qp qq pv :: X) z H locs → K4 h z pv x1 x3 = some (h', z', pv') → cGa p l e (rmA frT_putFixed loT_putFixed h0 h') s m args below meth c g qq A0 True ea rv (tcell qp qq pv' :: X) h' z' H locs (h.2.2.1 - h0.2.2.1) (h.2.2.2 - h0.2.2.2) (F0 m 4 ls [])) (hM4 : ∀ (h : cH) (z : cZ) (pv : Nat → Int32) (x1 : Int32) (x3 : Int32), K4 h z pv x1 x3 = some (h', z', pv') → cle h h') (ad : Nat → Nat) (h : cH) (z : cZ) (pv : Nat → Int32) (x1 : Int32) (x3 : Int32) (H : Heap) (locs : List Loc) (ls : Array Slot) (hle : cle h0 h) (hl : lv_has ls 4 [(0, .ref qp), (1, .int x1), (3, .int x3)]) (hw : cWd g A0 s.heap qq ad ea h (tcell qp qq pv :: X) z H locs) (hf : jT_putFixed_21 K4 h z pv x1 x3 = some (h', z', pv')) : cGa p l e (rmA frT_putFixed loT_putFixed h0 h') s m args below meth c g qq A0 True ea rv (tcell qp qq pv' :: X) h' z' H locs (h.2.2.1 - h0.2.2.1) (h.2.2.2 - h0.2.2.2) (F0 m 21 ls []) := by
  have hmn := oT_putFixed_21 hM4 h z pv x1 x3 hf
  have hroom : h.2.2.1 - h0.2.2.1 + 0 ≤ (rmA frT_putFixed loT_putFixed h0 h').cells ∧ h.2.2.2 - h0.2.2.2 + 0 ≤ (rmA frT_putFixed loT_putFixed h0 h').slots := ⟨by have w := hmn.1; show _ ≤ h'.2.2.1 - h0.2.2.1; omega, by have w := hmn.2; show _ ≤ h'.2.2.2 - h0.2.2.2; omega⟩
  unfold jT_putFixed_21 at hf
  refine lv_iinc (v := x3 + (-1)) (lv' := [(3, .int (x3 + (-1))), (0, .ref qp), (1, .int x1)]) C.1.1 C.1.2.1 dT_putFixed_21 hl (k := 2) rfl rfl (by decide) rfl (fun ls hl => ?_)
  refine lv_goto (tgt := 4) C.1.1 C.1.2.1 dT_putFixed_24 (by decide) ?_
  exact hK4 _ h z pv x1 (x3 + (-1)) _ _ ls hle (lv_sub hl [1, 2, 0] rfl) hw hf
set_option maxHeartbeats 4000000 in
set_option maxRecDepth 100000 in
theorem wT_putFixed_4 {p : Program} {l : Launch} {e : Env} {s : State} {m : MethodId} {args : Array Value} {below : List Frame} {meth : Method} {c : Code} {g : gT} {qq ea : Nat → Nat} {A0 : Nat → Prop} {h0 : cH} {X : va_W} {rv : (Nat → Nat) → Option Value} {qp : Nat} {pv' : Nat → Int32} {h' : cH} {z' : cZ} (C : mCx p m c cT_putFixed 4 s args g "MidiDesk$Printer") (hr : meth.sig.returnType = none) (hlk : meth.locks = false) (hrv : rv = fun ea => none) (k : Nat) : ∀ (ad : Nat → Nat) (h : cH) (z : cZ) (pv : Nat → Int32) (x1 : Int32) (x3 : Int32) (H : Heap) (locs : List Loc) (ls : Array Slot), cle h0 h → lv_has ls 4 [(0, .ref qp), (1, .int x1), (3, .int x3)] → cWd g A0 s.heap qq ad ea h (tcell qp qq pv :: X) z H locs → lT_putFixed_4 k h z pv x1 x3 = some (h', z', pv') → cGa p l e (rmA frT_putFixed loT_putFixed h0 h') s m args below meth c g qq A0 True ea rv (tcell qp qq pv' :: X) h' z' H locs (h.2.2.1 - h0.2.2.1) (h.2.2.2 - h0.2.2.2) (F0 m 4 ls []) := by
  induction k with
  | zero => intro ad h z pv x1 x3 H locs ls hle hl hw hf; cases hf
  | succ k ih =>
    intro ad h z pv x1 x3 H locs ls hle hl hw hf
    have hmn := oT_putFixed_4 (k + 1) h z pv x1 x3 hf
    have hroom : h.2.2.1 - h0.2.2.1 + 0 ≤ (rmA frT_putFixed loT_putFixed h0 h').cells ∧ h.2.2.2 - h0.2.2.2 + 0 ≤ (rmA frT_putFixed loT_putFixed h0 h').slots := ⟨by have w := hmn.1; show _ ≤ h'.2.2.1 - h0.2.2.1; omega, by have w := hmn.2; show _ ≤ h'.2.2.2 - h0.2.2.2; omega⟩
    have hf : (if x3 < 0 then (some (h, z, pv)) else ((fB1_put h z (x1 >>> (((8 : Int32) * x3) &&& 31))).bind fun (hh2, z2) => jT_putFixed_21 (lT_putFixed_4 k) hh2 z2 pv x1 x3)) = some (h', z', pv') := hf
    have ihm := oT_putFixed_4 k (h' := h') (z' := z') (pv' := pv')
    refine lv_iload_n C.1.1 C.1.2.1 dT_putFixed_4 rfl (lv_at hl 2 rfl) ?_
    refine lv_if_lt (tgt := 27) C.1.1 C.1.2.1 dT_putFixed_5 (by decide) (fun c1 => ?_) (fun c1 => ?_)
    · have hf := ts_t hf c1
      obtain ⟨hf, hpv⟩ := pr4 hf
      exact c_retAv C hr hlk hrv (fun _ => rfl) hw hf (by rw [hpv]) (by cases hf; exact ⟨Nat.le_refl _, Nat.le_refl _⟩) dT_putFixed_27
    · have hf := ts_f hf c1
      refine lv_aload_n C.1.1 C.1.2.1 dT_putFixed_8 rfl (lv_at hl 0 rfl) ?_
      refine cg_Printer_Printer_output C hw dT_putFixed_9 ?_
      refine lv_iload_n C.1.1 C.1.2.1 dT_putFixed_12 rfl (lv_at hl 1 rfl) ?_
      refine lv_bipush (v := (8 : Int32)) C.1.1 C.1.2.1 dT_putFixed_13 (by decide) ?_
      refine lv_iload_n C.1.1 C.1.2.1 dT_putFixed_15 rfl (lv_at hl 2 rfl) ?_
      refine lv_imul C.1.1 C.1.2.1 dT_putFixed_16 ?_
      refine lv_ishr C.1.1 C.1.2.1 dT_putFixed_17 ?_
      obtain ⟨⟨hh2, z2⟩, g2, hf⟩ := ts_b hf
      try dsimp only at hf
      have hm9 : cle hh2 h' := oT_putFixed_21 ihm _ _ _ _ _ hf
      have hm8 := oB1_put g2
      have hm91 := hm9.1
      have hm92 := hm9.2
      have hm81 := hm8.1
      have hm82 := hm8.2
      have hle1 := hle.1
      have hle2 := hle.2
      refine c_callAA (rest := []) (As := [.int (x1 >>> (((8 : Int32) * x3) &&& 31))]) (rv := fun ea => none) (b := (qq 2)) C hl.1 hw (cB1_put_met g2) (callW_of (rm := rmA frB1_put loB1_put h hh2) (C := "MidiDesk$Bytes") 1 C.1.2.2.2.2 gw_683 gw_160 gw_161 gw_53 gw_162 kB1_put ⟨Nat.le_of_ble_eq_true rfl, Nat.le_of_ble_eq_true rfl⟩) (c_recv_B1 C.2 hw) rfl rfl (Nat.le_of_ble_eq_true rfl) dT_putFixed_18 ⟨by show _ ≤ h'.2.2.1 - h0.2.2.1; omega, by show _ ≤ h'.2.2.2 - h0.2.2.2; omega⟩ (fun ad H locs hw => ?_)
      refine W.widen (k := hh2.2.2.1 - h0.2.2.1) (n := hh2.2.2.2 - h0.2.2.2) (by omega) (by omega) ?_
      refine W.eq (g2 := F0 m 21 ls []) rfl ?_
      exact wT_putFixed_21 C hr hlk hrv ih ihm _ hh2 z2 pv x1 x3 _ _ ls (hle.tr (oB1_put g2)) (lv_sub hl [0, 1, 2] rfl) hw hf
set_option maxHeartbeats 4000000 in
set_option maxRecDepth 100000 in
theorem cT_putFixed_met {l : Launch} {g : gT} {qq ad ea : Nat → Nat} {h h' : cH} {X : va_W} {qp : Nat} {pv pv' : Nat → Int32} {z z' : cZ} {x1 : Int32} {x2 : Int32} (hf : fT_putFixed h z pv x1 x2 = some (h', z', pv')) : cMeA l yT_putFixed cT_putFixed 4 none frT_putFixed loT_putFixed g qq ad ea h (tcell qp qq pv :: X) z [.ref qp, .int x1, .int x2] True (fun ea => none) (tcell qp qq pv' :: X) h' z' := by
  refine c_entryA (by decide) (Nat.le_of_ble_eq_true rfl) ?_
  intro p e s m args below meth c ls C hr hlk hnm hl hw
  have hrv : (fun ea => none : (Nat → Nat) → Option Value) = fun ea => none := rfl
  have C : mCx p m c cT_putFixed 4 s args g "MidiDesk$Printer" := C
  have hl : lv_has ls 4 [(0, .ref qp), (1, .int x1), (2, .int x2)] := hl
  generalize cA g qq ad ea h (tcell qp qq pv :: X) s.heap.size = A0 at hw ⊢
  have hle : cle h h := cle.rf
  have hmn := oT_putFixed hf
  have hroom : h.2.2.1 - h.2.2.1 + 0 ≤ (rmA frT_putFixed loT_putFixed h h').cells ∧ h.2.2.2 - h.2.2.2 + 0 ≤ (rmA frT_putFixed loT_putFixed h h').slots := ⟨by have w := hmn.1; show _ ≤ h'.2.2.1 - h.2.2.1; omega, by have w := hmn.2; show _ ≤ h'.2.2.2 - h.2.2.2; omega⟩
  unfold fT_putFixed at hf
  refine lv_iload_n C.1.1 C.1.2.1 dT_putFixed_0 rfl (lv_at hl 2 rfl) ?_
  refine lv_iconst (v := (1 : Int32)) C.1.1 C.1.2.1 dT_putFixed_1 (by decide) ?_
  refine lv_isub C.1.1 C.1.2.1 dT_putFixed_2 ?_
  refine lv_istore_n (lv' := [(3, .int (x2 - (1 : Int32))), (0, .ref qp), (1, .int x1), (2, .int x2)]) C.1.1 C.1.2.1 dT_putFixed_3 rfl hl (by decide) rfl (fun ls hl => ?_)
  exact wT_putFixed_4 C hr hlk hrv FU _ h z pv x1 (x2 - (1 : Int32)) _ _ ls hle (lv_sub hl [1, 2, 0] rfl) hw hf
