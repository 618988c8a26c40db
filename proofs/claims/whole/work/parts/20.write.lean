theorem gw_651 : (Jvm.Cond.classLink "MidiDesk" (131 : Nat) "MidiDesk$Printer") ∈ gw := gw_in 651 (by decide +kernel) (by decide +kernel)
theorem gw_652 : (Jvm.Cond.instantiable "MidiDesk$Printer" (5 : Nat)) ∈ gw := gw_in 652 (by decide +kernel) (by decide +kernel)
theorem gw_653 : (Jvm.Cond.methodLink "MidiDesk" (133 : Nat) ({ cls := "MidiDesk$Printer", name := "<init>", desc := "(LMidiDesk$Score;LMidiDesk$Bytes;Z)V" } : Jvm.MethodName)) ∈ gw := gw_in 653 (by decide +kernel) (by decide +kernel)
theorem gw_654 : (Jvm.Cond.instanceMethod ({ cls := "MidiDesk$Printer", name := "<init>", desc := "(LMidiDesk$Score;LMidiDesk$Bytes;Z)V" } : Jvm.MethodName)) ∈ gw := gw_in 654 (by decide +kernel) (by decide +kernel)
theorem gw_655 : (Jvm.Cond.code ({ cls := "MidiDesk$Printer", name := "<init>", desc := "(LMidiDesk$Score;LMidiDesk$Bytes;Z)V" } : Jvm.MethodName) prog_5_method_1_code (4 : Nat) (Option.none : Option Jvm.ClassFile.FieldType)) ∈ gw := gw_in 655 (by decide +kernel) (by decide +kernel)
theorem gw_673 : (Jvm.Cond.methodLink "MidiDesk" (136 : Nat) ({ cls := "MidiDesk$Printer", name := "print", desc := "(I)V" } : Jvm.MethodName)) ∈ gw := gw_in 673 (by decide +kernel) (by decide +kernel)
theorem gw_674 : (Jvm.Cond.instanceMethod ({ cls := "MidiDesk$Printer", name := "print", desc := "(I)V" } : Jvm.MethodName)) ∈ gw := gw_in 674 (by decide +kernel) (by decide +kernel)
theorem gw_675 : (Jvm.Cond.selects "MidiDesk$Printer" ({ cls := "MidiDesk$Printer", name := "print", desc := "(I)V" } : Jvm.MethodName) ({ cls := "MidiDesk$Printer", name := "print", desc := "(I)V" } : Jvm.MethodName)) ∈ gw := gw_in 675 (by decide +kernel) (by decide +kernel)
theorem gw_676 : (Jvm.Cond.code ({ cls := "MidiDesk$Printer", name := "print", desc := "(I)V" } : Jvm.MethodName) prog_5_method_2_code (4 : Nat) (Option.none : Option Jvm.ClassFile.FieldType)) ∈ gw := gw_in 676 (by decide +kernel) (by decide +kernel)
abbrev cD_write : ByteArray := prog_1_method_12_code
abbrev yD_write : MethodName := ⟨"MidiDesk", "write", "(IZ)I"⟩
theorem kD_write : yD_write.cls ≠ "java/lang/invoke/MethodHandle" ∧ yD_write.cls ≠ "java/lang/invoke/VarHandle" ∧ (parseMethodDescriptor yD_write.desc).map (fun d => d.parameters.length) = some 2 := by decide +kernel
theorem dD_write_0 : decode cD_write 0 = .ok (.aload_n 0, 1) := by decide +kernel
theorem dD_write_1 : decode cD_write 1 = .ok (.invokevirtual 79, 3) := by decide +kernel
theorem dD_write_4 : decode cD_write 4 = .ok (.iload_n 1, 1) := by decide +kernel
theorem dD_write_5 : decode cD_write 5 = .ok (.ifCond .lt 8, 3) := by decide +kernel
theorem dD_write_8 : decode cD_write 8 = .ok (.iload_n 1, 1) := by decide +kernel
theorem dD_write_9 : decode cD_write 9 = .ok (.iconst 2, 1) := by decide +kernel
theorem dD_write_10 : decode cD_write 10 = .ok (.if_icmp .le 13, 3) := by decide +kernel
theorem dD_write_13 : decode cD_write 13 = .ok (.new 95, 3) := by decide +kernel
theorem dD_write_16 : decode cD_write 16 = .ok (.dup, 1) := by decide +kernel
theorem dD_write_17 : decode cD_write 17 = .ok (.ldc 129, 2) := by decide +kernel
theorem dD_write_19 : decode cD_write 19 = .ok (.invokespecial 99, 3) := by decide +kernel
theorem dD_write_22 : decode cD_write 22 = .ok (.athrow, 1) := by decide +kernel
theorem dD_write_23 : decode cD_write 23 = .ok (.new 131, 3) := by decide +kernel
theorem dD_write_26 : decode cD_write 26 = .ok (.dup, 1) := by decide +kernel
theorem dD_write_27 : decode cD_write 27 = .ok (.aload_n 0, 1) := by decide +kernel
theorem dD_write_28 : decode cD_write 28 = .ok (.getfield 24, 3) := by decide +kernel
theorem dD_write_31 : decode cD_write 31 = .ok (.aload_n 0, 1) := by decide +kernel
theorem dD_write_32 : decode cD_write 32 = .ok (.getfield 18, 3) := by decide +kernel
theorem dD_write_35 : decode cD_write 35 = .ok (.iload_n 2, 1) := by decide +kernel
theorem dD_write_36 : decode cD_write 36 = .ok (.invokespecial 133, 3) := by decide +kernel
theorem dD_write_39 : decode cD_write 39 = .ok (.astore_n 3, 1) := by decide +kernel
theorem dD_write_40 : decode cD_write 40 = .ok (.aload_n 3, 1) := by decide +kernel
theorem dD_write_41 : decode cD_write 41 = .ok (.iload_n 1, 1) := by decide +kernel
theorem dD_write_42 : decode cD_write 42 = .ok (.invokevirtual 136, 3) := by decide +kernel
theorem dD_write_45 : decode cD_write 45 = .ok (.aload_n 0, 1) := by decide +kernel
theorem dD_write_46 : decode cD_write 46 = .ok (.getfield 18, 3) := by decide +kernel
theorem dD_write_49 : decode cD_write 49 = .ok (.invokevirtual 28, 3) := by decide +kernel
theorem dD_write_52 : decode cD_write 52 = .ok (.ireturn, 1) := by decide +kernel
abbrev frD_write : Nat := 7
abbrev loD_write : Nat := 175
def fD_write (h : cH) (z : cZ) (x1 x2 : Int32) : Option (Int32 × cH × cZ) := (fD_needList h z).bind fun z1 => if x1 < 0 then none else (if x1 ≤ 2 then (if ¬ (x2 = 0 ∨ x2 = 1) then none else ((fT_print (hC h 1 5) z1 (upd (fun _ => 0) 0 x2) x1).bind fun (h1, z2, _) => (fB1_size h1 z2).bind fun (r1, z3) => some (r1, h1, z3))) else none)
set_option maxHeartbeats 4000000 in
set_option maxRecDepth 100000 in
theorem cD_write_met {l : Launch} {g : gT} {qq ad ea : Nat → Nat} {h h' : cH} {X : va_W} {z z' : cZ} {x1 x2 r' : Int32} (hf : fD_write h z x1 x2 = some (r', h', z')) : cMeA l yD_write cD_write 4 (some .int) frD_write loD_write g qq ad ea h X z [.ref (qq 0), .int x1, .int x2] True (fun ea => some (.int r')) X h' z' := by
  refine c_entryA (by decide) (Nat.le_of_ble_eq_true rfl) ?_
  intro p e s m args below meth c ls C hr hlk hnm hl hw
  have C : mCx p m c cD_write 4 s args g "MidiDesk" := C
  have hl : lv_has ls 4 [(0, .ref (qq 0)), (1, .int x1), (2, .int x2)] := hl
  generalize cA g qq ad ea h X s.heap.size = A0 at hw ⊢
  unfold fD_write at hf
  obtain ⟨z1, g0, hf⟩ := ts_b hf
  dsimp only at hf
  have hn1 : ¬ x1 < 0 := fun w => by rw [if_pos w] at hf; cases hf
  have hf := ts_f hf hn1
  have hn2 : x1 ≤ 2 := by rcases Decidable.em (x1 ≤ 2) with w | w; exact w; rw [if_neg w] at hf; cases hf
  have hf := ts_t hf hn2
  obtain ⟨hz0, hf⟩ := ts_g hf
  have hz := Decidable.not_not.mp hz0
  obtain ⟨⟨h1, z2, pv1⟩, g1, hf⟩ := ts_b hf
  dsimp only at hf
  obtain ⟨⟨r1, z3⟩, g2, hf⟩ := ts_b hf
  have hmp : cle (hC h 1 5) h1 := oT_print g1
  have hm1 : h.2.2.1 + 1 ≤ h1.2.2.1 := hmp.1
  have hm2 : h.2.2.2 + 5 ≤ h1.2.2.2 := hmp.2
  obtain ⟨rfl, rfl, rfl⟩ : r1 = r' ∧ h1 = h' ∧ z3 = z' := by cases hf; exact ⟨rfl, rfl, rfl⟩
  refine lv_aload_n C.1.1 C.1.2.1 dD_write_0 rfl (lv_at hl 0 rfl) ?_
  refine c_callV (rest := []) (As := []) (rv := none) (b := (qq 0)) C hl.1 hw (cD_needList_met g0) rfl (callW_of (rm := rD_needList) (C := "MidiDesk") 0 C.1.2.2.2.2 gw_480 gw_482 gw_18 gw_52 gw_483 kD_needList ⟨(Nat.le_of_ble_eq_true rfl), (Nat.le_of_ble_eq_true rfl)⟩) (c_recv_desk C.2 hw) rfl rfl (Nat.le_of_ble_eq_true rfl) dD_write_1 ⟨by show h.2.2.1 - h.2.2.1 + 0 ≤ h1.2.2.1 - h.2.2.1; omega, by show h.2.2.2 - h.2.2.2 + 0 ≤ h1.2.2.2 - h.2.2.2; omega⟩ (fun H locs hw => ?_)
  refine W.widen (k := h.2.2.1 - h.2.2.1) (n := h.2.2.2 - h.2.2.2) (Nat.le_refl _) (Nat.le_refl _) ?_
  refine W.eq (g2 := F0 m 4 ls []) rfl ?_
  refine lv_iload_n C.1.1 C.1.2.1 dD_write_4 rfl (lv_at hl 1 rfl) ?_
  refine lv_if_lt (tgt := 13) C.1.1 C.1.2.1 dD_write_5 (by decide) (fun w => absurd w hn1) (fun _ => ?_)
  refine lv_iload_n C.1.1 C.1.2.1 dD_write_8 rfl (lv_at hl 1 rfl) ?_
  refine lv_iconst (v := (2 : Int32)) C.1.1 C.1.2.1 dD_write_9 (by decide) ?_
  refine lv_icmp_le (tgt := 23) C.1.1 C.1.2.1 dD_write_10 (by decide) (fun _ => ?_) (fun w => absurd hn2 w)
  refine va_new (ci := 3) (fs := [.null, .null, .int 0, .int 0, .int 0]) (C := R_Printer) (T := F_Printer) (N := 5) C.1.1 C.1.2.1 C.1.2.2.2.2 i_Printer t_Printer t_Printer_ok C.1.2.2.2.1 (C.1.2.2.2.2 _ gw_651) (C.1.2.2.2.2 _ gw_652) (C.1.2.2.2.2 _ gw_66) C.2.1 hw.1 hw.2.1 hw.2.2.1 hw.2.2.2 rfl (fun j hj => by rcases (show j = 0 ∨ j = 1 ∨ j = 2 ∨ j = 3 ∨ j = 4 by omega) with rfl | rfl | rfl | rfl | rfl <;> rfl) (by show _ ≤ h1.2.2.1 - h.2.2.1; omega) (by show _ ≤ h1.2.2.2 - h.2.2.2; omega) dD_write_23 (fun qp H hP hD hS => ?_)
  have hw : cWd g A0 s.heap qq ad ea (hC h 1 5) ((qp, .inr (3, [.null, .null, .int 0, .int 0, .int 0])) :: X) z1 H _ := ⟨cw_pushP hP, cw_pushD hD, hS, hw.2.2.2⟩
  refine W.widen (k := h.2.2.1 + 1 - h.2.2.1) (n := h.2.2.2 + 5 - h.2.2.2) (by omega) (by omega) ?_
  refine lv_dup C.1.1 C.1.2.1 dD_write_26 rfl ?_
  refine lv_aload_n C.1.1 C.1.2.1 dD_write_27 rfl (lv_at hl 0 rfl) ?_
  refine cg_Desk_Desk_score C hw dD_write_28 ?_
  refine lv_aload_n C.1.1 C.1.2.1 dD_write_31 rfl (lv_at hl 0 rfl) ?_
  refine cg_Desk_Desk_output C hw dD_write_32 ?_
  refine lv_iload_n C.1.1 C.1.2.1 dD_write_35 rfl (lv_at hl 2 rfl) ?_
  refine c_callI (rest := [.ref qp]) (As := [.ref (qq 4), .ref (qq 2), .int x2]) (b := qp) C hl.1 hw (cT_init_met hz) rfl gw_653 gw_654 gw_66 gw_655 rfl kT_init ⟨(Nat.le_of_ble_eq_true rfl), (Nat.le_of_ble_eq_true rfl)⟩ rfl rfl (Nat.le_of_ble_eq_true rfl) dD_write_36 ⟨by show h.2.2.1 + 1 - h.2.2.1 + 0 ≤ h1.2.2.1 - h.2.2.1; omega, by show h.2.2.2 + 5 - h.2.2.2 + 0 ≤ h1.2.2.2 - h.2.2.2; omega⟩ (fun H locs hw => ?_)
  refine lv_astore_n (lv' := [(3, .ref qp), (0, .ref (qq 0)), (1, .int x1), (2, .int x2)]) C.1.1 C.1.2.1 dD_write_39 rfl hl (by decide) rfl (fun ls hl => ?_)
  refine lv_aload_n C.1.1 C.1.2.1 dD_write_40 rfl (lv_at hl 0 rfl) ?_
  refine lv_iload_n C.1.1 C.1.2.1 dD_write_41 rfl (lv_at hl 2 rfl) ?_
  refine W.widen (k := h.2.2.1 + 1 - h.2.2.1) (n := h.2.2.2 + 5 - h.2.2.2) (Nat.le_refl _) (Nat.le_refl _) ?_
  refine c_callAA (rest := []) (As := [.int x1]) (rv := fun ea => none) (b := qp) C hl.1 hw (cT_print_met g1) (callW_of (rm := rmA frT_print loT_print (hC h 1 5) h1) (C := "MidiDesk$Printer") 1 C.1.2.2.2.2 gw_673 gw_674 gw_675 gw_66 gw_676 kT_print ⟨(Nat.le_of_ble_eq_true rfl), (Nat.le_of_ble_eq_true rfl)⟩) (c_recvX (ci := 3) C.2 rfl hw) rfl rfl (Nat.le_of_ble_eq_true rfl) dD_write_42 ⟨by show h.2.2.1 + 1 - h.2.2.1 + (h1.2.2.1 - (h.2.2.1 + 1)) ≤ h1.2.2.1 - h.2.2.1; omega, by show h.2.2.2 + 5 - h.2.2.2 + (h1.2.2.2 - (h.2.2.2 + 5)) ≤ h1.2.2.2 - h.2.2.2; omega⟩ (fun ad H locs hw => ?_)
  refine W.widen (k := h1.2.2.1 - h.2.2.1) (n := h1.2.2.2 - h.2.2.2) (by show h.2.2.1 + 1 - h.2.2.1 + (h1.2.2.1 - (h.2.2.1 + 1)) ≤ _; omega) (by show h.2.2.2 + 5 - h.2.2.2 + (h1.2.2.2 - (h.2.2.2 + 5)) ≤ _; omega) ?_
  refine W.eq (g2 := F0 m 45 ls []) rfl ?_
  refine lv_aload_n C.1.1 C.1.2.1 dD_write_45 rfl (lv_at hl 1 rfl) ?_
  refine cg_Desk_Desk_output C hw dD_write_46 ?_
  refine c_callV (rest := []) (As := []) (rv := some (.int r1)) (b := (qq 2)) C hl.1 hw (cB1_size_met g2) rfl (callW_of (rm := rB1_size) (C := "MidiDesk$Bytes") 0 C.1.2.2.2.2 gw_155 gw_156 gw_157 gw_53 gw_158 kB1_size ⟨(Nat.le_of_ble_eq_true rfl), (Nat.le_of_ble_eq_true rfl)⟩) (c_recv_B1 C.2 hw) rfl rfl (Nat.le_of_ble_eq_true rfl) dD_write_49 ⟨Nat.le_refl _, Nat.le_refl _⟩ (fun H locs hw => ?_)
  refine W.eq (g2 := F0 m 52 ls [.int r1]) rfl ?_
  have hw := cw_drop hw
  exact c_retAi (r := r1) C hr hlk rfl (fun _ => rfl) hw rfl rfl ⟨Nat.le_refl _, Nat.le_refl _⟩ dD_write_52
