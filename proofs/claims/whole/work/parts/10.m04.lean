abbrev cM_isTempo : ByteArray := prog_8_method_16_code
abbrev yM_isTempo : MethodName := ⟨"MidiDeskModel", "isTempo", "(I)Z"⟩
theorem kM_isTempo : yM_isTempo.cls ≠ "java/lang/invoke/MethodHandle" ∧ yM_isTempo.cls ≠ "java/lang/invoke/VarHandle" ∧ (parseMethodDescriptor yM_isTempo.desc).map (fun d => d.parameters.length) = some 1 := by decide +kernel
abbrev rM_isTempo : Room := { frames := 0, cells := 0, slots := 0, locals := 0 }
theorem dM_isTempo_0 : decode cM_isTempo 0 = .ok (.aload_n 0, 1) := by decide +kernel
theorem dM_isTempo_1 : decode cM_isTempo 1 = .ok (.getfield 19, 3) := by decide +kernel
theorem dM_isTempo_4 : decode cM_isTempo 4 = .ok (.iload_n 1, 1) := by decide +kernel
theorem dM_isTempo_5 : decode cM_isTempo 5 = .ok (.iaload, 1) := by decide +kernel
theorem dM_isTempo_6 : decode cM_isTempo 6 = .ok (.sipush 255, 3) := by decide +kernel
theorem dM_isTempo_9 : decode cM_isTempo 9 = .ok (.if_icmp .ne 18, 3) := by decide +kernel
theorem dM_isTempo_12 : decode cM_isTempo 12 = .ok (.aload_n 0, 1) := by decide +kernel
theorem dM_isTempo_13 : decode cM_isTempo 13 = .ok (.getfield 22, 3) := by decide +kernel
theorem dM_isTempo_16 : decode cM_isTempo 16 = .ok (.iload_n 1, 1) := by decide +kernel
theorem dM_isTempo_17 : decode cM_isTempo 17 = .ok (.iaload, 1) := by decide +kernel
theorem dM_isTempo_18 : decode cM_isTempo 18 = .ok (.bipush 81, 2) := by decide +kernel
theorem dM_isTempo_20 : decode cM_isTempo 20 = .ok (.if_icmp .ne 7, 3) := by decide +kernel
theorem dM_isTempo_23 : decode cM_isTempo 23 = .ok (.iconst 1, 1) := by decide +kernel
theorem dM_isTempo_24 : decode cM_isTempo 24 = .ok (.goto 4, 3) := by decide +kernel
theorem dM_isTempo_27 : decode cM_isTempo 27 = .ok (.iconst 0, 1) := by decide +kernel
theorem dM_isTempo_28 : decode cM_isTempo 28 = .ok (.ireturn, 1) := by decide +kernel
def fM_isTempo (iv : Nat → Int32) (av : Nat → Nat → Int32) (x1 : Int32) : Option (Int32 × (Nat → Int32) × (Nat → Nat → Int32)) := if x1 < 0 ∨ 1001 ≤ x1.toNatClampNeg then none else (if (av 3 x1.toNatClampNeg) = (255 : Int32) then (if x1 < 0 ∨ 1001 ≤ x1.toNatClampNeg then none else (if (av 4 x1.toNatClampNeg) = (81 : Int32) then (some ((1 : Int32), iv, av)) else (some ((0 : Int32), iv, av)))) else (some ((0 : Int32), iv, av)))
set_option maxHeartbeats 4000000 in
set_option maxRecDepth 100000 in
theorem cM_isTempo_met {l : Launch} {g : gT} {q : Nat} {ad : Nat → Nat} {X : va_W} {iv iv' : Nat → Int32} {av av' : Nat → Nat → Int32} {x1 : Int32} {r' : Int32} (hf : fM_isTempo iv av x1 = some (r', iv', av')) : mMet l yM_isTempo cM_isTempo 2 (some .boolean) rM_isTempo g q ad X iv av [.ref q, .int x1] (some (.int r')) iv' av' := by
  refine m_entry (by decide) (Nat.le_of_ble_eq_true rfl) ?_
  intro p e s m args below meth c ls C hr hlk hnm hl hw
  have hrv : ((some (.int r')) : Option Value) = (some (.int r')) := rfl
  have C : mCx p m c cM_isTempo 2 s args g "MidiDeskModel" := C
  have hl : lv_has ls 2 [(0, .ref q), (1, .int x1)] := hl
  unfold fM_isTempo at hf
  refine lv_aload_n C.1.1 C.1.2.1 dM_isTempo_0 rfl (lv_at hl 0 rfl) ?_
  refine mg_status C hw dM_isTempo_1 ?_
  refine lv_iload_n C.1.1 C.1.2.1 dM_isTempo_4 rfl (lv_at hl 1 rfl) ?_
  obtain ⟨h1, hf⟩ := ts_g hf
  refine ma_status C hw h1 dM_isTempo_5 ?_
  refine lv_sipush (v := (255 : Int32)) C.1.1 C.1.2.1 dM_isTempo_6 (by decide) ?_
  refine lv_icmp_ne (tgt := 27) C.1.1 C.1.2.1 dM_isTempo_9 (by decide) (fun c2 => ?_) (fun c2 => ?_)
  · have hf := ts_f hf c2
    refine lv_iconst (v := (0 : Int32)) C.1.1 C.1.2.1 dM_isTempo_27 (by decide) ?_
    exact m_retz C hr hlk hrv hw (Or.inl rfl) hf ⟨Nat.le_of_ble_eq_true rfl, Nat.le_of_ble_eq_true rfl⟩ dM_isTempo_28
  · have hf := ts_t hf c2
    refine lv_aload_n C.1.1 C.1.2.1 dM_isTempo_12 rfl (lv_at hl 0 rfl) ?_
    refine mg_first C hw dM_isTempo_13 ?_
    refine lv_iload_n C.1.1 C.1.2.1 dM_isTempo_16 rfl (lv_at hl 1 rfl) ?_
    obtain ⟨h3, hf⟩ := ts_g hf
    refine ma_first C hw h3 dM_isTempo_17 ?_
    refine lv_bipush (v := (81 : Int32)) C.1.1 C.1.2.1 dM_isTempo_18 (by decide) ?_
    refine lv_icmp_ne (tgt := 27) C.1.1 C.1.2.1 dM_isTempo_20 (by decide) (fun c4 => ?_) (fun c4 => ?_)
    · have hf := ts_f hf c4
      refine lv_iconst (v := (0 : Int32)) C.1.1 C.1.2.1 dM_isTempo_27 (by decide) ?_
      exact m_retz C hr hlk hrv hw (Or.inl rfl) hf ⟨Nat.le_of_ble_eq_true rfl, Nat.le_of_ble_eq_true rfl⟩ dM_isTempo_28
    · have hf := ts_t hf c4
      refine lv_iconst (v := (1 : Int32)) C.1.1 C.1.2.1 dM_isTempo_23 (by decide) ?_
      refine lv_goto (tgt := 28) C.1.1 C.1.2.1 dM_isTempo_24 (by decide) ?_
      exact m_retz C hr hlk hrv hw (Or.inr rfl) hf ⟨Nat.le_of_ble_eq_true rfl, Nat.le_of_ble_eq_true rfl⟩ dM_isTempo_28
abbrev cM_has : ByteArray := prog_8_method_20_code
abbrev yM_has : MethodName := ⟨"MidiDeskModel", "has", "(I)Z"⟩
theorem kM_has : yM_has.cls ≠ "java/lang/invoke/MethodHandle" ∧ yM_has.cls ≠ "java/lang/invoke/VarHandle" ∧ (parseMethodDescriptor yM_has.desc).map (fun d => d.parameters.length) = some 1 := by decide +kernel
abbrev rM_has : Room := { frames := 0, cells := 0, slots := 0, locals := 0 }
theorem dM_has_0 : decode cM_has 0 = .ok (.aload_n 0, 1) := by decide +kernel
theorem dM_has_1 : decode cM_has 1 = .ok (.getfield 110, 3) := by decide +kernel
theorem dM_has_4 : decode cM_has 4 = .ok (.ifCond .eq 19, 3) := by decide +kernel
theorem dM_has_7 : decode cM_has 7 = .ok (.iload_n 1, 1) := by decide +kernel
theorem dM_has_8 : decode cM_has 8 = .ok (.ifCond .lt 15, 3) := by decide +kernel
theorem dM_has_11 : decode cM_has 11 = .ok (.iload_n 1, 1) := by decide +kernel
theorem dM_has_12 : decode cM_has 12 = .ok (.aload_n 0, 1) := by decide +kernel
theorem dM_has_13 : decode cM_has 13 = .ok (.getfield 95, 3) := by decide +kernel
theorem dM_has_16 : decode cM_has 16 = .ok (.if_icmp .ge 7, 3) := by decide +kernel
theorem dM_has_19 : decode cM_has 19 = .ok (.iconst 1, 1) := by decide +kernel
theorem dM_has_20 : decode cM_has 20 = .ok (.goto 4, 3) := by decide +kernel
theorem dM_has_23 : decode cM_has 23 = .ok (.iconst 0, 1) := by decide +kernel
theorem dM_has_24 : decode cM_has 24 = .ok (.ireturn, 1) := by decide +kernel
def fM_has (iv : Nat → Int32) (av : Nat → Nat → Int32) (x1 : Int32) : Option (Int32 × (Nat → Int32) × (Nat → Nat → Int32)) := if (iv 6) = 0 then (some ((0 : Int32), iv, av)) else (if x1 < 0 then (some ((0 : Int32), iv, av)) else (if (iv 10) ≤ x1 then (some ((0 : Int32), iv, av)) else (some ((1 : Int32), iv, av))))
set_option maxHeartbeats 4000000 in
set_option maxRecDepth 100000 in
theorem cM_has_met {l : Launch} {g : gT} {q : Nat} {ad : Nat → Nat} {X : va_W} {iv iv' : Nat → Int32} {av av' : Nat → Nat → Int32} {x1 : Int32} {r' : Int32} (hf : fM_has iv av x1 = some (r', iv', av')) : mMet l yM_has cM_has 2 (some .boolean) rM_has g q ad X iv av [.ref q, .int x1] (some (.int r')) iv' av' := by
  refine m_entry (by decide) (Nat.le_of_ble_eq_true rfl) ?_
  intro p e s m args below meth c ls C hr hlk hnm hl hw
  have hrv : ((some (.int r')) : Option Value) = (some (.int r')) := rfl
  have C : mCx p m c cM_has 2 s args g "MidiDeskModel" := C
  have hl : lv_has ls 2 [(0, .ref q), (1, .int x1)] := hl
  unfold fM_has at hf
  refine lv_aload_n C.1.1 C.1.2.1 dM_has_0 rfl (lv_at hl 0 rfl) ?_
  refine mg_there C hw dM_has_1 ?_
  refine lv_if_eq (tgt := 23) C.1.1 C.1.2.1 dM_has_4 (by decide) (fun c1 => ?_) (fun c1 => ?_)
  · have hf := ts_t hf c1
    refine lv_iconst (v := (0 : Int32)) C.1.1 C.1.2.1 dM_has_23 (by decide) ?_
    exact m_retz C hr hlk hrv hw (Or.inl rfl) hf ⟨Nat.le_of_ble_eq_true rfl, Nat.le_of_ble_eq_true rfl⟩ dM_has_24
  · have hf := ts_f hf c1
    refine lv_iload_n C.1.1 C.1.2.1 dM_has_7 rfl (lv_at hl 1 rfl) ?_
    refine lv_if_lt (tgt := 23) C.1.1 C.1.2.1 dM_has_8 (by decide) (fun c2 => ?_) (fun c2 => ?_)
    · have hf := ts_t hf c2
      refine lv_iconst (v := (0 : Int32)) C.1.1 C.1.2.1 dM_has_23 (by decide) ?_
      exact m_retz C hr hlk hrv hw (Or.inl rfl) hf ⟨Nat.le_of_ble_eq_true rfl, Nat.le_of_ble_eq_true rfl⟩ dM_has_24
    · have hf := ts_f hf c2
      refine lv_iload_n C.1.1 C.1.2.1 dM_has_11 rfl (lv_at hl 1 rfl) ?_
      refine lv_aload_n C.1.1 C.1.2.1 dM_has_12 rfl (lv_at hl 0 rfl) ?_
      refine mg_events C hw dM_has_13 ?_
      refine lv_icmp_ge (tgt := 23) C.1.1 C.1.2.1 dM_has_16 (by decide) (fun c3 => ?_) (fun c3 => ?_)
      · have hf := ts_t hf c3
        refine lv_iconst (v := (0 : Int32)) C.1.1 C.1.2.1 dM_has_23 (by decide) ?_
        exact m_retz C hr hlk hrv hw (Or.inl rfl) hf ⟨Nat.le_of_ble_eq_true rfl, Nat.le_of_ble_eq_true rfl⟩ dM_has_24
      · have hf := ts_f hf c3
        refine lv_iconst (v := (1 : Int32)) C.1.1 C.1.2.1 dM_has_19 (by decide) ?_
        refine lv_goto (tgt := 24) C.1.1 C.1.2.1 dM_has_20 (by decide) ?_
        exact m_retz C hr hlk hrv hw (Or.inr rfl) hf ⟨Nat.le_of_ble_eq_true rfl, Nat.le_of_ble_eq_true rfl⟩ dM_has_24
abbrev cM_event : ByteArray := prog_8_method_21_code
abbrev yM_event : MethodName := ⟨"MidiDeskModel", "event", "(II)I"⟩
theorem kM_event : yM_event.cls ≠ "java/lang/invoke/MethodHandle" ∧ yM_event.cls ≠ "java/lang/invoke/VarHandle" ∧ (parseMethodDescriptor yM_event.desc).map (fun d => d.parameters.length) = some 2 := by decide +kernel
abbrev rM_event : Room := { frames := 1, cells := 0, slots := 0, locals := 21 }
theorem dM_event_0 : decode cM_event 0 = .ok (.aload_n 0, 1) := by decide +kernel
theorem dM_event_1 : decode cM_event 1 = .ok (.iconst 0, 1) := by decide +kernel
theorem dM_event_2 : decode cM_event 2 = .ok (.putfield 47, 3) := by decide +kernel
theorem dM_event_5 : decode cM_event 5 = .ok (.aload_n 0, 1) := by decide +kernel
theorem dM_event_6 : decode cM_event 6 = .ok (.iload_n 1, 1) := by decide +kernel
theorem dM_event_7 : decode cM_event 7 = .ok (.invokevirtual 144, 3) := by decide +kernel
theorem dM_event_10 : decode cM_event 10 = .ok (.ifCond .ne 5, 3) := by decide +kernel
theorem dM_event_13 : decode cM_event 13 = .ok (.iconst (-1), 1) := by decide +kernel
theorem dM_event_14 : decode cM_event 14 = .ok (.ireturn, 1) := by decide +kernel
theorem dM_event_15 : decode cM_event 15 = .ok (.aload_n 0, 1) := by decide +kernel
theorem dM_event_16 : decode cM_event 16 = .ok (.getfield 34, 3) := by decide +kernel
theorem dM_event_19 : decode cM_event 19 = .ok (.iload_n 1, 1) := by decide +kernel
theorem dM_event_20 : decode cM_event 20 = .ok (.iaload, 1) := by decide +kernel
theorem dM_event_21 : decode cM_event 21 = .ok (.istore_n 3, 1) := by decide +kernel
theorem dM_event_22 : decode cM_event 22 = .ok (.iload_n 2, 1) := by decide +kernel
theorem dM_event_23 : decode cM_event 23 = .ok (.tableswitch 79 0 5 #[37, 44, 51, 58, 65, 72], 37) := by decide +kernel
theorem dM_event_60 : decode cM_event 60 = .ok (.aload_n 0, 1) := by decide +kernel
theorem dM_event_61 : decode cM_event 61 = .ok (.getfield 13, 3) := by decide +kernel
theorem dM_event_64 : decode cM_event 64 = .ok (.iload_n 3, 1) := by decide +kernel
theorem dM_event_65 : decode cM_event 65 = .ok (.iaload, 1) := by decide +kernel
theorem dM_event_66 : decode cM_event 66 = .ok (.ireturn, 1) := by decide +kernel
theorem dM_event_67 : decode cM_event 67 = .ok (.aload_n 0, 1) := by decide +kernel
theorem dM_event_68 : decode cM_event 68 = .ok (.getfield 16, 3) := by decide +kernel
theorem dM_event_71 : decode cM_event 71 = .ok (.iload_n 3, 1) := by decide +kernel
theorem dM_event_72 : decode cM_event 72 = .ok (.iaload, 1) := by decide +kernel
theorem dM_event_73 : decode cM_event 73 = .ok (.ireturn, 1) := by decide +kernel
theorem dM_event_74 : decode cM_event 74 = .ok (.aload_n 0, 1) := by decide +kernel
theorem dM_event_75 : decode cM_event 75 = .ok (.getfield 19, 3) := by decide +kernel
theorem dM_event_78 : decode cM_event 78 = .ok (.iload_n 3, 1) := by decide +kernel
theorem dM_event_79 : decode cM_event 79 = .ok (.iaload, 1) := by decide +kernel
theorem dM_event_80 : decode cM_event 80 = .ok (.ireturn, 1) := by decide +kernel
theorem dM_event_81 : decode cM_event 81 = .ok (.aload_n 0, 1) := by decide +kernel
theorem dM_event_82 : decode cM_event 82 = .ok (.getfield 22, 3) := by decide +kernel
theorem dM_event_85 : decode cM_event 85 = .ok (.iload_n 3, 1) := by decide +kernel
theorem dM_event_86 : decode cM_event 86 = .ok (.iaload, 1) := by decide +kernel
theorem dM_event_87 : decode cM_event 87 = .ok (.ireturn, 1) := by decide +kernel
theorem dM_event_88 : decode cM_event 88 = .ok (.aload_n 0, 1) := by decide +kernel
theorem dM_event_89 : decode cM_event 89 = .ok (.getfield 25, 3) := by decide +kernel
theorem dM_event_92 : decode cM_event 92 = .ok (.iload_n 3, 1) := by decide +kernel
theorem dM_event_93 : decode cM_event 93 = .ok (.iaload, 1) := by decide +kernel
theorem dM_event_94 : decode cM_event 94 = .ok (.ireturn, 1) := by decide +kernel
theorem dM_event_95 : decode cM_event 95 = .ok (.aload_n 0, 1) := by decide +kernel
theorem dM_event_96 : decode cM_event 96 = .ok (.getfield 31, 3) := by decide +kernel
theorem dM_event_99 : decode cM_event 99 = .ok (.iload_n 3, 1) := by decide +kernel
theorem dM_event_100 : decode cM_event 100 = .ok (.iaload, 1) := by decide +kernel
theorem dM_event_101 : decode cM_event 101 = .ok (.ireturn, 1) := by decide +kernel
theorem dM_event_102 : decode cM_event 102 = .ok (.iconst (-1), 1) := by decide +kernel
theorem dM_event_103 : decode cM_event 103 = .ok (.ireturn, 1) := by decide +kernel
def fM_event (iv : Nat → Int32) (av : Nat → Nat → Int32) (x1 : Int32) (x2 : Int32) : Option (Int32 × (Nat → Int32) × (Nat → Nat → Int32)) := (fM_has (upd iv 0 (0 : Int32)) av x1).bind fun (r1, iv1, av1) => if r1 = 0 then (some ((-1 : Int32), iv1, av1)) else (if x1 < 0 ∨ 1001 ≤ x1.toNatClampNeg then none else (if x2 = 0 then (if (av1 8 x1.toNatClampNeg) < 0 ∨ 1001 ≤ (av1 8 x1.toNatClampNeg).toNatClampNeg then none else (some (av1 1 (av1 8 x1.toNatClampNeg).toNatClampNeg, iv1, av1))) else (if x2 = 1 then (if (av1 8 x1.toNatClampNeg) < 0 ∨ 1001 ≤ (av1 8 x1.toNatClampNeg).toNatClampNeg then none else (some (av1 2 (av1 8 x1.toNatClampNeg).toNatClampNeg, iv1, av1))) else (if x2 = 2 then (if (av1 8 x1.toNatClampNeg) < 0 ∨ 1001 ≤ (av1 8 x1.toNatClampNeg).toNatClampNeg then none else (some (av1 3 (av1 8 x1.toNatClampNeg).toNatClampNeg, iv1, av1))) else (if x2 = 3 then (if (av1 8 x1.toNatClampNeg) < 0 ∨ 1001 ≤ (av1 8 x1.toNatClampNeg).toNatClampNeg then none else (some (av1 4 (av1 8 x1.toNatClampNeg).toNatClampNeg, iv1, av1))) else (if x2 = 4 then (if (av1 8 x1.toNatClampNeg) < 0 ∨ 1001 ≤ (av1 8 x1.toNatClampNeg).toNatClampNeg then none else (some (av1 5 (av1 8 x1.toNatClampNeg).toNatClampNeg, iv1, av1))) else (if x2 = 5 then (if (av1 8 x1.toNatClampNeg) < 0 ∨ 1001 ≤ (av1 8 x1.toNatClampNeg).toNatClampNeg then none else (some (av1 7 (av1 8 x1.toNatClampNeg).toNatClampNeg, iv1, av1))) else (some ((-1 : Int32), iv1, av1)))))))))
set_option maxHeartbeats 4000000 in
set_option maxRecDepth 100000 in
theorem cM_event_met {l : Launch} {g : gT} {q : Nat} {ad : Nat → Nat} {X : va_W} {iv iv' : Nat → Int32} {av av' : Nat → Nat → Int32} {x1 : Int32} {x2 : Int32} {r' : Int32} (hf : fM_event iv av x1 x2 = some (r', iv', av')) : mMet l yM_event cM_event 4 (some .int) rM_event g q ad X iv av [.ref q, .int x1, .int x2] (some (.int r')) iv' av' := by
  refine m_entry (by decide) (Nat.le_of_ble_eq_true rfl) ?_
  intro p e s m args below meth c ls C hr hlk hnm hl hw
  have hrv : ((some (.int r')) : Option Value) = (some (.int r')) := rfl
  have C : mCx p m c cM_event 4 s args g "MidiDeskModel" := C
  have hl : lv_has ls 4 [(0, .ref q), (1, .int x1), (2, .int x2)] := hl
  unfold fM_event at hf
  refine lv_aload_n C.1.1 C.1.2.1 dM_event_0 rfl (lv_at hl 0 rfl) ?_
  refine lv_iconst (v := (0 : Int32)) C.1.1 C.1.2.1 dM_event_1 (by decide) ?_
  refine mp_thrown C hw dM_event_2 (fun H locs hw => ?_)
  refine lv_aload_n C.1.1 C.1.2.1 dM_event_5 rfl (lv_at hl 0 rfl) ?_
  refine lv_iload_n C.1.1 C.1.2.1 dM_event_6 rfl (lv_at hl 1 rfl) ?_
  obtain ⟨⟨r1, iv1, av1⟩, g1, hf⟩ := ts_b hf
  dsimp only at hf
  refine m_callV (rest := []) (As := [.int x1]) (rv := (some (.int r1))) C hl.1 hw (cM_has_met g1) (callW_of (rm := rM_has) 1 C.1.2.2.2.2 gw_864 gw_866 gw_38 gw_55 gw_867 kM_has ⟨Nat.le_of_ble_eq_true rfl, Nat.le_of_ble_eq_true rfl⟩) rfl rfl (Nat.le_of_ble_eq_true rfl) dM_event_7 ⟨Nat.le_of_ble_eq_true rfl, Nat.le_of_ble_eq_true rfl⟩ (fun H locs hw => ?_)
  refine W.eq (g2 := F0 m 10 ls [.int r1]) rfl ?_
  refine lv_if_ne (tgt := 15) C.1.1 C.1.2.1 dM_event_10 (by decide) (fun c2 => ?_) (fun c2 => ?_)
  · have hf := ts_f hf c2
    refine lv_aload_n C.1.1 C.1.2.1 dM_event_15 rfl (lv_at hl 0 rfl) ?_
    refine mg_order C hw dM_event_16 ?_
    refine lv_iload_n C.1.1 C.1.2.1 dM_event_19 rfl (lv_at hl 1 rfl) ?_
    obtain ⟨h3, hf⟩ := ts_g hf
    refine ma_order C hw h3 dM_event_20 ?_
    refine lv_istore_n (lv' := [(3, .int (av1 8 x1.toNatClampNeg)), (0, .ref q), (1, .int x1), (2, .int x2)]) C.1.1 C.1.2.1 dM_event_21 rfl hl (by decide) rfl (fun ls hl => ?_)
    refine lv_iload_n C.1.1 C.1.2.1 dM_event_22 rfl (lv_at hl 3 rfl) ?_
    rcases Decidable.em (x2 = 0) with c4 | c4
    · have hf := ts_t hf c4
      refine lv_tableIn (off := 37) (tgt := 60) C.1.1 C.1.2.1 dM_event_23 (by rw [c4]; decide) (by rw [c4]; decide) (by rw [c4]; decide) (by decide) ?_
      refine lv_aload_n C.1.1 C.1.2.1 dM_event_60 rfl (lv_at hl 1 rfl) ?_
      refine mg_ticks C hw dM_event_61 ?_
      refine lv_iload_n C.1.1 C.1.2.1 dM_event_64 rfl (lv_at hl 0 rfl) ?_
      obtain ⟨h5, hf⟩ := ts_g hf
      refine ma_ticks C hw h5 dM_event_65 ?_
      exact m_reti C hr hlk hrv hw hf ⟨Nat.le_of_ble_eq_true rfl, Nat.le_of_ble_eq_true rfl⟩ dM_event_66
    have hf := ts_f hf c4
    rcases Decidable.em (x2 = 1) with c6 | c6
    · have hf := ts_t hf c6
      refine lv_tableIn (off := 44) (tgt := 67) C.1.1 C.1.2.1 dM_event_23 (by rw [c6]; decide) (by rw [c6]; decide) (by rw [c6]; decide) (by decide) ?_
      refine lv_aload_n C.1.1 C.1.2.1 dM_event_67 rfl (lv_at hl 1 rfl) ?_
      refine mg_trackOf C hw dM_event_68 ?_
      refine lv_iload_n C.1.1 C.1.2.1 dM_event_71 rfl (lv_at hl 0 rfl) ?_
      obtain ⟨h7, hf⟩ := ts_g hf
      refine ma_trackOf C hw h7 dM_event_72 ?_
      exact m_reti C hr hlk hrv hw hf ⟨Nat.le_of_ble_eq_true rfl, Nat.le_of_ble_eq_true rfl⟩ dM_event_73
    have hf := ts_f hf c6
    rcases Decidable.em (x2 = 2) with c8 | c8
    · have hf := ts_t hf c8
      refine lv_tableIn (off := 51) (tgt := 74) C.1.1 C.1.2.1 dM_event_23 (by rw [c8]; decide) (by rw [c8]; decide) (by rw [c8]; decide) (by decide) ?_
      refine lv_aload_n C.1.1 C.1.2.1 dM_event_74 rfl (lv_at hl 1 rfl) ?_
      refine mg_status C hw dM_event_75 ?_
      refine lv_iload_n C.1.1 C.1.2.1 dM_event_78 rfl (lv_at hl 0 rfl) ?_
      obtain ⟨h9, hf⟩ := ts_g hf
      refine ma_status C hw h9 dM_event_79 ?_
      exact m_reti C hr hlk hrv hw hf ⟨Nat.le_of_ble_eq_true rfl, Nat.le_of_ble_eq_true rfl⟩ dM_event_80
    have hf := ts_f hf c8
    rcases Decidable.em (x2 = 3) with c10 | c10
    · have hf := ts_t hf c10
      refine lv_tableIn (off := 58) (tgt := 81) C.1.1 C.1.2.1 dM_event_23 (by rw [c10]; decide) (by rw [c10]; decide) (by rw [c10]; decide) (by decide) ?_
      refine lv_aload_n C.1.1 C.1.2.1 dM_event_81 rfl (lv_at hl 1 rfl) ?_
      refine mg_first C hw dM_event_82 ?_
      refine lv_iload_n C.1.1 C.1.2.1 dM_event_85 rfl (lv_at hl 0 rfl) ?_
      obtain ⟨h11, hf⟩ := ts_g hf
      refine ma_first C hw h11 dM_event_86 ?_
      exact m_reti C hr hlk hrv hw hf ⟨Nat.le_of_ble_eq_true rfl, Nat.le_of_ble_eq_true rfl⟩ dM_event_87
    have hf := ts_f hf c10
    rcases Decidable.em (x2 = 4) with c12 | c12
    · have hf := ts_t hf c12
      refine lv_tableIn (off := 65) (tgt := 88) C.1.1 C.1.2.1 dM_event_23 (by rw [c12]; decide) (by rw [c12]; decide) (by rw [c12]; decide) (by decide) ?_
      refine lv_aload_n C.1.1 C.1.2.1 dM_event_88 rfl (lv_at hl 1 rfl) ?_
      refine mg_second C hw dM_event_89 ?_
      refine lv_iload_n C.1.1 C.1.2.1 dM_event_92 rfl (lv_at hl 0 rfl) ?_
      obtain ⟨h13, hf⟩ := ts_g hf
      refine ma_second C hw h13 dM_event_93 ?_
      exact m_reti C hr hlk hrv hw hf ⟨Nat.le_of_ble_eq_true rfl, Nat.le_of_ble_eq_true rfl⟩ dM_event_94
    have hf := ts_f hf c12
    rcases Decidable.em (x2 = 5) with c14 | c14
    · have hf := ts_t hf c14
      refine lv_tableIn (off := 72) (tgt := 95) C.1.1 C.1.2.1 dM_event_23 (by rw [c14]; decide) (by rw [c14]; decide) (by rw [c14]; decide) (by decide) ?_
      refine lv_aload_n C.1.1 C.1.2.1 dM_event_95 rfl (lv_at hl 1 rfl) ?_
      refine mg_counts C hw dM_event_96 ?_
      refine lv_iload_n C.1.1 C.1.2.1 dM_event_99 rfl (lv_at hl 0 rfl) ?_
      obtain ⟨h15, hf⟩ := ts_g hf
      refine ma_counts C hw h15 dM_event_100 ?_
      exact m_reti C hr hlk hrv hw hf ⟨Nat.le_of_ble_eq_true rfl, Nat.le_of_ble_eq_true rfl⟩ dM_event_101
    have hf := ts_f hf c14
    refine lv_tableOut (tgt := 102) C.1.1 C.1.2.1 dM_event_23 (by have c4n := lv_neT (a := 0) c4 (by decide); have c6n := lv_neT (a := 1) c6 (by decide); have c8n := lv_neT (a := 2) c8 (by decide); have c10n := lv_neT (a := 3) c10 (by decide); have c12n := lv_neT (a := 4) c12 (by decide); have c14n := lv_neT (a := 5) c14 (by decide); omega) (by decide) ?_
    refine lv_iconst (v := (-1 : Int32)) C.1.1 C.1.2.1 dM_event_102 (by decide) ?_
    exact m_reti C hr hlk hrv hw hf ⟨Nat.le_of_ble_eq_true rfl, Nat.le_of_ble_eq_true rfl⟩ dM_event_103
  · have hf := ts_t hf c2
    refine lv_iconst (v := (-1 : Int32)) C.1.1 C.1.2.1 dM_event_13 (by decide) ?_
    exact m_reti C hr hlk hrv hw hf ⟨Nat.le_of_ble_eq_true rfl, Nat.le_of_ble_eq_true rfl⟩ dM_event_14
abbrev cM_byteOf : ByteArray := prog_8_method_22_code
abbrev yM_byteOf : MethodName := ⟨"MidiDeskModel", "byteOf", "(II)I"⟩
theorem kM_byteOf : yM_byteOf.cls ≠ "java/lang/invoke/MethodHandle" ∧ yM_byteOf.cls ≠ "java/lang/invoke/VarHandle" ∧ (parseMethodDescriptor yM_byteOf.desc).map (fun d => d.parameters.length) = some 2 := by decide +kernel
abbrev rM_byteOf : Room := { frames := 1, cells := 0, slots := 0, locals := 21 }
theorem dM_byteOf_0 : decode cM_byteOf 0 = .ok (.aload_n 0, 1) := by decide +kernel
theorem dM_byteOf_1 : decode cM_byteOf 1 = .ok (.iconst 0, 1) := by decide +kernel
theorem dM_byteOf_2 : decode cM_byteOf 2 = .ok (.putfield 47, 3) := by decide +kernel
theorem dM_byteOf_5 : decode cM_byteOf 5 = .ok (.aload_n 0, 1) := by decide +kernel
theorem dM_byteOf_6 : decode cM_byteOf 6 = .ok (.iload_n 1, 1) := by decide +kernel
theorem dM_byteOf_7 : decode cM_byteOf 7 = .ok (.invokevirtual 144, 3) := by decide +kernel
theorem dM_byteOf_10 : decode cM_byteOf 10 = .ok (.ifCond .eq 43, 3) := by decide +kernel
theorem dM_byteOf_13 : decode cM_byteOf 13 = .ok (.iload_n 2, 1) := by decide +kernel
theorem dM_byteOf_14 : decode cM_byteOf 14 = .ok (.ifCond .lt 39, 3) := by decide +kernel
theorem dM_byteOf_17 : decode cM_byteOf 17 = .ok (.iload_n 2, 1) := by decide +kernel
theorem dM_byteOf_18 : decode cM_byteOf 18 = .ok (.aload_n 0, 1) := by decide +kernel
theorem dM_byteOf_19 : decode cM_byteOf 19 = .ok (.getfield 31, 3) := by decide +kernel
theorem dM_byteOf_22 : decode cM_byteOf 22 = .ok (.aload_n 0, 1) := by decide +kernel
theorem dM_byteOf_23 : decode cM_byteOf 23 = .ok (.getfield 34, 3) := by decide +kernel
theorem dM_byteOf_26 : decode cM_byteOf 26 = .ok (.iload_n 1, 1) := by decide +kernel
theorem dM_byteOf_27 : decode cM_byteOf 27 = .ok (.iaload, 1) := by decide +kernel
theorem dM_byteOf_28 : decode cM_byteOf 28 = .ok (.iaload, 1) := by decide +kernel
theorem dM_byteOf_29 : decode cM_byteOf 29 = .ok (.if_icmp .ge 24, 3) := by decide +kernel
theorem dM_byteOf_32 : decode cM_byteOf 32 = .ok (.aload_n 0, 1) := by decide +kernel
theorem dM_byteOf_33 : decode cM_byteOf 33 = .ok (.getfield 40, 3) := by decide +kernel
theorem dM_byteOf_36 : decode cM_byteOf 36 = .ok (.aload_n 0, 1) := by decide +kernel
theorem dM_byteOf_37 : decode cM_byteOf 37 = .ok (.getfield 28, 3) := by decide +kernel
theorem dM_byteOf_40 : decode cM_byteOf 40 = .ok (.aload_n 0, 1) := by decide +kernel
theorem dM_byteOf_41 : decode cM_byteOf 41 = .ok (.getfield 34, 3) := by decide +kernel
theorem dM_byteOf_44 : decode cM_byteOf 44 = .ok (.iload_n 1, 1) := by decide +kernel
theorem dM_byteOf_45 : decode cM_byteOf 45 = .ok (.iaload, 1) := by decide +kernel
theorem dM_byteOf_46 : decode cM_byteOf 46 = .ok (.iaload, 1) := by decide +kernel
theorem dM_byteOf_47 : decode cM_byteOf 47 = .ok (.iload_n 2, 1) := by decide +kernel
theorem dM_byteOf_48 : decode cM_byteOf 48 = .ok (.iadd, 1) := by decide +kernel
theorem dM_byteOf_49 : decode cM_byteOf 49 = .ok (.iaload, 1) := by decide +kernel
theorem dM_byteOf_50 : decode cM_byteOf 50 = .ok (.goto 4, 3) := by decide +kernel
theorem dM_byteOf_53 : decode cM_byteOf 53 = .ok (.iconst (-1), 1) := by decide +kernel
theorem dM_byteOf_54 : decode cM_byteOf 54 = .ok (.ireturn, 1) := by decide +kernel
def fM_byteOf (iv : Nat → Int32) (av : Nat → Nat → Int32) (x1 : Int32) (x2 : Int32) : Option (Int32 × (Nat → Int32) × (Nat → Nat → Int32)) := (fM_has (upd iv 0 (0 : Int32)) av x1).bind fun (r1, iv1, av1) => if r1 = 0 then (some ((-1 : Int32), iv1, av1)) else (if x2 < 0 then (some ((-1 : Int32), iv1, av1)) else (if x1 < 0 ∨ 1001 ≤ x1.toNatClampNeg then none else (if (av1 8 x1.toNatClampNeg) < 0 ∨ 1001 ≤ (av1 8 x1.toNatClampNeg).toNatClampNeg then none else (if (av1 7 (av1 8 x1.toNatClampNeg).toNatClampNeg) ≤ x2 then (some ((-1 : Int32), iv1, av1)) else (if x1 < 0 ∨ 1001 ≤ x1.toNatClampNeg then none else (if (av1 8 x1.toNatClampNeg) < 0 ∨ 1001 ≤ (av1 8 x1.toNatClampNeg).toNatClampNeg then none else (if ((av1 6 (av1 8 x1.toNatClampNeg).toNatClampNeg) + x2) < 0 ∨ 20100 ≤ ((av1 6 (av1 8 x1.toNatClampNeg).toNatClampNeg) + x2).toNatClampNeg then none else (some (av1 10 ((av1 6 (av1 8 x1.toNatClampNeg).toNatClampNeg) + x2).toNatClampNeg, iv1, av1)))))))))
set_option maxHeartbeats 4000000 in
set_option maxRecDepth 100000 in
theorem cM_byteOf_met {l : Launch} {g : gT} {q : Nat} {ad : Nat → Nat} {X : va_W} {iv iv' : Nat → Int32} {av av' : Nat → Nat → Int32} {x1 : Int32} {x2 : Int32} {r' : Int32} (hf : fM_byteOf iv av x1 x2 = some (r', iv', av')) : mMet l yM_byteOf cM_byteOf 3 (some .int) rM_byteOf g q ad X iv av [.ref q, .int x1, .int x2] (some (.int r')) iv' av' := by
  refine m_entry (by decide) (Nat.le_of_ble_eq_true rfl) ?_
  intro p e s m args below meth c ls C hr hlk hnm hl hw
  have hrv : ((some (.int r')) : Option Value) = (some (.int r')) := rfl
  have C : mCx p m c cM_byteOf 3 s args g "MidiDeskModel" := C
  have hl : lv_has ls 3 [(0, .ref q), (1, .int x1), (2, .int x2)] := hl
  unfold fM_byteOf at hf
  refine lv_aload_n C.1.1 C.1.2.1 dM_byteOf_0 rfl (lv_at hl 0 rfl) ?_
  refine lv_iconst (v := (0 : Int32)) C.1.1 C.1.2.1 dM_byteOf_1 (by decide) ?_
  refine mp_thrown C hw dM_byteOf_2 (fun H locs hw => ?_)
  refine lv_aload_n C.1.1 C.1.2.1 dM_byteOf_5 rfl (lv_at hl 0 rfl) ?_
  refine lv_iload_n C.1.1 C.1.2.1 dM_byteOf_6 rfl (lv_at hl 1 rfl) ?_
  obtain ⟨⟨r1, iv1, av1⟩, g1, hf⟩ := ts_b hf
  dsimp only at hf
  refine m_callV (rest := []) (As := [.int x1]) (rv := (some (.int r1))) C hl.1 hw (cM_has_met g1) (callW_of (rm := rM_has) 1 C.1.2.2.2.2 gw_864 gw_866 gw_38 gw_55 gw_867 kM_has ⟨Nat.le_of_ble_eq_true rfl, Nat.le_of_ble_eq_true rfl⟩) rfl rfl (Nat.le_of_ble_eq_true rfl) dM_byteOf_7 ⟨Nat.le_of_ble_eq_true rfl, Nat.le_of_ble_eq_true rfl⟩ (fun H locs hw => ?_)
  refine W.eq (g2 := F0 m 10 ls [.int r1]) rfl ?_
  refine lv_if_eq (tgt := 53) C.1.1 C.1.2.1 dM_byteOf_10 (by decide) (fun c2 => ?_) (fun c2 => ?_)
  · have hf := ts_t hf c2
    refine lv_iconst (v := (-1 : Int32)) C.1.1 C.1.2.1 dM_byteOf_53 (by decide) ?_
    exact m_reti C hr hlk hrv hw hf ⟨Nat.le_of_ble_eq_true rfl, Nat.le_of_ble_eq_true rfl⟩ dM_byteOf_54
  · have hf := ts_f hf c2
    refine lv_iload_n C.1.1 C.1.2.1 dM_byteOf_13 rfl (lv_at hl 2 rfl) ?_
    refine lv_if_lt (tgt := 53) C.1.1 C.1.2.1 dM_byteOf_14 (by decide) (fun c3 => ?_) (fun c3 => ?_)
    · have hf := ts_t hf c3
      refine lv_iconst (v := (-1 : Int32)) C.1.1 C.1.2.1 dM_byteOf_53 (by decide) ?_
      exact m_reti C hr hlk hrv hw hf ⟨Nat.le_of_ble_eq_true rfl, Nat.le_of_ble_eq_true rfl⟩ dM_byteOf_54
    · have hf := ts_f hf c3
      refine lv_iload_n C.1.1 C.1.2.1 dM_byteOf_17 rfl (lv_at hl 2 rfl) ?_
      refine lv_aload_n C.1.1 C.1.2.1 dM_byteOf_18 rfl (lv_at hl 0 rfl) ?_
      refine mg_counts C hw dM_byteOf_19 ?_
      refine lv_aload_n C.1.1 C.1.2.1 dM_byteOf_22 rfl (lv_at hl 0 rfl) ?_
      refine mg_order C hw dM_byteOf_23 ?_
      refine lv_iload_n C.1.1 C.1.2.1 dM_byteOf_26 rfl (lv_at hl 1 rfl) ?_
      obtain ⟨h4, hf⟩ := ts_g hf
      refine ma_order C hw h4 dM_byteOf_27 ?_
      obtain ⟨h5, hf⟩ := ts_g hf
      refine ma_counts C hw h5 dM_byteOf_28 ?_
      refine lv_icmp_ge (tgt := 53) C.1.1 C.1.2.1 dM_byteOf_29 (by decide) (fun c6 => ?_) (fun c6 => ?_)
      · have hf := ts_t hf c6
        refine lv_iconst (v := (-1 : Int32)) C.1.1 C.1.2.1 dM_byteOf_53 (by decide) ?_
        exact m_reti C hr hlk hrv hw hf ⟨Nat.le_of_ble_eq_true rfl, Nat.le_of_ble_eq_true rfl⟩ dM_byteOf_54
      · have hf := ts_f hf c6
        refine lv_aload_n C.1.1 C.1.2.1 dM_byteOf_32 rfl (lv_at hl 0 rfl) ?_
        refine mg_bytes C hw dM_byteOf_33 ?_
        refine lv_aload_n C.1.1 C.1.2.1 dM_byteOf_36 rfl (lv_at hl 0 rfl) ?_
        refine mg_from C hw dM_byteOf_37 ?_
        refine lv_aload_n C.1.1 C.1.2.1 dM_byteOf_40 rfl (lv_at hl 0 rfl) ?_
        refine mg_order C hw dM_byteOf_41 ?_
        refine lv_iload_n C.1.1 C.1.2.1 dM_byteOf_44 rfl (lv_at hl 1 rfl) ?_
        obtain ⟨h7, hf⟩ := ts_g hf
        refine ma_order C hw h7 dM_byteOf_45 ?_
        obtain ⟨h8, hf⟩ := ts_g hf
        refine ma_from C hw h8 dM_byteOf_46 ?_
        refine lv_iload_n C.1.1 C.1.2.1 dM_byteOf_47 rfl (lv_at hl 2 rfl) ?_
        refine lv_iadd C.1.1 C.1.2.1 dM_byteOf_48 ?_
        obtain ⟨h9, hf⟩ := ts_g hf
        refine ma_bytes C hw h9 dM_byteOf_49 ?_
        refine lv_goto (tgt := 54) C.1.1 C.1.2.1 dM_byteOf_50 (by decide) ?_
        exact m_reti C hr hlk hrv hw hf ⟨Nat.le_of_ble_eq_true rfl, Nat.le_of_ble_eq_true rfl⟩ dM_byteOf_54
abbrev cM_parts : ByteArray := prog_8_method_23_code
abbrev yM_parts : MethodName := ⟨"MidiDeskModel", "parts", "()J"⟩
theorem kM_parts : yM_parts.cls ≠ "java/lang/invoke/MethodHandle" ∧ yM_parts.cls ≠ "java/lang/invoke/VarHandle" ∧ (parseMethodDescriptor yM_parts.desc).map (fun d => d.parameters.length) = some 0 := by decide +kernel
abbrev rM_parts : Room := { frames := 0, cells := 0, slots := 0, locals := 0 }
theorem dM_parts_0 : decode cM_parts 0 = .ok (.aload_n 0, 1) := by decide +kernel
theorem dM_parts_1 : decode cM_parts 1 = .ok (.getfield 88, 3) := by decide +kernel
theorem dM_parts_4 : decode cM_parts 4 = .ok (.ldc 43, 2) := by decide +kernel
theorem dM_parts_6 : decode cM_parts 6 = .ok (.if_icmp .ge 9, 3) := by decide +kernel
theorem dM_parts_9 : decode cM_parts 9 = .ok (.aload_n 0, 1) := by decide +kernel
theorem dM_parts_10 : decode cM_parts 10 = .ok (.getfield 88, 3) := by decide +kernel
theorem dM_parts_13 : decode cM_parts 13 = .ok (.i2l, 1) := by decide +kernel
theorem dM_parts_14 : decode cM_parts 14 = .ok (.lreturn, 1) := by decide +kernel
theorem dM_parts_15 : decode cM_parts 15 = .ok (.sipush 256, 3) := by decide +kernel
theorem dM_parts_18 : decode cM_parts 18 = .ok (.aload_n 0, 1) := by decide +kernel
theorem dM_parts_19 : decode cM_parts 19 = .ok (.getfield 88, 3) := by decide +kernel
theorem dM_parts_22 : decode cM_parts 22 = .ok (.bipush 8, 2) := by decide +kernel
theorem dM_parts_24 : decode cM_parts 24 = .ok (.ishr, 1) := by decide +kernel
theorem dM_parts_25 : decode cM_parts 25 = .ok (.isub, 1) := by decide +kernel
theorem dM_parts_26 : decode cM_parts 26 = .ok (.istore_n 1, 1) := by decide +kernel
theorem dM_parts_27 : decode cM_parts 27 = .ok (.iload_n 1, 1) := by decide +kernel
theorem dM_parts_28 : decode cM_parts 28 = .ok (.bipush 29, 2) := by decide +kernel
theorem dM_parts_30 : decode cM_parts 30 = .ok (.if_icmp .ne 19, 3) := by decide +kernel
theorem dM_parts_33 : decode cM_parts 33 = .ok (.ldc2_w 147, 3) := by decide +kernel
theorem dM_parts_36 : decode cM_parts 36 = .ok (.aload_n 0, 1) := by decide +kernel
theorem dM_parts_37 : decode cM_parts 37 = .ok (.getfield 88, 3) := by decide +kernel
theorem dM_parts_40 : decode cM_parts 40 = .ok (.sipush 255, 3) := by decide +kernel
theorem dM_parts_43 : decode cM_parts 43 = .ok (.iand, 1) := by decide +kernel
theorem dM_parts_44 : decode cM_parts 44 = .ok (.i2l, 1) := by decide +kernel
theorem dM_parts_45 : decode cM_parts 45 = .ok (.lmul, 1) := by decide +kernel
theorem dM_parts_46 : decode cM_parts 46 = .ok (.goto 15, 3) := by decide +kernel
theorem dM_parts_49 : decode cM_parts 49 = .ok (.iload_n 1, 1) := by decide +kernel
theorem dM_parts_50 : decode cM_parts 50 = .ok (.i2l, 1) := by decide +kernel
theorem dM_parts_51 : decode cM_parts 51 = .ok (.aload_n 0, 1) := by decide +kernel
theorem dM_parts_52 : decode cM_parts 52 = .ok (.getfield 88, 3) := by decide +kernel
theorem dM_parts_55 : decode cM_parts 55 = .ok (.sipush 255, 3) := by decide +kernel
theorem dM_parts_58 : decode cM_parts 58 = .ok (.iand, 1) := by decide +kernel
theorem dM_parts_59 : decode cM_parts 59 = .ok (.i2l, 1) := by decide +kernel
theorem dM_parts_60 : decode cM_parts 60 = .ok (.lmul, 1) := by decide +kernel
theorem dM_parts_61 : decode cM_parts 61 = .ok (.lreturn, 1) := by decide +kernel
def fM_parts (iv : Nat → Int32) (av : Nat → Nat → Int32) : Option (Int64 × (Nat → Int32) × (Nat → Nat → Int32)) := if (32768 : Int32) ≤ (iv 9) then (if ((256 : Int32) - ((iv 9) >>> ((8 : Int32) &&& 31))) = (29 : Int32) then (some ((3 : Int64) * (((iv 9) &&& (255 : Int32)).toInt64), iv, av)) else (some ((((256 : Int32) - ((iv 9) >>> ((8 : Int32) &&& 31))).toInt64) * (((iv 9) &&& (255 : Int32)).toInt64), iv, av))) else (some ((iv 9).toInt64, iv, av))
set_option maxHeartbeats 4000000 in
set_option maxRecDepth 100000 in
theorem cM_parts_met {l : Launch} {g : gT} {q : Nat} {ad : Nat → Nat} {X : va_W} {iv iv' : Nat → Int32} {av av' : Nat → Nat → Int32} {r' : Int64} (hf : fM_parts iv av = some (r', iv', av')) : mMet l yM_parts cM_parts 2 (some .long) rM_parts g q ad X iv av [.ref q] (some (.long r')) iv' av' := by
  refine m_entry (by decide) (Nat.le_of_ble_eq_true rfl) ?_
  intro p e s m args below meth c ls C hr hlk hnm hl hw
  have hrv : ((some (.long r')) : Option Value) = (some (.long r')) := rfl
  have C : mCx p m c cM_parts 2 s args g "MidiDeskModel" := C
  have hl : lv_has ls 2 [(0, .ref q)] := hl
  unfold fM_parts at hf
  refine lv_aload_n C.1.1 C.1.2.1 dM_parts_0 rfl (lv_at hl 0 rfl) ?_
  refine mg_division C hw dM_parts_1 ?_
  refine lv_ldc C.1.1 C.1.2.1 C.1.2.2.2.1 (C.1.2.2.2.2 _ gw_714) dM_parts_4 ?_
  refine lv_icmp_ge (tgt := 15) C.1.1 C.1.2.1 dM_parts_6 (by decide) (fun c1 => ?_) (fun c1 => ?_)
  · have hf := ts_t hf c1
    refine lv_sipush (v := (256 : Int32)) C.1.1 C.1.2.1 dM_parts_15 (by decide) ?_
    refine lv_aload_n C.1.1 C.1.2.1 dM_parts_18 rfl (lv_at hl 0 rfl) ?_
    refine mg_division C hw dM_parts_19 ?_
    refine lv_bipush (v := (8 : Int32)) C.1.1 C.1.2.1 dM_parts_22 (by decide) ?_
    refine lv_ishr C.1.1 C.1.2.1 dM_parts_24 ?_
    refine lv_isub C.1.1 C.1.2.1 dM_parts_25 ?_
    refine lv_istore_n (lv' := [(1, .int ((256 : Int32) - ((iv 9) >>> ((8 : Int32) &&& 31)))), (0, .ref q)]) C.1.1 C.1.2.1 dM_parts_26 rfl hl (by decide) rfl (fun ls hl => ?_)
    refine lv_iload_n C.1.1 C.1.2.1 dM_parts_27 rfl (lv_at hl 0 rfl) ?_
    refine lv_bipush (v := (29 : Int32)) C.1.1 C.1.2.1 dM_parts_28 (by decide) ?_
    refine lv_icmp_ne (tgt := 49) C.1.1 C.1.2.1 dM_parts_30 (by decide) (fun c2 => ?_) (fun c2 => ?_)
    · have hf := ts_f hf c2
      refine lv_iload_n C.1.1 C.1.2.1 dM_parts_49 rfl (lv_at hl 0 rfl) ?_
      refine lv_i2l C.1.1 C.1.2.1 dM_parts_50 rfl ?_
      refine lv_aload_n C.1.1 C.1.2.1 dM_parts_51 rfl (lv_at hl 1 rfl) ?_
      refine mg_division C hw dM_parts_52 ?_
      refine lv_sipush (v := (255 : Int32)) C.1.1 C.1.2.1 dM_parts_55 (by decide) ?_
      refine lv_iand C.1.1 C.1.2.1 dM_parts_58 ?_
      refine lv_i2l C.1.1 C.1.2.1 dM_parts_59 rfl ?_
      refine lv_lmul C.1.1 C.1.2.1 dM_parts_60 ?_
      exact m_retl C hr hlk hrv hw hf ⟨Nat.le_of_ble_eq_true rfl, Nat.le_of_ble_eq_true rfl⟩ dM_parts_61
    · have hf := ts_t hf c2
      refine lv_ldc2 C.1.1 C.1.2.1 C.1.2.2.2.1 (C.1.2.2.2.2 _ gw_896) dM_parts_33 ?_
      refine lv_aload_n C.1.1 C.1.2.1 dM_parts_36 rfl (lv_at hl 1 rfl) ?_
      refine mg_division C hw dM_parts_37 ?_
      refine lv_sipush (v := (255 : Int32)) C.1.1 C.1.2.1 dM_parts_40 (by decide) ?_
      refine lv_iand C.1.1 C.1.2.1 dM_parts_43 ?_
      refine lv_i2l C.1.1 C.1.2.1 dM_parts_44 rfl ?_
      refine lv_lmul C.1.1 C.1.2.1 dM_parts_45 ?_
      refine lv_goto (tgt := 61) C.1.1 C.1.2.1 dM_parts_46 (by decide) ?_
      exact m_retl C hr hlk hrv hw hf ⟨Nat.le_of_ble_eq_true rfl, Nat.le_of_ble_eq_true rfl⟩ dM_parts_61
  · have hf := ts_f hf c1
    refine lv_aload_n C.1.1 C.1.2.1 dM_parts_9 rfl (lv_at hl 0 rfl) ?_
    refine mg_division C hw dM_parts_10 ?_
    refine lv_i2l C.1.1 C.1.2.1 dM_parts_13 rfl ?_
    exact m_retl C hr hlk hrv hw hf ⟨Nat.le_of_ble_eq_true rfl, Nat.le_of_ble_eq_true rfl⟩ dM_parts_14
abbrev cM_timed : ByteArray := prog_8_method_24_code
abbrev yM_timed : MethodName := ⟨"MidiDeskModel", "timed", "(I)J"⟩
theorem kM_timed : yM_timed.cls ≠ "java/lang/invoke/MethodHandle" ∧ yM_timed.cls ≠ "java/lang/invoke/VarHandle" ∧ (parseMethodDescriptor yM_timed.desc).map (fun d => d.parameters.length) = some 1 := by decide +kernel
abbrev rM_timed : Room := { frames := 1, cells := 0, slots := 0, locals := 21 }
theorem dM_timed_0 : decode cM_timed 0 = .ok (.aload_n 0, 1) := by decide +kernel
theorem dM_timed_1 : decode cM_timed 1 = .ok (.getfield 88, 3) := by decide +kernel
theorem dM_timed_4 : decode cM_timed 4 = .ok (.sipush 32767, 3) := by decide +kernel
theorem dM_timed_7 : decode cM_timed 7 = .ok (.if_icmp .le 35, 3) := by decide +kernel
theorem dM_timed_10 : decode cM_timed 10 = .ok (.sipush 256, 3) := by decide +kernel
theorem dM_timed_13 : decode cM_timed 13 = .ok (.aload_n 0, 1) := by decide +kernel
theorem dM_timed_14 : decode cM_timed 14 = .ok (.getfield 88, 3) := by decide +kernel
theorem dM_timed_17 : decode cM_timed 17 = .ok (.bipush 8, 2) := by decide +kernel
theorem dM_timed_19 : decode cM_timed 19 = .ok (.ishr, 1) := by decide +kernel
theorem dM_timed_20 : decode cM_timed 20 = .ok (.isub, 1) := by decide +kernel
theorem dM_timed_21 : decode cM_timed 21 = .ok (.bipush 29, 2) := by decide +kernel
theorem dM_timed_23 : decode cM_timed 23 = .ok (.if_icmp .ne 12, 3) := by decide +kernel
theorem dM_timed_26 : decode cM_timed 26 = .ok (.ldc2_w 149, 3) := by decide +kernel
theorem dM_timed_29 : decode cM_timed 29 = .ok (.iload_n 1, 1) := by decide +kernel
theorem dM_timed_30 : decode cM_timed 30 = .ok (.i2l, 1) := by decide +kernel
theorem dM_timed_31 : decode cM_timed 31 = .ok (.lmul, 1) := by decide +kernel
theorem dM_timed_32 : decode cM_timed 32 = .ok (.goto 9, 3) := by decide +kernel
theorem dM_timed_35 : decode cM_timed 35 = .ok (.ldc2_w 151, 3) := by decide +kernel
theorem dM_timed_38 : decode cM_timed 38 = .ok (.iload_n 1, 1) := by decide +kernel
theorem dM_timed_39 : decode cM_timed 39 = .ok (.i2l, 1) := by decide +kernel
theorem dM_timed_40 : decode cM_timed 40 = .ok (.lmul, 1) := by decide +kernel
theorem dM_timed_41 : decode cM_timed 41 = .ok (.lreturn, 1) := by decide +kernel
theorem dM_timed_42 : decode cM_timed 42 = .ok (.lconst 0, 1) := by decide +kernel
theorem dM_timed_43 : decode cM_timed 43 = .ok (.lstore_n 2, 1) := by decide +kernel
theorem dM_timed_44 : decode cM_timed 44 = .ok (.iconst 0, 1) := by decide +kernel
theorem dM_timed_45 : decode cM_timed 45 = .ok (.istore 4, 2) := by decide +kernel
theorem dM_timed_47 : decode cM_timed 47 = .ok (.ldc 153, 2) := by decide +kernel
theorem dM_timed_49 : decode cM_timed 49 = .ok (.istore 5, 2) := by decide +kernel
theorem dM_timed_51 : decode cM_timed 51 = .ok (.iconst 0, 1) := by decide +kernel
theorem dM_timed_52 : decode cM_timed 52 = .ok (.istore 6, 2) := by decide +kernel
theorem dM_timed_54 : decode cM_timed 54 = .ok (.iload 6, 2) := by decide +kernel
theorem dM_timed_56 : decode cM_timed 56 = .ok (.aload_n 0, 1) := by decide +kernel
theorem dM_timed_57 : decode cM_timed 57 = .ok (.getfield 95, 3) := by decide +kernel
theorem dM_timed_60 : decode cM_timed 60 = .ok (.if_icmp .ge 94, 3) := by decide +kernel
theorem dM_timed_63 : decode cM_timed 63 = .ok (.aload_n 0, 1) := by decide +kernel
theorem dM_timed_64 : decode cM_timed 64 = .ok (.getfield 34, 3) := by decide +kernel
theorem dM_timed_67 : decode cM_timed 67 = .ok (.iload 6, 2) := by decide +kernel
theorem dM_timed_69 : decode cM_timed 69 = .ok (.iaload, 1) := by decide +kernel
theorem dM_timed_70 : decode cM_timed 70 = .ok (.istore 7, 2) := by decide +kernel
theorem dM_timed_72 : decode cM_timed 72 = .ok (.aload_n 0, 1) := by decide +kernel
theorem dM_timed_73 : decode cM_timed 73 = .ok (.iload 7, 2) := by decide +kernel
theorem dM_timed_75 : decode cM_timed 75 = .ok (.invokevirtual 154, 3) := by decide +kernel
theorem dM_timed_78 : decode cM_timed 78 = .ok (.ifCond .eq 70, 3) := by decide +kernel
theorem dM_timed_81 : decode cM_timed 81 = .ok (.aload_n 0, 1) := by decide +kernel
theorem dM_timed_82 : decode cM_timed 82 = .ok (.getfield 82, 3) := by decide +kernel
theorem dM_timed_85 : decode cM_timed 85 = .ok (.iconst 2, 1) := by decide +kernel
theorem dM_timed_86 : decode cM_timed 86 = .ok (.if_icmp .ne 13, 3) := by decide +kernel
theorem dM_timed_89 : decode cM_timed 89 = .ok (.aload_n 0, 1) := by decide +kernel
theorem dM_timed_90 : decode cM_timed 90 = .ok (.getfield 16, 3) := by decide +kernel
theorem dM_timed_93 : decode cM_timed 93 = .ok (.iload 7, 2) := by decide +kernel
theorem dM_timed_95 : decode cM_timed 95 = .ok (.iaload, 1) := by decide +kernel
theorem dM_timed_96 : decode cM_timed 96 = .ok (.ifCond .gt 52, 3) := by decide +kernel
theorem dM_timed_99 : decode cM_timed 99 = .ok (.aload_n 0, 1) := by decide +kernel
theorem dM_timed_100 : decode cM_timed 100 = .ok (.getfield 13, 3) := by decide +kernel
theorem dM_timed_103 : decode cM_timed 103 = .ok (.iload 7, 2) := by decide +kernel
theorem dM_timed_105 : decode cM_timed 105 = .ok (.iaload, 1) := by decide +kernel
theorem dM_timed_106 : decode cM_timed 106 = .ok (.iload_n 1, 1) := by decide +kernel
theorem dM_timed_107 : decode cM_timed 107 = .ok (.if_icmp .le 6, 3) := by decide +kernel
theorem dM_timed_110 : decode cM_timed 110 = .ok (.goto 38, 3) := by decide +kernel
theorem dM_timed_113 : decode cM_timed 113 = .ok (.lload_n 2, 1) := by decide +kernel
theorem dM_timed_114 : decode cM_timed 114 = .ok (.iload 5, 2) := by decide +kernel
theorem dM_timed_116 : decode cM_timed 116 = .ok (.i2l, 1) := by decide +kernel
theorem dM_timed_117 : decode cM_timed 117 = .ok (.aload_n 0, 1) := by decide +kernel
theorem dM_timed_118 : decode cM_timed 118 = .ok (.getfield 13, 3) := by decide +kernel
theorem dM_timed_121 : decode cM_timed 121 = .ok (.iload 7, 2) := by decide +kernel
theorem dM_timed_123 : decode cM_timed 123 = .ok (.iaload, 1) := by decide +kernel
theorem dM_timed_124 : decode cM_timed 124 = .ok (.iload 4, 2) := by decide +kernel
theorem dM_timed_126 : decode cM_timed 126 = .ok (.isub, 1) := by decide +kernel
theorem dM_timed_127 : decode cM_timed 127 = .ok (.i2l, 1) := by decide +kernel
theorem dM_timed_128 : decode cM_timed 128 = .ok (.lmul, 1) := by decide +kernel
theorem dM_timed_129 : decode cM_timed 129 = .ok (.ladd, 1) := by decide +kernel
theorem dM_timed_130 : decode cM_timed 130 = .ok (.lstore_n 2, 1) := by decide +kernel
theorem dM_timed_131 : decode cM_timed 131 = .ok (.aload_n 0, 1) := by decide +kernel
theorem dM_timed_132 : decode cM_timed 132 = .ok (.getfield 13, 3) := by decide +kernel
theorem dM_timed_135 : decode cM_timed 135 = .ok (.iload 7, 2) := by decide +kernel
theorem dM_timed_137 : decode cM_timed 137 = .ok (.iaload, 1) := by decide +kernel
theorem dM_timed_138 : decode cM_timed 138 = .ok (.istore 4, 2) := by decide +kernel
theorem dM_timed_140 : decode cM_timed 140 = .ok (.aload_n 0, 1) := by decide +kernel
theorem dM_timed_141 : decode cM_timed 141 = .ok (.iload 7, 2) := by decide +kernel
theorem dM_timed_143 : decode cM_timed 143 = .ok (.invokevirtual 133, 3) := by decide +kernel
theorem dM_timed_146 : decode cM_timed 146 = .ok (.istore 5, 2) := by decide +kernel
theorem dM_timed_148 : decode cM_timed 148 = .ok (.iinc 6 1, 3) := by decide +kernel
theorem dM_timed_151 : decode cM_timed 151 = .ok (.goto (-97), 3) := by decide +kernel
theorem dM_timed_154 : decode cM_timed 154 = .ok (.lload_n 2, 1) := by decide +kernel
theorem dM_timed_155 : decode cM_timed 155 = .ok (.iload 5, 2) := by decide +kernel
theorem dM_timed_157 : decode cM_timed 157 = .ok (.i2l, 1) := by decide +kernel
theorem dM_timed_158 : decode cM_timed 158 = .ok (.iload_n 1, 1) := by decide +kernel
theorem dM_timed_159 : decode cM_timed 159 = .ok (.iload 4, 2) := by decide +kernel
theorem dM_timed_161 : decode cM_timed 161 = .ok (.isub, 1) := by decide +kernel
theorem dM_timed_162 : decode cM_timed 162 = .ok (.i2l, 1) := by decide +kernel
theorem dM_timed_163 : decode cM_timed 163 = .ok (.lmul, 1) := by decide +kernel
theorem dM_timed_164 : decode cM_timed 164 = .ok (.ladd, 1) := by decide +kernel
theorem dM_timed_165 : decode cM_timed 165 = .ok (.lreturn, 1) := by decide +kernel
def jM_timed_148 (K54 : (Nat → Int32) → (Nat → Nat → Int32) → Int32 → Int64 → Int32 → Int32 → Int32 → Option (Int64 × (Nat → Int32) × (Nat → Nat → Int32))) (iv : Nat → Int32) (av : Nat → Nat → Int32) (x1 : Int32) (y2 : Int64) (x4 : Int32) (x5 : Int32) (x6 : Int32) : Option (Int64 × (Nat → Int32) × (Nat → Nat → Int32)) := K54 iv av x1 y2 x4 x5 (x6 + 1)
def jM_timed_99 (K54 : (Nat → Int32) → (Nat → Nat → Int32) → Int32 → Int64 → Int32 → Int32 → Int32 → Option (Int64 × (Nat → Int32) × (Nat → Nat → Int32))) (iv : Nat → Int32) (av : Nat → Nat → Int32) (x1 : Int32) (y2 : Int64) (x4 : Int32) (x5 : Int32) (x6 : Int32) (x7 : Int32) : Option (Int64 × (Nat → Int32) × (Nat → Nat → Int32)) := if x7 < 0 ∨ 1001 ≤ x7.toNatClampNeg then none else (if (av 1 x7.toNatClampNeg) ≤ x1 then (if x7 < 0 ∨ 1001 ≤ x7.toNatClampNeg then none else (if x7 < 0 ∨ 1001 ≤ x7.toNatClampNeg then none else ((fM_tempo iv av x7).bind fun (r5, iv5, av5) => jM_timed_148 K54 iv5 av5 x1 (y2 + (x5.toInt64 * (((av 1 x7.toNatClampNeg) - x4).toInt64))) (av 1 x7.toNatClampNeg) r5 x6))) else (jM_timed_148 K54 iv av x1 y2 x4 x5 x6))
def lM_timed_54 : Nat → (Nat → Int32) → (Nat → Nat → Int32) → Int32 → Int64 → Int32 → Int32 → Int32 → Option (Int64 × (Nat → Int32) × (Nat → Nat → Int32))
  | 0 => fun _ _ _ _ _ _ _ => none
  | k + 1 => fun iv av x1 y2 x4 x5 x6 => if (iv 10) ≤ x6 then (some (y2 + (x5.toInt64 * ((x1 - x4).toInt64)), iv, av)) else (if x6 < 0 ∨ 1001 ≤ x6.toNatClampNeg then none else ((fM_isTempo iv av (av 8 x6.toNatClampNeg)).bind fun (r3, iv3, av3) => if r3 = 0 then (jM_timed_148 (lM_timed_54 k) iv3 av3 x1 y2 x4 x5 x6) else (if (iv3 7) = (2 : Int32) then (if (av 8 x6.toNatClampNeg) < 0 ∨ 1001 ≤ (av 8 x6.toNatClampNeg).toNatClampNeg then none else (if 0 < (av3 2 (av 8 x6.toNatClampNeg).toNatClampNeg) then (jM_timed_148 (lM_timed_54 k) iv3 av3 x1 y2 x4 x5 x6) else (jM_timed_99 (lM_timed_54 k) iv3 av3 x1 y2 x4 x5 x6 (av 8 x6.toNatClampNeg)))) else (jM_timed_99 (lM_timed_54 k) iv3 av3 x1 y2 x4 x5 x6 (av 8 x6.toNatClampNeg)))))
def fM_timed (iv : Nat → Int32) (av : Nat → Nat → Int32) (x1 : Int32) : Option (Int64 × (Nat → Int32) × (Nat → Nat → Int32)) := if (iv 9) ≤ (32767 : Int32) then (lM_timed_54 FU iv av x1 (0 : Int64) (0 : Int32) (500000 : Int32) (0 : Int32)) else (if ((256 : Int32) - ((iv 9) >>> ((8 : Int32) &&& 31))) = (29 : Int32) then (some ((100100 : Int64) * x1.toInt64, iv, av)) else (some ((1000000 : Int64) * x1.toInt64, iv, av)))
set_option maxHeartbeats 4000000 in
set_option maxRecDepth 100000 in
theorem wM_timed_148 {p : Program} {l : Launch} {e : Env} {s : State} {m : MethodId} {args : Array Value} {below : List Frame} {meth : Method} {c : Code} {g : gT} {q : Nat} {ad : Nat → Nat} {X : va_W} {rv : Option Value} {iv' : Nat → Int32} {av' : Nat → Nat → Int32} {r' : Int64} (C : mCx p m c cM_timed 8 s args g "MidiDeskModel") (hr : meth.sig.returnType = (some .long)) (hlk : meth.locks = false) (hrv : rv = some (.long r')) {K54 : (Nat → Int32) → (Nat → Nat → Int32) → Int32 → Int64 → Int32 → Int32 → Int32 → Option (Int64 × (Nat → Int32) × (Nat → Nat → Int32))} (hK54 : ∀ (iv : Nat → Int32) (av : Nat → Nat → Int32) (x1 : Int32) (y2 : Int64) (x4 : Int32) (x5 : Int32) (x6 : Int32) (H : Heap) (locs : List Loc) (ls : Array Slot), lv_has ls 8 [(0, .ref q), (1, .int x1), (2, .long y2), (4, .int x4), (5, .int x5), (6, .int x6)] → mWd g (mA g q ad X s.heap.size) s.heap q ad X iv av H locs → K54 iv av x1 y2 x4 x5 x6 = some (r', iv', av') → mG p l e rM_timed s m args below meth c g q ad X rv iv' av' H locs 0 0 (F0 m 54 ls [])) (iv : Nat → Int32) (av : Nat → Nat → Int32) (x1 : Int32) (y2 : Int64) (x4 : Int32) (x5 : Int32) (x6 : Int32) (H : Heap) (locs : List Loc) (ls : Array Slot) (hl : lv_has ls 8 [(0, .ref q), (1, .int x1), (2, .long y2), (4, .int x4), (5, .int x5), (6, .int x6)]) (hw : mWd g (mA g q ad X s.heap.size) s.heap q ad X iv av H locs) (hf : jM_timed_148 K54 iv av x1 y2 x4 x5 x6 = some (r', iv', av')) : mG p l e rM_timed s m args below meth c g q ad X rv iv' av' H locs 0 0 (F0 m 148 ls []) := by
  unfold jM_timed_148 at hf
  refine lv_iinc (v := x6 + 1) (lv' := [(6, .int (x6 + 1)), (0, .ref q), (1, .int x1), (2, .long y2), (4, .int x4), (5, .int x5)]) C.1.1 C.1.2.1 dM_timed_148 hl (k := 5) rfl rfl (by decide) rfl (fun ls hl => ?_)
  refine lv_goto (tgt := 54) C.1.1 C.1.2.1 dM_timed_151 (by decide) ?_
  exact hK54 iv av x1 y2 x4 x5 (x6 + 1) _ _ ls (lv_sub hl [1, 2, 3, 4, 5, 0] rfl) hw hf
set_option maxHeartbeats 4000000 in
set_option maxRecDepth 100000 in
theorem wM_timed_99 {p : Program} {l : Launch} {e : Env} {s : State} {m : MethodId} {args : Array Value} {below : List Frame} {meth : Method} {c : Code} {g : gT} {q : Nat} {ad : Nat → Nat} {X : va_W} {rv : Option Value} {iv' : Nat → Int32} {av' : Nat → Nat → Int32} {r' : Int64} (C : mCx p m c cM_timed 8 s args g "MidiDeskModel") (hr : meth.sig.returnType = (some .long)) (hlk : meth.locks = false) (hrv : rv = some (.long r')) {K54 : (Nat → Int32) → (Nat → Nat → Int32) → Int32 → Int64 → Int32 → Int32 → Int32 → Option (Int64 × (Nat → Int32) × (Nat → Nat → Int32))} (hK54 : ∀ (iv : Nat → Int32) (av : Nat → Nat → Int32) (x1 : Int32) (y2 : Int64) (x4 : Int32) (x5 : Int32) (x6 : Int32) (H : Heap) (locs : List Loc) (ls : Array Slot), lv_has ls 8 [(0, .ref q), (1, .int x1), (2, .long y2), (4, .int x4), (5, .int x5), (6, .int x6)] → mWd g (mA g q ad X s.heap.size) s.heap q ad X iv av H locs → K54 iv av x1 y2 x4 x5 x6 = some (r', iv', av') → mG p l e rM_timed s m args below meth c g q ad X rv iv' av' H locs 0 0 (F0 m 54 ls [])) (iv : Nat → Int32) (av : Nat → Nat → Int32) (x1 : Int32) (y2 : Int64) (x4 : Int32) (x5 : Int32) (x6 : Int32) (x7 : Int32) (H : Heap) (locs : List Loc) (ls : Array Slot) (hl : lv_has ls 8 [(0, .ref q), (1, .int x1), (2, .long y2), (4, .int x4), (5, .int x5), (6, .int x6), (7, .int x7)]) (hw : mWd g (mA g q ad X s.heap.size) s.heap q ad X iv av H locs) (hf : jM_timed_99 K54 iv av x1 y2 x4 x5 x6 x7 = some (r', iv', av')) : mG p l e rM_timed s m args below meth c g q ad X rv iv' av' H locs 0 0 (F0 m 99 ls []) := by
  unfold jM_timed_99 at hf
  refine lv_aload_n C.1.1 C.1.2.1 dM_timed_99 rfl (lv_at hl 0 rfl) ?_
  refine mg_ticks C hw dM_timed_100 ?_
  refine lv_iload C.1.1 C.1.2.1 dM_timed_103 (lv_at hl 6 rfl) ?_
  obtain ⟨h1, hf⟩ := ts_g hf
  refine ma_ticks C hw h1 dM_timed_105 ?_
  refine lv_iload_n C.1.1 C.1.2.1 dM_timed_106 rfl (lv_at hl 1 rfl) ?_
  refine lv_icmp_le (tgt := 113) C.1.1 C.1.2.1 dM_timed_107 (by decide) (fun c2 => ?_) (fun c2 => ?_)
  · have hf := ts_t hf c2
    refine lv_lload_n C.1.1 C.1.2.1 dM_timed_113 rfl (lv_at hl 2 rfl) ?_
    refine lv_iload C.1.1 C.1.2.1 dM_timed_114 (lv_at hl 4 rfl) ?_
    refine lv_i2l C.1.1 C.1.2.1 dM_timed_116 rfl ?_
    refine lv_aload_n C.1.1 C.1.2.1 dM_timed_117 rfl (lv_at hl 0 rfl) ?_
    refine mg_ticks C hw dM_timed_118 ?_
    refine lv_iload C.1.1 C.1.2.1 dM_timed_121 (lv_at hl 6 rfl) ?_
    obtain ⟨h3, hf⟩ := ts_g hf
    refine ma_ticks C hw h3 dM_timed_123 ?_
    refine lv_iload C.1.1 C.1.2.1 dM_timed_124 (lv_at hl 3 rfl) ?_
    refine lv_isub C.1.1 C.1.2.1 dM_timed_126 ?_
    refine lv_i2l C.1.1 C.1.2.1 dM_timed_127 rfl ?_
    refine lv_lmul C.1.1 C.1.2.1 dM_timed_128 ?_
    refine lv_ladd C.1.1 C.1.2.1 dM_timed_129 ?_
    refine lv_lstore_n (lv' := [(2, .long (y2 + (x5.toInt64 * (((av 1 x7.toNatClampNeg) - x4).toInt64)))), (0, .ref q), (1, .int x1), (4, .int x4), (5, .int x5), (6, .int x6), (7, .int x7)]) C.1.1 C.1.2.1 dM_timed_130 rfl hl (by decide) rfl (fun ls hl => ?_)
    refine lv_aload_n C.1.1 C.1.2.1 dM_timed_131 rfl (lv_at hl 1 rfl) ?_
    refine mg_ticks C hw dM_timed_132 ?_
    refine lv_iload C.1.1 C.1.2.1 dM_timed_135 (lv_at hl 6 rfl) ?_
    obtain ⟨h4, hf⟩ := ts_g hf
    refine ma_ticks C hw h4 dM_timed_137 ?_
    refine lv_istore (lv' := [(4, .int (av 1 x7.toNatClampNeg)), (2, .long (y2 + (x5.toInt64 * (((av 1 x7.toNatClampNeg) - x4).toInt64)))), (0, .ref q), (1, .int x1), (5, .int x5), (6, .int x6), (7, .int x7)]) C.1.1 C.1.2.1 dM_timed_138 hl (by decide) rfl (fun ls hl => ?_)
    refine lv_aload_n C.1.1 C.1.2.1 dM_timed_140 rfl (lv_at hl 2 rfl) ?_
    refine lv_iload C.1.1 C.1.2.1 dM_timed_141 (lv_at hl 6 rfl) ?_
    obtain ⟨⟨r5, iv5, av5⟩, g5, hf⟩ := ts_b hf
    dsimp only at hf
    refine m_callV (rest := []) (As := [.int x7]) (rv := (some (.int r5))) C hl.1 hw (cM_tempo_met g5) (callW_of (rm := rM_tempo) 1 C.1.2.2.2.2 gw_844 gw_846 gw_34 gw_55 gw_847 kM_tempo ⟨Nat.le_of_ble_eq_true rfl, Nat.le_of_ble_eq_true rfl⟩) rfl rfl (Nat.le_of_ble_eq_true rfl) dM_timed_143 ⟨Nat.le_of_ble_eq_true rfl, Nat.le_of_ble_eq_true rfl⟩ (fun H locs hw => ?_)
    refine W.eq (g2 := F0 m 146 ls [.int r5]) rfl ?_
    refine lv_istore (lv' := [(5, .int r5), (4, .int (av 1 x7.toNatClampNeg)), (2, .long (y2 + (x5.toInt64 * (((av 1 x7.toNatClampNeg) - x4).toInt64)))), (0, .ref q), (1, .int x1), (6, .int x6), (7, .int x7)]) C.1.1 C.1.2.1 dM_timed_146 hl (by decide) rfl (fun ls hl => ?_)
    exact wM_timed_148 C hr hlk hrv hK54 iv5 av5 x1 (y2 + (x5.toInt64 * (((av 1 x7.toNatClampNeg) - x4).toInt64))) (av 1 x7.toNatClampNeg) r5 x6 _ _ ls (lv_sub hl [3, 4, 2, 1, 0, 5] rfl) hw hf
  · have hf := ts_f hf c2
    refine lv_goto (tgt := 148) C.1.1 C.1.2.1 dM_timed_110 (by decide) ?_
    exact wM_timed_148 C hr hlk hrv hK54 iv av x1 y2 x4 x5 x6 _ _ ls (lv_sub hl [0, 1, 2, 3, 4, 5] rfl) hw hf
set_option maxHeartbeats 4000000 in
set_option maxRecDepth 100000 in
theorem wM_timed_54 {p : Program} {l : Launch} {e : Env} {s : State} {m : MethodId} {args : Array Value} {below : List Frame} {meth : Method} {c : Code} {g : gT} {q : Nat} {ad : Nat → Nat} {X : va_W} {rv : Option Value} {iv' : Nat → Int32} {av' : Nat → Nat → Int32} {r' : Int64} (C : mCx p m c cM_timed 8 s args g "MidiDeskModel") (hr : meth.sig.returnType = (some .long)) (hlk : meth.locks = false) (hrv : rv = some (.long r')) (k : Nat) : ∀ (iv : Nat → Int32) (av : Nat → Nat → Int32) (x1 : Int32) (y2 : Int64) (x4 : Int32) (x5 : Int32) (x6 : Int32) (H : Heap) (locs : List Loc) (ls : Array Slot), lv_has ls 8 [(0, .ref q), (1, .int x1), (2, .long y2), (4, .int x4), (5, .int x5), (6, .int x6)] → mWd g (mA g q ad X s.heap.size) s.heap q ad X iv av H locs → lM_timed_54 k iv av x1 y2 x4 x5 x6 = some (r', iv', av') → mG p l e rM_timed s m args below meth c g q ad X rv iv' av' H locs 0 0 (F0 m 54 ls []) := by
  induction k with
  | zero => intro iv av x1 y2 x4 x5 x6 H locs ls hl hw hf; cases hf
  | succ k ih =>
    intro iv av x1 y2 x4 x5 x6 H locs ls hl hw hf
    have hf : (if (iv 10) ≤ x6 then (some (y2 + (x5.toInt64 * ((x1 - x4).toInt64)), iv, av)) else (if x6 < 0 ∨ 1001 ≤ x6.toNatClampNeg then none else ((fM_isTempo iv av (av 8 x6.toNatClampNeg)).bind fun (r3, iv3, av3) => if r3 = 0 then (jM_timed_148 (lM_timed_54 k) iv3 av3 x1 y2 x4 x5 x6) else (if (iv3 7) = (2 : Int32) then (if (av 8 x6.toNatClampNeg) < 0 ∨ 1001 ≤ (av 8 x6.toNatClampNeg).toNatClampNeg then none else (if 0 < (av3 2 (av 8 x6.toNatClampNeg).toNatClampNeg) then (jM_timed_148 (lM_timed_54 k) iv3 av3 x1 y2 x4 x5 x6) else (jM_timed_99 (lM_timed_54 k) iv3 av3 x1 y2 x4 x5 x6 (av 8 x6.toNatClampNeg)))) else (jM_timed_99 (lM_timed_54 k) iv3 av3 x1 y2 x4 x5 x6 (av 8 x6.toNatClampNeg)))))) = some (r', iv', av') := hf
    refine lv_iload C.1.1 C.1.2.1 dM_timed_54 (lv_at hl 5 rfl) ?_
    refine lv_aload_n C.1.1 C.1.2.1 dM_timed_56 rfl (lv_at hl 0 rfl) ?_
    refine mg_events C hw dM_timed_57 ?_
    refine lv_icmp_ge (tgt := 154) C.1.1 C.1.2.1 dM_timed_60 (by decide) (fun c1 => ?_) (fun c1 => ?_)
    · have hf := ts_t hf c1
      refine lv_lload_n C.1.1 C.1.2.1 dM_timed_154 rfl (lv_at hl 2 rfl) ?_
      refine lv_iload C.1.1 C.1.2.1 dM_timed_155 (lv_at hl 4 rfl) ?_
      refine lv_i2l C.1.1 C.1.2.1 dM_timed_157 rfl ?_
      refine lv_iload_n C.1.1 C.1.2.1 dM_timed_158 rfl (lv_at hl 1 rfl) ?_
      refine lv_iload C.1.1 C.1.2.1 dM_timed_159 (lv_at hl 3 rfl) ?_
      refine lv_isub C.1.1 C.1.2.1 dM_timed_161 ?_
      refine lv_i2l C.1.1 C.1.2.1 dM_timed_162 rfl ?_
      refine lv_lmul C.1.1 C.1.2.1 dM_timed_163 ?_
      refine lv_ladd C.1.1 C.1.2.1 dM_timed_164 ?_
      exact m_retl C hr hlk hrv hw hf ⟨Nat.le_of_ble_eq_true rfl, Nat.le_of_ble_eq_true rfl⟩ dM_timed_165
    · have hf := ts_f hf c1
      refine lv_aload_n C.1.1 C.1.2.1 dM_timed_63 rfl (lv_at hl 0 rfl) ?_
      refine mg_order C hw dM_timed_64 ?_
      refine lv_iload C.1.1 C.1.2.1 dM_timed_67 (lv_at hl 5 rfl) ?_
      obtain ⟨h2, hf⟩ := ts_g hf
      refine ma_order C hw h2 dM_timed_69 ?_
      refine lv_istore (lv' := [(7, .int (av 8 x6.toNatClampNeg)), (0, .ref q), (1, .int x1), (2, .long y2), (4, .int x4), (5, .int x5), (6, .int x6)]) C.1.1 C.1.2.1 dM_timed_70 hl (by decide) rfl (fun ls hl => ?_)
      refine lv_aload_n C.1.1 C.1.2.1 dM_timed_72 rfl (lv_at hl 1 rfl) ?_
      refine lv_iload C.1.1 C.1.2.1 dM_timed_73 (lv_at hl 0 rfl) ?_
      obtain ⟨⟨r3, iv3, av3⟩, g3, hf⟩ := ts_b hf
      dsimp only at hf
      refine m_callV (rest := []) (As := [.int (av 8 x6.toNatClampNeg)]) (rv := (some (.int r3))) C hl.1 hw (cM_isTempo_met g3) (callW_of (rm := rM_isTempo) 1 C.1.2.2.2.2 gw_888 gw_890 gw_41 gw_55 gw_891 kM_isTempo ⟨Nat.le_of_ble_eq_true rfl, Nat.le_of_ble_eq_true rfl⟩) rfl rfl (Nat.le_of_ble_eq_true rfl) dM_timed_75 ⟨Nat.le_of_ble_eq_true rfl, Nat.le_of_ble_eq_true rfl⟩ (fun H locs hw => ?_)
      refine W.eq (g2 := F0 m 78 ls [.int r3]) rfl ?_
      refine lv_if_eq (tgt := 148) C.1.1 C.1.2.1 dM_timed_78 (by decide) (fun c4 => ?_) (fun c4 => ?_)
      · have hf := ts_t hf c4
        exact wM_timed_148 C hr hlk hrv ih iv3 av3 x1 y2 x4 x5 x6 _ _ ls (lv_sub hl [1, 2, 3, 4, 5, 6] rfl) hw hf
      · have hf := ts_f hf c4
        refine lv_aload_n C.1.1 C.1.2.1 dM_timed_81 rfl (lv_at hl 1 rfl) ?_
        refine mg_format C hw dM_timed_82 ?_
        refine lv_iconst (v := (2 : Int32)) C.1.1 C.1.2.1 dM_timed_85 (by decide) ?_
        refine lv_icmp_ne (tgt := 99) C.1.1 C.1.2.1 dM_timed_86 (by decide) (fun c5 => ?_) (fun c5 => ?_)
        · have hf := ts_f hf c5
          exact wM_timed_99 C hr hlk hrv ih iv3 av3 x1 y2 x4 x5 x6 (av 8 x6.toNatClampNeg) _ _ ls (lv_sub hl [1, 2, 3, 4, 5, 6, 0] rfl) hw hf
        · have hf := ts_t hf c5
          refine lv_aload_n C.1.1 C.1.2.1 dM_timed_89 rfl (lv_at hl 1 rfl) ?_
          refine mg_trackOf C hw dM_timed_90 ?_
          refine lv_iload C.1.1 C.1.2.1 dM_timed_93 (lv_at hl 0 rfl) ?_
          obtain ⟨h6, hf⟩ := ts_g hf
          refine ma_trackOf C hw h6 dM_timed_95 ?_
          refine lv_if_gt (tgt := 148) C.1.1 C.1.2.1 dM_timed_96 (by decide) (fun c7 => ?_) (fun c7 => ?_)
          · have hf := ts_t hf c7
            exact wM_timed_148 C hr hlk hrv ih iv3 av3 x1 y2 x4 x5 x6 _ _ ls (lv_sub hl [1, 2, 3, 4, 5, 6] rfl) hw hf
          · have hf := ts_f hf c7
            exact wM_timed_99 C hr hlk hrv ih iv3 av3 x1 y2 x4 x5 x6 (av 8 x6.toNatClampNeg) _ _ ls (lv_sub hl [1, 2, 3, 4, 5, 6, 0] rfl) hw hf
set_option maxHeartbeats 4000000 in
set_option maxRecDepth 100000 in
theorem cM_timed_met {l : Launch} {g : gT} {q : Nat} {ad : Nat → Nat} {X : va_W} {iv iv' : Nat → Int32} {av av' : Nat → Nat → Int32} {x1 : Int32} {r' : Int64} (hf : fM_timed iv av x1 = some (r', iv', av')) : mMet l yM_timed cM_timed 8 (some .long) rM_timed g q ad X iv av [.ref q, .int x1] (some (.long r')) iv' av' := by
  refine m_entry (by decide) (Nat.le_of_ble_eq_true rfl) ?_
  intro p e s m args below meth c ls C hr hlk hnm hl hw
  have hrv : ((some (.long r')) : Option Value) = (some (.long r')) := rfl
  have C : mCx p m c cM_timed 8 s args g "MidiDeskModel" := C
  have hl : lv_has ls 8 [(0, .ref q), (1, .int x1)] := hl
  unfold fM_timed at hf
  refine lv_aload_n C.1.1 C.1.2.1 dM_timed_0 rfl (lv_at hl 0 rfl) ?_
  refine mg_division C hw dM_timed_1 ?_
  refine lv_sipush (v := (32767 : Int32)) C.1.1 C.1.2.1 dM_timed_4 (by decide) ?_
  refine lv_icmp_le (tgt := 42) C.1.1 C.1.2.1 dM_timed_7 (by decide) (fun c1 => ?_) (fun c1 => ?_)
  · have hf := ts_t hf c1
    refine lv_lconst (v := 0) C.1.1 C.1.2.1 dM_timed_42 (by decide) ?_
    refine lv_lstore_n (lv' := [(2, .long (0 : Int64)), (0, .ref q), (1, .int x1)]) C.1.1 C.1.2.1 dM_timed_43 rfl hl (by decide) rfl (fun ls hl => ?_)
    refine lv_iconst (v := (0 : Int32)) C.1.1 C.1.2.1 dM_timed_44 (by decide) ?_
    refine lv_istore (lv' := [(4, .int (0 : Int32)), (2, .long (0 : Int64)), (0, .ref q), (1, .int x1)]) C.1.1 C.1.2.1 dM_timed_45 hl (by decide) rfl (fun ls hl => ?_)
    refine lv_ldc C.1.1 C.1.2.1 C.1.2.2.2.1 (C.1.2.2.2.2 _ gw_887) dM_timed_47 ?_
    refine lv_istore (lv' := [(5, .int (500000 : Int32)), (4, .int (0 : Int32)), (2, .long (0 : Int64)), (0, .ref q), (1, .int x1)]) C.1.1 C.1.2.1 dM_timed_49 hl (by decide) rfl (fun ls hl => ?_)
    refine lv_iconst (v := (0 : Int32)) C.1.1 C.1.2.1 dM_timed_51 (by decide) ?_
    refine lv_istore (lv' := [(6, .int (0 : Int32)), (5, .int (500000 : Int32)), (4, .int (0 : Int32)), (2, .long (0 : Int64)), (0, .ref q), (1, .int x1)]) C.1.1 C.1.2.1 dM_timed_52 hl (by decide) rfl (fun ls hl => ?_)
    exact wM_timed_54 C hr hlk hrv FU iv av x1 (0 : Int64) (0 : Int32) (500000 : Int32) (0 : Int32) _ _ ls (lv_sub hl [4, 5, 3, 2, 1, 0] rfl) hw hf
  · have hf := ts_f hf c1
    refine lv_sipush (v := (256 : Int32)) C.1.1 C.1.2.1 dM_timed_10 (by decide) ?_
    refine lv_aload_n C.1.1 C.1.2.1 dM_timed_13 rfl (lv_at hl 0 rfl) ?_
    refine mg_division C hw dM_timed_14 ?_
    refine lv_bipush (v := (8 : Int32)) C.1.1 C.1.2.1 dM_timed_17 (by decide) ?_
    refine lv_ishr C.1.1 C.1.2.1 dM_timed_19 ?_
    refine lv_isub C.1.1 C.1.2.1 dM_timed_20 ?_
    refine lv_bipush (v := (29 : Int32)) C.1.1 C.1.2.1 dM_timed_21 (by decide) ?_
    refine lv_icmp_ne (tgt := 35) C.1.1 C.1.2.1 dM_timed_23 (by decide) (fun c2 => ?_) (fun c2 => ?_)
    · have hf := ts_f hf c2
      refine lv_ldc2 C.1.1 C.1.2.1 C.1.2.2.2.1 (C.1.2.2.2.2 _ gw_886) dM_timed_35 ?_
      refine lv_iload_n C.1.1 C.1.2.1 dM_timed_38 rfl (lv_at hl 1 rfl) ?_
      refine lv_i2l C.1.1 C.1.2.1 dM_timed_39 rfl ?_
      refine lv_lmul C.1.1 C.1.2.1 dM_timed_40 ?_
      exact m_retl C hr hlk hrv hw hf ⟨Nat.le_of_ble_eq_true rfl, Nat.le_of_ble_eq_true rfl⟩ dM_timed_41
    · have hf := ts_t hf c2
      refine lv_ldc2 C.1.1 C.1.2.1 C.1.2.2.2.1 (C.1.2.2.2.2 _ gw_885) dM_timed_26 ?_
      refine lv_iload_n C.1.1 C.1.2.1 dM_timed_29 rfl (lv_at hl 1 rfl) ?_
      refine lv_i2l C.1.1 C.1.2.1 dM_timed_30 rfl ?_
      refine lv_lmul C.1.1 C.1.2.1 dM_timed_31 ?_
      refine lv_goto (tgt := 41) C.1.1 C.1.2.1 dM_timed_32 (by decide) ?_
      exact m_retl C hr hlk hrv hw hf ⟨Nat.le_of_ble_eq_true rfl, Nat.le_of_ble_eq_true rfl⟩ dM_timed_41
abbrev cM_time : ByteArray := prog_8_method_25_code
abbrev yM_time : MethodName := ⟨"MidiDeskModel", "time", "(I)J"⟩
theorem kM_time : yM_time.cls ≠ "java/lang/invoke/MethodHandle" ∧ yM_time.cls ≠ "java/lang/invoke/VarHandle" ∧ (parseMethodDescriptor yM_time.desc).map (fun d => d.parameters.length) = some 1 := by decide +kernel
abbrev rM_time : Room := { frames := 2, cells := 0, slots := 0, locals := 48 }
theorem dM_time_0 : decode cM_time 0 = .ok (.aload_n 0, 1) := by decide +kernel
theorem dM_time_1 : decode cM_time 1 = .ok (.aload_n 0, 1) := by decide +kernel
theorem dM_time_2 : decode cM_time 2 = .ok (.getfield 110, 3) := by decide +kernel
theorem dM_time_5 : decode cM_time 5 = .ok (.ifCond .ne 7, 3) := by decide +kernel
theorem dM_time_8 : decode cM_time 8 = .ok (.iconst 1, 1) := by decide +kernel
theorem dM_time_9 : decode cM_time 9 = .ok (.goto 4, 3) := by decide +kernel
theorem dM_time_12 : decode cM_time 12 = .ok (.iconst 0, 1) := by decide +kernel
theorem dM_time_13 : decode cM_time 13 = .ok (.iload_n 1, 1) := by decide +kernel
theorem dM_time_14 : decode cM_time 14 = .ok (.ifCond .lt 9, 3) := by decide +kernel
theorem dM_time_17 : decode cM_time 17 = .ok (.iload_n 1, 1) := by decide +kernel
theorem dM_time_18 : decode cM_time 18 = .ok (.ldc 157, 2) := by decide +kernel
theorem dM_time_20 : decode cM_time 20 = .ok (.if_icmp .le 7, 3) := by decide +kernel
theorem dM_time_23 : decode cM_time 23 = .ok (.iconst 1, 1) := by decide +kernel
theorem dM_time_24 : decode cM_time 24 = .ok (.goto 4, 3) := by decide +kernel
theorem dM_time_27 : decode cM_time 27 = .ok (.iconst 0, 1) := by decide +kernel
theorem dM_time_28 : decode cM_time 28 = .ok (.invokevirtual 158, 3) := by decide +kernel
theorem dM_time_31 : decode cM_time 31 = .ok (.ifCond .eq 5, 3) := by decide +kernel
theorem dM_time_34 : decode cM_time 34 = .ok (.lconst 0, 1) := by decide +kernel
theorem dM_time_35 : decode cM_time 35 = .ok (.lreturn, 1) := by decide +kernel
theorem dM_time_36 : decode cM_time 36 = .ok (.aload_n 0, 1) := by decide +kernel
theorem dM_time_37 : decode cM_time 37 = .ok (.iload_n 1, 1) := by decide +kernel
theorem dM_time_38 : decode cM_time 38 = .ok (.invokevirtual 162, 3) := by decide +kernel
theorem dM_time_41 : decode cM_time 41 = .ok (.aload_n 0, 1) := by decide +kernel
theorem dM_time_42 : decode cM_time 42 = .ok (.invokevirtual 165, 3) := by decide +kernel
theorem dM_time_45 : decode cM_time 45 = .ok (.ldiv, 1) := by decide +kernel
theorem dM_time_46 : decode cM_time 46 = .ok (.lreturn, 1) := by decide +kernel
def jM_time_28 (iv : Nat → Int32) (av : Nat → Nat → Int32) (x1 : Int32) (s1 : Int32) (s2 : Int32) : Option (Int64 × (Nat → Int32) × (Nat → Nat → Int32)) := (fM_fails iv av s1 s2).bind fun (r1, iv1, av1) => if r1 = 0 then ((fM_timed iv1 av1 x1).bind fun (r3, iv3, av3) => (fM_parts iv3 av3).bind fun (r4, iv4, av4) => if r4 = 0 then none else (some (r3 / r4, iv4, av4))) else (some ((0 : Int64), iv1, av1))
def jM_time_23 (iv : Nat → Int32) (av : Nat → Nat → Int32) (x1 : Int32) (s1 : Int32) : Option (Int64 × (Nat → Int32) × (Nat → Nat → Int32)) := jM_time_28 iv av x1 s1 (1 : Int32)
def jM_time_13 (iv : Nat → Int32) (av : Nat → Nat → Int32) (x1 : Int32) (s1 : Int32) : Option (Int64 × (Nat → Int32) × (Nat → Nat → Int32)) := if x1 < 0 then (jM_time_23 iv av x1 s1) else (if x1 ≤ (268435455 : Int32) then (jM_time_28 iv av x1 s1 (0 : Int32)) else (jM_time_23 iv av x1 s1))
def fM_time (iv : Nat → Int32) (av : Nat → Nat → Int32) (x1 : Int32) : Option (Int64 × (Nat → Int32) × (Nat → Nat → Int32)) := if (iv 6) = 0 then (jM_time_13 iv av x1 (1 : Int32)) else (jM_time_13 iv av x1 (0 : Int32))
set_option maxHeartbeats 4000000 in
set_option maxRecDepth 100000 in
theorem wM_time_28 {p : Program} {l : Launch} {e : Env} {s : State} {m : MethodId} {args : Array Value} {below : List Frame} {meth : Method} {c : Code} {g : gT} {q : Nat} {ad : Nat → Nat} {X : va_W} {rv : Option Value} {iv' : Nat → Int32} {av' : Nat → Nat → Int32} {r' : Int64} (C : mCx p m c cM_time 2 s args g "MidiDeskModel") (hr : meth.sig.returnType = (some .long)) (hlk : meth.locks = false) (hrv : rv = some (.long r')) (iv : Nat → Int32) (av : Nat → Nat → Int32) (x1 : Int32) (s1 : Int32) (s2 : Int32) (H : Heap) (locs : List Loc) (ls : Array Slot) (hl : lv_has ls 2 [(0, .ref q), (1, .int x1)]) (hw : mWd g (mA g q ad X s.heap.size) s.heap q ad X iv av H locs) (hf : jM_time_28 iv av x1 s1 s2 = some (r', iv', av')) : mG p l e rM_time s m args below meth c g q ad X rv iv' av' H locs 0 0 (F0 m 28 ls [.int s2, .int s1, .ref q]) := by
  unfold jM_time_28 at hf
  obtain ⟨⟨r1, iv1, av1⟩, g1, hf⟩ := ts_b hf
  dsimp only at hf
  refine m_callV (rest := []) (As := [.int s1, .int s2]) (rv := (some (.int r1))) C hl.1 hw (cM_fails_met g1) (callW_of (rm := rM_fails) 2 C.1.2.2.2.2 gw_877 gw_879 gw_39 gw_55 gw_880 kM_fails ⟨Nat.le_of_ble_eq_true rfl, Nat.le_of_ble_eq_true rfl⟩) rfl rfl (Nat.le_of_ble_eq_true rfl) dM_time_28 ⟨Nat.le_of_ble_eq_true rfl, Nat.le_of_ble_eq_true rfl⟩ (fun H locs hw => ?_)
  refine W.eq (g2 := F0 m 31 ls [.int r1]) rfl ?_
  refine lv_if_eq (tgt := 36) C.1.1 C.1.2.1 dM_time_31 (by decide) (fun c2 => ?_) (fun c2 => ?_)
  · have hf := ts_t hf c2
    refine lv_aload_n C.1.1 C.1.2.1 dM_time_36 rfl (lv_at hl 0 rfl) ?_
    refine lv_iload_n C.1.1 C.1.2.1 dM_time_37 rfl (lv_at hl 1 rfl) ?_
    obtain ⟨⟨r3, iv3, av3⟩, g3, hf⟩ := ts_b hf
    dsimp only at hf
    refine m_callV (rest := []) (As := [.int x1]) (rv := (some (.long r3))) C hl.1 hw (cM_timed_met g3) (callW_of (rm := rM_timed) 1 C.1.2.2.2.2 gw_881 gw_883 gw_40 gw_55 gw_884 kM_timed ⟨Nat.le_of_ble_eq_true rfl, Nat.le_of_ble_eq_true rfl⟩) rfl rfl (Nat.le_of_ble_eq_true rfl) dM_time_38 ⟨Nat.le_of_ble_eq_true rfl, Nat.le_of_ble_eq_true rfl⟩ (fun H locs hw => ?_)
    refine W.eq (g2 := F0 m 41 ls [.long r3]) rfl ?_
    refine lv_aload_n C.1.1 C.1.2.1 dM_time_41 rfl (lv_at hl 0 rfl) ?_
    obtain ⟨⟨r4, iv4, av4⟩, g4, hf⟩ := ts_b hf
    dsimp only at hf
    refine m_callV (rest := [.long r3]) (As := []) (rv := (some (.long r4))) C hl.1 hw (cM_parts_met g4) (callW_of (rm := rM_parts) 0 C.1.2.2.2.2 gw_892 gw_894 gw_42 gw_55 gw_895 kM_parts ⟨Nat.le_of_ble_eq_true rfl, Nat.le_of_ble_eq_true rfl⟩) rfl rfl (Nat.le_of_ble_eq_true rfl) dM_time_42 ⟨Nat.le_of_ble_eq_true rfl, Nat.le_of_ble_eq_true rfl⟩ (fun H locs hw => ?_)
    refine W.eq (g2 := F0 m 45 ls [.long r4, .long r3]) rfl ?_
    obtain ⟨h5, hf⟩ := ts_g hf
    refine lv_ldiv C.1.1 C.1.2.1 dM_time_45 h5 ?_
    exact m_retl C hr hlk hrv hw hf ⟨Nat.le_of_ble_eq_true rfl, Nat.le_of_ble_eq_true rfl⟩ dM_time_46
  · have hf := ts_f hf c2
    refine lv_lconst (v := 0) C.1.1 C.1.2.1 dM_time_34 (by decide) ?_
    exact m_retl C hr hlk hrv hw hf ⟨Nat.le_of_ble_eq_true rfl, Nat.le_of_ble_eq_true rfl⟩ dM_time_35
set_option maxHeartbeats 4000000 in
set_option maxRecDepth 100000 in
theorem wM_time_23 {p : Program} {l : Launch} {e : Env} {s : State} {m : MethodId} {args : Array Value} {below : List Frame} {meth : Method} {c : Code} {g : gT} {q : Nat} {ad : Nat → Nat} {X : va_W} {rv : Option Value} {iv' : Nat → Int32} {av' : Nat → Nat → Int32} {r' : Int64} (C : mCx p m c cM_time 2 s args g "MidiDeskModel") (hr : meth.sig.returnType = (some .long)) (hlk : meth.locks = false) (hrv : rv = some (.long r')) (iv : Nat → Int32) (av : Nat → Nat → Int32) (x1 : Int32) (s1 : Int32) (H : Heap) (locs : List Loc) (ls : Array Slot) (hl : lv_has ls 2 [(0, .ref q), (1, .int x1)]) (hw : mWd g (mA g q ad X s.heap.size) s.heap q ad X iv av H locs) (hf : jM_time_23 iv av x1 s1 = some (r', iv', av')) : mG p l e rM_time s m args below meth c g q ad X rv iv' av' H locs 0 0 (F0 m 23 ls [.int s1, .ref q]) := by
  unfold jM_time_23 at hf
  refine lv_iconst (v := (1 : Int32)) C.1.1 C.1.2.1 dM_time_23 (by decide) ?_
  refine lv_goto (tgt := 28) C.1.1 C.1.2.1 dM_time_24 (by decide) ?_
  exact wM_time_28 C hr hlk hrv iv av x1 s1 (1 : Int32) _ _ ls (lv_sub hl [0, 1] rfl) hw hf
set_option maxHeartbeats 4000000 in
set_option maxRecDepth 100000 in
theorem wM_time_13 {p : Program} {l : Launch} {e : Env} {s : State} {m : MethodId} {args : Array Value} {below : List Frame} {meth : Method} {c : Code} {g : gT} {q : Nat} {ad : Nat → Nat} {X : va_W} {rv : Option Value} {iv' : Nat → Int32} {av' : Nat → Nat → Int32} {r' : Int64} (C : mCx p m c cM_time 2 s args g "MidiDeskModel") (hr : meth.sig.returnType = (some .long)) (hlk : meth.locks = false) (hrv : rv = some (.long r')) (iv : Nat → Int32) (av : Nat → Nat → Int32) (x1 : Int32) (s1 : Int32) (H : Heap) (locs : List Loc) (ls : Array Slot) (hl : lv_has ls 2 [(0, .ref q), (1, .int x1)]) (hw : mWd g (mA g q ad X s.heap.size) s.heap q ad X iv av H locs) (hf : jM_time_13 iv av x1 s1 = some (r', iv', av')) : mG p l e rM_time s m args below meth c g q ad X rv iv' av' H locs 0 0 (F0 m 13 ls [.int s1, .ref q]) := by
  unfold jM_time_13 at hf
  refine lv_iload_n C.1.1 C.1.2.1 dM_time_13 rfl (lv_at hl 1 rfl) ?_
  refine lv_if_lt (tgt := 23) C.1.1 C.1.2.1 dM_time_14 (by decide) (fun c1 => ?_) (fun c1 => ?_)
  · have hf := ts_t hf c1
    exact wM_time_23 C hr hlk hrv iv av x1 s1 _ _ ls (lv_sub hl [0, 1] rfl) hw hf
  · have hf := ts_f hf c1
    refine lv_iload_n C.1.1 C.1.2.1 dM_time_17 rfl (lv_at hl 1 rfl) ?_
    refine lv_ldc C.1.1 C.1.2.1 C.1.2.2.2.1 (C.1.2.2.2.2 _ gw_876) dM_time_18 ?_
    refine lv_icmp_le (tgt := 27) C.1.1 C.1.2.1 dM_time_20 (by decide) (fun c2 => ?_) (fun c2 => ?_)
    · have hf := ts_t hf c2
      refine lv_iconst (v := (0 : Int32)) C.1.1 C.1.2.1 dM_time_27 (by decide) ?_
      exact wM_time_28 C hr hlk hrv iv av x1 s1 (0 : Int32) _ _ ls (lv_sub hl [0, 1] rfl) hw hf
    · have hf := ts_f hf c2
      exact wM_time_23 C hr hlk hrv iv av x1 s1 _ _ ls (lv_sub hl [0, 1] rfl) hw hf
set_option maxHeartbeats 4000000 in
set_option maxRecDepth 100000 in
theorem cM_time_met {l : Launch} {g : gT} {q : Nat} {ad : Nat → Nat} {X : va_W} {iv iv' : Nat → Int32} {av av' : Nat → Nat → Int32} {x1 : Int32} {r' : Int64} (hf : fM_time iv av x1 = some (r', iv', av')) : mMet l yM_time cM_time 2 (some .long) rM_time g q ad X iv av [.ref q, .int x1] (some (.long r')) iv' av' := by
  refine m_entry (by decide) (Nat.le_of_ble_eq_true rfl) ?_
  intro p e s m args below meth c ls C hr hlk hnm hl hw
  have hrv : ((some (.long r')) : Option Value) = (some (.long r')) := rfl
  have C : mCx p m c cM_time 2 s args g "MidiDeskModel" := C
  have hl : lv_has ls 2 [(0, .ref q), (1, .int x1)] := hl
  unfold fM_time at hf
  refine lv_aload_n C.1.1 C.1.2.1 dM_time_0 rfl (lv_at hl 0 rfl) ?_
  refine lv_aload_n C.1.1 C.1.2.1 dM_time_1 rfl (lv_at hl 0 rfl) ?_
  refine mg_there C hw dM_time_2 ?_
  refine lv_if_ne (tgt := 12) C.1.1 C.1.2.1 dM_time_5 (by decide) (fun c1 => ?_) (fun c1 => ?_)
  · have hf := ts_f hf c1
    refine lv_iconst (v := (0 : Int32)) C.1.1 C.1.2.1 dM_time_12 (by decide) ?_
    exact wM_time_13 C hr hlk hrv iv av x1 (0 : Int32) _ _ ls (lv_sub hl [0, 1] rfl) hw hf
  · have hf := ts_t hf c1
    refine lv_iconst (v := (1 : Int32)) C.1.1 C.1.2.1 dM_time_8 (by decide) ?_
    refine lv_goto (tgt := 13) C.1.1 C.1.2.1 dM_time_9 (by decide) ?_
    exact wM_time_13 C hr hlk hrv iv av x1 (1 : Int32) _ _ ls (lv_sub hl [0, 1] rfl) hw hf
