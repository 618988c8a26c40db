abbrev cP_channelEvent : ByteArray := prog_4_method_13_code
abbrev yP_channelEvent : MethodName := ⟨"MidiDesk$Parser", "channelEvent", "(I)V"⟩
theorem kP_channelEvent : yP_channelEvent.cls ≠ "java/lang/invoke/MethodHandle" ∧ yP_channelEvent.cls ≠ "java/lang/invoke/VarHandle" ∧ (parseMethodDescriptor yP_channelEvent.desc).map (fun d => d.parameters.length) = some 1 := by decide +kernel
abbrev rP_channelEvent : Room := { frames := 3, cells := 0, slots := 0, locals := 69 }
theorem dP_channelEvent_0 : decode cP_channelEvent 0 = .ok (.aload_n 0, 1) := by decide +kernel
theorem dP_channelEvent_1 : decode cP_channelEvent 1 = .ok (.iload_n 1, 1) := by decide +kernel
theorem dP_channelEvent_2 : decode cP_channelEvent 2 = .ok (.putfield 96, 3) := by decide +kernel
theorem dP_channelEvent_5 : decode cP_channelEvent 5 = .ok (.aload_n 0, 1) := by decide +kernel
theorem dP_channelEvent_6 : decode cP_channelEvent 6 = .ok (.aload_n 0, 1) := by decide +kernel
theorem dP_channelEvent_7 : decode cP_channelEvent 7 = .ok (.invokevirtual 130, 3) := by decide +kernel
theorem dP_channelEvent_10 : decode cP_channelEvent 10 = .ok (.putfield 133, 3) := by decide +kernel
theorem dP_channelEvent_13 : decode cP_channelEvent 13 = .ok (.aload_n 0, 1) := by decide +kernel
theorem dP_channelEvent_14 : decode cP_channelEvent 14 = .ok (.iload_n 1, 1) := by decide +kernel
theorem dP_channelEvent_15 : decode cP_channelEvent 15 = .ok (.invokestatic 136, 3) := by decide +kernel
theorem dP_channelEvent_18 : decode cP_channelEvent 18 = .ok (.ifCond .eq 7, 3) := by decide +kernel
theorem dP_channelEvent_21 : decode cP_channelEvent 21 = .ok (.iconst (-1), 1) := by decide +kernel
theorem dP_channelEvent_22 : decode cP_channelEvent 22 = .ok (.goto 7, 3) := by decide +kernel
theorem dP_channelEvent_25 : decode cP_channelEvent 25 = .ok (.aload_n 0, 1) := by decide +kernel
theorem dP_channelEvent_26 : decode cP_channelEvent 26 = .ok (.invokevirtual 130, 3) := by decide +kernel
theorem dP_channelEvent_29 : decode cP_channelEvent 29 = .ok (.putfield 139, 3) := by decide +kernel
theorem dP_channelEvent_32 : decode cP_channelEvent 32 = .ok (.aload_n 0, 1) := by decide +kernel
theorem dP_channelEvent_33 : decode cP_channelEvent 33 = .ok (.iconst (-1), 1) := by decide +kernel
theorem dP_channelEvent_34 : decode cP_channelEvent 34 = .ok (.putfield 122, 3) := by decide +kernel
theorem dP_channelEvent_37 : decode cP_channelEvent 37 = .ok (.return_, 1) := by decide +kernel
def jP_channelEvent_29 (h : cH) (z : cZ) (pv : Nat → Int32) (s1 : Int32) : Option (cZ × (Nat → Int32)) := some (z, upd (upd pv 8 s1) 10 (-1 : Int32))
def fP_channelEvent (h : cH) (z : cZ) (pv : Nat → Int32) (x1 : Int32) : Option (cZ × (Nat → Int32)) := (fP_lowByte h z (upd pv 5 x1)).bind fun (r1, z1, pv1) => (fD_hasOneByte h z1 x1).bind fun (r2, z2) => if r2 = 0 then ((fP_lowByte h z2 (upd pv1 7 r1)).bind fun (r4, z4, pv4) => jP_channelEvent_29 h z4 pv4 r4) else (jP_channelEvent_29 h z2 (upd pv1 7 r1) (-1 : Int32))
set_option maxHeartbeats 4000000 in
set_option maxRecDepth 100000 in
theorem wP_channelEvent_29 {p : Program} {l : Launch} {e : Env} {s : State} {m : MethodId} {args : Array Value} {below : List Frame} {meth : Method} {c : Code} {g : gT} {qq ad ea : Nat → Nat} {h : cH} {X : va_W} {rv : Option Value} {qp : Nat} {pv0 pv' : Nat → Int32} {z' : cZ} (C : mCx p m c cP_channelEvent 2 s args g "MidiDesk$Parser") (hr : meth.sig.returnType = none) (hlk : meth.locks = false) (hrv : rv = none) (z : cZ) (pv : Nat → Int32) (s1 : Int32) (H : Heap) (locs : List Loc) (ls : Array Slot) (hl : lv_has ls 2 [(0, .ref qp)]) (hw : cWd g (cA g qq ad ea h (pcell qp qq pv0 :: X) s.heap.size) s.heap qq ad ea h (pcell qp qq pv :: X) z H locs) (hf : jP_channelEvent_29 h z pv s1 = some (z', pv')) : cG p l e rP_channelEvent s m args below meth c g qq ad ea h (pcell qp qq pv0 :: X) rv (pcell qp qq pv' :: X) z' H locs 0 0 (F0 m 29 ls [.int s1, .ref qp]) := by
  unfold jP_channelEvent_29 at hf
  refine cp_Parser_Parser_second C hw dP_channelEvent_29 (fun H locs hw => ?_)
  refine lv_aload_n C.1.1 C.1.2.1 dP_channelEvent_32 rfl (lv_at hl 0 rfl) ?_
  refine lv_iconst (v := (-1 : Int32)) C.1.1 C.1.2.1 dP_channelEvent_33 (by decide) ?_
  refine cp_Parser_Parser_size C hw dP_channelEvent_34 (fun H locs hw => ?_)
  obtain ⟨hf, hpv⟩ := pr2 hf
  exact c_retv C hr hlk hrv hw hf (by rw [hpv]) ⟨Nat.le_of_ble_eq_true rfl, Nat.le_of_ble_eq_true rfl⟩ dP_channelEvent_37
set_option maxHeartbeats 4000000 in
set_option maxRecDepth 100000 in
theorem cP_channelEvent_met {l : Launch} {g : gT} {qq ad ea : Nat → Nat} {h : cH} {X : va_W} {qp : Nat} {pv pv' : Nat → Int32} {z z' : cZ} {x1 : Int32} (hf : fP_channelEvent h z pv x1 = some (z', pv')) : cMet l yP_channelEvent cP_channelEvent 2 none rP_channelEvent g qq ad ea h (pcell qp qq pv :: X) z [.ref qp, .int x1] (none) (pcell qp qq pv' :: X) z' := by
  refine c_entry (by decide) (Nat.le_of_ble_eq_true rfl) ?_
  intro p e s m args below meth c ls C hr hlk hnm hl hw
  have hrv : (none : Option Value) = none := rfl
  have C : mCx p m c cP_channelEvent 2 s args g "MidiDesk$Parser" := C
  have hl : lv_has ls 2 [(0, .ref qp), (1, .int x1)] := hl
  unfold fP_channelEvent at hf
  refine lv_aload_n C.1.1 C.1.2.1 dP_channelEvent_0 rfl (lv_at hl 0 rfl) ?_
  refine lv_iload_n C.1.1 C.1.2.1 dP_channelEvent_1 rfl (lv_at hl 1 rfl) ?_
  refine cp_Parser_Parser_running C hw dP_channelEvent_2 (fun H locs hw => ?_)
  refine lv_aload_n C.1.1 C.1.2.1 dP_channelEvent_5 rfl (lv_at hl 0 rfl) ?_
  refine lv_aload_n C.1.1 C.1.2.1 dP_channelEvent_6 rfl (lv_at hl 0 rfl) ?_
  obtain ⟨⟨r1, z1, pv1⟩, g1, hf⟩ := ts_b hf
  try dsimp only at hf
  refine c_callV (rest := [.ref qp]) (As := []) (rv := (some (.int r1))) (b := qp) C hl.1 hw (cP_lowByte_met g1) rfl (callW_of (rm := rP_lowByte) (C := "MidiDesk$Parser") 0 C.1.2.2.2.2 gw_290 gw_292 gw_9 gw_59 gw_293 kP_lowByte ⟨Nat.le_of_ble_eq_true rfl, Nat.le_of_ble_eq_true rfl⟩) (c_recvX (ci := 2) C.2 rfl hw) rfl rfl (Nat.le_of_ble_eq_true rfl) dP_channelEvent_7 ⟨Nat.le_of_ble_eq_true rfl, Nat.le_of_ble_eq_true rfl⟩ (fun H locs hw => ?_)
  refine W.eq (g2 := F0 m 10 ls [.int r1, .ref qp]) rfl ?_
  refine cp_Parser_Parser_first C hw dP_channelEvent_10 (fun H locs hw => ?_)
  refine lv_aload_n C.1.1 C.1.2.1 dP_channelEvent_13 rfl (lv_at hl 0 rfl) ?_
  refine lv_iload_n C.1.1 C.1.2.1 dP_channelEvent_14 rfl (lv_at hl 1 rfl) ?_
  obtain ⟨⟨r2, z2⟩, g2, hf⟩ := ts_b hf
  try dsimp only at hf
  refine c_callSN (rest := [.ref qp]) (As := [.int x1]) (rv := (some (.int r2))) (rm := rD_hasOneByte) C hl.1 hw (cD_hasOneByte_met g2) gw_296 nw_243 gw_295 gw_52 kD_hasOneByte ⟨Nat.le_of_ble_eq_true rfl, Nat.le_of_ble_eq_true rfl⟩ rfl rfl (Nat.le_of_ble_eq_true rfl) dP_channelEvent_15 ⟨Nat.le_of_ble_eq_true rfl, Nat.le_of_ble_eq_true rfl⟩ (fun H locs hw => ?_)
  refine W.eq (g2 := F0 m 18 ls [.int r2, .ref qp]) rfl ?_
  refine lv_if_eq (tgt := 25) C.1.1 C.1.2.1 dP_channelEvent_18 (by decide) (fun c3 => ?_) (fun c3 => ?_)
  · have hf := ts_t hf c3
    refine lv_aload_n C.1.1 C.1.2.1 dP_channelEvent_25 rfl (lv_at hl 0 rfl) ?_
    obtain ⟨⟨r4, z4, pv4⟩, g4, hf⟩ := ts_b hf
    try dsimp only at hf
    refine c_callV (rest := [.ref qp]) (As := []) (rv := (some (.int r4))) (b := qp) C hl.1 hw (cP_lowByte_met g4) rfl (callW_of (rm := rP_lowByte) (C := "MidiDesk$Parser") 0 C.1.2.2.2.2 gw_290 gw_292 gw_9 gw_59 gw_293 kP_lowByte ⟨Nat.le_of_ble_eq_true rfl, Nat.le_of_ble_eq_true rfl⟩) (c_recvX (ci := 2) C.2 rfl hw) rfl rfl (Nat.le_of_ble_eq_true rfl) dP_channelEvent_26 ⟨Nat.le_of_ble_eq_true rfl, Nat.le_of_ble_eq_true rfl⟩ (fun H locs hw => ?_)
    refine W.eq (g2 := F0 m 29 ls [.int r4, .ref qp]) rfl ?_
    exact wP_channelEvent_29 C hr hlk hrv z4 pv4 r4 _ _ ls (lv_sub hl [0] rfl) hw hf
  · have hf := ts_f hf c3
    refine lv_iconst (v := (-1 : Int32)) C.1.1 C.1.2.1 dP_channelEvent_21 (by decide) ?_
    refine lv_goto (tgt := 29) C.1.1 C.1.2.1 dP_channelEvent_22 (by decide) ?_
    exact wP_channelEvent_29 C hr hlk hrv z2 (upd pv1 7 r1) (-1 : Int32) _ _ ls (lv_sub hl [0] rfl) hw hf
abbrev cP_passData : ByteArray := prog_4_method_16_code
abbrev yP_passData : MethodName := ⟨"MidiDesk$Parser", "passData", "()V"⟩
theorem kP_passData : yP_passData.cls ≠ "java/lang/invoke/MethodHandle" ∧ yP_passData.cls ≠ "java/lang/invoke/VarHandle" ∧ (parseMethodDescriptor yP_passData.desc).map (fun d => d.parameters.length) = some 0 := by decide +kernel
abbrev rP_passData : Room := { frames := 1, cells := 0, slots := 0, locals := 23 }
theorem dP_passData_0 : decode cP_passData 0 = .ok (.aload_n 0, 1) := by decide +kernel
theorem dP_passData_1 : decode cP_passData 1 = .ok (.aload_n 0, 1) := by decide +kernel
theorem dP_passData_2 : decode cP_passData 2 = .ok (.getfield 122, 3) := by decide +kernel
theorem dP_passData_5 : decode cP_passData 5 = .ok (.aload_n 0, 1) := by decide +kernel
theorem dP_passData_6 : decode cP_passData 6 = .ok (.getfield 30, 3) := by decide +kernel
theorem dP_passData_9 : decode cP_passData 9 = .ok (.aload_n 0, 1) := by decide +kernel
theorem dP_passData_10 : decode cP_passData 10 = .ok (.getfield 40, 3) := by decide +kernel
theorem dP_passData_13 : decode cP_passData 13 = .ok (.isub, 1) := by decide +kernel
theorem dP_passData_14 : decode cP_passData 14 = .ok (.if_icmp .gt 7, 3) := by decide +kernel
theorem dP_passData_17 : decode cP_passData 17 = .ok (.iconst 1, 1) := by decide +kernel
theorem dP_passData_18 : decode cP_passData 18 = .ok (.goto 4, 3) := by decide +kernel
theorem dP_passData_21 : decode cP_passData 21 = .ok (.iconst 0, 1) := by decide +kernel
theorem dP_passData_22 : decode cP_passData 22 = .ok (.iconst 1, 1) := by decide +kernel
theorem dP_passData_23 : decode cP_passData 23 = .ok (.aload_n 0, 1) := by decide +kernel
theorem dP_passData_24 : decode cP_passData 24 = .ok (.getfield 30, 3) := by decide +kernel
theorem dP_passData_27 : decode cP_passData 27 = .ok (.invokevirtual 56, 3) := by decide +kernel
theorem dP_passData_30 : decode cP_passData 30 = .ok (.aload_n 0, 1) := by decide +kernel
theorem dP_passData_31 : decode cP_passData 31 = .ok (.aload_n 0, 1) := by decide +kernel
theorem dP_passData_32 : decode cP_passData 32 = .ok (.getfield 40, 3) := by decide +kernel
theorem dP_passData_35 : decode cP_passData 35 = .ok (.putfield 145, 3) := by decide +kernel
theorem dP_passData_38 : decode cP_passData 38 = .ok (.aload_n 0, 1) := by decide +kernel
theorem dP_passData_39 : decode cP_passData 39 = .ok (.getfield 37, 3) := by decide +kernel
theorem dP_passData_42 : decode cP_passData 42 = .ok (.ifCond .ne 16, 3) := by decide +kernel
theorem dP_passData_45 : decode cP_passData 45 = .ok (.aload_n 0, 1) := by decide +kernel
theorem dP_passData_46 : decode cP_passData 46 = .ok (.dup, 1) := by decide +kernel
theorem dP_passData_47 : decode cP_passData 47 = .ok (.getfield 40, 3) := by decide +kernel
theorem dP_passData_50 : decode cP_passData 50 = .ok (.aload_n 0, 1) := by decide +kernel
theorem dP_passData_51 : decode cP_passData 51 = .ok (.getfield 122, 3) := by decide +kernel
theorem dP_passData_54 : decode cP_passData 54 = .ok (.iadd, 1) := by decide +kernel
theorem dP_passData_55 : decode cP_passData 55 = .ok (.putfield 40, 3) := by decide +kernel
theorem dP_passData_58 : decode cP_passData 58 = .ok (.return_, 1) := by decide +kernel
def jP_passData_22 (h : cH) (z : cZ) (pv : Nat → Int32) (s1 : Int32) : Option (cZ × (Nat → Int32)) := (fP_expect h z pv s1 (1 : Int32) (pv 1)).bind fun (z1, pv1) => if ((upd pv1 9 (pv1 0)) 2) = 0 then (some (z1, upd (upd pv1 9 (pv1 0)) 0 (((upd pv1 9 (pv1 0)) 0) + ((upd pv1 9 (pv1 0)) 10)))) else (some (z1, upd pv1 9 (pv1 0)))
def fP_passData (h : cH) (z : cZ) (pv : Nat → Int32) : Option (cZ × (Nat → Int32)) := if ((pv 1) - (pv 0)) < (pv 10) then (jP_passData_22 h z pv (0 : Int32)) else (jP_passData_22 h z pv (1 : Int32))
set_option maxHeartbeats 4000000 in
set_option maxRecDepth 100000 in
theorem wP_passData_22 {p : Program} {l : Launch} {e : Env} {s : State} {m : MethodId} {args : Array Value} {below : List Frame} {meth : Method} {c : Code} {g : gT} {qq ad ea : Nat → Nat} {h : cH} {X : va_W} {rv : Option Value} {qp : Nat} {pv0 pv' : Nat → Int32} {z' : cZ} (C : mCx p m c cP_passData 1 s args g "MidiDesk$Parser") (hr : meth.sig.returnType = none) (hlk : meth.locks = false) (hrv : rv = none) (z : cZ) (pv : Nat → Int32) (s1 : Int32) (H : Heap) (locs : List Loc) (ls : Array Slot) (hl : lv_has ls 1 [(0, .ref qp)]) (hw : cWd g (cA g qq ad ea h (pcell qp qq pv0 :: X) s.heap.size) s.heap qq ad ea h (pcell qp qq pv :: X) z H locs) (hf : jP_passData_22 h z pv s1 = some (z', pv')) : cG p l e rP_passData s m args below meth c g qq ad ea h (pcell qp qq pv0 :: X) rv (pcell qp qq pv' :: X) z' H locs 0 0 (F0 m 22 ls [.int s1, .ref qp]) := by
  unfold jP_passData_22 at hf
  refine lv_iconst (v := (1 : Int32)) C.1.1 C.1.2.1 dP_passData_22 (by decide) ?_
  refine lv_aload_n C.1.1 C.1.2.1 dP_passData_23 rfl (lv_at hl 0 rfl) ?_
  refine cg_Parser_Parser_end C hw dP_passData_24 ?_
  obtain ⟨⟨z1, pv1⟩, g1, hf⟩ := ts_b hf
  try dsimp only at hf
  refine c_callV (rest := []) (As := [.int s1, .int (1 : Int32), .int (pv 1)]) (rv := none) (b := qp) C hl.1 hw (cP_expect_met g1) rfl (callW_of (rm := rP_expect) (C := "MidiDesk$Parser") 3 C.1.2.2.2.2 gw_250 gw_252 gw_2 gw_59 gw_253 kP_expect ⟨Nat.le_of_ble_eq_true rfl, Nat.le_of_ble_eq_true rfl⟩) (c_recvX (ci := 2) C.2 rfl hw) rfl rfl (Nat.le_of_ble_eq_true rfl) dP_passData_27 ⟨Nat.le_of_ble_eq_true rfl, Nat.le_of_ble_eq_true rfl⟩ (fun H locs hw => ?_)
  refine W.eq (g2 := F0 m 30 ls []) rfl ?_
  refine lv_aload_n C.1.1 C.1.2.1 dP_passData_30 rfl (lv_at hl 0 rfl) ?_
  refine lv_aload_n C.1.1 C.1.2.1 dP_passData_31 rfl (lv_at hl 0 rfl) ?_
  refine cg_Parser_Parser_pos C hw dP_passData_32 ?_
  refine cp_Parser_Parser_start C hw dP_passData_35 (fun H locs hw => ?_)
  refine lv_aload_n C.1.1 C.1.2.1 dP_passData_38 rfl (lv_at hl 0 rfl) ?_
  refine cg_Parser_Parser_fault C hw dP_passData_39 ?_
  refine lv_if_ne (tgt := 58) C.1.1 C.1.2.1 dP_passData_42 (by decide) (fun c2 => ?_) (fun c2 => ?_)
  · have hf := ts_f hf c2
    obtain ⟨hf, hpv⟩ := pr2 hf
    exact c_retv C hr hlk hrv hw hf (by rw [hpv]) ⟨Nat.le_of_ble_eq_true rfl, Nat.le_of_ble_eq_true rfl⟩ dP_passData_58
  · have hf := ts_t hf c2
    refine lv_aload_n C.1.1 C.1.2.1 dP_passData_45 rfl (lv_at hl 0 rfl) ?_
    refine lv_dup C.1.1 C.1.2.1 dP_passData_46 rfl ?_
    refine cg_Parser_Parser_pos C hw dP_passData_47 ?_
    refine lv_aload_n C.1.1 C.1.2.1 dP_passData_50 rfl (lv_at hl 0 rfl) ?_
    refine cg_Parser_Parser_size C hw dP_passData_51 ?_
    refine lv_iadd C.1.1 C.1.2.1 dP_passData_54 ?_
    refine cp_Parser_Parser_pos C hw dP_passData_55 (fun H locs hw => ?_)
    obtain ⟨hf, hpv⟩ := pr2 hf
    exact c_retv C hr hlk hrv hw hf (by rw [hpv]) ⟨Nat.le_of_ble_eq_true rfl, Nat.le_of_ble_eq_true rfl⟩ dP_passData_58
set_option maxHeartbeats 4000000 in
set_option maxRecDepth 100000 in
theorem cP_passData_met {l : Launch} {g : gT} {qq ad ea : Nat → Nat} {h : cH} {X : va_W} {qp : Nat} {pv pv' : Nat → Int32} {z z' : cZ} (hf : fP_passData h z pv = some (z', pv')) : cMet l yP_passData cP_passData 1 none rP_passData g qq ad ea h (pcell qp qq pv :: X) z [.ref qp] (none) (pcell qp qq pv' :: X) z' := by
  refine c_entry (by decide) (Nat.le_of_ble_eq_true rfl) ?_
  intro p e s m args below meth c ls C hr hlk hnm hl hw
  have hrv : (none : Option Value) = none := rfl
  have C : mCx p m c cP_passData 1 s args g "MidiDesk$Parser" := C
  have hl : lv_has ls 1 [(0, .ref qp)] := hl
  unfold fP_passData at hf
  refine lv_aload_n C.1.1 C.1.2.1 dP_passData_0 rfl (lv_at hl 0 rfl) ?_
  refine lv_aload_n C.1.1 C.1.2.1 dP_passData_1 rfl (lv_at hl 0 rfl) ?_
  refine cg_Parser_Parser_size C hw dP_passData_2 ?_
  refine lv_aload_n C.1.1 C.1.2.1 dP_passData_5 rfl (lv_at hl 0 rfl) ?_
  refine cg_Parser_Parser_end C hw dP_passData_6 ?_
  refine lv_aload_n C.1.1 C.1.2.1 dP_passData_9 rfl (lv_at hl 0 rfl) ?_
  refine cg_Parser_Parser_pos C hw dP_passData_10 ?_
  refine lv_isub C.1.1 C.1.2.1 dP_passData_13 ?_
  refine lv_icmp_gt (tgt := 21) C.1.1 C.1.2.1 dP_passData_14 (by decide) (fun c1 => ?_) (fun c1 => ?_)
  · have hf := ts_t hf c1
    refine lv_iconst (v := (0 : Int32)) C.1.1 C.1.2.1 dP_passData_21 (by decide) ?_
    exact wP_passData_22 C hr hlk hrv z pv (0 : Int32) _ _ ls (lv_sub hl [0] rfl) hw hf
  · have hf := ts_f hf c1
    refine lv_iconst (v := (1 : Int32)) C.1.1 C.1.2.1 dP_passData_17 (by decide) ?_
    refine lv_goto (tgt := 22) C.1.1 C.1.2.1 dP_passData_18 (by decide) ?_
    exact wP_passData_22 C hr hlk hrv z pv (1 : Int32) _ _ ls (lv_sub hl [0] rfl) hw hf
abbrev cP_exclusiveEvent : ByteArray := prog_4_method_14_code
abbrev yP_exclusiveEvent : MethodName := ⟨"MidiDesk$Parser", "exclusiveEvent", "()V"⟩
theorem kP_exclusiveEvent : yP_exclusiveEvent.cls ≠ "java/lang/invoke/MethodHandle" ∧ yP_exclusiveEvent.cls ≠ "java/lang/invoke/VarHandle" ∧ (parseMethodDescriptor yP_exclusiveEvent.desc).map (fun d => d.parameters.length) = some 0 := by decide +kernel
abbrev rP_exclusiveEvent : Room := { frames := 3, cells := 0, slots := 0, locals := 71 }
theorem dP_exclusiveEvent_0 : decode cP_exclusiveEvent 0 = .ok (.aload_n 0, 1) := by decide +kernel
theorem dP_exclusiveEvent_1 : decode cP_exclusiveEvent 1 = .ok (.iconst (-1), 1) := by decide +kernel
theorem dP_exclusiveEvent_2 : decode cP_exclusiveEvent 2 = .ok (.putfield 96, 3) := by decide +kernel
theorem dP_exclusiveEvent_5 : decode cP_exclusiveEvent 5 = .ok (.aload_n 0, 1) := by decide +kernel
theorem dP_exclusiveEvent_6 : decode cP_exclusiveEvent 6 = .ok (.iconst (-1), 1) := by decide +kernel
theorem dP_exclusiveEvent_7 : decode cP_exclusiveEvent 7 = .ok (.putfield 133, 3) := by decide +kernel
theorem dP_exclusiveEvent_10 : decode cP_exclusiveEvent 10 = .ok (.aload_n 0, 1) := by decide +kernel
theorem dP_exclusiveEvent_11 : decode cP_exclusiveEvent 11 = .ok (.iconst (-1), 1) := by decide +kernel
theorem dP_exclusiveEvent_12 : decode cP_exclusiveEvent 12 = .ok (.putfield 139, 3) := by decide +kernel
theorem dP_exclusiveEvent_15 : decode cP_exclusiveEvent 15 = .ok (.aload_n 0, 1) := by decide +kernel
theorem dP_exclusiveEvent_16 : decode cP_exclusiveEvent 16 = .ok (.aload_n 0, 1) := by decide +kernel
theorem dP_exclusiveEvent_17 : decode cP_exclusiveEvent 17 = .ok (.invokevirtual 105, 3) := by decide +kernel
theorem dP_exclusiveEvent_20 : decode cP_exclusiveEvent 20 = .ok (.putfield 122, 3) := by decide +kernel
theorem dP_exclusiveEvent_23 : decode cP_exclusiveEvent 23 = .ok (.aload_n 0, 1) := by decide +kernel
theorem dP_exclusiveEvent_24 : decode cP_exclusiveEvent 24 = .ok (.invokevirtual 142, 3) := by decide +kernel
theorem dP_exclusiveEvent_27 : decode cP_exclusiveEvent 27 = .ok (.return_, 1) := by decide +kernel
def fP_exclusiveEvent (h : cH) (z : cZ) (pv : Nat → Int32) : Option (cZ × (Nat → Int32)) := (fP_number h z (upd (upd (upd pv 5 (-1 : Int32)) 7 (-1 : Int32)) 8 (-1 : Int32))).bind fun (r1, z1, pv1) => (fP_passData h z1 (upd pv1 10 r1)).bind fun (z2, pv2) => some (z2, pv2)
set_option maxHeartbeats 4000000 in
set_option maxRecDepth 100000 in
theorem cP_exclusiveEvent_met {l : Launch} {g : gT} {qq ad ea : Nat → Nat} {h : cH} {X : va_W} {qp : Nat} {pv pv' : Nat → Int32} {z z' : cZ} (hf : fP_exclusiveEvent h z pv = some (z', pv')) : cMet l yP_exclusiveEvent cP_exclusiveEvent 1 none rP_exclusiveEvent g qq ad ea h (pcell qp qq pv :: X) z [.ref qp] (none) (pcell qp qq pv' :: X) z' := by
  refine c_entry (by decide) (Nat.le_of_ble_eq_true rfl) ?_
  intro p e s m args below meth c ls C hr hlk hnm hl hw
  have hrv : (none : Option Value) = none := rfl
  have C : mCx p m c cP_exclusiveEvent 1 s args g "MidiDesk$Parser" := C
  have hl : lv_has ls 1 [(0, .ref qp)] := hl
  unfold fP_exclusiveEvent at hf
  refine lv_aload_n C.1.1 C.1.2.1 dP_exclusiveEvent_0 rfl (lv_at hl 0 rfl) ?_
  refine lv_iconst (v := (-1 : Int32)) C.1.1 C.1.2.1 dP_exclusiveEvent_1 (by decide) ?_
  refine cp_Parser_Parser_running C hw dP_exclusiveEvent_2 (fun H locs hw => ?_)
  refine lv_aload_n C.1.1 C.1.2.1 dP_exclusiveEvent_5 rfl (lv_at hl 0 rfl) ?_
  refine lv_iconst (v := (-1 : Int32)) C.1.1 C.1.2.1 dP_exclusiveEvent_6 (by decide) ?_
  refine cp_Parser_Parser_first C hw dP_exclusiveEvent_7 (fun H locs hw => ?_)
  refine lv_aload_n C.1.1 C.1.2.1 dP_exclusiveEvent_10 rfl (lv_at hl 0 rfl) ?_
  refine lv_iconst (v := (-1 : Int32)) C.1.1 C.1.2.1 dP_exclusiveEvent_11 (by decide) ?_
  refine cp_Parser_Parser_second C hw dP_exclusiveEvent_12 (fun H locs hw => ?_)
  refine lv_aload_n C.1.1 C.1.2.1 dP_exclusiveEvent_15 rfl (lv_at hl 0 rfl) ?_
  refine lv_aload_n C.1.1 C.1.2.1 dP_exclusiveEvent_16 rfl (lv_at hl 0 rfl) ?_
  obtain ⟨⟨r1, z1, pv1⟩, g1, hf⟩ := ts_b hf
  try dsimp only at hf
  refine c_callV (rest := [.ref qp]) (As := []) (rv := (some (.int r1))) (b := qp) C hl.1 hw (cP_number_met g1) rfl (callW_of (rm := rP_number) (C := "MidiDesk$Parser") 0 C.1.2.2.2.2 gw_277 gw_279 gw_6 gw_59 gw_280 kP_number ⟨Nat.le_of_ble_eq_true rfl, Nat.le_of_ble_eq_true rfl⟩) (c_recvX (ci := 2) C.2 rfl hw) rfl rfl (Nat.le_of_ble_eq_true rfl) dP_exclusiveEvent_17 ⟨Nat.le_of_ble_eq_true rfl, Nat.le_of_ble_eq_true rfl⟩ (fun H locs hw => ?_)
  refine W.eq (g2 := F0 m 20 ls [.int r1, .ref qp]) rfl ?_
  refine cp_Parser_Parser_size C hw dP_exclusiveEvent_20 (fun H locs hw => ?_)
  refine lv_aload_n C.1.1 C.1.2.1 dP_exclusiveEvent_23 rfl (lv_at hl 0 rfl) ?_
  obtain ⟨⟨z2, pv2⟩, g2, hf⟩ := ts_b hf
  try dsimp only at hf
  refine c_callV (rest := []) (As := []) (rv := none) (b := qp) C hl.1 hw (cP_passData_met g2) rfl (callW_of (rm := rP_passData) (C := "MidiDesk$Parser") 0 C.1.2.2.2.2 gw_301 gw_303 gw_11 gw_59 gw_304 kP_passData ⟨Nat.le_of_ble_eq_true rfl, Nat.le_of_ble_eq_true rfl⟩) (c_recvX (ci := 2) C.2 rfl hw) rfl rfl (Nat.le_of_ble_eq_true rfl) dP_exclusiveEvent_24 ⟨Nat.le_of_ble_eq_true rfl, Nat.le_of_ble_eq_true rfl⟩ (fun H locs hw => ?_)
  refine W.eq (g2 := F0 m 27 ls []) rfl ?_
  obtain ⟨hf, hpv⟩ := pr2 hf
  exact c_retv C hr hlk hrv hw hf (by rw [hpv]) ⟨Nat.le_of_ble_eq_true rfl, Nat.le_of_ble_eq_true rfl⟩ dP_exclusiveEvent_27
abbrev cP_metaEvent : ByteArray := prog_4_method_15_code
abbrev yP_metaEvent : MethodName := ⟨"MidiDesk$Parser", "metaEvent", "()V"⟩
theorem kP_metaEvent : yP_metaEvent.cls ≠ "java/lang/invoke/MethodHandle" ∧ yP_metaEvent.cls ≠ "java/lang/invoke/VarHandle" ∧ (parseMethodDescriptor yP_metaEvent.desc).map (fun d => d.parameters.length) = some 0 := by decide +kernel
abbrev rP_metaEvent : Room := { frames := 3, cells := 0, slots := 0, locals := 71 }
theorem dP_metaEvent_0 : decode cP_metaEvent 0 = .ok (.aload_n 0, 1) := by decide +kernel
theorem dP_metaEvent_1 : decode cP_metaEvent 1 = .ok (.iconst (-1), 1) := by decide +kernel
theorem dP_metaEvent_2 : decode cP_metaEvent 2 = .ok (.putfield 96, 3) := by decide +kernel
theorem dP_metaEvent_5 : decode cP_metaEvent 5 = .ok (.aload_n 0, 1) := by decide +kernel
theorem dP_metaEvent_6 : decode cP_metaEvent 6 = .ok (.aload_n 0, 1) := by decide +kernel
theorem dP_metaEvent_7 : decode cP_metaEvent 7 = .ok (.invokevirtual 130, 3) := by decide +kernel
theorem dP_metaEvent_10 : decode cP_metaEvent 10 = .ok (.putfield 133, 3) := by decide +kernel
theorem dP_metaEvent_13 : decode cP_metaEvent 13 = .ok (.aload_n 0, 1) := by decide +kernel
theorem dP_metaEvent_14 : decode cP_metaEvent 14 = .ok (.iconst (-1), 1) := by decide +kernel
theorem dP_metaEvent_15 : decode cP_metaEvent 15 = .ok (.putfield 139, 3) := by decide +kernel
theorem dP_metaEvent_18 : decode cP_metaEvent 18 = .ok (.aload_n 0, 1) := by decide +kernel
theorem dP_metaEvent_19 : decode cP_metaEvent 19 = .ok (.getfield 40, 3) := by decide +kernel
theorem dP_metaEvent_22 : decode cP_metaEvent 22 = .ok (.istore_n 1, 1) := by decide +kernel
theorem dP_metaEvent_23 : decode cP_metaEvent 23 = .ok (.aload_n 0, 1) := by decide +kernel
theorem dP_metaEvent_24 : decode cP_metaEvent 24 = .ok (.aload_n 0, 1) := by decide +kernel
theorem dP_metaEvent_25 : decode cP_metaEvent 25 = .ok (.invokevirtual 105, 3) := by decide +kernel
theorem dP_metaEvent_28 : decode cP_metaEvent 28 = .ok (.putfield 122, 3) := by decide +kernel
theorem dP_metaEvent_31 : decode cP_metaEvent 31 = .ok (.aload_n 0, 1) := by decide +kernel
theorem dP_metaEvent_32 : decode cP_metaEvent 32 = .ok (.aload_n 0, 1) := by decide +kernel
theorem dP_metaEvent_33 : decode cP_metaEvent 33 = .ok (.getfield 133, 3) := by decide +kernel
theorem dP_metaEvent_36 : decode cP_metaEvent 36 = .ok (.bipush 47, 2) := by decide +kernel
theorem dP_metaEvent_38 : decode cP_metaEvent 38 = .ok (.if_icmp .ne 7, 3) := by decide +kernel
theorem dP_metaEvent_41 : decode cP_metaEvent 41 = .ok (.iconst 1, 1) := by decide +kernel
theorem dP_metaEvent_42 : decode cP_metaEvent 42 = .ok (.goto 4, 3) := by decide +kernel
theorem dP_metaEvent_45 : decode cP_metaEvent 45 = .ok (.iconst 0, 1) := by decide +kernel
theorem dP_metaEvent_46 : decode cP_metaEvent 46 = .ok (.putfield 99, 3) := by decide +kernel
theorem dP_metaEvent_49 : decode cP_metaEvent 49 = .ok (.aload_n 0, 1) := by decide +kernel
theorem dP_metaEvent_50 : decode cP_metaEvent 50 = .ok (.aload_n 0, 1) := by decide +kernel
theorem dP_metaEvent_51 : decode cP_metaEvent 51 = .ok (.getfield 99, 3) := by decide +kernel
theorem dP_metaEvent_54 : decode cP_metaEvent 54 = .ok (.ifCond .eq 10, 3) := by decide +kernel
theorem dP_metaEvent_57 : decode cP_metaEvent 57 = .ok (.aload_n 0, 1) := by decide +kernel
theorem dP_metaEvent_58 : decode cP_metaEvent 58 = .ok (.getfield 122, 3) := by decide +kernel
theorem dP_metaEvent_61 : decode cP_metaEvent 61 = .ok (.ifCond .ne 7, 3) := by decide +kernel
theorem dP_metaEvent_64 : decode cP_metaEvent 64 = .ok (.iconst 1, 1) := by decide +kernel
theorem dP_metaEvent_65 : decode cP_metaEvent 65 = .ok (.goto 4, 3) := by decide +kernel
theorem dP_metaEvent_68 : decode cP_metaEvent 68 = .ok (.iconst 0, 1) := by decide +kernel
theorem dP_metaEvent_69 : decode cP_metaEvent 69 = .ok (.bipush 7, 2) := by decide +kernel
theorem dP_metaEvent_71 : decode cP_metaEvent 71 = .ok (.iload_n 1, 1) := by decide +kernel
theorem dP_metaEvent_72 : decode cP_metaEvent 72 = .ok (.invokevirtual 56, 3) := by decide +kernel
theorem dP_metaEvent_75 : decode cP_metaEvent 75 = .ok (.aload_n 0, 1) := by decide +kernel
theorem dP_metaEvent_76 : decode cP_metaEvent 76 = .ok (.aload_n 0, 1) := by decide +kernel
theorem dP_metaEvent_77 : decode cP_metaEvent 77 = .ok (.getfield 133, 3) := by decide +kernel
theorem dP_metaEvent_80 : decode cP_metaEvent 80 = .ok (.bipush 81, 2) := by decide +kernel
theorem dP_metaEvent_82 : decode cP_metaEvent 82 = .ok (.if_icmp .ne 11, 3) := by decide +kernel
theorem dP_metaEvent_85 : decode cP_metaEvent 85 = .ok (.aload_n 0, 1) := by decide +kernel
theorem dP_metaEvent_86 : decode cP_metaEvent 86 = .ok (.getfield 122, 3) := by decide +kernel
theorem dP_metaEvent_89 : decode cP_metaEvent 89 = .ok (.iconst 3, 1) := by decide +kernel
theorem dP_metaEvent_90 : decode cP_metaEvent 90 = .ok (.if_icmp .ne 7, 3) := by decide +kernel
theorem dP_metaEvent_93 : decode cP_metaEvent 93 = .ok (.iconst 1, 1) := by decide +kernel
theorem dP_metaEvent_94 : decode cP_metaEvent 94 = .ok (.goto 4, 3) := by decide +kernel
theorem dP_metaEvent_97 : decode cP_metaEvent 97 = .ok (.iconst 0, 1) := by decide +kernel
theorem dP_metaEvent_98 : decode cP_metaEvent 98 = .ok (.bipush 8, 2) := by decide +kernel
theorem dP_metaEvent_100 : decode cP_metaEvent 100 = .ok (.iload_n 1, 1) := by decide +kernel
theorem dP_metaEvent_101 : decode cP_metaEvent 101 = .ok (.invokevirtual 56, 3) := by decide +kernel
theorem dP_metaEvent_104 : decode cP_metaEvent 104 = .ok (.aload_n 0, 1) := by decide +kernel
theorem dP_metaEvent_105 : decode cP_metaEvent 105 = .ok (.invokevirtual 142, 3) := by decide +kernel
theorem dP_metaEvent_108 : decode cP_metaEvent 108 = .ok (.aload_n 0, 1) := by decide +kernel
theorem dP_metaEvent_109 : decode cP_metaEvent 109 = .ok (.getfield 37, 3) := by decide +kernel
theorem dP_metaEvent_112 : decode cP_metaEvent 112 = .ok (.ifCond .ne 71, 3) := by decide +kernel
theorem dP_metaEvent_115 : decode cP_metaEvent 115 = .ok (.aload_n 0, 1) := by decide +kernel
theorem dP_metaEvent_116 : decode cP_metaEvent 116 = .ok (.getfield 133, 3) := by decide +kernel
theorem dP_metaEvent_119 : decode cP_metaEvent 119 = .ok (.bipush 81, 2) := by decide +kernel
theorem dP_metaEvent_121 : decode cP_metaEvent 121 = .ok (.if_icmp .ne 62, 3) := by decide +kernel
theorem dP_metaEvent_124 : decode cP_metaEvent 124 = .ok (.aload_n 0, 1) := by decide +kernel
theorem dP_metaEvent_125 : decode cP_metaEvent 125 = .ok (.getfield 9, 3) := by decide +kernel
theorem dP_metaEvent_128 : decode cP_metaEvent 128 = .ok (.aload_n 0, 1) := by decide +kernel
theorem dP_metaEvent_129 : decode cP_metaEvent 129 = .ok (.getfield 145, 3) := by decide +kernel
theorem dP_metaEvent_132 : decode cP_metaEvent 132 = .ok (.invokevirtual 69, 3) := by decide +kernel
theorem dP_metaEvent_135 : decode cP_metaEvent 135 = .ok (.aload_n 0, 1) := by decide +kernel
theorem dP_metaEvent_136 : decode cP_metaEvent 136 = .ok (.getfield 9, 3) := by decide +kernel
theorem dP_metaEvent_139 : decode cP_metaEvent 139 = .ok (.aload_n 0, 1) := by decide +kernel
theorem dP_metaEvent_140 : decode cP_metaEvent 140 = .ok (.getfield 145, 3) := by decide +kernel
theorem dP_metaEvent_143 : decode cP_metaEvent 143 = .ok (.iconst 1, 1) := by decide +kernel
theorem dP_metaEvent_144 : decode cP_metaEvent 144 = .ok (.iadd, 1) := by decide +kernel
theorem dP_metaEvent_145 : decode cP_metaEvent 145 = .ok (.invokevirtual 69, 3) := by decide +kernel
theorem dP_metaEvent_148 : decode cP_metaEvent 148 = .ok (.iadd, 1) := by decide +kernel
theorem dP_metaEvent_149 : decode cP_metaEvent 149 = .ok (.aload_n 0, 1) := by decide +kernel
theorem dP_metaEvent_150 : decode cP_metaEvent 150 = .ok (.getfield 9, 3) := by decide +kernel
theorem dP_metaEvent_153 : decode cP_metaEvent 153 = .ok (.aload_n 0, 1) := by decide +kernel
theorem dP_metaEvent_154 : decode cP_metaEvent 154 = .ok (.getfield 145, 3) := by decide +kernel
theorem dP_metaEvent_157 : decode cP_metaEvent 157 = .ok (.iconst 2, 1) := by decide +kernel
theorem dP_metaEvent_158 : decode cP_metaEvent 158 = .ok (.iadd, 1) := by decide +kernel
theorem dP_metaEvent_159 : decode cP_metaEvent 159 = .ok (.invokevirtual 69, 3) := by decide +kernel
theorem dP_metaEvent_162 : decode cP_metaEvent 162 = .ok (.iadd, 1) := by decide +kernel
theorem dP_metaEvent_163 : decode cP_metaEvent 163 = .ok (.istore_n 2, 1) := by decide +kernel
theorem dP_metaEvent_164 : decode cP_metaEvent 164 = .ok (.aload_n 0, 1) := by decide +kernel
theorem dP_metaEvent_165 : decode cP_metaEvent 165 = .ok (.iload_n 2, 1) := by decide +kernel
theorem dP_metaEvent_166 : decode cP_metaEvent 166 = .ok (.ifCond .le 7, 3) := by decide +kernel
theorem dP_metaEvent_169 : decode cP_metaEvent 169 = .ok (.iconst 1, 1) := by decide +kernel
theorem dP_metaEvent_170 : decode cP_metaEvent 170 = .ok (.goto 4, 3) := by decide +kernel
theorem dP_metaEvent_173 : decode cP_metaEvent 173 = .ok (.iconst 0, 1) := by decide +kernel
theorem dP_metaEvent_174 : decode cP_metaEvent 174 = .ok (.bipush 8, 2) := by decide +kernel
theorem dP_metaEvent_176 : decode cP_metaEvent 176 = .ok (.aload_n 0, 1) := by decide +kernel
theorem dP_metaEvent_177 : decode cP_metaEvent 177 = .ok (.getfield 145, 3) := by decide +kernel
theorem dP_metaEvent_180 : decode cP_metaEvent 180 = .ok (.invokevirtual 56, 3) := by decide +kernel
theorem dP_metaEvent_183 : decode cP_metaEvent 183 = .ok (.return_, 1) := by decide +kernel
def jP_metaEvent_174 (h : cH) (z : cZ) (pv : Nat → Int32) (s1 : Int32) : Option (cZ × (Nat → Int32)) := (fP_expect h z pv s1 (8 : Int32) (pv 9)).bind fun (z1, pv1) => some (z1, pv1)
def jP_metaEvent_98 (h : cH) (z : cZ) (pv : Nat → Int32) (x1 : Int32) (s1 : Int32) : Option (cZ × (Nat → Int32)) := (fP_expect h z pv s1 (8 : Int32) x1).bind fun (z1, pv1) => (fP_passData h z1 pv1).bind fun (z2, pv2) => if (pv2 2) = 0 then (if (pv2 7) = (81 : Int32) then ((fB0_at h z2 (pv2 9)).bind fun (r5, z5) => (fB0_at h z5 ((pv2 9) + (1 : Int32))).bind fun (r6, z6) => (fB0_at h z6 ((pv2 9) + (2 : Int32))).bind fun (r7, z7) => if ((r5 + r6) + r7) ≤ 0 then (jP_metaEvent_174 h z7 pv2 (0 : Int32)) else (jP_metaEvent_174 h z7 pv2 (1 : Int32))) else (some (z2, pv2))) else (some (z2, pv2))
def jP_metaEvent_93 (h : cH) (z : cZ) (pv : Nat → Int32) (x1 : Int32) : Option (cZ × (Nat → Int32)) := jP_metaEvent_98 h z pv x1 (1 : Int32)
def jP_metaEvent_69 (h : cH) (z : cZ) (pv : Nat → Int32) (x1 : Int32) (s1 : Int32) : Option (cZ × (Nat → Int32)) := (fP_expect h z pv s1 (7 : Int32) x1).bind fun (z1, pv1) => if (pv1 7) = (81 : Int32) then (if (pv1 10) = (3 : Int32) then (jP_metaEvent_93 h z1 pv1 x1) else (jP_metaEvent_98 h z1 pv1 x1 (0 : Int32))) else (jP_metaEvent_93 h z1 pv1 x1)
def jP_metaEvent_64 (h : cH) (z : cZ) (pv : Nat → Int32) (x1 : Int32) : Option (cZ × (Nat → Int32)) := jP_metaEvent_69 h z pv x1 (1 : Int32)
def jP_metaEvent_46 (h : cH) (z : cZ) (pv : Nat → Int32) (x1 : Int32) (s1 : Int32) : Option (cZ × (Nat → Int32)) := if ¬ (s1 = 0 ∨ s1 = 1) then none else (if ((upd pv 6 s1) 6) = 0 then (jP_metaEvent_64 h z (upd pv 6 s1) x1) else (if ((upd pv 6 s1) 10) = 0 then (jP_metaEvent_64 h z (upd pv 6 s1) x1) else (jP_metaEvent_69 h z (upd pv 6 s1) x1 (0 : Int32))))
def fP_metaEvent (h : cH) (z : cZ) (pv : Nat → Int32) : Option (cZ × (Nat → Int32)) := (fP_lowByte h z (upd pv 5 (-1 : Int32))).bind fun (r1, z1, pv1) => (fP_number h z1 (upd (upd pv1 7 r1) 8 (-1 : Int32))).bind fun (r2, z2, pv2) => if ((upd pv2 10 r2) 7) = (47 : Int32) then (jP_metaEvent_46 h z2 (upd pv2 10 r2) ((upd (upd pv1 7 r1) 8 (-1 : Int32)) 0) (1 : Int32)) else (jP_metaEvent_46 h z2 (upd pv2 10 r2) ((upd (upd pv1 7 r1) 8 (-1 : Int32)) 0) (0 : Int32))
set_option maxHeartbeats 4000000 in
set_option maxRecDepth 100000 in
theorem wP_metaEvent_174 {p : Program} {l : Launch} {e : Env} {s : State} {m : MethodId} {args : Array Value} {below : List Frame} {meth : Method} {c : Code} {g : gT} {qq ad ea : Nat → Nat} {h : cH} {X : va_W} {rv : Option Value} {qp : Nat} {pv0 pv' : Nat → Int32} {z' : cZ} (C : mCx p m c cP_metaEvent 3 s args g "MidiDesk$Parser") (hr : meth.sig.returnType = none) (hlk : meth.locks = false) (hrv : rv = none) (z : cZ) (pv : Nat → Int32) (s1 : Int32) (H : Heap) (locs : List Loc) (ls : Array Slot) (hl : lv_has ls 3 [(0, .ref qp)]) (hw : cWd g (cA g qq ad ea h (pcell qp qq pv0 :: X) s.heap.size) s.heap qq ad ea h (pcell qp qq pv :: X) z H locs) (hf : jP_metaEvent_174 h z pv s1 = some (z', pv')) : cG p l e rP_metaEvent s m args below meth c g qq ad ea h (pcell qp qq pv0 :: X) rv (pcell qp qq pv' :: X) z' H locs 0 0 (F0 m 174 ls [.int s1, .ref qp]) := by
  unfold jP_metaEvent_174 at hf
  refine lv_bipush (v := (8 : Int32)) C.1.1 C.1.2.1 dP_metaEvent_174 (by decide) ?_
  refine lv_aload_n C.1.1 C.1.2.1 dP_metaEvent_176 rfl (lv_at hl 0 rfl) ?_
  refine cg_Parser_Parser_start C hw dP_metaEvent_177 ?_
  obtain ⟨⟨z1, pv1⟩, g1, hf⟩ := ts_b hf
  try dsimp only at hf
  refine c_callV (rest := []) (As := [.int s1, .int (8 : Int32), .int (pv 9)]) (rv := none) (b := qp) C hl.1 hw (cP_expect_met g1) rfl (callW_of (rm := rP_expect) (C := "MidiDesk$Parser") 3 C.1.2.2.2.2 gw_250 gw_252 gw_2 gw_59 gw_253 kP_expect ⟨Nat.le_of_ble_eq_true rfl, Nat.le_of_ble_eq_true rfl⟩) (c_recvX (ci := 2) C.2 rfl hw) rfl rfl (Nat.le_of_ble_eq_true rfl) dP_metaEvent_180 ⟨Nat.le_of_ble_eq_true rfl, Nat.le_of_ble_eq_true rfl⟩ (fun H locs hw => ?_)
  refine W.eq (g2 := F0 m 183 ls []) rfl ?_
  obtain ⟨hf, hpv⟩ := pr2 hf
  exact c_retv C hr hlk hrv hw hf (by rw [hpv]) ⟨Nat.le_of_ble_eq_true rfl, Nat.le_of_ble_eq_true rfl⟩ dP_metaEvent_183
set_option maxHeartbeats 4000000 in
set_option maxRecDepth 100000 in
theorem wP_metaEvent_98 {p : Program} {l : Launch} {e : Env} {s : State} {m : MethodId} {args : Array Value} {below : List Frame} {meth : Method} {c : Code} {g : gT} {qq ad ea : Nat → Nat} {h : cH} {X : va_W} {rv : Option Value} {qp : Nat} {pv0 pv' : Nat → Int32} {z' : cZ} (C : mCx p m c cP_metaEvent 3 s args g "MidiDesk$Parser") (hr : meth.sig.returnType = none) (hlk : meth.locks = false) (hrv : rv = none) (z : cZ) (pv : Nat → Int32) (x1 : Int32) (s1 : Int32) (H : Heap) (locs : List Loc) (ls : Array Slot) (hl : lv_has ls 3 [(0, .ref qp), (1, .int x1)]) (hw : cWd g (cA g qq ad ea h (pcell qp qq pv0 :: X) s.heap.size) s.heap qq ad ea h (pcell qp qq pv :: X) z H locs) (hf : jP_metaEvent_98 h z pv x1 s1 = some (z', pv')) : cG p l e rP_metaEvent s m args below meth c g qq ad ea h (pcell qp qq pv0 :: X) rv (pcell qp qq pv' :: X) z' H locs 0 0 (F0 m 98 ls [.int s1, .ref qp]) := by
  unfold jP_metaEvent_98 at hf
  refine lv_bipush (v := (8 : Int32)) C.1.1 C.1.2.1 dP_metaEvent_98 (by decide) ?_
  refine lv_iload_n C.1.1 C.1.2.1 dP_metaEvent_100 rfl (lv_at hl 1 rfl) ?_
  obtain ⟨⟨z1, pv1⟩, g1, hf⟩ := ts_b hf
  try dsimp only at hf
  refine c_callV (rest := []) (As := [.int s1, .int (8 : Int32), .int x1]) (rv := none) (b := qp) C hl.1 hw (cP_expect_met g1) rfl (callW_of (rm := rP_expect) (C := "MidiDesk$Parser") 3 C.1.2.2.2.2 gw_250 gw_252 gw_2 gw_59 gw_253 kP_expect ⟨Nat.le_of_ble_eq_true rfl, Nat.le_of_ble_eq_true rfl⟩) (c_recvX (ci := 2) C.2 rfl hw) rfl rfl (Nat.le_of_ble_eq_true rfl) dP_metaEvent_101 ⟨Nat.le_of_ble_eq_true rfl, Nat.le_of_ble_eq_true rfl⟩ (fun H locs hw => ?_)
  refine W.eq (g2 := F0 m 104 ls []) rfl ?_
  refine lv_aload_n C.1.1 C.1.2.1 dP_metaEvent_104 rfl (lv_at hl 0 rfl) ?_
  obtain ⟨⟨z2, pv2⟩, g2, hf⟩ := ts_b hf
  try dsimp only at hf
  refine c_callV (rest := []) (As := []) (rv := none) (b := qp) C hl.1 hw (cP_passData_met g2) rfl (callW_of (rm := rP_passData) (C := "MidiDesk$Parser") 0 C.1.2.2.2.2 gw_301 gw_303 gw_11 gw_59 gw_304 kP_passData ⟨Nat.le_of_ble_eq_true rfl, Nat.le_of_ble_eq_true rfl⟩) (c_recvX (ci := 2) C.2 rfl hw) rfl rfl (Nat.le_of_ble_eq_true rfl) dP_metaEvent_105 ⟨Nat.le_of_ble_eq_true rfl, Nat.le_of_ble_eq_true rfl⟩ (fun H locs hw => ?_)
  refine W.eq (g2 := F0 m 108 ls []) rfl ?_
  refine lv_aload_n C.1.1 C.1.2.1 dP_metaEvent_108 rfl (lv_at hl 0 rfl) ?_
  refine cg_Parser_Parser_fault C hw dP_metaEvent_109 ?_
  refine lv_if_ne (tgt := 183) C.1.1 C.1.2.1 dP_metaEvent_112 (by decide) (fun c3 => ?_) (fun c3 => ?_)
  · have hf := ts_f hf c3
    obtain ⟨hf, hpv⟩ := pr2 hf
    exact c_retv C hr hlk hrv hw hf (by rw [hpv]) ⟨Nat.le_of_ble_eq_true rfl, Nat.le_of_ble_eq_true rfl⟩ dP_metaEvent_183
  · have hf := ts_t hf c3
    refine lv_aload_n C.1.1 C.1.2.1 dP_metaEvent_115 rfl (lv_at hl 0 rfl) ?_
    refine cg_Parser_Parser_first C hw dP_metaEvent_116 ?_
    refine lv_bipush (v := (81 : Int32)) C.1.1 C.1.2.1 dP_metaEvent_119 (by decide) ?_
    refine lv_icmp_ne (tgt := 183) C.1.1 C.1.2.1 dP_metaEvent_121 (by decide) (fun c4 => ?_) (fun c4 => ?_)
    · have hf := ts_f hf c4
      obtain ⟨hf, hpv⟩ := pr2 hf
      exact c_retv C hr hlk hrv hw hf (by rw [hpv]) ⟨Nat.le_of_ble_eq_true rfl, Nat.le_of_ble_eq_true rfl⟩ dP_metaEvent_183
    · have hf := ts_t hf c4
      refine lv_aload_n C.1.1 C.1.2.1 dP_metaEvent_124 rfl (lv_at hl 0 rfl) ?_
      refine cg_Parser_Parser_input C hw dP_metaEvent_125 ?_
      refine lv_aload_n C.1.1 C.1.2.1 dP_metaEvent_128 rfl (lv_at hl 0 rfl) ?_
      refine cg_Parser_Parser_start C hw dP_metaEvent_129 ?_
      obtain ⟨⟨r5, z5⟩, g5, hf⟩ := ts_b hf
      try dsimp only at hf
      refine c_callV (rest := []) (As := [.int (pv2 9)]) (rv := (some (.int r5))) (b := (qq 1)) C hl.1 hw (cB0_at_met g5) rfl (callW_of (rm := rB0_at) (C := "MidiDesk$Bytes") 1 C.1.2.2.2.2 gw_255 gw_256 gw_257 gw_53 gw_258 kB0_at ⟨Nat.le_of_ble_eq_true rfl, Nat.le_of_ble_eq_true rfl⟩) (c_recv_B0 C.2 hw) rfl rfl (Nat.le_of_ble_eq_true rfl) dP_metaEvent_132 ⟨Nat.le_of_ble_eq_true rfl, Nat.le_of_ble_eq_true rfl⟩ (fun H locs hw => ?_)
      refine W.eq (g2 := F0 m 135 ls [.int r5]) rfl ?_
      refine lv_aload_n C.1.1 C.1.2.1 dP_metaEvent_135 rfl (lv_at hl 0 rfl) ?_
      refine cg_Parser_Parser_input C hw dP_metaEvent_136 ?_
      refine lv_aload_n C.1.1 C.1.2.1 dP_metaEvent_139 rfl (lv_at hl 0 rfl) ?_
      refine cg_Parser_Parser_start C hw dP_metaEvent_140 ?_
      refine lv_iconst (v := (1 : Int32)) C.1.1 C.1.2.1 dP_metaEvent_143 (by decide) ?_
      refine lv_iadd C.1.1 C.1.2.1 dP_metaEvent_144 ?_
      obtain ⟨⟨r6, z6⟩, g6, hf⟩ := ts_b hf
      try dsimp only at hf
      refine c_callV (rest := [.int r5]) (As := [.int ((pv2 9) + (1 : Int32))]) (rv := (some (.int r6))) (b := (qq 1)) C hl.1 hw (cB0_at_met g6) rfl (callW_of (rm := rB0_at) (C := "MidiDesk$Bytes") 1 C.1.2.2.2.2 gw_255 gw_256 gw_257 gw_53 gw_258 kB0_at ⟨Nat.le_of_ble_eq_true rfl, Nat.le_of_ble_eq_true rfl⟩) (c_recv_B0 C.2 hw) rfl rfl (Nat.le_of_ble_eq_true rfl) dP_metaEvent_145 ⟨Nat.le_of_ble_eq_true rfl, Nat.le_of_ble_eq_true rfl⟩ (fun H locs hw => ?_)
      refine W.eq (g2 := F0 m 148 ls [.int r6, .int r5]) rfl ?_
      refine lv_iadd C.1.1 C.1.2.1 dP_metaEvent_148 ?_
      refine lv_aload_n C.1.1 C.1.2.1 dP_metaEvent_149 rfl (lv_at hl 0 rfl) ?_
      refine cg_Parser_Parser_input C hw dP_metaEvent_150 ?_
      refine lv_aload_n C.1.1 C.1.2.1 dP_metaEvent_153 rfl (lv_at hl 0 rfl) ?_
      refine cg_Parser_Parser_start C hw dP_metaEvent_154 ?_
      refine lv_iconst (v := (2 : Int32)) C.1.1 C.1.2.1 dP_metaEvent_157 (by decide) ?_
      refine lv_iadd C.1.1 C.1.2.1 dP_metaEvent_158 ?_
      obtain ⟨⟨r7, z7⟩, g7, hf⟩ := ts_b hf
      try dsimp only at hf
      refine c_callV (rest := [.int (r5 + r6)]) (As := [.int ((pv2 9) + (2 : Int32))]) (rv := (some (.int r7))) (b := (qq 1)) C hl.1 hw (cB0_at_met g7) rfl (callW_of (rm := rB0_at) (C := "MidiDesk$Bytes") 1 C.1.2.2.2.2 gw_255 gw_256 gw_257 gw_53 gw_258 kB0_at ⟨Nat.le_of_ble_eq_true rfl, Nat.le_of_ble_eq_true rfl⟩) (c_recv_B0 C.2 hw) rfl rfl (Nat.le_of_ble_eq_true rfl) dP_metaEvent_159 ⟨Nat.le_of_ble_eq_true rfl, Nat.le_of_ble_eq_true rfl⟩ (fun H locs hw => ?_)
      refine W.eq (g2 := F0 m 162 ls [.int r7, .int (r5 + r6)]) rfl ?_
      refine lv_iadd C.1.1 C.1.2.1 dP_metaEvent_162 ?_
      refine lv_istore_n (lv' := [(2, .int ((r5 + r6) + r7)), (0, .ref qp), (1, .int x1)]) C.1.1 C.1.2.1 dP_metaEvent_163 rfl hl (by decide) rfl (fun ls hl => ?_)
      refine lv_aload_n C.1.1 C.1.2.1 dP_metaEvent_164 rfl (lv_at hl 1 rfl) ?_
      refine lv_iload_n C.1.1 C.1.2.1 dP_metaEvent_165 rfl (lv_at hl 0 rfl) ?_
      refine lv_if_le (tgt := 173) C.1.1 C.1.2.1 dP_metaEvent_166 (by decide) (fun c8 => ?_) (fun c8 => ?_)
      · have hf := ts_t hf c8
        refine lv_iconst (v := (0 : Int32)) C.1.1 C.1.2.1 dP_metaEvent_173 (by decide) ?_
        exact wP_metaEvent_174 C hr hlk hrv z7 pv2 (0 : Int32) _ _ ls (lv_sub hl [1] rfl) hw hf
      · have hf := ts_f hf c8
        refine lv_iconst (v := (1 : Int32)) C.1.1 C.1.2.1 dP_metaEvent_169 (by decide) ?_
        refine lv_goto (tgt := 174) C.1.1 C.1.2.1 dP_metaEvent_170 (by decide) ?_
        exact wP_metaEvent_174 C hr hlk hrv z7 pv2 (1 : Int32) _ _ ls (lv_sub hl [1] rfl) hw hf
set_option maxHeartbeats 4000000 in
set_option maxRecDepth 100000 in
theorem wP_metaEvent_93 {p : Program} {l : Launch} {e : Env} {s : State} {m : MethodId} {args : Array Value} {below : List Frame} {meth : Method} {c : Code} {g : gT} {qq ad ea : Nat → Nat} {h : cH} {X : va_W} {rv : Option Value} {qp : Nat} {pv0 pv' : Nat → Int32} {z' : cZ} (C : mCx p m c cP_metaEvent 3 s args g "MidiDesk$Parser") (hr : meth.sig.returnType = none) (hlk : meth.locks = false) (hrv : rv = none) (z : cZ) (pv : Nat → Int32) (x1 : Int32) (H : Heap) (locs : List Loc) (ls : Array Slot) (hl : lv_has ls 3 [(0, .ref qp), (1, .int x1)]) (hw : cWd g (cA g qq ad ea h (pcell qp qq pv0 :: X) s.heap.size) s.heap qq ad ea h (pcell qp qq pv :: X) z H locs) (hf : jP_metaEvent_93 h z pv x1 = some (z', pv')) : cG p l e rP_metaEvent s m args below meth c g qq ad ea h (pcell qp qq pv0 :: X) rv (pcell qp qq pv' :: X) z' H locs 0 0 (F0 m 93 ls [.ref qp]) := by
  unfold jP_metaEvent_93 at hf
  refine lv_iconst (v := (1 : Int32)) C.1.1 C.1.2.1 dP_metaEvent_93 (by decide) ?_
  refine lv_goto (tgt := 98) C.1.1 C.1.2.1 dP_metaEvent_94 (by decide) ?_
  exact wP_metaEvent_98 C hr hlk hrv z pv x1 (1 : Int32) _ _ ls (lv_sub hl [0, 1] rfl) hw hf
set_option maxHeartbeats 4000000 in
set_option maxRecDepth 100000 in
theorem wP_metaEvent_69 {p : Program} {l : Launch} {e : Env} {s : State} {m : MethodId} {args : Array Value} {below : List Frame} {meth : Method} {c : Code} {g : gT} {qq ad ea : Nat → Nat} {h : cH} {X : va_W} {rv : Option Value} {qp : Nat} {pv0 pv' : Nat → Int32} {z' : cZ} (C : mCx p m c cP_metaEvent 3 s args g "MidiDesk$Parser") (hr : meth.sig.returnType = none) (hlk : meth.locks = false) (hrv : rv = none) (z : cZ) (pv : Nat → Int32) (x1 : Int32) (s1 : Int32) (H : Heap) (locs : List Loc) (ls : Array Slot) (hl : lv_has ls 3 [(0, .ref qp), (1, .int x1)]) (hw : cWd g (cA g qq ad ea h (pcell qp qq pv0 :: X) s.heap.size) s.heap qq ad ea h (pcell qp qq pv :: X) z H locs) (hf : jP_metaEvent_69 h z pv x1 s1 = some (z', pv')) : cG p l e rP_metaEvent s m args below meth c g qq ad ea h (pcell qp qq pv0 :: X) rv (pcell qp qq pv' :: X) z' H locs 0 0 (F0 m 69 ls [.int s1, .ref qp]) := by
  unfold jP_metaEvent_69 at hf
  refine lv_bipush (v := (7 : Int32)) C.1.1 C.1.2.1 dP_metaEvent_69 (by decide) ?_
  refine lv_iload_n C.1.1 C.1.2.1 dP_metaEvent_71 rfl (lv_at hl 1 rfl) ?_
  obtain ⟨⟨z1, pv1⟩, g1, hf⟩ := ts_b hf
  try dsimp only at hf
  refine c_callV (rest := []) (As := [.int s1, .int (7 : Int32), .int x1]) (rv := none) (b := qp) C hl.1 hw (cP_expect_met g1) rfl (callW_of (rm := rP_expect) (C := "MidiDesk$Parser") 3 C.1.2.2.2.2 gw_250 gw_252 gw_2 gw_59 gw_253 kP_expect ⟨Nat.le_of_ble_eq_true rfl, Nat.le_of_ble_eq_true rfl⟩) (c_recvX (ci := 2) C.2 rfl hw) rfl rfl (Nat.le_of_ble_eq_true rfl) dP_metaEvent_72 ⟨Nat.le_of_ble_eq_true rfl, Nat.le_of_ble_eq_true rfl⟩ (fun H locs hw => ?_)
  refine W.eq (g2 := F0 m 75 ls []) rfl ?_
  refine lv_aload_n C.1.1 C.1.2.1 dP_metaEvent_75 rfl (lv_at hl 0 rfl) ?_
  refine lv_aload_n C.1.1 C.1.2.1 dP_metaEvent_76 rfl (lv_at hl 0 rfl) ?_
  refine cg_Parser_Parser_first C hw dP_metaEvent_77 ?_
  refine lv_bipush (v := (81 : Int32)) C.1.1 C.1.2.1 dP_metaEvent_80 (by decide) ?_
  refine lv_icmp_ne (tgt := 93) C.1.1 C.1.2.1 dP_metaEvent_82 (by decide) (fun c2 => ?_) (fun c2 => ?_)
  · have hf := ts_f hf c2
    exact wP_metaEvent_93 C hr hlk hrv z1 pv1 x1 _ _ ls (lv_sub hl [0, 1] rfl) hw hf
  · have hf := ts_t hf c2
    refine lv_aload_n C.1.1 C.1.2.1 dP_metaEvent_85 rfl (lv_at hl 0 rfl) ?_
    refine cg_Parser_Parser_size C hw dP_metaEvent_86 ?_
    refine lv_iconst (v := (3 : Int32)) C.1.1 C.1.2.1 dP_metaEvent_89 (by decide) ?_
    refine lv_icmp_ne (tgt := 97) C.1.1 C.1.2.1 dP_metaEvent_90 (by decide) (fun c3 => ?_) (fun c3 => ?_)
    · have hf := ts_f hf c3
      refine lv_iconst (v := (0 : Int32)) C.1.1 C.1.2.1 dP_metaEvent_97 (by decide) ?_
      exact wP_metaEvent_98 C hr hlk hrv z1 pv1 x1 (0 : Int32) _ _ ls (lv_sub hl [0, 1] rfl) hw hf
    · have hf := ts_t hf c3
      exact wP_metaEvent_93 C hr hlk hrv z1 pv1 x1 _ _ ls (lv_sub hl [0, 1] rfl) hw hf
set_option maxHeartbeats 4000000 in
set_option maxRecDepth 100000 in
theorem wP_metaEvent_64 {p : Program} {l : Launch} {e : Env} {s : State} {m : MethodId} {args : Array Value} {below : List Frame} {meth : Method} {c : Code} {g : gT} {qq ad ea : Nat → Nat} {h : cH} {X : va_W} {rv : Option Value} {qp : Nat} {pv0 pv' : Nat → Int32} {z' : cZ} (C : mCx p m c cP_metaEvent 3 s args g "MidiDesk$Parser") (hr : meth.sig.returnType = none) (hlk : meth.locks = false) (hrv : rv = none) (z : cZ) (pv : Nat → Int32) (x1 : Int32) (H : Heap) (locs : List Loc) (ls : Array Slot) (hl : lv_has ls 3 [(0, .ref qp), (1, .int x1)]) (hw : cWd g (cA g qq ad ea h (pcell qp qq pv0 :: X) s.heap.size) s.heap qq ad ea h (pcell qp qq pv :: X) z H locs) (hf : jP_metaEvent_64 h z pv x1 = some (z', pv')) : cG p l e rP_metaEvent s m args below meth c g qq ad ea h (pcell qp qq pv0 :: X) rv (pcell qp qq pv' :: X) z' H locs 0 0 (F0 m 64 ls [.ref qp]) := by
  unfold jP_metaEvent_64 at hf
  refine lv_iconst (v := (1 : Int32)) C.1.1 C.1.2.1 dP_metaEvent_64 (by decide) ?_
  refine lv_goto (tgt := 69) C.1.1 C.1.2.1 dP_metaEvent_65 (by decide) ?_
  exact wP_metaEvent_69 C hr hlk hrv z pv x1 (1 : Int32) _ _ ls (lv_sub hl [0, 1] rfl) hw hf
set_option maxHeartbeats 4000000 in
set_option maxRecDepth 100000 in
theorem wP_metaEvent_46 {p : Program} {l : Launch} {e : Env} {s : State} {m : MethodId} {args : Array Value} {below : List Frame} {meth : Method} {c : Code} {g : gT} {qq ad ea : Nat → Nat} {h : cH} {X : va_W} {rv : Option Value} {qp : Nat} {pv0 pv' : Nat → Int32} {z' : cZ} (C : mCx p m c cP_metaEvent 3 s args g "MidiDesk$Parser") (hr : meth.sig.returnType = none) (hlk : meth.locks = false) (hrv : rv = none) (z : cZ) (pv : Nat → Int32) (x1 : Int32) (s1 : Int32) (H : Heap) (locs : List Loc) (ls : Array Slot) (hl : lv_has ls 3 [(0, .ref qp), (1, .int x1)]) (hw : cWd g (cA g qq ad ea h (pcell qp qq pv0 :: X) s.heap.size) s.heap qq ad ea h (pcell qp qq pv :: X) z H locs) (hf : jP_metaEvent_46 h z pv x1 s1 = some (z', pv')) : cG p l e rP_metaEvent s m args below meth c g qq ad ea h (pcell qp qq pv0 :: X) rv (pcell qp qq pv' :: X) z' H locs 0 0 (F0 m 46 ls [.int s1, .ref qp]) := by
  unfold jP_metaEvent_46 at hf
  obtain ⟨h1, hf⟩ := ts_g hf
  refine cp_Parser_Parser_ended C hw (Decidable.not_not.mp h1) dP_metaEvent_46 (fun H locs hw => ?_)
  refine lv_aload_n C.1.1 C.1.2.1 dP_metaEvent_49 rfl (lv_at hl 0 rfl) ?_
  refine lv_aload_n C.1.1 C.1.2.1 dP_metaEvent_50 rfl (lv_at hl 0 rfl) ?_
  refine cg_Parser_Parser_ended C hw dP_metaEvent_51 ?_
  refine lv_if_eq (tgt := 64) C.1.1 C.1.2.1 dP_metaEvent_54 (by decide) (fun c2 => ?_) (fun c2 => ?_)
  · have hf := ts_t hf c2
    exact wP_metaEvent_64 C hr hlk hrv z (upd pv 6 s1) x1 _ _ ls (lv_sub hl [0, 1] rfl) hw hf
  · have hf := ts_f hf c2
    refine lv_aload_n C.1.1 C.1.2.1 dP_metaEvent_57 rfl (lv_at hl 0 rfl) ?_
    refine cg_Parser_Parser_size C hw dP_metaEvent_58 ?_
    refine lv_if_ne (tgt := 68) C.1.1 C.1.2.1 dP_metaEvent_61 (by decide) (fun c3 => ?_) (fun c3 => ?_)
    · have hf := ts_f hf c3
      refine lv_iconst (v := (0 : Int32)) C.1.1 C.1.2.1 dP_metaEvent_68 (by decide) ?_
      exact wP_metaEvent_69 C hr hlk hrv z (upd pv 6 s1) x1 (0 : Int32) _ _ ls (lv_sub hl [0, 1] rfl) hw hf
    · have hf := ts_t hf c3
      exact wP_metaEvent_64 C hr hlk hrv z (upd pv 6 s1) x1 _ _ ls (lv_sub hl [0, 1] rfl) hw hf
set_option maxHeartbeats 4000000 in
set_option maxRecDepth 100000 in
theorem cP_metaEvent_met {l : Launch} {g : gT} {qq ad ea : Nat → Nat} {h : cH} {X : va_W} {qp : Nat} {pv pv' : Nat → Int32} {z z' : cZ} (hf : fP_metaEvent h z pv = some (z', pv')) : cMet l yP_metaEvent cP_metaEvent 3 none rP_metaEvent g qq ad ea h (pcell qp qq pv :: X) z [.ref qp] (none) (pcell qp qq pv' :: X) z' := by
  refine c_entry (by decide) (Nat.le_of_ble_eq_true rfl) ?_
  intro p e s m args below meth c ls C hr hlk hnm hl hw
  have hrv : (none : Option Value) = none := rfl
  have C : mCx p m c cP_metaEvent 3 s args g "MidiDesk$Parser" := C
  have hl : lv_has ls 3 [(0, .ref qp)] := hl
  unfold fP_metaEvent at hf
  refine lv_aload_n C.1.1 C.1.2.1 dP_metaEvent_0 rfl (lv_at hl 0 rfl) ?_
  refine lv_iconst (v := (-1 : Int32)) C.1.1 C.1.2.1 dP_metaEvent_1 (by decide) ?_
  refine cp_Parser_Parser_running C hw dP_metaEvent_2 (fun H locs hw => ?_)
  refine lv_aload_n C.1.1 C.1.2.1 dP_metaEvent_5 rfl (lv_at hl 0 rfl) ?_
  refine lv_aload_n C.1.1 C.1.2.1 dP_metaEvent_6 rfl (lv_at hl 0 rfl) ?_
  obtain ⟨⟨r1, z1, pv1⟩, g1, hf⟩ := ts_b hf
  try dsimp only at hf
  refine c_callV (rest := [.ref qp]) (As := []) (rv := (some (.int r1))) (b := qp) C hl.1 hw (cP_lowByte_met g1) rfl (callW_of (rm := rP_lowByte) (C := "MidiDesk$Parser") 0 C.1.2.2.2.2 gw_290 gw_292 gw_9 gw_59 gw_293 kP_lowByte ⟨Nat.le_of_ble_eq_true rfl, Nat.le_of_ble_eq_true rfl⟩) (c_recvX (ci := 2) C.2 rfl hw) rfl rfl (Nat.le_of_ble_eq_true rfl) dP_metaEvent_7 ⟨Nat.le_of_ble_eq_true rfl, Nat.le_of_ble_eq_true rfl⟩ (fun H locs hw => ?_)
  refine W.eq (g2 := F0 m 10 ls [.int r1, .ref qp]) rfl ?_
  refine cp_Parser_Parser_first C hw dP_metaEvent_10 (fun H locs hw => ?_)
  refine lv_aload_n C.1.1 C.1.2.1 dP_metaEvent_13 rfl (lv_at hl 0 rfl) ?_
  refine lv_iconst (v := (-1 : Int32)) C.1.1 C.1.2.1 dP_metaEvent_14 (by decide) ?_
  refine cp_Parser_Parser_second C hw dP_metaEvent_15 (fun H locs hw => ?_)
  refine lv_aload_n C.1.1 C.1.2.1 dP_metaEvent_18 rfl (lv_at hl 0 rfl) ?_
  refine cg_Parser_Parser_pos C hw dP_metaEvent_19 ?_
  refine lv_istore_n (lv' := [(1, .int ((upd (upd pv1 7 r1) 8 (-1 : Int32)) 0)), (0, .ref qp)]) C.1.1 C.1.2.1 dP_metaEvent_22 rfl hl (by decide) rfl (fun ls hl => ?_)
  refine lv_aload_n C.1.1 C.1.2.1 dP_metaEvent_23 rfl (lv_at hl 1 rfl) ?_
  refine lv_aload_n C.1.1 C.1.2.1 dP_metaEvent_24 rfl (lv_at hl 1 rfl) ?_
  obtain ⟨⟨r2, z2, pv2⟩, g2, hf⟩ := ts_b hf
  try dsimp only at hf
  refine c_callV (rest := [.ref qp]) (As := []) (rv := (some (.int r2))) (b := qp) C hl.1 hw (cP_number_met g2) rfl (callW_of (rm := rP_number) (C := "MidiDesk$Parser") 0 C.1.2.2.2.2 gw_277 gw_279 gw_6 gw_59 gw_280 kP_number ⟨Nat.le_of_ble_eq_true rfl, Nat.le_of_ble_eq_true rfl⟩) (c_recvX (ci := 2) C.2 rfl hw) rfl rfl (Nat.le_of_ble_eq_true rfl) dP_metaEvent_25 ⟨Nat.le_of_ble_eq_true rfl, Nat.le_of_ble_eq_true rfl⟩ (fun H locs hw => ?_)
  refine W.eq (g2 := F0 m 28 ls [.int r2, .ref qp]) rfl ?_
  refine cp_Parser_Parser_size C hw dP_metaEvent_28 (fun H locs hw => ?_)
  refine lv_aload_n C.1.1 C.1.2.1 dP_metaEvent_31 rfl (lv_at hl 1 rfl) ?_
  refine lv_aload_n C.1.1 C.1.2.1 dP_metaEvent_32 rfl (lv_at hl 1 rfl) ?_
  refine cg_Parser_Parser_first C hw dP_metaEvent_33 ?_
  refine lv_bipush (v := (47 : Int32)) C.1.1 C.1.2.1 dP_metaEvent_36 (by decide) ?_
  refine lv_icmp_ne (tgt := 45) C.1.1 C.1.2.1 dP_metaEvent_38 (by decide) (fun c3 => ?_) (fun c3 => ?_)
  · have hf := ts_f hf c3
    refine lv_iconst (v := (0 : Int32)) C.1.1 C.1.2.1 dP_metaEvent_45 (by decide) ?_
    exact wP_metaEvent_46 C hr hlk hrv z2 (upd pv2 10 r2) ((upd (upd pv1 7 r1) 8 (-1 : Int32)) 0) (0 : Int32) _ _ ls (lv_sub hl [1, 0] rfl) hw hf
  · have hf := ts_t hf c3
    refine lv_iconst (v := (1 : Int32)) C.1.1 C.1.2.1 dP_metaEvent_41 (by decide) ?_
    refine lv_goto (tgt := 46) C.1.1 C.1.2.1 dP_metaEvent_42 (by decide) ?_
    exact wP_metaEvent_46 C hr hlk hrv z2 (upd pv2 10 r2) ((upd (upd pv1 7 r1) 8 (-1 : Int32)) 0) (1 : Int32) _ _ ls (lv_sub hl [1, 0] rfl) hw hf
abbrev cD_event : ByteArray := prog_1_method_4_code
abbrev yD_event : MethodName := ⟨"MidiDesk", "event", "(II)I"⟩
theorem kD_event : yD_event.cls ≠ "java/lang/invoke/MethodHandle" ∧ yD_event.cls ≠ "java/lang/invoke/VarHandle" ∧ (parseMethodDescriptor yD_event.desc).map (fun d => d.parameters.length) = some 2 := by decide +kernel
abbrev rD_event : Room := { frames := 1, cells := 0, slots := 0, locals := 21 }
theorem dD_event_0 : decode cD_event 0 = .ok (.aload_n 0, 1) := by decide +kernel
theorem dD_event_1 : decode cD_event 1 = .ok (.getfield 24, 3) := by decide +kernel
theorem dD_event_4 : decode cD_event 4 = .ok (.iload_n 1, 1) := by decide +kernel
theorem dD_event_5 : decode cD_event 5 = .ok (.invokevirtual 46, 3) := by decide +kernel
theorem dD_event_8 : decode cD_event 8 = .ok (.astore_n 3, 1) := by decide +kernel
theorem dD_event_9 : decode cD_event 9 = .ok (.aload_n 3, 1) := by decide +kernel
theorem dD_event_10 : decode cD_event 10 = .ok (.ifnonnull 5, 3) := by decide +kernel
theorem dD_event_13 : decode cD_event 13 = .ok (.iconst (-1), 1) := by decide +kernel
theorem dD_event_14 : decode cD_event 14 = .ok (.ireturn, 1) := by decide +kernel
theorem dD_event_15 : decode cD_event 15 = .ok (.iload_n 2, 1) := by decide +kernel
theorem dD_event_16 : decode cD_event 16 = .ok (.tableswitch 70 0 5 #[40, 45, 50, 55, 60, 65], 40) := by decide +kernel
theorem dD_event_56 : decode cD_event 56 = .ok (.aload_n 3, 1) := by decide +kernel
theorem dD_event_57 : decode cD_event 57 = .ok (.getfield 50, 3) := by decide +kernel
theorem dD_event_60 : decode cD_event 60 = .ok (.ireturn, 1) := by decide +kernel
theorem dD_event_61 : decode cD_event 61 = .ok (.aload_n 3, 1) := by decide +kernel
theorem dD_event_62 : decode cD_event 62 = .ok (.getfield 56, 3) := by decide +kernel
theorem dD_event_65 : decode cD_event 65 = .ok (.ireturn, 1) := by decide +kernel
theorem dD_event_66 : decode cD_event 66 = .ok (.aload_n 3, 1) := by decide +kernel
theorem dD_event_67 : decode cD_event 67 = .ok (.getfield 59, 3) := by decide +kernel
theorem dD_event_70 : decode cD_event 70 = .ok (.ireturn, 1) := by decide +kernel
theorem dD_event_71 : decode cD_event 71 = .ok (.aload_n 3, 1) := by decide +kernel
theorem dD_event_72 : decode cD_event 72 = .ok (.getfield 62, 3) := by decide +kernel
theorem dD_event_75 : decode cD_event 75 = .ok (.ireturn, 1) := by decide +kernel
theorem dD_event_76 : decode cD_event 76 = .ok (.aload_n 3, 1) := by decide +kernel
theorem dD_event_77 : decode cD_event 77 = .ok (.getfield 65, 3) := by decide +kernel
theorem dD_event_80 : decode cD_event 80 = .ok (.ireturn, 1) := by decide +kernel
theorem dD_event_81 : decode cD_event 81 = .ok (.aload_n 3, 1) := by decide +kernel
theorem dD_event_82 : decode cD_event 82 = .ok (.getfield 68, 3) := by decide +kernel
theorem dD_event_85 : decode cD_event 85 = .ok (.ireturn, 1) := by decide +kernel
theorem dD_event_86 : decode cD_event 86 = .ok (.iconst (-1), 1) := by decide +kernel
theorem dD_event_87 : decode cD_event 87 = .ok (.ireturn, 1) := by decide +kernel
def fD_event (h : cH) (z : cZ) (x1 : Int32) (x2 : Int32) : Option (Int32 × cZ) := (fS_at h z x1).bind fun (r1, z1) => if r1 = none then (some ((-1 : Int32), z1)) else (if x2 = 0 then ((r1).bind fun j4 => if h.2.1 ≤ j4 then none else (some (ze z1 j4 0, z1))) else (if x2 = 1 then ((r1).bind fun j6 => if h.2.1 ≤ j6 then none else (some (ze z1 j6 1, z1))) else (if x2 = 2 then ((r1).bind fun j8 => if h.2.1 ≤ j8 then none else (some (ze z1 j8 2, z1))) else (if x2 = 3 then ((r1).bind fun j10 => if h.2.1 ≤ j10 then none else (some (ze z1 j10 3, z1))) else (if x2 = 4 then ((r1).bind fun j12 => if h.2.1 ≤ j12 then none else (some (ze z1 j12 4, z1))) else (if x2 = 5 then ((r1).bind fun j14 => if h.2.1 ≤ j14 then none else (some (ze z1 j14 6, z1))) else (some ((-1 : Int32), z1))))))))
set_option maxHeartbeats 4000000 in
set_option maxRecDepth 100000 in
theorem cD_event_met {l : Launch} {g : gT} {qq ad ea : Nat → Nat} {h : cH} {X : va_W} {z z' : cZ} {x1 : Int32} {x2 : Int32} {r' : Int32} (hf : fD_event h z x1 x2 = some (r', z')) : cMet l yD_event cD_event 4 (some .int) rD_event g qq ad ea h X z [.ref (qq 0), .int x1, .int x2] (some (.int r')) X z' := by
  refine c_entry (by decide) (Nat.le_of_ble_eq_true rfl) ?_
  intro p e s m args below meth c ls C hr hlk hnm hl hw
  have hrv : (some (.int r') : Option Value) = some (.int r') := rfl
  have C : mCx p m c cD_event 4 s args g "MidiDesk" := C
  have hl : lv_has ls 4 [(0, .ref (qq 0)), (1, .int x1), (2, .int x2)] := hl
  unfold fD_event at hf
  refine lv_aload_n C.1.1 C.1.2.1 dD_event_0 rfl (lv_at hl 0 rfl) ?_
  refine cg_Desk_Desk_score C hw dD_event_1 ?_
  refine lv_iload_n C.1.1 C.1.2.1 dD_event_4 rfl (lv_at hl 1 rfl) ?_
  obtain ⟨⟨r1, z1⟩, g1, hf⟩ := ts_b hf
  try dsimp only at hf
  refine c_callV (rest := []) (As := [.int x1]) (rv := (some (va_rf (Option.map ea r1)))) (b := (qq 4)) C hl.1 hw (cS_at_met g1) rfl (callW_of (rm := rS_at) (C := "MidiDesk$Score") 1 C.1.2.2.2.2 gw_397 gw_398 gw_399 gw_54 gw_400 kS_at ⟨Nat.le_of_ble_eq_true rfl, Nat.le_of_ble_eq_true rfl⟩) (c_recv_score C.2 hw) rfl rfl (Nat.le_of_ble_eq_true rfl) dD_event_5 ⟨Nat.le_of_ble_eq_true rfl, Nat.le_of_ble_eq_true rfl⟩ (fun H locs hw => ?_)
  refine W.eq (g2 := F0 m 8 ls [va_rf (Option.map ea r1)]) rfl ?_
  refine c_astore_n (lv' := [(3, va_rf (Option.map ea r1)), (0, .ref (qq 0)), (1, .int x1), (2, .int x2)]) C.1.1 C.1.2.1 dD_event_8 rfl hl (by decide) rfl (fun ls hl => ?_)
  refine c_aload_n C.1.1 C.1.2.1 dD_event_9 rfl (lv_at hl 0 rfl) ?_
  refine c_ifnonnull (x := r1) (tgt := 15) C.1.1 C.1.2.1 dD_event_10 (by decide) (fun c2 => ?_) (fun c2 => ?_)
  · have hf := ts_f hf c2
    refine lv_iload_n C.1.1 C.1.2.1 dD_event_15 rfl (lv_at hl 3 rfl) ?_
    rcases Decidable.em (x2 = 0) with c3 | c3
    · have hf := ts_t hf c3
      refine lv_tableIn (off := 40) (tgt := 56) C.1.1 C.1.2.1 dD_event_16 (by rw [c3]; decide) (by rw [c3]; decide) (by rw [c3]; decide) (by decide) ?_
      refine c_aload_n C.1.1 C.1.2.1 dD_event_56 rfl (lv_at hl 0 rfl) ?_
      obtain ⟨j4, ho4, hf⟩ := ts_b hf
      try dsimp only at hf
      obtain ⟨hb4, hf⟩ := ts_g hf
      have hb4 := Nat.lt_of_not_le hb4
      refine cg_Desk_Event_tick C hw ho4 hb4 dD_event_57 ?_
      exact c_reti C hr hlk hrv hw hf rfl ⟨Nat.le_of_ble_eq_true rfl, Nat.le_of_ble_eq_true rfl⟩ dD_event_60
    have hf := ts_f hf c3
    rcases Decidable.em (x2 = 1) with c5 | c5
    · have hf := ts_t hf c5
      refine lv_tableIn (off := 45) (tgt := 61) C.1.1 C.1.2.1 dD_event_16 (by rw [c5]; decide) (by rw [c5]; decide) (by rw [c5]; decide) (by decide) ?_
      refine c_aload_n C.1.1 C.1.2.1 dD_event_61 rfl (lv_at hl 0 rfl) ?_
      obtain ⟨j6, ho6, hf⟩ := ts_b hf
      try dsimp only at hf
      obtain ⟨hb6, hf⟩ := ts_g hf
      have hb6 := Nat.lt_of_not_le hb6
      refine cg_Desk_Event_track C hw ho6 hb6 dD_event_62 ?_
      exact c_reti C hr hlk hrv hw hf rfl ⟨Nat.le_of_ble_eq_true rfl, Nat.le_of_ble_eq_true rfl⟩ dD_event_65
    have hf := ts_f hf c5
    rcases Decidable.em (x2 = 2) with c7 | c7
    · have hf := ts_t hf c7
      refine lv_tableIn (off := 50) (tgt := 66) C.1.1 C.1.2.1 dD_event_16 (by rw [c7]; decide) (by rw [c7]; decide) (by rw [c7]; decide) (by decide) ?_
      refine c_aload_n C.1.1 C.1.2.1 dD_event_66 rfl (lv_at hl 0 rfl) ?_
      obtain ⟨j8, ho8, hf⟩ := ts_b hf
      try dsimp only at hf
      obtain ⟨hb8, hf⟩ := ts_g hf
      have hb8 := Nat.lt_of_not_le hb8
      refine cg_Desk_Event_status C hw ho8 hb8 dD_event_67 ?_
      exact c_reti C hr hlk hrv hw hf rfl ⟨Nat.le_of_ble_eq_true rfl, Nat.le_of_ble_eq_true rfl⟩ dD_event_70
    have hf := ts_f hf c7
    rcases Decidable.em (x2 = 3) with c9 | c9
    · have hf := ts_t hf c9
      refine lv_tableIn (off := 55) (tgt := 71) C.1.1 C.1.2.1 dD_event_16 (by rw [c9]; decide) (by rw [c9]; decide) (by rw [c9]; decide) (by decide) ?_
      refine c_aload_n C.1.1 C.1.2.1 dD_event_71 rfl (lv_at hl 0 rfl) ?_
      obtain ⟨j10, ho10, hf⟩ := ts_b hf
      try dsimp only at hf
      obtain ⟨hb10, hf⟩ := ts_g hf
      have hb10 := Nat.lt_of_not_le hb10
      refine cg_Desk_Event_first C hw ho10 hb10 dD_event_72 ?_
      exact c_reti C hr hlk hrv hw hf rfl ⟨Nat.le_of_ble_eq_true rfl, Nat.le_of_ble_eq_true rfl⟩ dD_event_75
    have hf := ts_f hf c9
    rcases Decidable.em (x2 = 4) with c11 | c11
    · have hf := ts_t hf c11
      refine lv_tableIn (off := 60) (tgt := 76) C.1.1 C.1.2.1 dD_event_16 (by rw [c11]; decide) (by rw [c11]; decide) (by rw [c11]; decide) (by decide) ?_
      refine c_aload_n C.1.1 C.1.2.1 dD_event_76 rfl (lv_at hl 0 rfl) ?_
      obtain ⟨j12, ho12, hf⟩ := ts_b hf
      try dsimp only at hf
      obtain ⟨hb12, hf⟩ := ts_g hf
      have hb12 := Nat.lt_of_not_le hb12
      refine cg_Desk_Event_second C hw ho12 hb12 dD_event_77 ?_
      exact c_reti C hr hlk hrv hw hf rfl ⟨Nat.le_of_ble_eq_true rfl, Nat.le_of_ble_eq_true rfl⟩ dD_event_80
    have hf := ts_f hf c11
    rcases Decidable.em (x2 = 5) with c13 | c13
    · have hf := ts_t hf c13
      refine lv_tableIn (off := 65) (tgt := 81) C.1.1 C.1.2.1 dD_event_16 (by rw [c13]; decide) (by rw [c13]; decide) (by rw [c13]; decide) (by decide) ?_
      refine c_aload_n C.1.1 C.1.2.1 dD_event_81 rfl (lv_at hl 0 rfl) ?_
      obtain ⟨j14, ho14, hf⟩ := ts_b hf
      try dsimp only at hf
      obtain ⟨hb14, hf⟩ := ts_g hf
      have hb14 := Nat.lt_of_not_le hb14
      refine cg_Desk_Event_size C hw ho14 hb14 dD_event_82 ?_
      exact c_reti C hr hlk hrv hw hf rfl ⟨Nat.le_of_ble_eq_true rfl, Nat.le_of_ble_eq_true rfl⟩ dD_event_85
    have hf := ts_f hf c13
    refine lv_tableOut (tgt := 86) C.1.1 C.1.2.1 dD_event_16 (by have c3n := lv_neT (a := 0) c3 (by decide); have c5n := lv_neT (a := 1) c5 (by decide); have c7n := lv_neT (a := 2) c7 (by decide); have c9n := lv_neT (a := 3) c9 (by decide); have c11n := lv_neT (a := 4) c11 (by decide); have c13n := lv_neT (a := 5) c13 (by decide); omega) (by decide) ?_
    refine lv_iconst (v := (-1 : Int32)) C.1.1 C.1.2.1 dD_event_86 (by decide) ?_
    exact c_reti C hr hlk hrv hw hf rfl ⟨Nat.le_of_ble_eq_true rfl, Nat.le_of_ble_eq_true rfl⟩ dD_event_87
  · have hf := ts_t hf c2
    refine lv_iconst (v := (-1 : Int32)) C.1.1 C.1.2.1 dD_event_13 (by decide) ?_
    exact c_reti C hr hlk hrv hw hf rfl ⟨Nat.le_of_ble_eq_true rfl, Nat.le_of_ble_eq_true rfl⟩ dD_event_14
abbrev cD_byteOf : ByteArray := prog_1_method_5_code
abbrev yD_byteOf : MethodName := ⟨"MidiDesk", "byteOf", "(II)I"⟩
theorem kD_byteOf : yD_byteOf.cls ≠ "java/lang/invoke/MethodHandle" ∧ yD_byteOf.cls ≠ "java/lang/invoke/VarHandle" ∧ (parseMethodDescriptor yD_byteOf.desc).map (fun d => d.parameters.length) = some 2 := by decide +kernel
abbrev rD_byteOf : Room := { frames := 1, cells := 0, slots := 0, locals := 21 }
theorem dD_byteOf_0 : decode cD_byteOf 0 = .ok (.aload_n 0, 1) := by decide +kernel
theorem dD_byteOf_1 : decode cD_byteOf 1 = .ok (.getfield 24, 3) := by decide +kernel
theorem dD_byteOf_4 : decode cD_byteOf 4 = .ok (.iload_n 1, 1) := by decide +kernel
theorem dD_byteOf_5 : decode cD_byteOf 5 = .ok (.invokevirtual 46, 3) := by decide +kernel
theorem dD_byteOf_8 : decode cD_byteOf 8 = .ok (.astore_n 3, 1) := by decide +kernel
theorem dD_byteOf_9 : decode cD_byteOf 9 = .ok (.aload_n 3, 1) := by decide +kernel
theorem dD_byteOf_10 : decode cD_byteOf 10 = .ok (.ifnull 15, 3) := by decide +kernel
theorem dD_byteOf_13 : decode cD_byteOf 13 = .ok (.iload_n 2, 1) := by decide +kernel
theorem dD_byteOf_14 : decode cD_byteOf 14 = .ok (.ifCond .lt 11, 3) := by decide +kernel
theorem dD_byteOf_17 : decode cD_byteOf 17 = .ok (.iload_n 2, 1) := by decide +kernel
theorem dD_byteOf_18 : decode cD_byteOf 18 = .ok (.aload_n 3, 1) := by decide +kernel
theorem dD_byteOf_19 : decode cD_byteOf 19 = .ok (.getfield 68, 3) := by decide +kernel
theorem dD_byteOf_22 : decode cD_byteOf 22 = .ok (.if_icmp .lt 5, 3) := by decide +kernel
theorem dD_byteOf_25 : decode cD_byteOf 25 = .ok (.iconst (-1), 1) := by decide +kernel
theorem dD_byteOf_26 : decode cD_byteOf 26 = .ok (.ireturn, 1) := by decide +kernel
theorem dD_byteOf_27 : decode cD_byteOf 27 = .ok (.aload_n 0, 1) := by decide +kernel
theorem dD_byteOf_28 : decode cD_byteOf 28 = .ok (.getfield 24, 3) := by decide +kernel
theorem dD_byteOf_31 : decode cD_byteOf 31 = .ok (.getfield 70, 3) := by decide +kernel
theorem dD_byteOf_34 : decode cD_byteOf 34 = .ok (.aload_n 3, 1) := by decide +kernel
theorem dD_byteOf_35 : decode cD_byteOf 35 = .ok (.getfield 73, 3) := by decide +kernel
theorem dD_byteOf_38 : decode cD_byteOf 38 = .ok (.iload_n 2, 1) := by decide +kernel
theorem dD_byteOf_39 : decode cD_byteOf 39 = .ok (.iadd, 1) := by decide +kernel
theorem dD_byteOf_40 : decode cD_byteOf 40 = .ok (.invokevirtual 76, 3) := by decide +kernel
theorem dD_byteOf_43 : decode cD_byteOf 43 = .ok (.ireturn, 1) := by decide +kernel
def fD_byteOf (h : cH) (z : cZ) (x1 : Int32) (x2 : Int32) : Option (Int32 × cZ) := (fS_at h z x1).bind fun (r1, z1) => if r1 = none then (some ((-1 : Int32), z1)) else (if x2 < 0 then (some ((-1 : Int32), z1)) else ((r1).bind fun j4 => if h.2.1 ≤ j4 then none else (if x2 < (ze z1 j4 6) then ((fB2_at h z1 ((ze z1 j4 5) + x2)).bind fun (r6, z6) => some (r6, z6)) else (some ((-1 : Int32), z1)))))
set_option maxHeartbeats 4000000 in
set_option maxRecDepth 100000 in
theorem cD_byteOf_met {l : Launch} {g : gT} {qq ad ea : Nat → Nat} {h : cH} {X : va_W} {z z' : cZ} {x1 : Int32} {x2 : Int32} {r' : Int32} (hf : fD_byteOf h z x1 x2 = some (r', z')) : cMet l yD_byteOf cD_byteOf 4 (some .int) rD_byteOf g qq ad ea h X z [.ref (qq 0), .int x1, .int x2] (some (.int r')) X z' := by
  refine c_entry (by decide) (Nat.le_of_ble_eq_true rfl) ?_
  intro p e s m args below meth c ls C hr hlk hnm hl hw
  have hrv : (some (.int r') : Option Value) = some (.int r') := rfl
  have C : mCx p m c cD_byteOf 4 s args g "MidiDesk" := C
  have hl : lv_has ls 4 [(0, .ref (qq 0)), (1, .int x1), (2, .int x2)] := hl
  unfold fD_byteOf at hf
  refine lv_aload_n C.1.1 C.1.2.1 dD_byteOf_0 rfl (lv_at hl 0 rfl) ?_
  refine cg_Desk_Desk_score C hw dD_byteOf_1 ?_
  refine lv_iload_n C.1.1 C.1.2.1 dD_byteOf_4 rfl (lv_at hl 1 rfl) ?_
  obtain ⟨⟨r1, z1⟩, g1, hf⟩ := ts_b hf
  try dsimp only at hf
  refine c_callV (rest := []) (As := [.int x1]) (rv := (some (va_rf (Option.map ea r1)))) (b := (qq 4)) C hl.1 hw (cS_at_met g1) rfl (callW_of (rm := rS_at) (C := "MidiDesk$Score") 1 C.1.2.2.2.2 gw_397 gw_398 gw_399 gw_54 gw_400 kS_at ⟨Nat.le_of_ble_eq_true rfl, Nat.le_of_ble_eq_true rfl⟩) (c_recv_score C.2 hw) rfl rfl (Nat.le_of_ble_eq_true rfl) dD_byteOf_5 ⟨Nat.le_of_ble_eq_true rfl, Nat.le_of_ble_eq_true rfl⟩ (fun H locs hw => ?_)
  refine W.eq (g2 := F0 m 8 ls [va_rf (Option.map ea r1)]) rfl ?_
  refine c_astore_n (lv' := [(3, va_rf (Option.map ea r1)), (0, .ref (qq 0)), (1, .int x1), (2, .int x2)]) C.1.1 C.1.2.1 dD_byteOf_8 rfl hl (by decide) rfl (fun ls hl => ?_)
  refine c_aload_n C.1.1 C.1.2.1 dD_byteOf_9 rfl (lv_at hl 0 rfl) ?_
  refine c_ifnull (x := r1) (tgt := 25) C.1.1 C.1.2.1 dD_byteOf_10 (by decide) (fun c2 => ?_) (fun c2 => ?_)
  · have hf := ts_t hf c2
    refine lv_iconst (v := (-1 : Int32)) C.1.1 C.1.2.1 dD_byteOf_25 (by decide) ?_
    exact c_reti C hr hlk hrv hw hf rfl ⟨Nat.le_of_ble_eq_true rfl, Nat.le_of_ble_eq_true rfl⟩ dD_byteOf_26
  · have hf := ts_f hf c2
    refine lv_iload_n C.1.1 C.1.2.1 dD_byteOf_13 rfl (lv_at hl 3 rfl) ?_
    refine lv_if_lt (tgt := 25) C.1.1 C.1.2.1 dD_byteOf_14 (by decide) (fun c3 => ?_) (fun c3 => ?_)
    · have hf := ts_t hf c3
      refine lv_iconst (v := (-1 : Int32)) C.1.1 C.1.2.1 dD_byteOf_25 (by decide) ?_
      exact c_reti C hr hlk hrv hw hf rfl ⟨Nat.le_of_ble_eq_true rfl, Nat.le_of_ble_eq_true rfl⟩ dD_byteOf_26
    · have hf := ts_f hf c3
      refine lv_iload_n C.1.1 C.1.2.1 dD_byteOf_17 rfl (lv_at hl 3 rfl) ?_
      refine c_aload_n C.1.1 C.1.2.1 dD_byteOf_18 rfl (lv_at hl 0 rfl) ?_
      obtain ⟨j4, ho4, hf⟩ := ts_b hf
      try dsimp only at hf
      obtain ⟨hb4, hf⟩ := ts_g hf
      have hb4 := Nat.lt_of_not_le hb4
      refine cg_Desk_Event_size C hw ho4 hb4 dD_byteOf_19 ?_
      refine lv_icmp_lt (tgt := 27) C.1.1 C.1.2.1 dD_byteOf_22 (by decide) (fun c5 => ?_) (fun c5 => ?_)
      · have hf := ts_t hf c5
        refine lv_aload_n C.1.1 C.1.2.1 dD_byteOf_27 rfl (lv_at hl 1 rfl) ?_
        refine cg_Desk_Desk_score C hw dD_byteOf_28 ?_
        refine cg_Desk_Score_data C hw dD_byteOf_31 ?_
        refine c_aload_n C.1.1 C.1.2.1 dD_byteOf_34 rfl (lv_at hl 0 rfl) ?_
        refine cg_Desk_Event_start C hw ho4 hb4 dD_byteOf_35 ?_
        refine lv_iload_n C.1.1 C.1.2.1 dD_byteOf_38 rfl (lv_at hl 3 rfl) ?_
        refine lv_iadd C.1.1 C.1.2.1 dD_byteOf_39 ?_
        obtain ⟨⟨r6, z6⟩, g6, hf⟩ := ts_b hf
        try dsimp only at hf
        refine c_callV (rest := []) (As := [.int ((ze z1 j4 5) + x2)]) (rv := (some (.int r6))) (b := (qq 3)) C hl.1 hw (cB2_at_met g6) rfl (callW_of (rm := rB2_at) (C := "MidiDesk$Bytes") 1 C.1.2.2.2.2 gw_405 gw_256 gw_257 gw_53 gw_258 kB2_at ⟨Nat.le_of_ble_eq_true rfl, Nat.le_of_ble_eq_true rfl⟩) (c_recv_B2 C.2 hw) rfl rfl (Nat.le_of_ble_eq_true rfl) dD_byteOf_40 ⟨Nat.le_of_ble_eq_true rfl, Nat.le_of_ble_eq_true rfl⟩ (fun H locs hw => ?_)
        refine W.eq (g2 := F0 m 43 ls [.int r6]) rfl ?_
        exact c_reti C hr hlk hrv hw hf rfl ⟨Nat.le_of_ble_eq_true rfl, Nat.le_of_ble_eq_true rfl⟩ dD_byteOf_43
      · have hf := ts_f hf c5
        refine lv_iconst (v := (-1 : Int32)) C.1.1 C.1.2.1 dD_byteOf_25 (by decide) ?_
        exact c_reti C hr hlk hrv hw hf rfl ⟨Nat.le_of_ble_eq_true rfl, Nat.le_of_ble_eq_true rfl⟩ dD_byteOf_26
abbrev cD_length : ByteArray := prog_1_method_8_code
abbrev yD_length : MethodName := ⟨"MidiDesk", "length", "(I)I"⟩
theorem kD_length : yD_length.cls ≠ "java/lang/invoke/MethodHandle" ∧ yD_length.cls ≠ "java/lang/invoke/VarHandle" ∧ (parseMethodDescriptor yD_length.desc).map (fun d => d.parameters.length) = some 1 := by decide +kernel
abbrev rD_length : Room := { frames := 3, cells := 0, slots := 0, locals := 65 }
theorem dD_length_0 : decode cD_length 0 = .ok (.aload_n 0, 1) := by decide +kernel
theorem dD_length_1 : decode cD_length 1 = .ok (.getfield 24, 3) := by decide +kernel
theorem dD_length_4 : decode cD_length 4 = .ok (.iload_n 1, 1) := by decide +kernel
theorem dD_length_5 : decode cD_length 5 = .ok (.invokevirtual 92, 3) := by decide +kernel
theorem dD_length_8 : decode cD_length 8 = .ok (.ireturn, 1) := by decide +kernel
def fD_length (h : cH) (z : cZ) (x1 : Int32) : Option (Int32 × cZ) := (fS_noteTicks h z x1).bind fun (r1, z1) => some (r1, z1)
set_option maxHeartbeats 4000000 in
set_option maxRecDepth 100000 in
theorem cD_length_met {l : Launch} {g : gT} {qq ad ea : Nat → Nat} {h : cH} {X : va_W} {z z' : cZ} {x1 : Int32} {r' : Int32} (hf : fD_length h z x1 = some (r', z')) : cMet l yD_length cD_length 2 (some .int) rD_length g qq ad ea h X z [.ref (qq 0), .int x1] (some (.int r')) X z' := by
  refine c_entry (by decide) (Nat.le_of_ble_eq_true rfl) ?_
  intro p e s m args below meth c ls C hr hlk hnm hl hw
  have hrv : (some (.int r') : Option Value) = some (.int r') := rfl
  have C : mCx p m c cD_length 2 s args g "MidiDesk" := C
  have hl : lv_has ls 2 [(0, .ref (qq 0)), (1, .int x1)] := hl
  unfold fD_length at hf
  refine lv_aload_n C.1.1 C.1.2.1 dD_length_0 rfl (lv_at hl 0 rfl) ?_
  refine cg_Desk_Desk_score C hw dD_length_1 ?_
  refine lv_iload_n C.1.1 C.1.2.1 dD_length_4 rfl (lv_at hl 1 rfl) ?_
  obtain ⟨⟨r1, z1⟩, g1, hf⟩ := ts_b hf
  try dsimp only at hf
  refine c_callV (rest := []) (As := [.int x1]) (rv := (some (.int r1))) (b := (qq 4)) C hl.1 hw (cS_noteTicks_met g1) rfl (callW_of (rm := rS_noteTicks) (C := "MidiDesk$Score") 1 C.1.2.2.2.2 gw_410 gw_411 gw_412 gw_54 gw_413 kS_noteTicks ⟨Nat.le_of_ble_eq_true rfl, Nat.le_of_ble_eq_true rfl⟩) (c_recv_score C.2 hw) rfl rfl (Nat.le_of_ble_eq_true rfl) dD_length_5 ⟨Nat.le_of_ble_eq_true rfl, Nat.le_of_ble_eq_true rfl⟩ (fun H locs hw => ?_)
  refine W.eq (g2 := F0 m 8 ls [.int r1]) rfl ?_
  exact c_reti C hr hlk hrv hw hf rfl ⟨Nat.le_of_ble_eq_true rfl, Nat.le_of_ble_eq_true rfl⟩ dD_length_8
abbrev cD_written : ByteArray := prog_1_method_13_code
abbrev yD_written : MethodName := ⟨"MidiDesk", "written", "(I)I"⟩
theorem kD_written : yD_written.cls ≠ "java/lang/invoke/MethodHandle" ∧ yD_written.cls ≠ "java/lang/invoke/VarHandle" ∧ (parseMethodDescriptor yD_written.desc).map (fun d => d.parameters.length) = some 1 := by decide +kernel
abbrev rD_written : Room := { frames := 1, cells := 0, slots := 0, locals := 21 }
theorem dD_written_0 : decode cD_written 0 = .ok (.aload_n 0, 1) := by decide +kernel
theorem dD_written_1 : decode cD_written 1 = .ok (.getfield 18, 3) := by decide +kernel
theorem dD_written_4 : decode cD_written 4 = .ok (.iload_n 1, 1) := by decide +kernel
theorem dD_written_5 : decode cD_written 5 = .ok (.invokevirtual 76, 3) := by decide +kernel
theorem dD_written_8 : decode cD_written 8 = .ok (.ireturn, 1) := by decide +kernel
def fD_written (h : cH) (z : cZ) (x1 : Int32) : Option (Int32 × cZ) := (fB1_at h z x1).bind fun (r1, z1) => some (r1, z1)
set_option maxHeartbeats 4000000 in
set_option maxRecDepth 100000 in
theorem cD_written_met {l : Launch} {g : gT} {qq ad ea : Nat → Nat} {h : cH} {X : va_W} {z z' : cZ} {x1 : Int32} {r' : Int32} (hf : fD_written h z x1 = some (r', z')) : cMet l yD_written cD_written 2 (some .int) rD_written g qq ad ea h X z [.ref (qq 0), .int x1] (some (.int r')) X z' := by
  refine c_entry (by decide) (Nat.le_of_ble_eq_true rfl) ?_
  intro p e s m args below meth c ls C hr hlk hnm hl hw
  have hrv : (some (.int r') : Option Value) = some (.int r') := rfl
  have C : mCx p m c cD_written 2 s args g "MidiDesk" := C
  have hl : lv_has ls 2 [(0, .ref (qq 0)), (1, .int x1)] := hl
  unfold fD_written at hf
  refine lv_aload_n C.1.1 C.1.2.1 dD_written_0 rfl (lv_at hl 0 rfl) ?_
  refine cg_Desk_Desk_output C hw dD_written_1 ?_
  refine lv_iload_n C.1.1 C.1.2.1 dD_written_4 rfl (lv_at hl 1 rfl) ?_
  obtain ⟨⟨r1, z1⟩, g1, hf⟩ := ts_b hf
  try dsimp only at hf
  refine c_callV (rest := []) (As := [.int x1]) (rv := (some (.int r1))) (b := (qq 2)) C hl.1 hw (cB1_at_met g1) rfl (callW_of (rm := rB1_at) (C := "MidiDesk$Bytes") 1 C.1.2.2.2.2 gw_405 gw_256 gw_257 gw_53 gw_258 kB1_at ⟨Nat.le_of_ble_eq_true rfl, Nat.le_of_ble_eq_true rfl⟩) (c_recv_B1 C.2 hw) rfl rfl (Nat.le_of_ble_eq_true rfl) dD_written_5 ⟨Nat.le_of_ble_eq_true rfl, Nat.le_of_ble_eq_true rfl⟩ (fun H locs hw => ?_)
  refine W.eq (g2 := F0 m 8 ls [.int r1]) rfl ?_
  exact c_reti C hr hlk hrv hw hf rfl ⟨Nat.le_of_ble_eq_true rfl, Nat.le_of_ble_eq_true rfl⟩ dD_written_8
abbrev cD_headValue : ByteArray := prog_1_method_16_code
abbrev yD_headValue : MethodName := ⟨"MidiDesk", "headValue", "(I)I"⟩
theorem kD_headValue : yD_headValue.cls ≠ "java/lang/invoke/MethodHandle" ∧ yD_headValue.cls ≠ "java/lang/invoke/VarHandle" ∧ (parseMethodDescriptor yD_headValue.desc).map (fun d => d.parameters.length) = some 1 := by decide +kernel
abbrev rD_headValue : Room := { frames := 2, cells := 0, slots := 0, locals := 42 }
theorem dD_headValue_0 : decode cD_headValue 0 = .ok (.iload_n 1, 1) := by decide +kernel
theorem dD_headValue_1 : decode cD_headValue 1 = .ok (.tableswitch 79 2 9 #[47, 55, 63, 79, 79, 79, 79, 71], 47) := by decide +kernel
theorem dD_headValue_48 : decode cD_headValue 48 = .ok (.aload_n 0, 1) := by decide +kernel
theorem dD_headValue_49 : decode cD_headValue 49 = .ok (.getfield 24, 3) := by decide +kernel
theorem dD_headValue_52 : decode cD_headValue 52 = .ok (.getfield 153, 3) := by decide +kernel
theorem dD_headValue_55 : decode cD_headValue 55 = .ok (.ireturn, 1) := by decide +kernel
theorem dD_headValue_56 : decode cD_headValue 56 = .ok (.aload_n 0, 1) := by decide +kernel
theorem dD_headValue_57 : decode cD_headValue 57 = .ok (.getfield 24, 3) := by decide +kernel
theorem dD_headValue_60 : decode cD_headValue 60 = .ok (.getfield 121, 3) := by decide +kernel
theorem dD_headValue_63 : decode cD_headValue 63 = .ok (.ireturn, 1) := by decide +kernel
theorem dD_headValue_64 : decode cD_headValue 64 = .ok (.aload_n 0, 1) := by decide +kernel
theorem dD_headValue_65 : decode cD_headValue 65 = .ok (.getfield 24, 3) := by decide +kernel
theorem dD_headValue_68 : decode cD_headValue 68 = .ok (.getfield 156, 3) := by decide +kernel
theorem dD_headValue_71 : decode cD_headValue 71 = .ok (.ireturn, 1) := by decide +kernel
theorem dD_headValue_72 : decode cD_headValue 72 = .ok (.aload_n 0, 1) := by decide +kernel
theorem dD_headValue_73 : decode cD_headValue 73 = .ok (.getfield 24, 3) := by decide +kernel
theorem dD_headValue_76 : decode cD_headValue 76 = .ok (.invokevirtual 89, 3) := by decide +kernel
theorem dD_headValue_79 : decode cD_headValue 79 = .ok (.ireturn, 1) := by decide +kernel
theorem dD_headValue_80 : decode cD_headValue 80 = .ok (.iconst (-1), 1) := by decide +kernel
theorem dD_headValue_81 : decode cD_headValue 81 = .ok (.ireturn, 1) := by decide +kernel
def fD_headValue (h : cH) (z : cZ) (x1 : Int32) : Option (Int32 × cZ) := if x1 = 2 then (some (zi z 4, z)) else (if x1 = 3 then (some (zi z 5, z)) else (if x1 = 4 then (some (zi z 6, z)) else (if x1 = 9 then ((fS_partsOfMicrosecond h z).bind fun (r5, z5) => some (r5, z5)) else (some ((-1 : Int32), z)))))
set_option maxHeartbeats 4000000 in
set_option maxRecDepth 100000 in
theorem cD_headValue_met {l : Launch} {g : gT} {qq ad ea : Nat → Nat} {h : cH} {X : va_W} {z z' : cZ} {x1 : Int32} {r' : Int32} (hf : fD_headValue h z x1 = some (r', z')) : cMet l yD_headValue cD_headValue 2 (some .int) rD_headValue g qq ad ea h X z [.ref (qq 0), .int x1] (some (.int r')) X z' := by
  refine c_entry (by decide) (Nat.le_of_ble_eq_true rfl) ?_
  intro p e s m args below meth c ls C hr hlk hnm hl hw
  have hrv : (some (.int r') : Option Value) = some (.int r') := rfl
  have C : mCx p m c cD_headValue 2 s args g "MidiDesk" := C
  have hl : lv_has ls 2 [(0, .ref (qq 0)), (1, .int x1)] := hl
  unfold fD_headValue at hf
  refine lv_iload_n C.1.1 C.1.2.1 dD_headValue_0 rfl (lv_at hl 1 rfl) ?_
  rcases Decidable.em (x1 = 2) with c1 | c1
  · have hf := ts_t hf c1
    refine lv_tableIn (off := 47) (tgt := 48) C.1.1 C.1.2.1 dD_headValue_1 (by rw [c1]; decide) (by rw [c1]; decide) (by rw [c1]; decide) (by decide) ?_
    refine lv_aload_n C.1.1 C.1.2.1 dD_headValue_48 rfl (lv_at hl 0 rfl) ?_
    refine cg_Desk_Desk_score C hw dD_headValue_49 ?_
    refine cg_Desk_Score_format C hw dD_headValue_52 ?_
    exact c_reti C hr hlk hrv hw hf rfl ⟨Nat.le_of_ble_eq_true rfl, Nat.le_of_ble_eq_true rfl⟩ dD_headValue_55
  have hf := ts_f hf c1
  rcases Decidable.em (x1 = 3) with c2 | c2
  · have hf := ts_t hf c2
    refine lv_tableIn (off := 55) (tgt := 56) C.1.1 C.1.2.1 dD_headValue_1 (by rw [c2]; decide) (by rw [c2]; decide) (by rw [c2]; decide) (by decide) ?_
    refine lv_aload_n C.1.1 C.1.2.1 dD_headValue_56 rfl (lv_at hl 0 rfl) ?_
    refine cg_Desk_Desk_score C hw dD_headValue_57 ?_
    refine cg_Desk_Score_tracks C hw dD_headValue_60 ?_
    exact c_reti C hr hlk hrv hw hf rfl ⟨Nat.le_of_ble_eq_true rfl, Nat.le_of_ble_eq_true rfl⟩ dD_headValue_63
  have hf := ts_f hf c2
  rcases Decidable.em (x1 = 4) with c3 | c3
  · have hf := ts_t hf c3
    refine lv_tableIn (off := 63) (tgt := 64) C.1.1 C.1.2.1 dD_headValue_1 (by rw [c3]; decide) (by rw [c3]; decide) (by rw [c3]; decide) (by decide) ?_
    refine lv_aload_n C.1.1 C.1.2.1 dD_headValue_64 rfl (lv_at hl 0 rfl) ?_
    refine cg_Desk_Desk_score C hw dD_headValue_65 ?_
    refine cg_Desk_Score_division C hw dD_headValue_68 ?_
    exact c_reti C hr hlk hrv hw hf rfl ⟨Nat.le_of_ble_eq_true rfl, Nat.le_of_ble_eq_true rfl⟩ dD_headValue_71
  have hf := ts_f hf c3
  rcases Decidable.em (x1 = 9) with c4 | c4
  · have hf := ts_t hf c4
    refine lv_tableIn (off := 71) (tgt := 72) C.1.1 C.1.2.1 dD_headValue_1 (by rw [c4]; decide) (by rw [c4]; decide) (by rw [c4]; decide) (by decide) ?_
    refine lv_aload_n C.1.1 C.1.2.1 dD_headValue_72 rfl (lv_at hl 0 rfl) ?_
    refine cg_Desk_Desk_score C hw dD_headValue_73 ?_
    obtain ⟨⟨r5, z5⟩, g5, hf⟩ := ts_b hf
    try dsimp only at hf
    refine c_callV (rest := []) (As := []) (rv := (some (.int r5))) (b := (qq 4)) C hl.1 hw (cS_partsOfMicrosecond_met g5) rfl (callW_of (rm := rS_partsOfMicrosecond) (C := "MidiDesk$Score") 0 C.1.2.2.2.2 gw_459 gw_460 gw_461 gw_54 gw_462 kS_partsOfMicrosecond ⟨Nat.le_of_ble_eq_true rfl, Nat.le_of_ble_eq_true rfl⟩) (c_recv_score C.2 hw) rfl rfl (Nat.le_of_ble_eq_true rfl) dD_headValue_76 ⟨Nat.le_of_ble_eq_true rfl, Nat.le_of_ble_eq_true rfl⟩ (fun H locs hw => ?_)
    refine W.eq (g2 := F0 m 79 ls [.int r5]) rfl ?_
    exact c_reti C hr hlk hrv hw hf rfl ⟨Nat.le_of_ble_eq_true rfl, Nat.le_of_ble_eq_true rfl⟩ dD_headValue_79
  have hf := ts_f hf c4
  rcases Decidable.em (x1 = 5) with c6 | c6
  · refine lv_tableIn (off := 79) (tgt := 80) C.1.1 C.1.2.1 dD_headValue_1 (by rw [c6]; decide) (by rw [c6]; decide) (by rw [c6]; decide) (by decide) ?_
    refine lv_iconst (v := (-1 : Int32)) C.1.1 C.1.2.1 dD_headValue_80 (by decide) ?_
    exact c_reti C hr hlk hrv hw hf rfl ⟨Nat.le_of_ble_eq_true rfl, Nat.le_of_ble_eq_true rfl⟩ dD_headValue_81
  rcases Decidable.em (x1 = 6) with c7 | c7
  · refine lv_tableIn (off := 79) (tgt := 80) C.1.1 C.1.2.1 dD_headValue_1 (by rw [c7]; decide) (by rw [c7]; decide) (by rw [c7]; decide) (by decide) ?_
    refine lv_iconst (v := (-1 : Int32)) C.1.1 C.1.2.1 dD_headValue_80 (by decide) ?_
    exact c_reti C hr hlk hrv hw hf rfl ⟨Nat.le_of_ble_eq_true rfl, Nat.le_of_ble_eq_true rfl⟩ dD_headValue_81
  rcases Decidable.em (x1 = 7) with c8 | c8
  · refine lv_tableIn (off := 79) (tgt := 80) C.1.1 C.1.2.1 dD_headValue_1 (by rw [c8]; decide) (by rw [c8]; decide) (by rw [c8]; decide) (by decide) ?_
    refine lv_iconst (v := (-1 : Int32)) C.1.1 C.1.2.1 dD_headValue_80 (by decide) ?_
    exact c_reti C hr hlk hrv hw hf rfl ⟨Nat.le_of_ble_eq_true rfl, Nat.le_of_ble_eq_true rfl⟩ dD_headValue_81
  rcases Decidable.em (x1 = 8) with c9 | c9
  · refine lv_tableIn (off := 79) (tgt := 80) C.1.1 C.1.2.1 dD_headValue_1 (by rw [c9]; decide) (by rw [c9]; decide) (by rw [c9]; decide) (by decide) ?_
    refine lv_iconst (v := (-1 : Int32)) C.1.1 C.1.2.1 dD_headValue_80 (by decide) ?_
    exact c_reti C hr hlk hrv hw hf rfl ⟨Nat.le_of_ble_eq_true rfl, Nat.le_of_ble_eq_true rfl⟩ dD_headValue_81
  refine lv_tableOut (tgt := 80) C.1.1 C.1.2.1 dD_headValue_1 (by have c1n := lv_neT (a := 2) c1 (by decide); have c2n := lv_neT (a := 3) c2 (by decide); have c3n := lv_neT (a := 4) c3 (by decide); have c4n := lv_neT (a := 9) c4 (by decide); have c6n := lv_neT (a := 5) c6 (by decide); have c7n := lv_neT (a := 6) c7 (by decide); have c8n := lv_neT (a := 7) c8 (by decide); have c9n := lv_neT (a := 8) c9 (by decide); omega) (by decide) ?_
  refine lv_iconst (v := (-1 : Int32)) C.1.1 C.1.2.1 dD_headValue_80 (by decide) ?_
  exact c_reti C hr hlk hrv hw hf rfl ⟨Nat.le_of_ble_eq_true rfl, Nat.le_of_ble_eq_true rfl⟩ dD_headValue_81
abbrev cD_count : ByteArray := prog_1_method_15_code
abbrev yD_count : MethodName := ⟨"MidiDesk", "count", "(I)I"⟩
theorem kD_count : yD_count.cls ≠ "java/lang/invoke/MethodHandle" ∧ yD_count.cls ≠ "java/lang/invoke/VarHandle" ∧ (parseMethodDescriptor yD_count.desc).map (fun d => d.parameters.length) = some 1 := by decide +kernel
abbrev rD_count : Room := { frames := 3, cells := 0, slots := 0, locals := 63 }
theorem dD_count_0 : decode cD_count 0 = .ok (.iload_n 1, 1) := by decide +kernel
theorem dD_count_1 : decode cD_count 1 = .ok (.tableswitch 99 0 8 #[51, 59, 99, 99, 99, 67, 75, 83, 91], 51) := by decide +kernel
theorem dD_count_52 : decode cD_count 52 = .ok (.aload_n 0, 1) := by decide +kernel
theorem dD_count_53 : decode cD_count 53 = .ok (.getfield 14, 3) := by decide +kernel
theorem dD_count_56 : decode cD_count 56 = .ok (.invokevirtual 28, 3) := by decide +kernel
theorem dD_count_59 : decode cD_count 59 = .ok (.ireturn, 1) := by decide +kernel
theorem dD_count_60 : decode cD_count 60 = .ok (.aload_n 0, 1) := by decide +kernel
theorem dD_count_61 : decode cD_count 61 = .ok (.getfield 24, 3) := by decide +kernel
theorem dD_count_64 : decode cD_count 64 = .ok (.getfield 139, 3) := by decide +kernel
theorem dD_count_67 : decode cD_count 67 = .ok (.ireturn, 1) := by decide +kernel
theorem dD_count_68 : decode cD_count 68 = .ok (.aload_n 0, 1) := by decide +kernel
theorem dD_count_69 : decode cD_count 69 = .ok (.getfield 24, 3) := by decide +kernel
theorem dD_count_72 : decode cD_count 72 = .ok (.invokevirtual 109, 3) := by decide +kernel
theorem dD_count_75 : decode cD_count 75 = .ok (.ireturn, 1) := by decide +kernel
theorem dD_count_76 : decode cD_count 76 = .ok (.aload_n 0, 1) := by decide +kernel
theorem dD_count_77 : decode cD_count 77 = .ok (.getfield 24, 3) := by decide +kernel
theorem dD_count_80 : decode cD_count 80 = .ok (.invokevirtual 140, 3) := by decide +kernel
theorem dD_count_83 : decode cD_count 83 = .ok (.ireturn, 1) := by decide +kernel
theorem dD_count_84 : decode cD_count 84 = .ok (.aload_n 0, 1) := by decide +kernel
theorem dD_count_85 : decode cD_count 85 = .ok (.getfield 24, 3) := by decide +kernel
theorem dD_count_88 : decode cD_count 88 = .ok (.invokevirtual 143, 3) := by decide +kernel
theorem dD_count_91 : decode cD_count 91 = .ok (.ireturn, 1) := by decide +kernel
theorem dD_count_92 : decode cD_count 92 = .ok (.aload_n 0, 1) := by decide +kernel
theorem dD_count_93 : decode cD_count 93 = .ok (.getfield 18, 3) := by decide +kernel
theorem dD_count_96 : decode cD_count 96 = .ok (.invokevirtual 28, 3) := by decide +kernel
theorem dD_count_99 : decode cD_count 99 = .ok (.ireturn, 1) := by decide +kernel
theorem dD_count_100 : decode cD_count 100 = .ok (.aload_n 0, 1) := by decide +kernel
theorem dD_count_101 : decode cD_count 101 = .ok (.getfield 24, 3) := by decide +kernel
theorem dD_count_104 : decode cD_count 104 = .ok (.getfield 146, 3) := by decide +kernel
theorem dD_count_107 : decode cD_count 107 = .ok (.ifCond .eq 11, 3) := by decide +kernel
theorem dD_count_110 : decode cD_count 110 = .ok (.aload_n 0, 1) := by decide +kernel
theorem dD_count_111 : decode cD_count 111 = .ok (.iload_n 1, 1) := by decide +kernel
theorem dD_count_112 : decode cD_count 112 = .ok (.invokevirtual 150, 3) := by decide +kernel
theorem dD_count_115 : decode cD_count 115 = .ok (.goto 4, 3) := by decide +kernel
theorem dD_count_118 : decode cD_count 118 = .ok (.iconst (-1), 1) := by decide +kernel
theorem dD_count_119 : decode cD_count 119 = .ok (.ireturn, 1) := by decide +kernel
def fD_count (h : cH) (z : cZ) (x1 : Int32) : Option (Int32 × cZ) := if x1 = 0 then ((fB0_size h z).bind fun (r2, z2) => some (r2, z2)) else (if x1 = 1 then (some (zi z 7, z)) else (if x1 = 5 then ((fS_greatestTick h z).bind fun (r5, z5) => some (r5, z5)) else (if x1 = 6 then ((fS_tempoEvents h z).bind fun (r7, z7) => some (r7, z7)) else (if x1 = 7 then ((fS_notesBegun h z).bind fun (r9, z9) => some (r9, z9)) else (if x1 = 8 then ((fB1_size h z).bind fun (r11, z11) => some (r11, z11)) else (if (zi z 3) = 0 then (some ((-1 : Int32), z)) else ((fD_headValue h z x1).bind fun (r13, z13) => some (r13, z13))))))))
set_option maxHeartbeats 4000000 in
set_option maxRecDepth 100000 in
theorem cD_count_met {l : Launch} {g : gT} {qq ad ea : Nat → Nat} {h : cH} {X : va_W} {z z' : cZ} {x1 : Int32} {r' : Int32} (hf : fD_count h z x1 = some (r', z')) : cMet l yD_count cD_count 2 (some .int) rD_count g qq ad ea h X z [.ref (qq 0), .int x1] (some (.int r')) X z' := by
  refine c_entry (by decide) (Nat.le_of_ble_eq_true rfl) ?_
  intro p e s m args below meth c ls C hr hlk hnm hl hw
  have hrv : (some (.int r') : Option Value) = some (.int r') := rfl
  have C : mCx p m c cD_count 2 s args g "MidiDesk" := C
  have hl : lv_has ls 2 [(0, .ref (qq 0)), (1, .int x1)] := hl
  unfold fD_count at hf
  refine lv_iload_n C.1.1 C.1.2.1 dD_count_0 rfl (lv_at hl 1 rfl) ?_
  rcases Decidable.em (x1 = 0) with c1 | c1
  · have hf := ts_t hf c1
    refine lv_tableIn (off := 51) (tgt := 52) C.1.1 C.1.2.1 dD_count_1 (by rw [c1]; decide) (by rw [c1]; decide) (by rw [c1]; decide) (by decide) ?_
    refine lv_aload_n C.1.1 C.1.2.1 dD_count_52 rfl (lv_at hl 0 rfl) ?_
    refine cg_Desk_Desk_input C hw dD_count_53 ?_
    obtain ⟨⟨r2, z2⟩, g2, hf⟩ := ts_b hf
    try dsimp only at hf
    refine c_callV (rest := []) (As := []) (rv := (some (.int r2))) (b := (qq 1)) C hl.1 hw (cB0_size_met g2) rfl (callW_of (rm := rB0_size) (C := "MidiDesk$Bytes") 0 C.1.2.2.2.2 gw_155 gw_156 gw_157 gw_53 gw_158 kB0_size ⟨Nat.le_of_ble_eq_true rfl, Nat.le_of_ble_eq_true rfl⟩) (c_recv_B0 C.2 hw) rfl rfl (Nat.le_of_ble_eq_true rfl) dD_count_56 ⟨Nat.le_of_ble_eq_true rfl, Nat.le_of_ble_eq_true rfl⟩ (fun H locs hw => ?_)
    refine W.eq (g2 := F0 m 59 ls [.int r2]) rfl ?_
    exact c_reti C hr hlk hrv hw hf rfl ⟨Nat.le_of_ble_eq_true rfl, Nat.le_of_ble_eq_true rfl⟩ dD_count_59
  have hf := ts_f hf c1
  rcases Decidable.em (x1 = 1) with c3 | c3
  · have hf := ts_t hf c3
    refine lv_tableIn (off := 59) (tgt := 60) C.1.1 C.1.2.1 dD_count_1 (by rw [c3]; decide) (by rw [c3]; decide) (by rw [c3]; decide) (by decide) ?_
    refine lv_aload_n C.1.1 C.1.2.1 dD_count_60 rfl (lv_at hl 0 rfl) ?_
    refine cg_Desk_Desk_score C hw dD_count_61 ?_
    refine cg_Desk_Score_size C hw dD_count_64 ?_
    exact c_reti C hr hlk hrv hw hf rfl ⟨Nat.le_of_ble_eq_true rfl, Nat.le_of_ble_eq_true rfl⟩ dD_count_67
  have hf := ts_f hf c3
  rcases Decidable.em (x1 = 5) with c4 | c4
  · have hf := ts_t hf c4
    refine lv_tableIn (off := 67) (tgt := 68) C.1.1 C.1.2.1 dD_count_1 (by rw [c4]; decide) (by rw [c4]; decide) (by rw [c4]; decide) (by decide) ?_
    refine lv_aload_n C.1.1 C.1.2.1 dD_count_68 rfl (lv_at hl 0 rfl) ?_
    refine cg_Desk_Desk_score C hw dD_count_69 ?_
    obtain ⟨⟨r5, z5⟩, g5, hf⟩ := ts_b hf
    try dsimp only at hf
    refine c_callV (rest := []) (As := []) (rv := (some (.int r5))) (b := (qq 4)) C hl.1 hw (cS_greatestTick_met g5) rfl (callW_of (rm := rS_greatestTick) (C := "MidiDesk$Score") 0 C.1.2.2.2.2 gw_439 gw_440 gw_441 gw_54 gw_442 kS_greatestTick ⟨Nat.le_of_ble_eq_true rfl, Nat.le_of_ble_eq_true rfl⟩) (c_recv_score C.2 hw) rfl rfl (Nat.le_of_ble_eq_true rfl) dD_count_72 ⟨Nat.le_of_ble_eq_true rfl, Nat.le_of_ble_eq_true rfl⟩ (fun H locs hw => ?_)
    refine W.eq (g2 := F0 m 75 ls [.int r5]) rfl ?_
    exact c_reti C hr hlk hrv hw hf rfl ⟨Nat.le_of_ble_eq_true rfl, Nat.le_of_ble_eq_true rfl⟩ dD_count_75
  have hf := ts_f hf c4
  rcases Decidable.em (x1 = 6) with c6 | c6
  · have hf := ts_t hf c6
    refine lv_tableIn (off := 75) (tgt := 76) C.1.1 C.1.2.1 dD_count_1 (by rw [c6]; decide) (by rw [c6]; decide) (by rw [c6]; decide) (by decide) ?_
    refine lv_aload_n C.1.1 C.1.2.1 dD_count_76 rfl (lv_at hl 0 rfl) ?_
    refine cg_Desk_Desk_score C hw dD_count_77 ?_
    obtain ⟨⟨r7, z7⟩, g7, hf⟩ := ts_b hf
    try dsimp only at hf
    refine c_callV (rest := []) (As := []) (rv := (some (.int r7))) (b := (qq 4)) C hl.1 hw (cS_tempoEvents_met g7) rfl (callW_of (rm := rS_tempoEvents) (C := "MidiDesk$Score") 0 C.1.2.2.2.2 gw_443 gw_444 gw_445 gw_54 gw_446 kS_tempoEvents ⟨Nat.le_of_ble_eq_true rfl, Nat.le_of_ble_eq_true rfl⟩) (c_recv_score C.2 hw) rfl rfl (Nat.le_of_ble_eq_true rfl) dD_count_80 ⟨Nat.le_of_ble_eq_true rfl, Nat.le_of_ble_eq_true rfl⟩ (fun H locs hw => ?_)
    refine W.eq (g2 := F0 m 83 ls [.int r7]) rfl ?_
    exact c_reti C hr hlk hrv hw hf rfl ⟨Nat.le_of_ble_eq_true rfl, Nat.le_of_ble_eq_true rfl⟩ dD_count_83
  have hf := ts_f hf c6
  rcases Decidable.em (x1 = 7) with c8 | c8
  · have hf := ts_t hf c8
    refine lv_tableIn (off := 83) (tgt := 84) C.1.1 C.1.2.1 dD_count_1 (by rw [c8]; decide) (by rw [c8]; decide) (by rw [c8]; decide) (by decide) ?_
    refine lv_aload_n C.1.1 C.1.2.1 dD_count_84 rfl (lv_at hl 0 rfl) ?_
    refine cg_Desk_Desk_score C hw dD_count_85 ?_
    obtain ⟨⟨r9, z9⟩, g9, hf⟩ := ts_b hf
    try dsimp only at hf
    refine c_callV (rest := []) (As := []) (rv := (some (.int r9))) (b := (qq 4)) C hl.1 hw (cS_notesBegun_met g9) rfl (callW_of (rm := rS_notesBegun) (C := "MidiDesk$Score") 0 C.1.2.2.2.2 gw_451 gw_452 gw_453 gw_54 gw_454 kS_notesBegun ⟨Nat.le_of_ble_eq_true rfl, Nat.le_of_ble_eq_true rfl⟩) (c_recv_score C.2 hw) rfl rfl (Nat.le_of_ble_eq_true rfl) dD_count_88 ⟨Nat.le_of_ble_eq_true rfl, Nat.le_of_ble_eq_true rfl⟩ (fun H locs hw => ?_)
    refine W.eq (g2 := F0 m 91 ls [.int r9]) rfl ?_
    exact c_reti C hr hlk hrv hw hf rfl ⟨Nat.le_of_ble_eq_true rfl, Nat.le_of_ble_eq_true rfl⟩ dD_count_91
  have hf := ts_f hf c8
  rcases Decidable.em (x1 = 8) with c10 | c10
  · have hf := ts_t hf c10
    refine lv_tableIn (off := 91) (tgt := 92) C.1.1 C.1.2.1 dD_count_1 (by rw [c10]; decide) (by rw [c10]; decide) (by rw [c10]; decide) (by decide) ?_
    refine lv_aload_n C.1.1 C.1.2.1 dD_count_92 rfl (lv_at hl 0 rfl) ?_
    refine cg_Desk_Desk_output C hw dD_count_93 ?_
    obtain ⟨⟨r11, z11⟩, g11, hf⟩ := ts_b hf
    try dsimp only at hf
    refine c_callV (rest := []) (As := []) (rv := (some (.int r11))) (b := (qq 2)) C hl.1 hw (cB1_size_met g11) rfl (callW_of (rm := rB1_size) (C := "MidiDesk$Bytes") 0 C.1.2.2.2.2 gw_155 gw_156 gw_157 gw_53 gw_158 kB1_size ⟨Nat.le_of_ble_eq_true rfl, Nat.le_of_ble_eq_true rfl⟩) (c_recv_B1 C.2 hw) rfl rfl (Nat.le_of_ble_eq_true rfl) dD_count_96 ⟨Nat.le_of_ble_eq_true rfl, Nat.le_of_ble_eq_true rfl⟩ (fun H locs hw => ?_)
    refine W.eq (g2 := F0 m 99 ls [.int r11]) rfl ?_
    exact c_reti C hr hlk hrv hw hf rfl ⟨Nat.le_of_ble_eq_true rfl, Nat.le_of_ble_eq_true rfl⟩ dD_count_99
  have hf := ts_f hf c10
  rcases Decidable.em (x1 = 2) with c14 | c14
  · refine lv_tableIn (off := 99) (tgt := 100) C.1.1 C.1.2.1 dD_count_1 (by rw [c14]; decide) (by rw [c14]; decide) (by rw [c14]; decide) (by decide) ?_
    refine lv_aload_n C.1.1 C.1.2.1 dD_count_100 rfl (lv_at hl 0 rfl) ?_
    refine cg_Desk_Desk_score C hw dD_count_101 ?_
    refine cg_Desk_Score_present C hw dD_count_104 ?_
    refine lv_if_eq (tgt := 118) C.1.1 C.1.2.1 dD_count_107 (by decide) (fun c12 => ?_) (fun c12 => ?_)
    · have hf := ts_t hf c12
      refine lv_iconst (v := (-1 : Int32)) C.1.1 C.1.2.1 dD_count_118 (by decide) ?_
      exact c_reti C hr hlk hrv hw hf rfl ⟨Nat.le_of_ble_eq_true rfl, Nat.le_of_ble_eq_true rfl⟩ dD_count_119
    · have hf := ts_f hf c12
      refine lv_aload_n C.1.1 C.1.2.1 dD_count_110 rfl (lv_at hl 0 rfl) ?_
      refine lv_iload_n C.1.1 C.1.2.1 dD_count_111 rfl (lv_at hl 1 rfl) ?_
      obtain ⟨⟨r13, z13⟩, g13, hf⟩ := ts_b hf
      try dsimp only at hf
      refine c_callV (rest := []) (As := [.int x1]) (rv := (some (.int r13))) (b := (qq 0)) C hl.1 hw (cD_headValue_met g13) rfl (callW_of (rm := rD_headValue) (C := "MidiDesk") 1 C.1.2.2.2.2 gw_455 gw_457 gw_15 gw_52 gw_458 kD_headValue ⟨Nat.le_of_ble_eq_true rfl, Nat.le_of_ble_eq_true rfl⟩) (c_recv_desk C.2 hw) rfl rfl (Nat.le_of_ble_eq_true rfl) dD_count_112 ⟨Nat.le_of_ble_eq_true rfl, Nat.le_of_ble_eq_true rfl⟩ (fun H locs hw => ?_)
      refine W.eq (g2 := F0 m 115 ls [.int r13]) rfl ?_
      refine lv_goto (tgt := 119) C.1.1 C.1.2.1 dD_count_115 (by decide) ?_
      exact c_reti C hr hlk hrv hw hf rfl ⟨Nat.le_of_ble_eq_true rfl, Nat.le_of_ble_eq_true rfl⟩ dD_count_119
  rcases Decidable.em (x1 = 3) with c15 | c15
  · refine lv_tableIn (off := 99) (tgt := 100) C.1.1 C.1.2.1 dD_count_1 (by rw [c15]; decide) (by rw [c15]; decide) (by rw [c15]; decide) (by decide) ?_
    refine lv_aload_n C.1.1 C.1.2.1 dD_count_100 rfl (lv_at hl 0 rfl) ?_
    refine cg_Desk_Desk_score C hw dD_count_101 ?_
    refine cg_Desk_Score_present C hw dD_count_104 ?_
    refine lv_if_eq (tgt := 118) C.1.1 C.1.2.1 dD_count_107 (by decide) (fun c12 => ?_) (fun c12 => ?_)
    · have hf := ts_t hf c12
      refine lv_iconst (v := (-1 : Int32)) C.1.1 C.1.2.1 dD_count_118 (by decide) ?_
      exact c_reti C hr hlk hrv hw hf rfl ⟨Nat.le_of_ble_eq_true rfl, Nat.le_of_ble_eq_true rfl⟩ dD_count_119
    · have hf := ts_f hf c12
      refine lv_aload_n C.1.1 C.1.2.1 dD_count_110 rfl (lv_at hl 0 rfl) ?_
      refine lv_iload_n C.1.1 C.1.2.1 dD_count_111 rfl (lv_at hl 1 rfl) ?_
      obtain ⟨⟨r13, z13⟩, g13, hf⟩ := ts_b hf
      try dsimp only at hf
      refine c_callV (rest := []) (As := [.int x1]) (rv := (some (.int r13))) (b := (qq 0)) C hl.1 hw (cD_headValue_met g13) rfl (callW_of (rm := rD_headValue) (C := "MidiDesk") 1 C.1.2.2.2.2 gw_455 gw_457 gw_15 gw_52 gw_458 kD_headValue ⟨Nat.le_of_ble_eq_true rfl, Nat.le_of_ble_eq_true rfl⟩) (c_recv_desk C.2 hw) rfl rfl (Nat.le_of_ble_eq_true rfl) dD_count_112 ⟨Nat.le_of_ble_eq_true rfl, Nat.le_of_ble_eq_true rfl⟩ (fun H locs hw => ?_)
      refine W.eq (g2 := F0 m 115 ls [.int r13]) rfl ?_
      refine lv_goto (tgt := 119) C.1.1 C.1.2.1 dD_count_115 (by decide) ?_
      exact c_reti C hr hlk hrv hw hf rfl ⟨Nat.le_of_ble_eq_true rfl, Nat.le_of_ble_eq_true rfl⟩ dD_count_119
  rcases Decidable.em (x1 = 4) with c16 | c16
  · refine lv_tableIn (off := 99) (tgt := 100) C.1.1 C.1.2.1 dD_count_1 (by rw [c16]; decide) (by rw [c16]; decide) (by rw [c16]; decide) (by decide) ?_
    refine lv_aload_n C.1.1 C.1.2.1 dD_count_100 rfl (lv_at hl 0 rfl) ?_
    refine cg_Desk_Desk_score C hw dD_count_101 ?_
    refine cg_Desk_Score_present C hw dD_count_104 ?_
    refine lv_if_eq (tgt := 118) C.1.1 C.1.2.1 dD_count_107 (by decide) (fun c12 => ?_) (fun c12 => ?_)
    · have hf := ts_t hf c12
      refine lv_iconst (v := (-1 : Int32)) C.1.1 C.1.2.1 dD_count_118 (by decide) ?_
      exact c_reti C hr hlk hrv hw hf rfl ⟨Nat.le_of_ble_eq_true rfl, Nat.le_of_ble_eq_true rfl⟩ dD_count_119
    · have hf := ts_f hf c12
      refine lv_aload_n C.1.1 C.1.2.1 dD_count_110 rfl (lv_at hl 0 rfl) ?_
      refine lv_iload_n C.1.1 C.1.2.1 dD_count_111 rfl (lv_at hl 1 rfl) ?_
      obtain ⟨⟨r13, z13⟩, g13, hf⟩ := ts_b hf
      try dsimp only at hf
      refine c_callV (rest := []) (As := [.int x1]) (rv := (some (.int r13))) (b := (qq 0)) C hl.1 hw (cD_headValue_met g13) rfl (callW_of (rm := rD_headValue) (C := "MidiDesk") 1 C.1.2.2.2.2 gw_455 gw_457 gw_15 gw_52 gw_458 kD_headValue ⟨Nat.le_of_ble_eq_true rfl, Nat.le_of_ble_eq_true rfl⟩) (c_recv_desk C.2 hw) rfl rfl (Nat.le_of_ble_eq_true rfl) dD_count_112 ⟨Nat.le_of_ble_eq_true rfl, Nat.le_of_ble_eq_true rfl⟩ (fun H locs hw => ?_)
      refine W.eq (g2 := F0 m 115 ls [.int r13]) rfl ?_
      refine lv_goto (tgt := 119) C.1.1 C.1.2.1 dD_count_115 (by decide) ?_
      exact c_reti C hr hlk hrv hw hf rfl ⟨Nat.le_of_ble_eq_true rfl, Nat.le_of_ble_eq_true rfl⟩ dD_count_119
  refine lv_tableOut (tgt := 100) C.1.1 C.1.2.1 dD_count_1 (by have c1n := lv_neT (a := 0) c1 (by decide); have c3n := lv_neT (a := 1) c3 (by decide); have c4n := lv_neT (a := 5) c4 (by decide); have c6n := lv_neT (a := 6) c6 (by decide); have c8n := lv_neT (a := 7) c8 (by decide); have c10n := lv_neT (a := 8) c10 (by decide); have c14n := lv_neT (a := 2) c14 (by decide); have c15n := lv_neT (a := 3) c15 (by decide); have c16n := lv_neT (a := 4) c16 (by decide); omega) (by decide) ?_
  refine lv_aload_n C.1.1 C.1.2.1 dD_count_100 rfl (lv_at hl 0 rfl) ?_
  refine cg_Desk_Desk_score C hw dD_count_101 ?_
  refine cg_Desk_Score_present C hw dD_count_104 ?_
  refine lv_if_eq (tgt := 118) C.1.1 C.1.2.1 dD_count_107 (by decide) (fun c12 => ?_) (fun c12 => ?_)
  · have hf := ts_t hf c12
    refine lv_iconst (v := (-1 : Int32)) C.1.1 C.1.2.1 dD_count_118 (by decide) ?_
    exact c_reti C hr hlk hrv hw hf rfl ⟨Nat.le_of_ble_eq_true rfl, Nat.le_of_ble_eq_true rfl⟩ dD_count_119
  · have hf := ts_f hf c12
    refine lv_aload_n C.1.1 C.1.2.1 dD_count_110 rfl (lv_at hl 0 rfl) ?_
    refine lv_iload_n C.1.1 C.1.2.1 dD_count_111 rfl (lv_at hl 1 rfl) ?_
    obtain ⟨⟨r13, z13⟩, g13, hf⟩ := ts_b hf
    try dsimp only at hf
    refine c_callV (rest := []) (As := [.int x1]) (rv := (some (.int r13))) (b := (qq 0)) C hl.1 hw (cD_headValue_met g13) rfl (callW_of (rm := rD_headValue) (C := "MidiDesk") 1 C.1.2.2.2.2 gw_455 gw_457 gw_15 gw_52 gw_458 kD_headValue ⟨Nat.le_of_ble_eq_true rfl, Nat.le_of_ble_eq_true rfl⟩) (c_recv_desk C.2 hw) rfl rfl (Nat.le_of_ble_eq_true rfl) dD_count_112 ⟨Nat.le_of_ble_eq_true rfl, Nat.le_of_ble_eq_true rfl⟩ (fun H locs hw => ?_)
    refine W.eq (g2 := F0 m 115 ls [.int r13]) rfl ?_
    refine lv_goto (tgt := 119) C.1.1 C.1.2.1 dD_count_115 (by decide) ?_
    exact c_reti C hr hlk hrv hw hf rfl ⟨Nat.le_of_ble_eq_true rfl, Nat.le_of_ble_eq_true rfl⟩ dD_count_119
