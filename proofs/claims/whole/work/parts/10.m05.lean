abbrev cM_rest : ByteArray := prog_8_method_26_code
abbrev yM_rest : MethodName := ⟨"MidiDeskModel", "rest", "(I)J"⟩
theorem kM_rest : yM_rest.cls ≠ "java/lang/invoke/MethodHandle" ∧ yM_rest.cls ≠ "java/lang/invoke/VarHandle" ∧ (parseMethodDescriptor yM_rest.desc).map (fun d => d.parameters.length) = some 1 := by decide +kernel
abbrev rM_rest : Room := { frames := 2, cells := 0, slots := 0, locals := 48 }
theorem dM_rest_0 : decode cM_rest 0 = .ok (.aload_n 0, 1) := by decide +kernel
theorem dM_rest_1 : decode cM_rest 1 = .ok (.aload_n 0, 1) := by decide +kernel
theorem dM_rest_2 : decode cM_rest 2 = .ok (.getfield 110, 3) := by decide +kernel
theorem dM_rest_5 : decode cM_rest 5 = .ok (.ifCond .ne 7, 3) := by decide +kernel
theorem dM_rest_8 : decode cM_rest 8 = .ok (.iconst 1, 1) := by decide +kernel
theorem dM_rest_9 : decode cM_rest 9 = .ok (.goto 4, 3) := by decide +kernel
theorem dM_rest_12 : decode cM_rest 12 = .ok (.iconst 0, 1) := by decide +kernel
theorem dM_rest_13 : decode cM_rest 13 = .ok (.iload_n 1, 1) := by decide +kernel
theorem dM_rest_14 : decode cM_rest 14 = .ok (.ifCond .lt 9, 3) := by decide +kernel
theorem dM_rest_17 : decode cM_rest 17 = .ok (.iload_n 1, 1) := by decide +kernel
theorem dM_rest_18 : decode cM_rest 18 = .ok (.ldc 157, 2) := by decide +kernel
theorem dM_rest_20 : decode cM_rest 20 = .ok (.if_icmp .le 7, 3) := by decide +kernel
theorem dM_rest_23 : decode cM_rest 23 = .ok (.iconst 1, 1) := by decide +kernel
theorem dM_rest_24 : decode cM_rest 24 = .ok (.goto 4, 3) := by decide +kernel
theorem dM_rest_27 : decode cM_rest 27 = .ok (.iconst 0, 1) := by decide +kernel
theorem dM_rest_28 : decode cM_rest 28 = .ok (.invokevirtual 158, 3) := by decide +kernel
theorem dM_rest_31 : decode cM_rest 31 = .ok (.ifCond .eq 5, 3) := by decide +kernel
theorem dM_rest_34 : decode cM_rest 34 = .ok (.lconst 0, 1) := by decide +kernel
theorem dM_rest_35 : decode cM_rest 35 = .ok (.lreturn, 1) := by decide +kernel
theorem dM_rest_36 : decode cM_rest 36 = .ok (.aload_n 0, 1) := by decide +kernel
theorem dM_rest_37 : decode cM_rest 37 = .ok (.iload_n 1, 1) := by decide +kernel
theorem dM_rest_38 : decode cM_rest 38 = .ok (.invokevirtual 162, 3) := by decide +kernel
theorem dM_rest_41 : decode cM_rest 41 = .ok (.aload_n 0, 1) := by decide +kernel
theorem dM_rest_42 : decode cM_rest 42 = .ok (.invokevirtual 165, 3) := by decide +kernel
theorem dM_rest_45 : decode cM_rest 45 = .ok (.lrem, 1) := by decide +kernel
theorem dM_rest_46 : decode cM_rest 46 = .ok (.lreturn, 1) := by decide +kernel
def jM_rest_28 (iv : Nat → Int32) (av : Nat → Nat → Int32) (x1 : Int32) (s1 : Int32) (s2 : Int32) : Option (Int64 × (Nat → Int32) × (Nat → Nat → Int32)) := (fM_fails iv av s1 s2).bind fun (r1, iv1, av1) => if r1 = 0 then ((fM_timed iv1 av1 x1).bind fun (r3, iv3, av3) => (fM_parts iv3 av3).bind fun (r4, iv4, av4) => if r4 = 0 then none else (some (r3 - r3 / r4 * r4, iv4, av4))) else (some ((0 : Int64), iv1, av1))
def jM_rest_23 (iv : Nat → Int32) (av : Nat → Nat → Int32) (x1 : Int32) (s1 : Int32) : Option (Int64 × (Nat → Int32) × (Nat → Nat → Int32)) := jM_rest_28 iv av x1 s1 (1 : Int32)
def jM_rest_13 (iv : Nat → Int32) (av : Nat → Nat → Int32) (x1 : Int32) (s1 : Int32) : Option (Int64 × (Nat → Int32) × (Nat → Nat → Int32)) := if x1 < 0 then (jM_rest_23 iv av x1 s1) else (if x1 ≤ (268435455 : Int32) then (jM_rest_28 iv av x1 s1 (0 : Int32)) else (jM_rest_23 iv av x1 s1))
def fM_rest (iv : Nat → Int32) (av : Nat → Nat → Int32) (x1 : Int32) : Option (Int64 × (Nat → Int32) × (Nat → Nat → Int32)) := if (iv 6) = 0 then (jM_rest_13 iv av x1 (1 : Int32)) else (jM_rest_13 iv av x1 (0 : Int32))
set_option maxHeartbeats 4000000 in
set_option maxRecDepth 100000 in
theorem wM_rest_28 {p : Program} {l : Launch} {e : Env} {s : State} {m : MethodId} {args : Array Value} {below : List Frame} {meth : Method} {c : Code} {g : gT} {q : Nat} {ad : Nat → Nat} {X : va_W} {rv : Option Value} {iv' : Nat → Int32} {av' : Nat → Nat → Int32} {r' : Int64} (C : mCx p m c cM_rest 2 s args g "MidiDeskModel") (hr : meth.sig.returnType = (some .long)) (hlk : meth.locks = false) (hrv : rv = some (.long r')) (iv : Nat → Int32) (av : Nat → Nat → Int32) (x1 : Int32) (s1 : Int32) (s2 : Int32) (H : Heap) (locs : List Loc) (ls : Array Slot) (hl : lv_has ls 2 [(0, .ref q), (1, .int x1)]) (hw : mWd g (mA g q ad X s.heap.size) s.heap q ad X iv av H locs) (hf : jM_rest_28 iv av x1 s1 s2 = some (r', iv', av')) : mG p l e rM_rest s m args below meth c g q ad X rv iv' av' H locs 0 0 (F0 m 28 ls [.int s2, .int s1, .ref q]) := by
  unfold jM_rest_28 at hf
  obtain ⟨⟨r1, iv1, av1⟩, g1, hf⟩ := ts_b hf
  dsimp only at hf
  refine m_callV (rest := []) (As := [.int s1, .int s2]) (rv := (some (.int r1))) C hl.1 hw (cM_fails_met g1) (callW_of (rm := rM_fails) 2 C.1.2.2.2.2 gw_877 gw_879 gw_39 gw_55 gw_880 kM_fails ⟨Nat.le_of_ble_eq_true rfl, Nat.le_of_ble_eq_true rfl⟩) rfl rfl (Nat.le_of_ble_eq_true rfl) dM_rest_28 ⟨Nat.le_of_ble_eq_true rfl, Nat.le_of_ble_eq_true rfl⟩ (fun H locs hw => ?_)
  refine W.eq (g2 := F0 m 31 ls [.int r1]) rfl ?_
  refine lv_if_eq (tgt := 36) C.1.1 C.1.2.1 dM_rest_31 (by decide) (fun c2 => ?_) (fun c2 => ?_)
  · have hf := ts_t hf c2
    refine lv_aload_n C.1.1 C.1.2.1 dM_rest_36 rfl (lv_at hl 0 rfl) ?_
    refine lv_iload_n C.1.1 C.1.2.1 dM_rest_37 rfl (lv_at hl 1 rfl) ?_
    obtain ⟨⟨r3, iv3, av3⟩, g3, hf⟩ := ts_b hf
    dsimp only at hf
    refine m_callV (rest := []) (As := [.int x1]) (rv := (some (.long r3))) C hl.1 hw (cM_timed_met g3) (callW_of (rm := rM_timed) 1 C.1.2.2.2.2 gw_881 gw_883 gw_40 gw_55 gw_884 kM_timed ⟨Nat.le_of_ble_eq_true rfl, Nat.le_of_ble_eq_true rfl⟩) rfl rfl (Nat.le_of_ble_eq_true rfl) dM_rest_38 ⟨Nat.le_of_ble_eq_true rfl, Nat.le_of_ble_eq_true rfl⟩ (fun H locs hw => ?_)
    refine W.eq (g2 := F0 m 41 ls [.long r3]) rfl ?_
    refine lv_aload_n C.1.1 C.1.2.1 dM_rest_41 rfl (lv_at hl 0 rfl) ?_
    obtain ⟨⟨r4, iv4, av4⟩, g4, hf⟩ := ts_b hf
    dsimp only at hf
    refine m_callV (rest := [.long r3]) (As := []) (rv := (some (.long r4))) C hl.1 hw (cM_parts_met g4) (callW_of (rm := rM_parts) 0 C.1.2.2.2.2 gw_892 gw_894 gw_42 gw_55 gw_895 kM_parts ⟨Nat.le_of_ble_eq_true rfl, Nat.le_of_ble_eq_true rfl⟩) rfl rfl (Nat.le_of_ble_eq_true rfl) dM_rest_42 ⟨Nat.le_of_ble_eq_true rfl, Nat.le_of_ble_eq_true rfl⟩ (fun H locs hw => ?_)
    refine W.eq (g2 := F0 m 45 ls [.long r4, .long r3]) rfl ?_
    obtain ⟨h5, hf⟩ := ts_g hf
    refine lv_lrem C.1.1 C.1.2.1 dM_rest_45 h5 ?_
    exact m_retl C hr hlk hrv hw hf ⟨Nat.le_of_ble_eq_true rfl, Nat.le_of_ble_eq_true rfl⟩ dM_rest_46
  · have hf := ts_f hf c2
    refine lv_lconst (v := 0) C.1.1 C.1.2.1 dM_rest_34 (by decide) ?_
    exact m_retl C hr hlk hrv hw hf ⟨Nat.le_of_ble_eq_true rfl, Nat.le_of_ble_eq_true rfl⟩ dM_rest_35
set_option maxHeartbeats 4000000 in
set_option maxRecDepth 100000 in
theorem wM_rest_23 {p : Program} {l : Launch} {e : Env} {s : State} {m : MethodId} {args : Array Value} {below : List Frame} {meth : Method} {c : Code} {g : gT} {q : Nat} {ad : Nat → Nat} {X : va_W} {rv : Option Value} {iv' : Nat → Int32} {av' : Nat → Nat → Int32} {r' : Int64} (C : mCx p m c cM_rest 2 s args g "MidiDeskModel") (hr : meth.sig.returnType = (some .long)) (hlk : meth.locks = false) (hrv : rv = some (.long r')) (iv : Nat → Int32) (av : Nat → Nat → Int32) (x1 : Int32) (s1 : Int32) (H : Heap) (locs : List Loc) (ls : Array Slot) (hl : lv_has ls 2 [(0, .ref q), (1, .int x1)]) (hw : mWd g (mA g q ad X s.heap.size) s.heap q ad X iv av H locs) (hf : jM_rest_23 iv av x1 s1 = some (r', iv', av')) : mG p l e rM_rest s m args below meth c g q ad X rv iv' av' H locs 0 0 (F0 m 23 ls [.int s1, .ref q]) := by
  unfold jM_rest_23 at hf
  refine lv_iconst (v := (1 : Int32)) C.1.1 C.1.2.1 dM_rest_23 (by decide) ?_
  refine lv_goto (tgt := 28) C.1.1 C.1.2.1 dM_rest_24 (by decide) ?_
  exact wM_rest_28 C hr hlk hrv iv av x1 s1 (1 : Int32) _ _ ls (lv_sub hl [0, 1] rfl) hw hf
set_option maxHeartbeats 4000000 in
set_option maxRecDepth 100000 in
theorem wM_rest_13 {p : Program} {l : Launch} {e : Env} {s : State} {m : MethodId} {args : Array Value} {below : List Frame} {meth : Method} {c : Code} {g : gT} {q : Nat} {ad : Nat → Nat} {X : va_W} {rv : Option Value} {iv' : Nat → Int32} {av' : Nat → Nat → Int32} {r' : Int64} (C : mCx p m c cM_rest 2 s args g "MidiDeskModel") (hr : meth.sig.returnType = (some .long)) (hlk : meth.locks = false) (hrv : rv = some (.long r')) (iv : Nat → Int32) (av : Nat → Nat → Int32) (x1 : Int32) (s1 : Int32) (H : Heap) (locs : List Loc) (ls : Array Slot) (hl : lv_has ls 2 [(0, .ref q), (1, .int x1)]) (hw : mWd g (mA g q ad X s.heap.size) s.heap q ad X iv av H locs) (hf : jM_rest_13 iv av x1 s1 = some (r', iv', av')) : mG p l e rM_rest s m args below meth c g q ad X rv iv' av' H locs 0 0 (F0 m 13 ls [.int s1, .ref q]) := by
  unfold jM_rest_13 at hf
  refine lv_iload_n C.1.1 C.1.2.1 dM_rest_13 rfl (lv_at hl 1 rfl) ?_
  refine lv_if_lt (tgt := 23) C.1.1 C.1.2.1 dM_rest_14 (by decide) (fun c1 => ?_) (fun c1 => ?_)
  · have hf := ts_t hf c1
    exact wM_rest_23 C hr hlk hrv iv av x1 s1 _ _ ls (lv_sub hl [0, 1] rfl) hw hf
  · have hf := ts_f hf c1
    refine lv_iload_n C.1.1 C.1.2.1 dM_rest_17 rfl (lv_at hl 1 rfl) ?_
    refine lv_ldc C.1.1 C.1.2.1 C.1.2.2.2.1 (C.1.2.2.2.2 _ gw_876) dM_rest_18 ?_
    refine lv_icmp_le (tgt := 27) C.1.1 C.1.2.1 dM_rest_20 (by decide) (fun c2 => ?_) (fun c2 => ?_)
    · have hf := ts_t hf c2
      refine lv_iconst (v := (0 : Int32)) C.1.1 C.1.2.1 dM_rest_27 (by decide) ?_
      exact wM_rest_28 C hr hlk hrv iv av x1 s1 (0 : Int32) _ _ ls (lv_sub hl [0, 1] rfl) hw hf
    · have hf := ts_f hf c2
      exact wM_rest_23 C hr hlk hrv iv av x1 s1 _ _ ls (lv_sub hl [0, 1] rfl) hw hf
set_option maxHeartbeats 4000000 in
set_option maxRecDepth 100000 in
theorem cM_rest_met {l : Launch} {g : gT} {q : Nat} {ad : Nat → Nat} {X : va_W} {iv iv' : Nat → Int32} {av av' : Nat → Nat → Int32} {x1 : Int32} {r' : Int64} (hf : fM_rest iv av x1 = some (r', iv', av')) : mMet l yM_rest cM_rest 2 (some .long) rM_rest g q ad X iv av [.ref q, .int x1] (some (.long r')) iv' av' := by
  refine m_entry (by decide) (Nat.le_of_ble_eq_true rfl) ?_
  intro p e s m args below meth c ls C hr hlk hnm hl hw
  have hrv : ((some (.long r')) : Option Value) = (some (.long r')) := rfl
  have C : mCx p m c cM_rest 2 s args g "MidiDeskModel" := C
  have hl : lv_has ls 2 [(0, .ref q), (1, .int x1)] := hl
  unfold fM_rest at hf
  refine lv_aload_n C.1.1 C.1.2.1 dM_rest_0 rfl (lv_at hl 0 rfl) ?_
  refine lv_aload_n C.1.1 C.1.2.1 dM_rest_1 rfl (lv_at hl 0 rfl) ?_
  refine mg_there C hw dM_rest_2 ?_
  refine lv_if_ne (tgt := 12) C.1.1 C.1.2.1 dM_rest_5 (by decide) (fun c1 => ?_) (fun c1 => ?_)
  · have hf := ts_f hf c1
    refine lv_iconst (v := (0 : Int32)) C.1.1 C.1.2.1 dM_rest_12 (by decide) ?_
    exact wM_rest_13 C hr hlk hrv iv av x1 (0 : Int32) _ _ ls (lv_sub hl [0, 1] rfl) hw hf
  · have hf := ts_t hf c1
    refine lv_iconst (v := (1 : Int32)) C.1.1 C.1.2.1 dM_rest_8 (by decide) ?_
    refine lv_goto (tgt := 13) C.1.1 C.1.2.1 dM_rest_9 (by decide) ?_
    exact wM_rest_13 C hr hlk hrv iv av x1 (1 : Int32) _ _ ls (lv_sub hl [0, 1] rfl) hw hf
abbrev cM_begins : ByteArray := prog_8_method_27_code
abbrev yM_begins : MethodName := ⟨"MidiDeskModel", "begins", "(I)Z"⟩
theorem kM_begins : yM_begins.cls ≠ "java/lang/invoke/MethodHandle" ∧ yM_begins.cls ≠ "java/lang/invoke/VarHandle" ∧ (parseMethodDescriptor yM_begins.desc).map (fun d => d.parameters.length) = some 1 := by decide +kernel
abbrev rM_begins : Room := { frames := 0, cells := 0, slots := 0, locals := 0 }
theorem dM_begins_0 : decode cM_begins 0 = .ok (.aload_n 0, 1) := by decide +kernel
theorem dM_begins_1 : decode cM_begins 1 = .ok (.getfield 19, 3) := by decide +kernel
theorem dM_begins_4 : decode cM_begins 4 = .ok (.iload_n 1, 1) := by decide +kernel
theorem dM_begins_5 : decode cM_begins 5 = .ok (.iaload, 1) := by decide +kernel
theorem dM_begins_6 : decode cM_begins 6 = .ok (.iconst 4, 1) := by decide +kernel
theorem dM_begins_7 : decode cM_begins 7 = .ok (.ishr, 1) := by decide +kernel
theorem dM_begins_8 : decode cM_begins 8 = .ok (.bipush 9, 2) := by decide +kernel
theorem dM_begins_10 : decode cM_begins 10 = .ok (.if_icmp .ne 16, 3) := by decide +kernel
theorem dM_begins_13 : decode cM_begins 13 = .ok (.aload_n 0, 1) := by decide +kernel
theorem dM_begins_14 : decode cM_begins 14 = .ok (.getfield 25, 3) := by decide +kernel
theorem dM_begins_17 : decode cM_begins 17 = .ok (.iload_n 1, 1) := by decide +kernel
theorem dM_begins_18 : decode cM_begins 18 = .ok (.iaload, 1) := by decide +kernel
theorem dM_begins_19 : decode cM_begins 19 = .ok (.ifCond .le 7, 3) := by decide +kernel
theorem dM_begins_22 : decode cM_begins 22 = .ok (.iconst 1, 1) := by decide +kernel
theorem dM_begins_23 : decode cM_begins 23 = .ok (.goto 4, 3) := by decide +kernel
theorem dM_begins_26 : decode cM_begins 26 = .ok (.iconst 0, 1) := by decide +kernel
theorem dM_begins_27 : decode cM_begins 27 = .ok (.ireturn, 1) := by decide +kernel
def fM_begins (iv : Nat → Int32) (av : Nat → Nat → Int32) (x1 : Int32) : Option (Int32 × (Nat → Int32) × (Nat → Nat → Int32)) := if x1 < 0 ∨ 1001 ≤ x1.toNatClampNeg then none else (if ((av 3 x1.toNatClampNeg) >>> ((4 : Int32) &&& 31)) = (9 : Int32) then (if x1 < 0 ∨ 1001 ≤ x1.toNatClampNeg then none else (if (av 5 x1.toNatClampNeg) ≤ 0 then (some ((0 : Int32), iv, av)) else (some ((1 : Int32), iv, av)))) else (some ((0 : Int32), iv, av)))
set_option maxHeartbeats 4000000 in
set_option maxRecDepth 100000 in
theorem cM_begins_met {l : Launch} {g : gT} {q : Nat} {ad : Nat → Nat} {X : va_W} {iv iv' : Nat → Int32} {av av' : Nat → Nat → Int32} {x1 : Int32} {r' : Int32} (hf : fM_begins iv av x1 = some (r', iv', av')) : mMet l yM_begins cM_begins 2 (some .boolean) rM_begins g q ad X iv av [.ref q, .int x1] (some (.int r')) iv' av' := by
  refine m_entry (by decide) (Nat.le_of_ble_eq_true rfl) ?_
  intro p e s m args below meth c ls C hr hlk hnm hl hw
  have hrv : ((some (.int r')) : Option Value) = (some (.int r')) := rfl
  have C : mCx p m c cM_begins 2 s args g "MidiDeskModel" := C
  have hl : lv_has ls 2 [(0, .ref q), (1, .int x1)] := hl
  unfold fM_begins at hf
  refine lv_aload_n C.1.1 C.1.2.1 dM_begins_0 rfl (lv_at hl 0 rfl) ?_
  refine mg_status C hw dM_begins_1 ?_
  refine lv_iload_n C.1.1 C.1.2.1 dM_begins_4 rfl (lv_at hl 1 rfl) ?_
  obtain ⟨h1, hf⟩ := ts_g hf
  refine ma_status C hw h1 dM_begins_5 ?_
  refine lv_iconst (v := (4 : Int32)) C.1.1 C.1.2.1 dM_begins_6 (by decide) ?_
  refine lv_ishr C.1.1 C.1.2.1 dM_begins_7 ?_
  refine lv_bipush (v := (9 : Int32)) C.1.1 C.1.2.1 dM_begins_8 (by decide) ?_
  refine lv_icmp_ne (tgt := 26) C.1.1 C.1.2.1 dM_begins_10 (by decide) (fun c2 => ?_) (fun c2 => ?_)
  · have hf := ts_f hf c2
    refine lv_iconst (v := (0 : Int32)) C.1.1 C.1.2.1 dM_begins_26 (by decide) ?_
    exact m_retz C hr hlk hrv hw (Or.inl rfl) hf ⟨Nat.le_of_ble_eq_true rfl, Nat.le_of_ble_eq_true rfl⟩ dM_begins_27
  · have hf := ts_t hf c2
    refine lv_aload_n C.1.1 C.1.2.1 dM_begins_13 rfl (lv_at hl 0 rfl) ?_
    refine mg_second C hw dM_begins_14 ?_
    refine lv_iload_n C.1.1 C.1.2.1 dM_begins_17 rfl (lv_at hl 1 rfl) ?_
    obtain ⟨h3, hf⟩ := ts_g hf
    refine ma_second C hw h3 dM_begins_18 ?_
    refine lv_if_le (tgt := 26) C.1.1 C.1.2.1 dM_begins_19 (by decide) (fun c4 => ?_) (fun c4 => ?_)
    · have hf := ts_t hf c4
      refine lv_iconst (v := (0 : Int32)) C.1.1 C.1.2.1 dM_begins_26 (by decide) ?_
      exact m_retz C hr hlk hrv hw (Or.inl rfl) hf ⟨Nat.le_of_ble_eq_true rfl, Nat.le_of_ble_eq_true rfl⟩ dM_begins_27
    · have hf := ts_f hf c4
      refine lv_iconst (v := (1 : Int32)) C.1.1 C.1.2.1 dM_begins_22 (by decide) ?_
      refine lv_goto (tgt := 27) C.1.1 C.1.2.1 dM_begins_23 (by decide) ?_
      exact m_retz C hr hlk hrv hw (Or.inr rfl) hf ⟨Nat.le_of_ble_eq_true rfl, Nat.le_of_ble_eq_true rfl⟩ dM_begins_27
abbrev cM_ends : ByteArray := prog_8_method_28_code
abbrev yM_ends : MethodName := ⟨"MidiDeskModel", "ends", "(I)Z"⟩
theorem kM_ends : yM_ends.cls ≠ "java/lang/invoke/MethodHandle" ∧ yM_ends.cls ≠ "java/lang/invoke/VarHandle" ∧ (parseMethodDescriptor yM_ends.desc).map (fun d => d.parameters.length) = some 1 := by decide +kernel
abbrev rM_ends : Room := { frames := 0, cells := 0, slots := 0, locals := 0 }
theorem dM_ends_0 : decode cM_ends 0 = .ok (.aload_n 0, 1) := by decide +kernel
theorem dM_ends_1 : decode cM_ends 1 = .ok (.getfield 19, 3) := by decide +kernel
theorem dM_ends_4 : decode cM_ends 4 = .ok (.iload_n 1, 1) := by decide +kernel
theorem dM_ends_5 : decode cM_ends 5 = .ok (.iaload, 1) := by decide +kernel
theorem dM_ends_6 : decode cM_ends 6 = .ok (.iconst 4, 1) := by decide +kernel
theorem dM_ends_7 : decode cM_ends 7 = .ok (.ishr, 1) := by decide +kernel
theorem dM_ends_8 : decode cM_ends 8 = .ok (.bipush 8, 2) := by decide +kernel
theorem dM_ends_10 : decode cM_ends 10 = .ok (.if_icmp .eq 25, 3) := by decide +kernel
theorem dM_ends_13 : decode cM_ends 13 = .ok (.aload_n 0, 1) := by decide +kernel
theorem dM_ends_14 : decode cM_ends 14 = .ok (.getfield 19, 3) := by decide +kernel
theorem dM_ends_17 : decode cM_ends 17 = .ok (.iload_n 1, 1) := by decide +kernel
theorem dM_ends_18 : decode cM_ends 18 = .ok (.iaload, 1) := by decide +kernel
theorem dM_ends_19 : decode cM_ends 19 = .ok (.iconst 4, 1) := by decide +kernel
theorem dM_ends_20 : decode cM_ends 20 = .ok (.ishr, 1) := by decide +kernel
theorem dM_ends_21 : decode cM_ends 21 = .ok (.bipush 9, 2) := by decide +kernel
theorem dM_ends_23 : decode cM_ends 23 = .ok (.if_icmp .ne 16, 3) := by decide +kernel
theorem dM_ends_26 : decode cM_ends 26 = .ok (.aload_n 0, 1) := by decide +kernel
theorem dM_ends_27 : decode cM_ends 27 = .ok (.getfield 25, 3) := by decide +kernel
theorem dM_ends_30 : decode cM_ends 30 = .ok (.iload_n 1, 1) := by decide +kernel
theorem dM_ends_31 : decode cM_ends 31 = .ok (.iaload, 1) := by decide +kernel
theorem dM_ends_32 : decode cM_ends 32 = .ok (.ifCond .ne 7, 3) := by decide +kernel
theorem dM_ends_35 : decode cM_ends 35 = .ok (.iconst 1, 1) := by decide +kernel
theorem dM_ends_36 : decode cM_ends 36 = .ok (.goto 4, 3) := by decide +kernel
theorem dM_ends_39 : decode cM_ends 39 = .ok (.iconst 0, 1) := by decide +kernel
theorem dM_ends_40 : decode cM_ends 40 = .ok (.ireturn, 1) := by decide +kernel
def fM_ends (iv : Nat → Int32) (av : Nat → Nat → Int32) (x1 : Int32) : Option (Int32 × (Nat → Int32) × (Nat → Nat → Int32)) := if x1 < 0 ∨ 1001 ≤ x1.toNatClampNeg then none else (if ((av 3 x1.toNatClampNeg) >>> ((4 : Int32) &&& 31)) = (8 : Int32) then (some ((1 : Int32), iv, av)) else (if x1 < 0 ∨ 1001 ≤ x1.toNatClampNeg then none else (if ((av 3 x1.toNatClampNeg) >>> ((4 : Int32) &&& 31)) = (9 : Int32) then (if x1 < 0 ∨ 1001 ≤ x1.toNatClampNeg then none else (if (av 5 x1.toNatClampNeg) = 0 then (some ((1 : Int32), iv, av)) else (some ((0 : Int32), iv, av)))) else (some ((0 : Int32), iv, av)))))
set_option maxHeartbeats 4000000 in
set_option maxRecDepth 100000 in
theorem cM_ends_met {l : Launch} {g : gT} {q : Nat} {ad : Nat → Nat} {X : va_W} {iv iv' : Nat → Int32} {av av' : Nat → Nat → Int32} {x1 : Int32} {r' : Int32} (hf : fM_ends iv av x1 = some (r', iv', av')) : mMet l yM_ends cM_ends 2 (some .boolean) rM_ends g q ad X iv av [.ref q, .int x1] (some (.int r')) iv' av' := by
  refine m_entry (by decide) (Nat.le_of_ble_eq_true rfl) ?_
  intro p e s m args below meth c ls C hr hlk hnm hl hw
  have hrv : ((some (.int r')) : Option Value) = (some (.int r')) := rfl
  have C : mCx p m c cM_ends 2 s args g "MidiDeskModel" := C
  have hl : lv_has ls 2 [(0, .ref q), (1, .int x1)] := hl
  unfold fM_ends at hf
  refine lv_aload_n C.1.1 C.1.2.1 dM_ends_0 rfl (lv_at hl 0 rfl) ?_
  refine mg_status C hw dM_ends_1 ?_
  refine lv_iload_n C.1.1 C.1.2.1 dM_ends_4 rfl (lv_at hl 1 rfl) ?_
  obtain ⟨h1, hf⟩ := ts_g hf
  refine ma_status C hw h1 dM_ends_5 ?_
  refine lv_iconst (v := (4 : Int32)) C.1.1 C.1.2.1 dM_ends_6 (by decide) ?_
  refine lv_ishr C.1.1 C.1.2.1 dM_ends_7 ?_
  refine lv_bipush (v := (8 : Int32)) C.1.1 C.1.2.1 dM_ends_8 (by decide) ?_
  refine lv_icmp_eq (tgt := 35) C.1.1 C.1.2.1 dM_ends_10 (by decide) (fun c2 => ?_) (fun c2 => ?_)
  · have hf := ts_t hf c2
    refine lv_iconst (v := (1 : Int32)) C.1.1 C.1.2.1 dM_ends_35 (by decide) ?_
    refine lv_goto (tgt := 40) C.1.1 C.1.2.1 dM_ends_36 (by decide) ?_
    exact m_retz C hr hlk hrv hw (Or.inr rfl) hf ⟨Nat.le_of_ble_eq_true rfl, Nat.le_of_ble_eq_true rfl⟩ dM_ends_40
  · have hf := ts_f hf c2
    refine lv_aload_n C.1.1 C.1.2.1 dM_ends_13 rfl (lv_at hl 0 rfl) ?_
    refine mg_status C hw dM_ends_14 ?_
    refine lv_iload_n C.1.1 C.1.2.1 dM_ends_17 rfl (lv_at hl 1 rfl) ?_
    obtain ⟨h3, hf⟩ := ts_g hf
    refine ma_status C hw h3 dM_ends_18 ?_
    refine lv_iconst (v := (4 : Int32)) C.1.1 C.1.2.1 dM_ends_19 (by decide) ?_
    refine lv_ishr C.1.1 C.1.2.1 dM_ends_20 ?_
    refine lv_bipush (v := (9 : Int32)) C.1.1 C.1.2.1 dM_ends_21 (by decide) ?_
    refine lv_icmp_ne (tgt := 39) C.1.1 C.1.2.1 dM_ends_23 (by decide) (fun c4 => ?_) (fun c4 => ?_)
    · have hf := ts_f hf c4
      refine lv_iconst (v := (0 : Int32)) C.1.1 C.1.2.1 dM_ends_39 (by decide) ?_
      exact m_retz C hr hlk hrv hw (Or.inl rfl) hf ⟨Nat.le_of_ble_eq_true rfl, Nat.le_of_ble_eq_true rfl⟩ dM_ends_40
    · have hf := ts_t hf c4
      refine lv_aload_n C.1.1 C.1.2.1 dM_ends_26 rfl (lv_at hl 0 rfl) ?_
      refine mg_second C hw dM_ends_27 ?_
      refine lv_iload_n C.1.1 C.1.2.1 dM_ends_30 rfl (lv_at hl 1 rfl) ?_
      obtain ⟨h5, hf⟩ := ts_g hf
      refine ma_second C hw h5 dM_ends_31 ?_
      refine lv_if_ne (tgt := 39) C.1.1 C.1.2.1 dM_ends_32 (by decide) (fun c6 => ?_) (fun c6 => ?_)
      · have hf := ts_f hf c6
        refine lv_iconst (v := (0 : Int32)) C.1.1 C.1.2.1 dM_ends_39 (by decide) ?_
        exact m_retz C hr hlk hrv hw (Or.inl rfl) hf ⟨Nat.le_of_ble_eq_true rfl, Nat.le_of_ble_eq_true rfl⟩ dM_ends_40
      · have hf := ts_t hf c6
        refine lv_iconst (v := (1 : Int32)) C.1.1 C.1.2.1 dM_ends_35 (by decide) ?_
        refine lv_goto (tgt := 40) C.1.1 C.1.2.1 dM_ends_36 (by decide) ?_
        exact m_retz C hr hlk hrv hw (Or.inr rfl) hf ⟨Nat.le_of_ble_eq_true rfl, Nat.le_of_ble_eq_true rfl⟩ dM_ends_40
abbrev cM_length : ByteArray := prog_8_method_29_code
abbrev yM_length : MethodName := ⟨"MidiDeskModel", "length", "(I)I"⟩
theorem kM_length : yM_length.cls ≠ "java/lang/invoke/MethodHandle" ∧ yM_length.cls ≠ "java/lang/invoke/VarHandle" ∧ (parseMethodDescriptor yM_length.desc).map (fun d => d.parameters.length) = some 1 := by decide +kernel
abbrev rM_length : Room := { frames := 1, cells := 0, slots := 0, locals := 21 }
theorem dM_length_0 : decode cM_length 0 = .ok (.aload_n 0, 1) := by decide +kernel
theorem dM_length_1 : decode cM_length 1 = .ok (.iconst 0, 1) := by decide +kernel
theorem dM_length_2 : decode cM_length 2 = .ok (.putfield 47, 3) := by decide +kernel
theorem dM_length_5 : decode cM_length 5 = .ok (.aload_n 0, 1) := by decide +kernel
theorem dM_length_6 : decode cM_length 6 = .ok (.iload_n 1, 1) := by decide +kernel
theorem dM_length_7 : decode cM_length 7 = .ok (.invokevirtual 144, 3) := by decide +kernel
theorem dM_length_10 : decode cM_length 10 = .ok (.ifCond .eq 16, 3) := by decide +kernel
theorem dM_length_13 : decode cM_length 13 = .ok (.aload_n 0, 1) := by decide +kernel
theorem dM_length_14 : decode cM_length 14 = .ok (.aload_n 0, 1) := by decide +kernel
theorem dM_length_15 : decode cM_length 15 = .ok (.getfield 34, 3) := by decide +kernel
theorem dM_length_18 : decode cM_length 18 = .ok (.iload_n 1, 1) := by decide +kernel
theorem dM_length_19 : decode cM_length 19 = .ok (.iaload, 1) := by decide +kernel
theorem dM_length_20 : decode cM_length 20 = .ok (.invokevirtual 169, 3) := by decide +kernel
theorem dM_length_23 : decode cM_length 23 = .ok (.ifCond .ne 5, 3) := by decide +kernel
theorem dM_length_26 : decode cM_length 26 = .ok (.iconst (-1), 1) := by decide +kernel
theorem dM_length_27 : decode cM_length 27 = .ok (.ireturn, 1) := by decide +kernel
theorem dM_length_28 : decode cM_length 28 = .ok (.aload_n 0, 1) := by decide +kernel
theorem dM_length_29 : decode cM_length 29 = .ok (.getfield 34, 3) := by decide +kernel
theorem dM_length_32 : decode cM_length 32 = .ok (.iload_n 1, 1) := by decide +kernel
theorem dM_length_33 : decode cM_length 33 = .ok (.iaload, 1) := by decide +kernel
theorem dM_length_34 : decode cM_length 34 = .ok (.istore_n 2, 1) := by decide +kernel
theorem dM_length_35 : decode cM_length 35 = .ok (.iload_n 1, 1) := by decide +kernel
theorem dM_length_36 : decode cM_length 36 = .ok (.iconst 1, 1) := by decide +kernel
theorem dM_length_37 : decode cM_length 37 = .ok (.iadd, 1) := by decide +kernel
theorem dM_length_38 : decode cM_length 38 = .ok (.istore_n 3, 1) := by decide +kernel
theorem dM_length_39 : decode cM_length 39 = .ok (.iload_n 3, 1) := by decide +kernel
theorem dM_length_40 : decode cM_length 40 = .ok (.aload_n 0, 1) := by decide +kernel
theorem dM_length_41 : decode cM_length 41 = .ok (.getfield 95, 3) := by decide +kernel
theorem dM_length_44 : decode cM_length 44 = .ok (.if_icmp .ge 95, 3) := by decide +kernel
theorem dM_length_47 : decode cM_length 47 = .ok (.aload_n 0, 1) := by decide +kernel
theorem dM_length_48 : decode cM_length 48 = .ok (.getfield 34, 3) := by decide +kernel
theorem dM_length_51 : decode cM_length 51 = .ok (.iload_n 3, 1) := by decide +kernel
theorem dM_length_52 : decode cM_length 52 = .ok (.iaload, 1) := by decide +kernel
theorem dM_length_53 : decode cM_length 53 = .ok (.istore 4, 2) := by decide +kernel
theorem dM_length_55 : decode cM_length 55 = .ok (.aload_n 0, 1) := by decide +kernel
theorem dM_length_56 : decode cM_length 56 = .ok (.iload 4, 2) := by decide +kernel
theorem dM_length_58 : decode cM_length 58 = .ok (.invokevirtual 172, 3) := by decide +kernel
theorem dM_length_61 : decode cM_length 61 = .ok (.ifCond .eq 72, 3) := by decide +kernel
theorem dM_length_64 : decode cM_length 64 = .ok (.aload_n 0, 1) := by decide +kernel
theorem dM_length_65 : decode cM_length 65 = .ok (.getfield 16, 3) := by decide +kernel
theorem dM_length_68 : decode cM_length 68 = .ok (.iload 4, 2) := by decide +kernel
theorem dM_length_70 : decode cM_length 70 = .ok (.iaload, 1) := by decide +kernel
theorem dM_length_71 : decode cM_length 71 = .ok (.aload_n 0, 1) := by decide +kernel
theorem dM_length_72 : decode cM_length 72 = .ok (.getfield 16, 3) := by decide +kernel
theorem dM_length_75 : decode cM_length 75 = .ok (.iload_n 2, 1) := by decide +kernel
theorem dM_length_76 : decode cM_length 76 = .ok (.iaload, 1) := by decide +kernel
theorem dM_length_77 : decode cM_length 77 = .ok (.if_icmp .ne 56, 3) := by decide +kernel
theorem dM_length_80 : decode cM_length 80 = .ok (.aload_n 0, 1) := by decide +kernel
theorem dM_length_81 : decode cM_length 81 = .ok (.getfield 19, 3) := by decide +kernel
theorem dM_length_84 : decode cM_length 84 = .ok (.iload 4, 2) := by decide +kernel
theorem dM_length_86 : decode cM_length 86 = .ok (.iaload, 1) := by decide +kernel
theorem dM_length_87 : decode cM_length 87 = .ok (.bipush 15, 2) := by decide +kernel
theorem dM_length_89 : decode cM_length 89 = .ok (.iand, 1) := by decide +kernel
theorem dM_length_90 : decode cM_length 90 = .ok (.aload_n 0, 1) := by decide +kernel
theorem dM_length_91 : decode cM_length 91 = .ok (.getfield 19, 3) := by decide +kernel
theorem dM_length_94 : decode cM_length 94 = .ok (.iload_n 2, 1) := by decide +kernel
theorem dM_length_95 : decode cM_length 95 = .ok (.iaload, 1) := by decide +kernel
theorem dM_length_96 : decode cM_length 96 = .ok (.bipush 15, 2) := by decide +kernel
theorem dM_length_98 : decode cM_length 98 = .ok (.iand, 1) := by decide +kernel
theorem dM_length_99 : decode cM_length 99 = .ok (.if_icmp .ne 34, 3) := by decide +kernel
theorem dM_length_102 : decode cM_length 102 = .ok (.aload_n 0, 1) := by decide +kernel
theorem dM_length_103 : decode cM_length 103 = .ok (.getfield 22, 3) := by decide +kernel
theorem dM_length_106 : decode cM_length 106 = .ok (.iload 4, 2) := by decide +kernel
theorem dM_length_108 : decode cM_length 108 = .ok (.iaload, 1) := by decide +kernel
theorem dM_length_109 : decode cM_length 109 = .ok (.aload_n 0, 1) := by decide +kernel
theorem dM_length_110 : decode cM_length 110 = .ok (.getfield 22, 3) := by decide +kernel
theorem dM_length_113 : decode cM_length 113 = .ok (.iload_n 2, 1) := by decide +kernel
theorem dM_length_114 : decode cM_length 114 = .ok (.iaload, 1) := by decide +kernel
theorem dM_length_115 : decode cM_length 115 = .ok (.if_icmp .ne 18, 3) := by decide +kernel
theorem dM_length_118 : decode cM_length 118 = .ok (.aload_n 0, 1) := by decide +kernel
theorem dM_length_119 : decode cM_length 119 = .ok (.getfield 13, 3) := by decide +kernel
theorem dM_length_122 : decode cM_length 122 = .ok (.iload 4, 2) := by decide +kernel
theorem dM_length_124 : decode cM_length 124 = .ok (.iaload, 1) := by decide +kernel
theorem dM_length_125 : decode cM_length 125 = .ok (.aload_n 0, 1) := by decide +kernel
theorem dM_length_126 : decode cM_length 126 = .ok (.getfield 13, 3) := by decide +kernel
theorem dM_length_129 : decode cM_length 129 = .ok (.iload_n 2, 1) := by decide +kernel
theorem dM_length_130 : decode cM_length 130 = .ok (.iaload, 1) := by decide +kernel
theorem dM_length_131 : decode cM_length 131 = .ok (.isub, 1) := by decide +kernel
theorem dM_length_132 : decode cM_length 132 = .ok (.ireturn, 1) := by decide +kernel
theorem dM_length_133 : decode cM_length 133 = .ok (.iinc 3 1, 3) := by decide +kernel
theorem dM_length_136 : decode cM_length 136 = .ok (.goto (-97), 3) := by decide +kernel
theorem dM_length_139 : decode cM_length 139 = .ok (.iconst (-1), 1) := by decide +kernel
theorem dM_length_140 : decode cM_length 140 = .ok (.ireturn, 1) := by decide +kernel
def jM_length_133 (K39 : (Nat → Int32) → (Nat → Nat → Int32) → Int32 → Int32 → Option (Int32 × (Nat → Int32) × (Nat → Nat → Int32))) (iv : Nat → Int32) (av : Nat → Nat → Int32) (x2 : Int32) (x3 : Int32) : Option (Int32 × (Nat → Int32) × (Nat → Nat → Int32)) := K39 iv av x2 (x3 + 1)
def lM_length_39 : Nat → (Nat → Int32) → (Nat → Nat → Int32) → Int32 → Int32 → Option (Int32 × (Nat → Int32) × (Nat → Nat → Int32))
  | 0 => fun _ _ _ _ => none
  | k + 1 => fun iv av x2 x3 => if (iv 10) ≤ x3 then (some ((-1 : Int32), iv, av)) else (if x3 < 0 ∨ 1001 ≤ x3.toNatClampNeg then none else ((fM_ends iv av (av 8 x3.toNatClampNeg)).bind fun (r3, iv3, av3) => if r3 = 0 then (jM_length_133 (lM_length_39 k) iv3 av3 x2 x3) else (if (av 8 x3.toNatClampNeg) < 0 ∨ 1001 ≤ (av 8 x3.toNatClampNeg).toNatClampNeg then none else (if x2 < 0 ∨ 1001 ≤ x2.toNatClampNeg then none else (if (av3 2 (av 8 x3.toNatClampNeg).toNatClampNeg) = (av3 2 x2.toNatClampNeg) then (if (av 8 x3.toNatClampNeg) < 0 ∨ 1001 ≤ (av 8 x3.toNatClampNeg).toNatClampNeg then none else (if x2 < 0 ∨ 1001 ≤ x2.toNatClampNeg then none else (if ((av3 3 (av 8 x3.toNatClampNeg).toNatClampNeg) &&& (15 : Int32)) = ((av3 3 x2.toNatClampNeg) &&& (15 : Int32)) then (if (av 8 x3.toNatClampNeg) < 0 ∨ 1001 ≤ (av 8 x3.toNatClampNeg).toNatClampNeg then none else (if x2 < 0 ∨ 1001 ≤ x2.toNatClampNeg then none else (if (av3 4 (av 8 x3.toNatClampNeg).toNatClampNeg) = (av3 4 x2.toNatClampNeg) then (if (av 8 x3.toNatClampNeg) < 0 ∨ 1001 ≤ (av 8 x3.toNatClampNeg).toNatClampNeg then none else (if x2 < 0 ∨ 1001 ≤ x2.toNatClampNeg then none else (some ((av3 1 (av 8 x3.toNatClampNeg).toNatClampNeg) - (av3 1 x2.toNatClampNeg), iv3, av3)))) else (jM_length_133 (lM_length_39 k) iv3 av3 x2 x3)))) else (jM_length_133 (lM_length_39 k) iv3 av3 x2 x3)))) else (jM_length_133 (lM_length_39 k) iv3 av3 x2 x3))))))
def fM_length (iv : Nat → Int32) (av : Nat → Nat → Int32) (x1 : Int32) : Option (Int32 × (Nat → Int32) × (Nat → Nat → Int32)) := (fM_has (upd iv 0 (0 : Int32)) av x1).bind fun (r1, iv1, av1) => if r1 = 0 then (some ((-1 : Int32), iv1, av1)) else (if x1 < 0 ∨ 1001 ≤ x1.toNatClampNeg then none else ((fM_begins iv1 av1 (av1 8 x1.toNatClampNeg)).bind fun (r4, iv4, av4) => if r4 = 0 then (some ((-1 : Int32), iv4, av4)) else (if x1 < 0 ∨ 1001 ≤ x1.toNatClampNeg then none else (lM_length_39 FU iv4 av4 (av4 8 x1.toNatClampNeg) (x1 + (1 : Int32))))))
set_option maxHeartbeats 4000000 in
set_option maxRecDepth 100000 in
theorem wM_length_133 {p : Program} {l : Launch} {e : Env} {s : State} {m : MethodId} {args : Array Value} {below : List Frame} {meth : Method} {c : Code} {g : gT} {q : Nat} {ad : Nat → Nat} {X : va_W} {rv : Option Value} {iv' : Nat → Int32} {av' : Nat → Nat → Int32} {r' : Int32} (C : mCx p m c cM_length 5 s args g "MidiDeskModel") (hr : meth.sig.returnType = (some .int)) (hlk : meth.locks = false) (hrv : rv = some (.int r')) {K39 : (Nat → Int32) → (Nat → Nat → Int32) → Int32 → Int32 → Option (Int32 × (Nat → Int32) × (Nat → Nat → Int32))} (hK39 : ∀ (iv : Nat → Int32) (av : Nat → Nat → Int32) (x2 : Int32) (x3 : Int32) (H : Heap) (locs : List Loc) (ls : Array Slot), lv_has ls 5 [(0, .ref q), (2, .int x2), (3, .int x3)] → mWd g (mA g q ad X s.heap.size) s.heap q ad X iv av H locs → K39 iv av x2 x3 = some (r', iv', av') → mG p l e rM_length s m args below meth c g q ad X rv iv' av' H locs 0 0 (F0 m 39 ls [])) (iv : Nat → Int32) (av : Nat → Nat → Int32) (x2 : Int32) (x3 : Int32) (H : Heap) (locs : List Loc) (ls : Array Slot) (hl : lv_has ls 5 [(0, .ref q), (2, .int x2), (3, .int x3)]) (hw : mWd g (mA g q ad X s.heap.size) s.heap q ad X iv av H locs) (hf : jM_length_133 K39 iv av x2 x3 = some (r', iv', av')) : mG p l e rM_length s m args below meth c g q ad X rv iv' av' H locs 0 0 (F0 m 133 ls []) := by
  unfold jM_length_133 at hf
  refine lv_iinc (v := x3 + 1) (lv' := [(3, .int (x3 + 1)), (0, .ref q), (2, .int x2)]) C.1.1 C.1.2.1 dM_length_133 hl (k := 2) rfl rfl (by decide) rfl (fun ls hl => ?_)
  refine lv_goto (tgt := 39) C.1.1 C.1.2.1 dM_length_136 (by decide) ?_
  exact hK39 iv av x2 (x3 + 1) _ _ ls (lv_sub hl [1, 2, 0] rfl) hw hf
set_option maxHeartbeats 4000000 in
set_option maxRecDepth 100000 in
theorem wM_length_39 {p : Program} {l : Launch} {e : Env} {s : State} {m : MethodId} {args : Array Value} {below : List Frame} {meth : Method} {c : Code} {g : gT} {q : Nat} {ad : Nat → Nat} {X : va_W} {rv : Option Value} {iv' : Nat → Int32} {av' : Nat → Nat → Int32} {r' : Int32} (C : mCx p m c cM_length 5 s args g "MidiDeskModel") (hr : meth.sig.returnType = (some .int)) (hlk : meth.locks = false) (hrv : rv = some (.int r')) (k : Nat) : ∀ (iv : Nat → Int32) (av : Nat → Nat → Int32) (x2 : Int32) (x3 : Int32) (H : Heap) (locs : List Loc) (ls : Array Slot), lv_has ls 5 [(0, .ref q), (2, .int x2), (3, .int x3)] → mWd g (mA g q ad X s.heap.size) s.heap q ad X iv av H locs → lM_length_39 k iv av x2 x3 = some (r', iv', av') → mG p l e rM_length s m args below meth c g q ad X rv iv' av' H locs 0 0 (F0 m 39 ls []) := by
  induction k with
  | zero => intro iv av x2 x3 H locs ls hl hw hf; cases hf
  | succ k ih =>
    intro iv av x2 x3 H locs ls hl hw hf
    have hf : (if (iv 10) ≤ x3 then (some ((-1 : Int32), iv, av)) else (if x3 < 0 ∨ 1001 ≤ x3.toNatClampNeg then none else ((fM_ends iv av (av 8 x3.toNatClampNeg)).bind fun (r3, iv3, av3) => if r3 = 0 then (jM_length_133 (lM_length_39 k) iv3 av3 x2 x3) else (if (av 8 x3.toNatClampNeg) < 0 ∨ 1001 ≤ (av 8 x3.toNatClampNeg).toNatClampNeg then none else (if x2 < 0 ∨ 1001 ≤ x2.toNatClampNeg then none else (if (av3 2 (av 8 x3.toNatClampNeg).toNatClampNeg) = (av3 2 x2.toNatClampNeg) then (if (av 8 x3.toNatClampNeg) < 0 ∨ 1001 ≤ (av 8 x3.toNatClampNeg).toNatClampNeg then none else (if x2 < 0 ∨ 1001 ≤ x2.toNatClampNeg then none else (if ((av3 3 (av 8 x3.toNatClampNeg).toNatClampNeg) &&& (15 : Int32)) = ((av3 3 x2.toNatClampNeg) &&& (15 : Int32)) then (if (av 8 x3.toNatClampNeg) < 0 ∨ 1001 ≤ (av 8 x3.toNatClampNeg).toNatClampNeg then none else (if x2 < 0 ∨ 1001 ≤ x2.toNatClampNeg then none else (if (av3 4 (av 8 x3.toNatClampNeg).toNatClampNeg) = (av3 4 x2.toNatClampNeg) then (if (av 8 x3.toNatClampNeg) < 0 ∨ 1001 ≤ (av 8 x3.toNatClampNeg).toNatClampNeg then none else (if x2 < 0 ∨ 1001 ≤ x2.toNatClampNeg then none else (some ((av3 1 (av 8 x3.toNatClampNeg).toNatClampNeg) - (av3 1 x2.toNatClampNeg), iv3, av3)))) else (jM_length_133 (lM_length_39 k) iv3 av3 x2 x3)))) else (jM_length_133 (lM_length_39 k) iv3 av3 x2 x3)))) else (jM_length_133 (lM_length_39 k) iv3 av3 x2 x3))))))) = some (r', iv', av') := hf
    refine lv_iload_n C.1.1 C.1.2.1 dM_length_39 rfl (lv_at hl 2 rfl) ?_
    refine lv_aload_n C.1.1 C.1.2.1 dM_length_40 rfl (lv_at hl 0 rfl) ?_
    refine mg_events C hw dM_length_41 ?_
    refine lv_icmp_ge (tgt := 139) C.1.1 C.1.2.1 dM_length_44 (by decide) (fun c1 => ?_) (fun c1 => ?_)
    · have hf := ts_t hf c1
      refine lv_iconst (v := (-1 : Int32)) C.1.1 C.1.2.1 dM_length_139 (by decide) ?_
      exact m_reti C hr hlk hrv hw hf ⟨Nat.le_of_ble_eq_true rfl, Nat.le_of_ble_eq_true rfl⟩ dM_length_140
    · have hf := ts_f hf c1
      refine lv_aload_n C.1.1 C.1.2.1 dM_length_47 rfl (lv_at hl 0 rfl) ?_
      refine mg_order C hw dM_length_48 ?_
      refine lv_iload_n C.1.1 C.1.2.1 dM_length_51 rfl (lv_at hl 2 rfl) ?_
      obtain ⟨h2, hf⟩ := ts_g hf
      refine ma_order C hw h2 dM_length_52 ?_
      refine lv_istore (lv' := [(4, .int (av 8 x3.toNatClampNeg)), (0, .ref q), (2, .int x2), (3, .int x3)]) C.1.1 C.1.2.1 dM_length_53 hl (by decide) rfl (fun ls hl => ?_)
      refine lv_aload_n C.1.1 C.1.2.1 dM_length_55 rfl (lv_at hl 1 rfl) ?_
      refine lv_iload C.1.1 C.1.2.1 dM_length_56 (lv_at hl 0 rfl) ?_
      obtain ⟨⟨r3, iv3, av3⟩, g3, hf⟩ := ts_b hf
      dsimp only at hf
      refine m_callV (rest := []) (As := [.int (av 8 x3.toNatClampNeg)]) (rv := (some (.int r3))) C hl.1 hw (cM_ends_met g3) (callW_of (rm := rM_ends) 1 C.1.2.2.2.2 gw_909 gw_911 gw_44 gw_55 gw_912 kM_ends ⟨Nat.le_of_ble_eq_true rfl, Nat.le_of_ble_eq_true rfl⟩) rfl rfl (Nat.le_of_ble_eq_true rfl) dM_length_58 ⟨Nat.le_of_ble_eq_true rfl, Nat.le_of_ble_eq_true rfl⟩ (fun H locs hw => ?_)
      refine W.eq (g2 := F0 m 61 ls [.int r3]) rfl ?_
      refine lv_if_eq (tgt := 133) C.1.1 C.1.2.1 dM_length_61 (by decide) (fun c4 => ?_) (fun c4 => ?_)
      · have hf := ts_t hf c4
        exact wM_length_133 C hr hlk hrv ih iv3 av3 x2 x3 _ _ ls (lv_sub hl [1, 2, 3] rfl) hw hf
      · have hf := ts_f hf c4
        refine lv_aload_n C.1.1 C.1.2.1 dM_length_64 rfl (lv_at hl 1 rfl) ?_
        refine mg_trackOf C hw dM_length_65 ?_
        refine lv_iload C.1.1 C.1.2.1 dM_length_68 (lv_at hl 0 rfl) ?_
        obtain ⟨h5, hf⟩ := ts_g hf
        refine ma_trackOf C hw h5 dM_length_70 ?_
        refine lv_aload_n C.1.1 C.1.2.1 dM_length_71 rfl (lv_at hl 1 rfl) ?_
        refine mg_trackOf C hw dM_length_72 ?_
        refine lv_iload_n C.1.1 C.1.2.1 dM_length_75 rfl (lv_at hl 2 rfl) ?_
        obtain ⟨h6, hf⟩ := ts_g hf
        refine ma_trackOf C hw h6 dM_length_76 ?_
        refine lv_icmp_ne (tgt := 133) C.1.1 C.1.2.1 dM_length_77 (by decide) (fun c7 => ?_) (fun c7 => ?_)
        · have hf := ts_f hf c7
          exact wM_length_133 C hr hlk hrv ih iv3 av3 x2 x3 _ _ ls (lv_sub hl [1, 2, 3] rfl) hw hf
        · have hf := ts_t hf c7
          refine lv_aload_n C.1.1 C.1.2.1 dM_length_80 rfl (lv_at hl 1 rfl) ?_
          refine mg_status C hw dM_length_81 ?_
          refine lv_iload C.1.1 C.1.2.1 dM_length_84 (lv_at hl 0 rfl) ?_
          obtain ⟨h8, hf⟩ := ts_g hf
          refine ma_status C hw h8 dM_length_86 ?_
          refine lv_bipush (v := (15 : Int32)) C.1.1 C.1.2.1 dM_length_87 (by decide) ?_
          refine lv_iand C.1.1 C.1.2.1 dM_length_89 ?_
          refine lv_aload_n C.1.1 C.1.2.1 dM_length_90 rfl (lv_at hl 1 rfl) ?_
          refine mg_status C hw dM_length_91 ?_
          refine lv_iload_n C.1.1 C.1.2.1 dM_length_94 rfl (lv_at hl 2 rfl) ?_
          obtain ⟨h9, hf⟩ := ts_g hf
          refine ma_status C hw h9 dM_length_95 ?_
          refine lv_bipush (v := (15 : Int32)) C.1.1 C.1.2.1 dM_length_96 (by decide) ?_
          refine lv_iand C.1.1 C.1.2.1 dM_length_98 ?_
          refine lv_icmp_ne (tgt := 133) C.1.1 C.1.2.1 dM_length_99 (by decide) (fun c10 => ?_) (fun c10 => ?_)
          · have hf := ts_f hf c10
            exact wM_length_133 C hr hlk hrv ih iv3 av3 x2 x3 _ _ ls (lv_sub hl [1, 2, 3] rfl) hw hf
          · have hf := ts_t hf c10
            refine lv_aload_n C.1.1 C.1.2.1 dM_length_102 rfl (lv_at hl 1 rfl) ?_
            refine mg_first C hw dM_length_103 ?_
            refine lv_iload C.1.1 C.1.2.1 dM_length_106 (lv_at hl 0 rfl) ?_
            obtain ⟨h11, hf⟩ := ts_g hf
            refine ma_first C hw h11 dM_length_108 ?_
            refine lv_aload_n C.1.1 C.1.2.1 dM_length_109 rfl (lv_at hl 1 rfl) ?_
            refine mg_first C hw dM_length_110 ?_
            refine lv_iload_n C.1.1 C.1.2.1 dM_length_113 rfl (lv_at hl 2 rfl) ?_
            obtain ⟨h12, hf⟩ := ts_g hf
            refine ma_first C hw h12 dM_length_114 ?_
            refine lv_icmp_ne (tgt := 133) C.1.1 C.1.2.1 dM_length_115 (by decide) (fun c13 => ?_) (fun c13 => ?_)
            · have hf := ts_f hf c13
              exact wM_length_133 C hr hlk hrv ih iv3 av3 x2 x3 _ _ ls (lv_sub hl [1, 2, 3] rfl) hw hf
            · have hf := ts_t hf c13
              refine lv_aload_n C.1.1 C.1.2.1 dM_length_118 rfl (lv_at hl 1 rfl) ?_
              refine mg_ticks C hw dM_length_119 ?_
              refine lv_iload C.1.1 C.1.2.1 dM_length_122 (lv_at hl 0 rfl) ?_
              obtain ⟨h14, hf⟩ := ts_g hf
              refine ma_ticks C hw h14 dM_length_124 ?_
              refine lv_aload_n C.1.1 C.1.2.1 dM_length_125 rfl (lv_at hl 1 rfl) ?_
              refine mg_ticks C hw dM_length_126 ?_
              refine lv_iload_n C.1.1 C.1.2.1 dM_length_129 rfl (lv_at hl 2 rfl) ?_
              obtain ⟨h15, hf⟩ := ts_g hf
              refine ma_ticks C hw h15 dM_length_130 ?_
              refine lv_isub C.1.1 C.1.2.1 dM_length_131 ?_
              exact m_reti C hr hlk hrv hw hf ⟨Nat.le_of_ble_eq_true rfl, Nat.le_of_ble_eq_true rfl⟩ dM_length_132
set_option maxHeartbeats 4000000 in
set_option maxRecDepth 100000 in
theorem cM_length_met {l : Launch} {g : gT} {q : Nat} {ad : Nat → Nat} {X : va_W} {iv iv' : Nat → Int32} {av av' : Nat → Nat → Int32} {x1 : Int32} {r' : Int32} (hf : fM_length iv av x1 = some (r', iv', av')) : mMet l yM_length cM_length 5 (some .int) rM_length g q ad X iv av [.ref q, .int x1] (some (.int r')) iv' av' := by
  refine m_entry (by decide) (Nat.le_of_ble_eq_true rfl) ?_
  intro p e s m args below meth c ls C hr hlk hnm hl hw
  have hrv : ((some (.int r')) : Option Value) = (some (.int r')) := rfl
  have C : mCx p m c cM_length 5 s args g "MidiDeskModel" := C
  have hl : lv_has ls 5 [(0, .ref q), (1, .int x1)] := hl
  unfold fM_length at hf
  refine lv_aload_n C.1.1 C.1.2.1 dM_length_0 rfl (lv_at hl 0 rfl) ?_
  refine lv_iconst (v := (0 : Int32)) C.1.1 C.1.2.1 dM_length_1 (by decide) ?_
  refine mp_thrown C hw dM_length_2 (fun H locs hw => ?_)
  refine lv_aload_n C.1.1 C.1.2.1 dM_length_5 rfl (lv_at hl 0 rfl) ?_
  refine lv_iload_n C.1.1 C.1.2.1 dM_length_6 rfl (lv_at hl 1 rfl) ?_
  obtain ⟨⟨r1, iv1, av1⟩, g1, hf⟩ := ts_b hf
  dsimp only at hf
  refine m_callV (rest := []) (As := [.int x1]) (rv := (some (.int r1))) C hl.1 hw (cM_has_met g1) (callW_of (rm := rM_has) 1 C.1.2.2.2.2 gw_864 gw_866 gw_38 gw_55 gw_867 kM_has ⟨Nat.le_of_ble_eq_true rfl, Nat.le_of_ble_eq_true rfl⟩) rfl rfl (Nat.le_of_ble_eq_true rfl) dM_length_7 ⟨Nat.le_of_ble_eq_true rfl, Nat.le_of_ble_eq_true rfl⟩ (fun H locs hw => ?_)
  refine W.eq (g2 := F0 m 10 ls [.int r1]) rfl ?_
  refine lv_if_eq (tgt := 26) C.1.1 C.1.2.1 dM_length_10 (by decide) (fun c2 => ?_) (fun c2 => ?_)
  · have hf := ts_t hf c2
    refine lv_iconst (v := (-1 : Int32)) C.1.1 C.1.2.1 dM_length_26 (by decide) ?_
    exact m_reti C hr hlk hrv hw hf ⟨Nat.le_of_ble_eq_true rfl, Nat.le_of_ble_eq_true rfl⟩ dM_length_27
  · have hf := ts_f hf c2
    refine lv_aload_n C.1.1 C.1.2.1 dM_length_13 rfl (lv_at hl 0 rfl) ?_
    refine lv_aload_n C.1.1 C.1.2.1 dM_length_14 rfl (lv_at hl 0 rfl) ?_
    refine mg_order C hw dM_length_15 ?_
    refine lv_iload_n C.1.1 C.1.2.1 dM_length_18 rfl (lv_at hl 1 rfl) ?_
    obtain ⟨h3, hf⟩ := ts_g hf
    refine ma_order C hw h3 dM_length_19 ?_
    obtain ⟨⟨r4, iv4, av4⟩, g4, hf⟩ := ts_b hf
    dsimp only at hf
    refine m_callV (rest := []) (As := [.int (av1 8 x1.toNatClampNeg)]) (rv := (some (.int r4))) C hl.1 hw (cM_begins_met g4) (callW_of (rm := rM_begins) 1 C.1.2.2.2.2 gw_905 gw_907 gw_43 gw_55 gw_908 kM_begins ⟨Nat.le_of_ble_eq_true rfl, Nat.le_of_ble_eq_true rfl⟩) rfl rfl (Nat.le_of_ble_eq_true rfl) dM_length_20 ⟨Nat.le_of_ble_eq_true rfl, Nat.le_of_ble_eq_true rfl⟩ (fun H locs hw => ?_)
    refine W.eq (g2 := F0 m 23 ls [.int r4]) rfl ?_
    refine lv_if_ne (tgt := 28) C.1.1 C.1.2.1 dM_length_23 (by decide) (fun c5 => ?_) (fun c5 => ?_)
    · have hf := ts_f hf c5
      refine lv_aload_n C.1.1 C.1.2.1 dM_length_28 rfl (lv_at hl 0 rfl) ?_
      refine mg_order C hw dM_length_29 ?_
      refine lv_iload_n C.1.1 C.1.2.1 dM_length_32 rfl (lv_at hl 1 rfl) ?_
      obtain ⟨h6, hf⟩ := ts_g hf
      refine ma_order C hw h6 dM_length_33 ?_
      refine lv_istore_n (lv' := [(2, .int (av4 8 x1.toNatClampNeg)), (0, .ref q), (1, .int x1)]) C.1.1 C.1.2.1 dM_length_34 rfl hl (by decide) rfl (fun ls hl => ?_)
      refine lv_iload_n C.1.1 C.1.2.1 dM_length_35 rfl (lv_at hl 2 rfl) ?_
      refine lv_iconst (v := (1 : Int32)) C.1.1 C.1.2.1 dM_length_36 (by decide) ?_
      refine lv_iadd C.1.1 C.1.2.1 dM_length_37 ?_
      refine lv_istore_n (lv' := [(3, .int (x1 + (1 : Int32))), (2, .int (av4 8 x1.toNatClampNeg)), (0, .ref q), (1, .int x1)]) C.1.1 C.1.2.1 dM_length_38 rfl hl (by decide) rfl (fun ls hl => ?_)
      exact wM_length_39 C hr hlk hrv FU iv4 av4 (av4 8 x1.toNatClampNeg) (x1 + (1 : Int32)) _ _ ls (lv_sub hl [2, 1, 0] rfl) hw hf
    · have hf := ts_t hf c5
      refine lv_iconst (v := (-1 : Int32)) C.1.1 C.1.2.1 dM_length_26 (by decide) ?_
      exact m_reti C hr hlk hrv hw hf ⟨Nat.le_of_ble_eq_true rfl, Nat.le_of_ble_eq_true rfl⟩ dM_length_27
abbrev cM_isNote : ByteArray := prog_8_method_31_code
abbrev yM_isNote : MethodName := ⟨"MidiDeskModel", "isNote", "(II)Z"⟩
theorem kM_isNote : yM_isNote.cls ≠ "java/lang/invoke/MethodHandle" ∧ yM_isNote.cls ≠ "java/lang/invoke/VarHandle" ∧ (parseMethodDescriptor yM_isNote.desc).map (fun d => d.parameters.length) = some 2 := by decide +kernel
abbrev rM_isNote : Room := { frames := 0, cells := 0, slots := 0, locals := 0 }
theorem dM_isNote_0 : decode cM_isNote 0 = .ok (.aload_n 0, 1) := by decide +kernel
theorem dM_isNote_1 : decode cM_isNote 1 = .ok (.getfield 19, 3) := by decide +kernel
theorem dM_isNote_4 : decode cM_isNote 4 = .ok (.iload_n 1, 1) := by decide +kernel
theorem dM_isNote_5 : decode cM_isNote 5 = .ok (.iaload, 1) := by decide +kernel
theorem dM_isNote_6 : decode cM_isNote 6 = .ok (.sipush 176, 3) := by decide +kernel
theorem dM_isNote_9 : decode cM_isNote 9 = .ok (.if_icmp .ge 26, 3) := by decide +kernel
theorem dM_isNote_12 : decode cM_isNote 12 = .ok (.iload_n 2, 1) := by decide +kernel
theorem dM_isNote_13 : decode cM_isNote 13 = .ok (.bipush 16, 2) := by decide +kernel
theorem dM_isNote_15 : decode cM_isNote 15 = .ok (.if_icmp .eq 16, 3) := by decide +kernel
theorem dM_isNote_18 : decode cM_isNote 18 = .ok (.aload_n 0, 1) := by decide +kernel
theorem dM_isNote_19 : decode cM_isNote 19 = .ok (.getfield 19, 3) := by decide +kernel
theorem dM_isNote_22 : decode cM_isNote 22 = .ok (.iload_n 1, 1) := by decide +kernel
theorem dM_isNote_23 : decode cM_isNote 23 = .ok (.iaload, 1) := by decide +kernel
theorem dM_isNote_24 : decode cM_isNote 24 = .ok (.bipush 15, 2) := by decide +kernel
theorem dM_isNote_26 : decode cM_isNote 26 = .ok (.iand, 1) := by decide +kernel
theorem dM_isNote_27 : decode cM_isNote 27 = .ok (.iload_n 2, 1) := by decide +kernel
theorem dM_isNote_28 : decode cM_isNote 28 = .ok (.if_icmp .ne 7, 3) := by decide +kernel
theorem dM_isNote_31 : decode cM_isNote 31 = .ok (.iconst 1, 1) := by decide +kernel
theorem dM_isNote_32 : decode cM_isNote 32 = .ok (.goto 4, 3) := by decide +kernel
theorem dM_isNote_35 : decode cM_isNote 35 = .ok (.iconst 0, 1) := by decide +kernel
theorem dM_isNote_36 : decode cM_isNote 36 = .ok (.ireturn, 1) := by decide +kernel
def fM_isNote (iv : Nat → Int32) (av : Nat → Nat → Int32) (x1 : Int32) (x2 : Int32) : Option (Int32 × (Nat → Int32) × (Nat → Nat → Int32)) := if x1 < 0 ∨ 1001 ≤ x1.toNatClampNeg then none else (if (176 : Int32) ≤ (av 3 x1.toNatClampNeg) then (some ((0 : Int32), iv, av)) else (if x2 = (16 : Int32) then (some ((1 : Int32), iv, av)) else (if x1 < 0 ∨ 1001 ≤ x1.toNatClampNeg then none else (if ((av 3 x1.toNatClampNeg) &&& (15 : Int32)) = x2 then (some ((1 : Int32), iv, av)) else (some ((0 : Int32), iv, av))))))
set_option maxHeartbeats 4000000 in
set_option maxRecDepth 100000 in
theorem cM_isNote_met {l : Launch} {g : gT} {q : Nat} {ad : Nat → Nat} {X : va_W} {iv iv' : Nat → Int32} {av av' : Nat → Nat → Int32} {x1 : Int32} {x2 : Int32} {r' : Int32} (hf : fM_isNote iv av x1 x2 = some (r', iv', av')) : mMet l yM_isNote cM_isNote 3 (some .boolean) rM_isNote g q ad X iv av [.ref q, .int x1, .int x2] (some (.int r')) iv' av' := by
  refine m_entry (by decide) (Nat.le_of_ble_eq_true rfl) ?_
  intro p e s m args below meth c ls C hr hlk hnm hl hw
  have hrv : ((some (.int r')) : Option Value) = (some (.int r')) := rfl
  have C : mCx p m c cM_isNote 3 s args g "MidiDeskModel" := C
  have hl : lv_has ls 3 [(0, .ref q), (1, .int x1), (2, .int x2)] := hl
  unfold fM_isNote at hf
  refine lv_aload_n C.1.1 C.1.2.1 dM_isNote_0 rfl (lv_at hl 0 rfl) ?_
  refine mg_status C hw dM_isNote_1 ?_
  refine lv_iload_n C.1.1 C.1.2.1 dM_isNote_4 rfl (lv_at hl 1 rfl) ?_
  obtain ⟨h1, hf⟩ := ts_g hf
  refine ma_status C hw h1 dM_isNote_5 ?_
  refine lv_sipush (v := (176 : Int32)) C.1.1 C.1.2.1 dM_isNote_6 (by decide) ?_
  refine lv_icmp_ge (tgt := 35) C.1.1 C.1.2.1 dM_isNote_9 (by decide) (fun c2 => ?_) (fun c2 => ?_)
  · have hf := ts_t hf c2
    refine lv_iconst (v := (0 : Int32)) C.1.1 C.1.2.1 dM_isNote_35 (by decide) ?_
    exact m_retz C hr hlk hrv hw (Or.inl rfl) hf ⟨Nat.le_of_ble_eq_true rfl, Nat.le_of_ble_eq_true rfl⟩ dM_isNote_36
  · have hf := ts_f hf c2
    refine lv_iload_n C.1.1 C.1.2.1 dM_isNote_12 rfl (lv_at hl 2 rfl) ?_
    refine lv_bipush (v := (16 : Int32)) C.1.1 C.1.2.1 dM_isNote_13 (by decide) ?_
    refine lv_icmp_eq (tgt := 31) C.1.1 C.1.2.1 dM_isNote_15 (by decide) (fun c3 => ?_) (fun c3 => ?_)
    · have hf := ts_t hf c3
      refine lv_iconst (v := (1 : Int32)) C.1.1 C.1.2.1 dM_isNote_31 (by decide) ?_
      refine lv_goto (tgt := 36) C.1.1 C.1.2.1 dM_isNote_32 (by decide) ?_
      exact m_retz C hr hlk hrv hw (Or.inr rfl) hf ⟨Nat.le_of_ble_eq_true rfl, Nat.le_of_ble_eq_true rfl⟩ dM_isNote_36
    · have hf := ts_f hf c3
      refine lv_aload_n C.1.1 C.1.2.1 dM_isNote_18 rfl (lv_at hl 0 rfl) ?_
      refine mg_status C hw dM_isNote_19 ?_
      refine lv_iload_n C.1.1 C.1.2.1 dM_isNote_22 rfl (lv_at hl 1 rfl) ?_
      obtain ⟨h4, hf⟩ := ts_g hf
      refine ma_status C hw h4 dM_isNote_23 ?_
      refine lv_bipush (v := (15 : Int32)) C.1.1 C.1.2.1 dM_isNote_24 (by decide) ?_
      refine lv_iand C.1.1 C.1.2.1 dM_isNote_26 ?_
      refine lv_iload_n C.1.1 C.1.2.1 dM_isNote_27 rfl (lv_at hl 2 rfl) ?_
      refine lv_icmp_ne (tgt := 35) C.1.1 C.1.2.1 dM_isNote_28 (by decide) (fun c5 => ?_) (fun c5 => ?_)
      · have hf := ts_f hf c5
        refine lv_iconst (v := (0 : Int32)) C.1.1 C.1.2.1 dM_isNote_35 (by decide) ?_
        exact m_retz C hr hlk hrv hw (Or.inl rfl) hf ⟨Nat.le_of_ble_eq_true rfl, Nat.le_of_ble_eq_true rfl⟩ dM_isNote_36
      · have hf := ts_t hf c5
        refine lv_iconst (v := (1 : Int32)) C.1.1 C.1.2.1 dM_isNote_31 (by decide) ?_
        refine lv_goto (tgt := 36) C.1.1 C.1.2.1 dM_isNote_32 (by decide) ?_
        exact m_retz C hr hlk hrv hw (Or.inr rfl) hf ⟨Nat.le_of_ble_eq_true rfl, Nat.le_of_ble_eq_true rfl⟩ dM_isNote_36
abbrev cM_transpose : ByteArray := prog_8_method_30_code
abbrev yM_transpose : MethodName := ⟨"MidiDeskModel", "transpose", "(II)I"⟩
theorem kM_transpose : yM_transpose.cls ≠ "java/lang/invoke/MethodHandle" ∧ yM_transpose.cls ≠ "java/lang/invoke/VarHandle" ∧ (parseMethodDescriptor yM_transpose.desc).map (fun d => d.parameters.length) = some 2 := by decide +kernel
abbrev rM_transpose : Room := { frames := 1, cells := 0, slots := 0, locals := 22 }
theorem dM_transpose_0 : decode cM_transpose 0 = .ok (.aload_n 0, 1) := by decide +kernel
theorem dM_transpose_1 : decode cM_transpose 1 = .ok (.aload_n 0, 1) := by decide +kernel
theorem dM_transpose_2 : decode cM_transpose 2 = .ok (.getfield 110, 3) := by decide +kernel
theorem dM_transpose_5 : decode cM_transpose 5 = .ok (.ifCond .ne 7, 3) := by decide +kernel
theorem dM_transpose_8 : decode cM_transpose 8 = .ok (.iconst 1, 1) := by decide +kernel
theorem dM_transpose_9 : decode cM_transpose 9 = .ok (.goto 4, 3) := by decide +kernel
theorem dM_transpose_12 : decode cM_transpose 12 = .ok (.iconst 0, 1) := by decide +kernel
theorem dM_transpose_13 : decode cM_transpose 13 = .ok (.iload_n 1, 1) := by decide +kernel
theorem dM_transpose_14 : decode cM_transpose 14 = .ok (.ifCond .lt 9, 3) := by decide +kernel
theorem dM_transpose_17 : decode cM_transpose 17 = .ok (.iload_n 1, 1) := by decide +kernel
theorem dM_transpose_18 : decode cM_transpose 18 = .ok (.bipush 16, 2) := by decide +kernel
theorem dM_transpose_20 : decode cM_transpose 20 = .ok (.if_icmp .le 7, 3) := by decide +kernel
theorem dM_transpose_23 : decode cM_transpose 23 = .ok (.iconst 1, 1) := by decide +kernel
theorem dM_transpose_24 : decode cM_transpose 24 = .ok (.goto 4, 3) := by decide +kernel
theorem dM_transpose_27 : decode cM_transpose 27 = .ok (.iconst 0, 1) := by decide +kernel
theorem dM_transpose_28 : decode cM_transpose 28 = .ok (.invokevirtual 158, 3) := by decide +kernel
theorem dM_transpose_31 : decode cM_transpose 31 = .ok (.ifCond .eq 5, 3) := by decide +kernel
theorem dM_transpose_34 : decode cM_transpose 34 = .ok (.iconst 0, 1) := by decide +kernel
theorem dM_transpose_35 : decode cM_transpose 35 = .ok (.ireturn, 1) := by decide +kernel
theorem dM_transpose_36 : decode cM_transpose 36 = .ok (.iconst 0, 1) := by decide +kernel
theorem dM_transpose_37 : decode cM_transpose 37 = .ok (.istore_n 3, 1) := by decide +kernel
theorem dM_transpose_38 : decode cM_transpose 38 = .ok (.iconst 1, 1) := by decide +kernel
theorem dM_transpose_39 : decode cM_transpose 39 = .ok (.istore 4, 2) := by decide +kernel
theorem dM_transpose_41 : decode cM_transpose 41 = .ok (.iconst 0, 1) := by decide +kernel
theorem dM_transpose_42 : decode cM_transpose 42 = .ok (.istore 5, 2) := by decide +kernel
theorem dM_transpose_44 : decode cM_transpose 44 = .ok (.iload 5, 2) := by decide +kernel
theorem dM_transpose_46 : decode cM_transpose 46 = .ok (.aload_n 0, 1) := by decide +kernel
theorem dM_transpose_47 : decode cM_transpose 47 = .ok (.getfield 95, 3) := by decide +kernel
theorem dM_transpose_50 : decode cM_transpose 50 = .ok (.if_icmp .ge 71, 3) := by decide +kernel
theorem dM_transpose_53 : decode cM_transpose 53 = .ok (.aload_n 0, 1) := by decide +kernel
theorem dM_transpose_54 : decode cM_transpose 54 = .ok (.iload 5, 2) := by decide +kernel
theorem dM_transpose_56 : decode cM_transpose 56 = .ok (.iload_n 1, 1) := by decide +kernel
theorem dM_transpose_57 : decode cM_transpose 57 = .ok (.invokevirtual 175, 3) := by decide +kernel
theorem dM_transpose_60 : decode cM_transpose 60 = .ok (.ifCond .ne 6, 3) := by decide +kernel
theorem dM_transpose_63 : decode cM_transpose 63 = .ok (.goto 52, 3) := by decide +kernel
theorem dM_transpose_66 : decode cM_transpose 66 = .ok (.iinc 3 1, 3) := by decide +kernel
theorem dM_transpose_69 : decode cM_transpose 69 = .ok (.iload 4, 2) := by decide +kernel
theorem dM_transpose_71 : decode cM_transpose 71 = .ok (.ifCond .eq 41, 3) := by decide +kernel
theorem dM_transpose_74 : decode cM_transpose 74 = .ok (.aload_n 0, 1) := by decide +kernel
theorem dM_transpose_75 : decode cM_transpose 75 = .ok (.getfield 22, 3) := by decide +kernel
theorem dM_transpose_78 : decode cM_transpose 78 = .ok (.iload 5, 2) := by decide +kernel
theorem dM_transpose_80 : decode cM_transpose 80 = .ok (.iaload, 1) := by decide +kernel
theorem dM_transpose_81 : decode cM_transpose 81 = .ok (.i2l, 1) := by decide +kernel
theorem dM_transpose_82 : decode cM_transpose 82 = .ok (.iload_n 2, 1) := by decide +kernel
theorem dM_transpose_83 : decode cM_transpose 83 = .ok (.i2l, 1) := by decide +kernel
theorem dM_transpose_84 : decode cM_transpose 84 = .ok (.ladd, 1) := by decide +kernel
theorem dM_transpose_85 : decode cM_transpose 85 = .ok (.lconst 0, 1) := by decide +kernel
theorem dM_transpose_86 : decode cM_transpose 86 = .ok (.lcmp, 1) := by decide +kernel
theorem dM_transpose_87 : decode cM_transpose 87 = .ok (.ifCond .lt 25, 3) := by decide +kernel
theorem dM_transpose_90 : decode cM_transpose 90 = .ok (.aload_n 0, 1) := by decide +kernel
theorem dM_transpose_91 : decode cM_transpose 91 = .ok (.getfield 22, 3) := by decide +kernel
theorem dM_transpose_94 : decode cM_transpose 94 = .ok (.iload 5, 2) := by decide +kernel
theorem dM_transpose_96 : decode cM_transpose 96 = .ok (.iaload, 1) := by decide +kernel
theorem dM_transpose_97 : decode cM_transpose 97 = .ok (.i2l, 1) := by decide +kernel
theorem dM_transpose_98 : decode cM_transpose 98 = .ok (.iload_n 2, 1) := by decide +kernel
theorem dM_transpose_99 : decode cM_transpose 99 = .ok (.i2l, 1) := by decide +kernel
theorem dM_transpose_100 : decode cM_transpose 100 = .ok (.ladd, 1) := by decide +kernel
theorem dM_transpose_101 : decode cM_transpose 101 = .ok (.ldc2_w 178, 3) := by decide +kernel
theorem dM_transpose_104 : decode cM_transpose 104 = .ok (.lcmp, 1) := by decide +kernel
theorem dM_transpose_105 : decode cM_transpose 105 = .ok (.ifCond .ge 7, 3) := by decide +kernel
theorem dM_transpose_108 : decode cM_transpose 108 = .ok (.iconst 1, 1) := by decide +kernel
theorem dM_transpose_109 : decode cM_transpose 109 = .ok (.goto 4, 3) := by decide +kernel
theorem dM_transpose_112 : decode cM_transpose 112 = .ok (.iconst 0, 1) := by decide +kernel
theorem dM_transpose_113 : decode cM_transpose 113 = .ok (.istore 4, 2) := by decide +kernel
theorem dM_transpose_115 : decode cM_transpose 115 = .ok (.iinc 5 1, 3) := by decide +kernel
theorem dM_transpose_118 : decode cM_transpose 118 = .ok (.goto (-74), 3) := by decide +kernel
theorem dM_transpose_121 : decode cM_transpose 121 = .ok (.iconst 0, 1) := by decide +kernel
theorem dM_transpose_122 : decode cM_transpose 122 = .ok (.istore 5, 2) := by decide +kernel
theorem dM_transpose_124 : decode cM_transpose 124 = .ok (.iload 5, 2) := by decide +kernel
theorem dM_transpose_126 : decode cM_transpose 126 = .ok (.aload_n 0, 1) := by decide +kernel
theorem dM_transpose_127 : decode cM_transpose 127 = .ok (.getfield 95, 3) := by decide +kernel
theorem dM_transpose_130 : decode cM_transpose 130 = .ok (.if_icmp .ge 39, 3) := by decide +kernel
theorem dM_transpose_133 : decode cM_transpose 133 = .ok (.iload 4, 2) := by decide +kernel
theorem dM_transpose_135 : decode cM_transpose 135 = .ok (.ifCond .eq 34, 3) := by decide +kernel
theorem dM_transpose_138 : decode cM_transpose 138 = .ok (.aload_n 0, 1) := by decide +kernel
theorem dM_transpose_139 : decode cM_transpose 139 = .ok (.getfield 22, 3) := by decide +kernel
theorem dM_transpose_142 : decode cM_transpose 142 = .ok (.iload 5, 2) := by decide +kernel
theorem dM_transpose_144 : decode cM_transpose 144 = .ok (.dup2, 1) := by decide +kernel
theorem dM_transpose_145 : decode cM_transpose 145 = .ok (.iaload, 1) := by decide +kernel
theorem dM_transpose_146 : decode cM_transpose 146 = .ok (.aload_n 0, 1) := by decide +kernel
theorem dM_transpose_147 : decode cM_transpose 147 = .ok (.iload 5, 2) := by decide +kernel
theorem dM_transpose_149 : decode cM_transpose 149 = .ok (.iload_n 1, 1) := by decide +kernel
theorem dM_transpose_150 : decode cM_transpose 150 = .ok (.invokevirtual 175, 3) := by decide +kernel
theorem dM_transpose_153 : decode cM_transpose 153 = .ok (.ifCond .eq 7, 3) := by decide +kernel
theorem dM_transpose_156 : decode cM_transpose 156 = .ok (.iload_n 2, 1) := by decide +kernel
theorem dM_transpose_157 : decode cM_transpose 157 = .ok (.goto 4, 3) := by decide +kernel
theorem dM_transpose_160 : decode cM_transpose 160 = .ok (.iconst 0, 1) := by decide +kernel
theorem dM_transpose_161 : decode cM_transpose 161 = .ok (.iadd, 1) := by decide +kernel
theorem dM_transpose_162 : decode cM_transpose 162 = .ok (.iastore, 1) := by decide +kernel
theorem dM_transpose_163 : decode cM_transpose 163 = .ok (.iinc 5 1, 3) := by decide +kernel
theorem dM_transpose_166 : decode cM_transpose 166 = .ok (.goto (-42), 3) := by decide +kernel
theorem dM_transpose_169 : decode cM_transpose 169 = .ok (.iload 4, 2) := by decide +kernel
theorem dM_transpose_171 : decode cM_transpose 171 = .ok (.ifCond .eq 7, 3) := by decide +kernel
theorem dM_transpose_174 : decode cM_transpose 174 = .ok (.iload_n 3, 1) := by decide +kernel
theorem dM_transpose_175 : decode cM_transpose 175 = .ok (.goto 4, 3) := by decide +kernel
theorem dM_transpose_178 : decode cM_transpose 178 = .ok (.iconst (-1), 1) := by decide +kernel
theorem dM_transpose_179 : decode cM_transpose 179 = .ok (.ireturn, 1) := by decide +kernel
def jM_transpose_115 (K44 : (Nat → Int32) → (Nat → Nat → Int32) → Int32 → Int32 → Int32 → Int32 → Int32 → Option (Int32 × (Nat → Int32) × (Nat → Nat → Int32))) (iv : Nat → Int32) (av : Nat → Nat → Int32) (x1 : Int32) (x2 : Int32) (x3 : Int32) (x4 : Int32) (x5 : Int32) : Option (Int32 × (Nat → Int32) × (Nat → Nat → Int32)) := K44 iv av x1 x2 x3 x4 (x5 + 1)
def jM_transpose_113 (K44 : (Nat → Int32) → (Nat → Nat → Int32) → Int32 → Int32 → Int32 → Int32 → Int32 → Option (Int32 × (Nat → Int32) × (Nat → Nat → Int32))) (iv : Nat → Int32) (av : Nat → Nat → Int32) (x1 : Int32) (x2 : Int32) (x3 : Int32) (x5 : Int32) (s0 : Int32) : Option (Int32 × (Nat → Int32) × (Nat → Nat → Int32)) := jM_transpose_115 K44 iv av x1 x2 x3 s0 x5
def jM_transpose_112 (K44 : (Nat → Int32) → (Nat → Nat → Int32) → Int32 → Int32 → Int32 → Int32 → Int32 → Option (Int32 × (Nat → Int32) × (Nat → Nat → Int32))) (iv : Nat → Int32) (av : Nat → Nat → Int32) (x1 : Int32) (x2 : Int32) (x3 : Int32) (x5 : Int32) : Option (Int32 × (Nat → Int32) × (Nat → Nat → Int32)) := jM_transpose_113 K44 iv av x1 x2 x3 x5 (0 : Int32)
def jM_transpose_161 (K124 : (Nat → Int32) → (Nat → Nat → Int32) → Int32 → Int32 → Int32 → Int32 → Int32 → Option (Int32 × (Nat → Int32) × (Nat → Nat → Int32))) (iv : Nat → Int32) (av : Nat → Nat → Int32) (x1 : Int32) (x2 : Int32) (x3 : Int32) (x4 : Int32) (x5 : Int32) (s1 : Int32) (s2 : Int32) (s3 : Int32) : Option (Int32 × (Nat → Int32) × (Nat → Nat → Int32)) := if s1 < 0 ∨ 1001 ≤ s1.toNatClampNeg then none else (K124 iv (up2 av 4 s1.toNatClampNeg (s2 + s3)) x1 x2 x3 x4 (x5 + 1))
def jM_transpose_169 (iv : Nat → Int32) (av : Nat → Nat → Int32) (x3 : Int32) (x4 : Int32) : Option (Int32 × (Nat → Int32) × (Nat → Nat → Int32)) := if x4 = 0 then (some ((-1 : Int32), iv, av)) else (some (x3, iv, av))
def lM_transpose_124 : Nat → (Nat → Int32) → (Nat → Nat → Int32) → Int32 → Int32 → Int32 → Int32 → Int32 → Option (Int32 × (Nat → Int32) × (Nat → Nat → Int32))
  | 0 => fun _ _ _ _ _ _ _ => none
  | k + 1 => fun iv av x1 x2 x3 x4 x5 => if (iv 10) ≤ x5 then (jM_transpose_169 iv av x3 x4) else (if x4 = 0 then (jM_transpose_169 iv av x3 x4) else (if x5 < 0 ∨ 1001 ≤ x5.toNatClampNeg then none else ((fM_isNote iv av x5 x1).bind fun (r4, iv4, av4) => if r4 = 0 then (jM_transpose_161 (lM_transpose_124 k) iv4 av4 x1 x2 x3 x4 x5 x5 (av 4 x5.toNatClampNeg) (0 : Int32)) else (jM_transpose_161 (lM_transpose_124 k) iv4 av4 x1 x2 x3 x4 x5 x5 (av 4 x5.toNatClampNeg) x2))))
def lM_transpose_44 : Nat → (Nat → Int32) → (Nat → Nat → Int32) → Int32 → Int32 → Int32 → Int32 → Int32 → Option (Int32 × (Nat → Int32) × (Nat → Nat → Int32))
  | 0 => fun _ _ _ _ _ _ _ => none
  | k + 1 => fun iv av x1 x2 x3 x4 x5 => if (iv 10) ≤ x5 then (lM_transpose_124 FU iv av x1 x2 x3 x4 (0 : Int32)) else ((fM_isNote iv av x5 x1).bind fun (r2, iv2, av2) => if r2 = 0 then (jM_transpose_115 (lM_transpose_44 k) iv2 av2 x1 x2 x3 x4 x5) else (if x4 = 0 then (jM_transpose_112 (lM_transpose_44 k) iv2 av2 x1 x2 (x3 + 1) x5) else (if x5 < 0 ∨ 1001 ≤ x5.toNatClampNeg then none else (if (lg_cmp (((av2 4 x5.toNatClampNeg).toInt64) + x2.toInt64) (0 : Int64)) < 0 then (jM_transpose_112 (lM_transpose_44 k) iv2 av2 x1 x2 (x3 + 1) x5) else (if x5 < 0 ∨ 1001 ≤ x5.toNatClampNeg then none else (if 0 ≤ (lg_cmp (((av2 4 x5.toNatClampNeg).toInt64) + x2.toInt64) (128 : Int64)) then (jM_transpose_112 (lM_transpose_44 k) iv2 av2 x1 x2 (x3 + 1) x5) else (jM_transpose_113 (lM_transpose_44 k) iv2 av2 x1 x2 (x3 + 1) x5 (1 : Int32))))))))
def jM_transpose_28 (iv : Nat → Int32) (av : Nat → Nat → Int32) (x1 : Int32) (x2 : Int32) (s1 : Int32) (s2 : Int32) : Option (Int32 × (Nat → Int32) × (Nat → Nat → Int32)) := (fM_fails iv av s1 s2).bind fun (r1, iv1, av1) => if r1 = 0 then (lM_transpose_44 FU iv1 av1 x1 x2 (0 : Int32) (1 : Int32) (0 : Int32)) else (some ((0 : Int32), iv1, av1))
def jM_transpose_23 (iv : Nat → Int32) (av : Nat → Nat → Int32) (x1 : Int32) (x2 : Int32) (s1 : Int32) : Option (Int32 × (Nat → Int32) × (Nat → Nat → Int32)) := jM_transpose_28 iv av x1 x2 s1 (1 : Int32)
def jM_transpose_13 (iv : Nat → Int32) (av : Nat → Nat → Int32) (x1 : Int32) (x2 : Int32) (s1 : Int32) : Option (Int32 × (Nat → Int32) × (Nat → Nat → Int32)) := if x1 < 0 then (jM_transpose_23 iv av x1 x2 s1) else (if x1 ≤ (16 : Int32) then (jM_transpose_28 iv av x1 x2 s1 (0 : Int32)) else (jM_transpose_23 iv av x1 x2 s1))
def fM_transpose (iv : Nat → Int32) (av : Nat → Nat → Int32) (x1 : Int32) (x2 : Int32) : Option (Int32 × (Nat → Int32) × (Nat → Nat → Int32)) := if (iv 6) = 0 then (jM_transpose_13 iv av x1 x2 (1 : Int32)) else (jM_transpose_13 iv av x1 x2 (0 : Int32))
set_option maxHeartbeats 4000000 in
set_option maxRecDepth 100000 in
theorem wM_transpose_115 {p : Program} {l : Launch} {e : Env} {s : State} {m : MethodId} {args : Array Value} {below : List Frame} {meth : Method} {c : Code} {g : gT} {q : Nat} {ad : Nat → Nat} {X : va_W} {rv : Option Value} {iv' : Nat → Int32} {av' : Nat → Nat → Int32} {r' : Int32} (C : mCx p m c cM_transpose 6 s args g "MidiDeskModel") (hr : meth.sig.returnType = (some .int)) (hlk : meth.locks = false) (hrv : rv = some (.int r')) {K44 : (Nat → Int32) → (Nat → Nat → Int32) → Int32 → Int32 → Int32 → Int32 → Int32 → Option (Int32 × (Nat → Int32) × (Nat → Nat → Int32))} (hK44 : ∀ (iv : Nat → Int32) (av : Nat → Nat → Int32) (x1 : Int32) (x2 : Int32) (x3 : Int32) (x4 : Int32) (x5 : Int32) (H : Heap) (locs : List Loc) (ls : Array Slot), lv_has ls 6 [(0, .ref q), (1, .int x1), (2, .int x2), (3, .int x3), (4, .int x4), (5, .int x5)] → mWd g (mA g q ad X s.heap.size) s.heap q ad X iv av H locs → K44 iv av x1 x2 x3 x4 x5 = some (r', iv', av') → mG p l e rM_transpose s m args below meth c g q ad X rv iv' av' H locs 0 0 (F0 m 44 ls [])) (iv : Nat → Int32) (av : Nat → Nat → Int32) (x1 : Int32) (x2 : Int32) (x3 : Int32) (x4 : Int32) (x5 : Int32) (H : Heap) (locs : List Loc) (ls : Array Slot) (hl : lv_has ls 6 [(0, .ref q), (1, .int x1), (2, .int x2), (3, .int x3), (4, .int x4), (5, .int x5)]) (hw : mWd g (mA g q ad X s.heap.size) s.heap q ad X iv av H locs) (hf : jM_transpose_115 K44 iv av x1 x2 x3 x4 x5 = some (r', iv', av')) : mG p l e rM_transpose s m args below meth c g q ad X rv iv' av' H locs 0 0 (F0 m 115 ls []) := by
  unfold jM_transpose_115 at hf
  refine lv_iinc (v := x5 + 1) (lv' := [(5, .int (x5 + 1)), (0, .ref q), (1, .int x1), (2, .int x2), (3, .int x3), (4, .int x4)]) C.1.1 C.1.2.1 dM_transpose_115 hl (k := 5) rfl rfl (by decide) rfl (fun ls hl => ?_)
  refine lv_goto (tgt := 44) C.1.1 C.1.2.1 dM_transpose_118 (by decide) ?_
  exact hK44 iv av x1 x2 x3 x4 (x5 + 1) _ _ ls (lv_sub hl [1, 2, 3, 4, 5, 0] rfl) hw hf
set_option maxHeartbeats 4000000 in
set_option maxRecDepth 100000 in
theorem wM_transpose_113 {p : Program} {l : Launch} {e : Env} {s : State} {m : MethodId} {args : Array Value} {below : List Frame} {meth : Method} {c : Code} {g : gT} {q : Nat} {ad : Nat → Nat} {X : va_W} {rv : Option Value} {iv' : Nat → Int32} {av' : Nat → Nat → Int32} {r' : Int32} (C : mCx p m c cM_transpose 6 s args g "MidiDeskModel") (hr : meth.sig.returnType = (some .int)) (hlk : meth.locks = false) (hrv : rv = some (.int r')) {K44 : (Nat → Int32) → (Nat → Nat → Int32) → Int32 → Int32 → Int32 → Int32 → Int32 → Option (Int32 × (Nat → Int32) × (Nat → Nat → Int32))} (hK44 : ∀ (iv : Nat → Int32) (av : Nat → Nat → Int32) (x1 : Int32) (x2 : Int32) (x3 : Int32) (x4 : Int32) (x5 : Int32) (H : Heap) (locs : List Loc) (ls : Array Slot), lv_has ls 6 [(0, .ref q), (1, .int x1), (2, .int x2), (3, .int x3), (4, .int x4), (5, .int x5)] → mWd g (mA g q ad X s.heap.size) s.heap q ad X iv av H locs → K44 iv av x1 x2 x3 x4 x5 = some (r', iv', av') → mG p l e rM_transpose s m args below meth c g q ad X rv iv' av' H locs 0 0 (F0 m 44 ls [])) (iv : Nat → Int32) (av : Nat → Nat → Int32) (x1 : Int32) (x2 : Int32) (x3 : Int32) (x5 : Int32) (s0 : Int32) (H : Heap) (locs : List Loc) (ls : Array Slot) (hl : lv_has ls 6 [(0, .ref q), (1, .int x1), (2, .int x2), (3, .int x3), (5, .int x5)]) (hw : mWd g (mA g q ad X s.heap.size) s.heap q ad X iv av H locs) (hf : jM_transpose_113 K44 iv av x1 x2 x3 x5 s0 = some (r', iv', av')) : mG p l e rM_transpose s m args below meth c g q ad X rv iv' av' H locs 0 0 (F0 m 113 ls [.int s0]) := by
  unfold jM_transpose_113 at hf
  refine lv_istore (lv' := [(4, .int s0), (0, .ref q), (1, .int x1), (2, .int x2), (3, .int x3), (5, .int x5)]) C.1.1 C.1.2.1 dM_transpose_113 hl (by decide) rfl (fun ls hl => ?_)
  exact wM_transpose_115 C hr hlk hrv hK44 iv av x1 x2 x3 s0 x5 _ _ ls (lv_sub hl [1, 2, 3, 4, 0, 5] rfl) hw hf
set_option maxHeartbeats 4000000 in
set_option maxRecDepth 100000 in
theorem wM_transpose_112 {p : Program} {l : Launch} {e : Env} {s : State} {m : MethodId} {args : Array Value} {below : List Frame} {meth : Method} {c : Code} {g : gT} {q : Nat} {ad : Nat → Nat} {X : va_W} {rv : Option Value} {iv' : Nat → Int32} {av' : Nat → Nat → Int32} {r' : Int32} (C : mCx p m c cM_transpose 6 s args g "MidiDeskModel") (hr : meth.sig.returnType = (some .int)) (hlk : meth.locks = false) (hrv : rv = some (.int r')) {K44 : (Nat → Int32) → (Nat → Nat → Int32) → Int32 → Int32 → Int32 → Int32 → Int32 → Option (Int32 × (Nat → Int32) × (Nat → Nat → Int32))} (hK44 : ∀ (iv : Nat → Int32) (av : Nat → Nat → Int32) (x1 : Int32) (x2 : Int32) (x3 : Int32) (x4 : Int32) (x5 : Int32) (H : Heap) (locs : List Loc) (ls : Array Slot), lv_has ls 6 [(0, .ref q), (1, .int x1), (2, .int x2), (3, .int x3), (4, .int x4), (5, .int x5)] → mWd g (mA g q ad X s.heap.size) s.heap q ad X iv av H locs → K44 iv av x1 x2 x3 x4 x5 = some (r', iv', av') → mG p l e rM_transpose s m args below meth c g q ad X rv iv' av' H locs 0 0 (F0 m 44 ls [])) (iv : Nat → Int32) (av : Nat → Nat → Int32) (x1 : Int32) (x2 : Int32) (x3 : Int32) (x5 : Int32) (H : Heap) (locs : List Loc) (ls : Array Slot) (hl : lv_has ls 6 [(0, .ref q), (1, .int x1), (2, .int x2), (3, .int x3), (5, .int x5)]) (hw : mWd g (mA g q ad X s.heap.size) s.heap q ad X iv av H locs) (hf : jM_transpose_112 K44 iv av x1 x2 x3 x5 = some (r', iv', av')) : mG p l e rM_transpose s m args below meth c g q ad X rv iv' av' H locs 0 0 (F0 m 112 ls []) := by
  unfold jM_transpose_112 at hf
  refine lv_iconst (v := (0 : Int32)) C.1.1 C.1.2.1 dM_transpose_112 (by decide) ?_
  exact wM_transpose_113 C hr hlk hrv hK44 iv av x1 x2 x3 x5 (0 : Int32) _ _ ls (lv_sub hl [0, 1, 2, 3, 4] rfl) hw hf
set_option maxHeartbeats 4000000 in
set_option maxRecDepth 100000 in
theorem wM_transpose_161 {p : Program} {l : Launch} {e : Env} {s : State} {m : MethodId} {args : Array Value} {below : List Frame} {meth : Method} {c : Code} {g : gT} {q : Nat} {ad : Nat → Nat} {X : va_W} {rv : Option Value} {iv' : Nat → Int32} {av' : Nat → Nat → Int32} {r' : Int32} (C : mCx p m c cM_transpose 6 s args g "MidiDeskModel") (hr : meth.sig.returnType = (some .int)) (hlk : meth.locks = false) (hrv : rv = some (.int r')) {K124 : (Nat → Int32) → (Nat → Nat → Int32) → Int32 → Int32 → Int32 → Int32 → Int32 → Option (Int32 × (Nat → Int32) × (Nat → Nat → Int32))} (hK124 : ∀ (iv : Nat → Int32) (av : Nat → Nat → Int32) (x1 : Int32) (x2 : Int32) (x3 : Int32) (x4 : Int32) (x5 : Int32) (H : Heap) (locs : List Loc) (ls : Array Slot), lv_has ls 6 [(0, .ref q), (1, .int x1), (2, .int x2), (3, .int x3), (4, .int x4), (5, .int x5)] → mWd g (mA g q ad X s.heap.size) s.heap q ad X iv av H locs → K124 iv av x1 x2 x3 x4 x5 = some (r', iv', av') → mG p l e rM_transpose s m args below meth c g q ad X rv iv' av' H locs 0 0 (F0 m 124 ls [])) (iv : Nat → Int32) (av : Nat → Nat → Int32) (x1 : Int32) (x2 : Int32) (x3 : Int32) (x4 : Int32) (x5 : Int32) (s1 : Int32) (s2 : Int32) (s3 : Int32) (H : Heap) (locs : List Loc) (ls : Array Slot) (hl : lv_has ls 6 [(0, .ref q), (1, .int x1), (2, .int x2), (3, .int x3), (4, .int x4), (5, .int x5)]) (hw : mWd g (mA g q ad X s.heap.size) s.heap q ad X iv av H locs) (hf : jM_transpose_161 K124 iv av x1 x2 x3 x4 x5 s1 s2 s3 = some (r', iv', av')) : mG p l e rM_transpose s m args below meth c g q ad X rv iv' av' H locs 0 0 (F0 m 161 ls [.int s3, .int s2, .int s1, .ref (ad 4)]) := by
  unfold jM_transpose_161 at hf
  refine lv_iadd C.1.1 C.1.2.1 dM_transpose_161 ?_
  obtain ⟨h1, hf⟩ := ts_g hf
  refine ms_first C hw h1 dM_transpose_162 (fun H locs hw => ?_)
  refine lv_iinc (v := x5 + 1) (lv' := [(5, .int (x5 + 1)), (0, .ref q), (1, .int x1), (2, .int x2), (3, .int x3), (4, .int x4)]) C.1.1 C.1.2.1 dM_transpose_163 hl (k := 5) rfl rfl (by decide) rfl (fun ls hl => ?_)
  refine lv_goto (tgt := 124) C.1.1 C.1.2.1 dM_transpose_166 (by decide) ?_
  exact hK124 iv (up2 av 4 s1.toNatClampNeg (s2 + s3)) x1 x2 x3 x4 (x5 + 1) _ _ ls (lv_sub hl [1, 2, 3, 4, 5, 0] rfl) hw hf
set_option maxHeartbeats 4000000 in
set_option maxRecDepth 100000 in
theorem wM_transpose_169 {p : Program} {l : Launch} {e : Env} {s : State} {m : MethodId} {args : Array Value} {below : List Frame} {meth : Method} {c : Code} {g : gT} {q : Nat} {ad : Nat → Nat} {X : va_W} {rv : Option Value} {iv' : Nat → Int32} {av' : Nat → Nat → Int32} {r' : Int32} (C : mCx p m c cM_transpose 6 s args g "MidiDeskModel") (hr : meth.sig.returnType = (some .int)) (hlk : meth.locks = false) (hrv : rv = some (.int r')) (iv : Nat → Int32) (av : Nat → Nat → Int32) (x3 : Int32) (x4 : Int32) (H : Heap) (locs : List Loc) (ls : Array Slot) (hl : lv_has ls 6 [(0, .ref q), (3, .int x3), (4, .int x4)]) (hw : mWd g (mA g q ad X s.heap.size) s.heap q ad X iv av H locs) (hf : jM_transpose_169 iv av x3 x4 = some (r', iv', av')) : mG p l e rM_transpose s m args below meth c g q ad X rv iv' av' H locs 0 0 (F0 m 169 ls []) := by
  unfold jM_transpose_169 at hf
  refine lv_iload C.1.1 C.1.2.1 dM_transpose_169 (lv_at hl 2 rfl) ?_
  refine lv_if_eq (tgt := 178) C.1.1 C.1.2.1 dM_transpose_171 (by decide) (fun c1 => ?_) (fun c1 => ?_)
  · have hf := ts_t hf c1
    refine lv_iconst (v := (-1 : Int32)) C.1.1 C.1.2.1 dM_transpose_178 (by decide) ?_
    exact m_reti C hr hlk hrv hw hf ⟨Nat.le_of_ble_eq_true rfl, Nat.le_of_ble_eq_true rfl⟩ dM_transpose_179
  · have hf := ts_f hf c1
    refine lv_iload_n C.1.1 C.1.2.1 dM_transpose_174 rfl (lv_at hl 1 rfl) ?_
    refine lv_goto (tgt := 179) C.1.1 C.1.2.1 dM_transpose_175 (by decide) ?_
    exact m_reti C hr hlk hrv hw hf ⟨Nat.le_of_ble_eq_true rfl, Nat.le_of_ble_eq_true rfl⟩ dM_transpose_179
set_option maxHeartbeats 4000000 in
set_option maxRecDepth 100000 in
theorem wM_transpose_124 {p : Program} {l : Launch} {e : Env} {s : State} {m : MethodId} {args : Array Value} {below : List Frame} {meth : Method} {c : Code} {g : gT} {q : Nat} {ad : Nat → Nat} {X : va_W} {rv : Option Value} {iv' : Nat → Int32} {av' : Nat → Nat → Int32} {r' : Int32} (C : mCx p m c cM_transpose 6 s args g "MidiDeskModel") (hr : meth.sig.returnType = (some .int)) (hlk : meth.locks = false) (hrv : rv = some (.int r')) (k : Nat) : ∀ (iv : Nat → Int32) (av : Nat → Nat → Int32) (x1 : Int32) (x2 : Int32) (x3 : Int32) (x4 : Int32) (x5 : Int32) (H : Heap) (locs : List Loc) (ls : Array Slot), lv_has ls 6 [(0, .ref q), (1, .int x1), (2, .int x2), (3, .int x3), (4, .int x4), (5, .int x5)] → mWd g (mA g q ad X s.heap.size) s.heap q ad X iv av H locs → lM_transpose_124 k iv av x1 x2 x3 x4 x5 = some (r', iv', av') → mG p l e rM_transpose s m args below meth c g q ad X rv iv' av' H locs 0 0 (F0 m 124 ls []) := by
  induction k with
  | zero => intro iv av x1 x2 x3 x4 x5 H locs ls hl hw hf; cases hf
  | succ k ih =>
    intro iv av x1 x2 x3 x4 x5 H locs ls hl hw hf
    have hf : (if (iv 10) ≤ x5 then (jM_transpose_169 iv av x3 x4) else (if x4 = 0 then (jM_transpose_169 iv av x3 x4) else (if x5 < 0 ∨ 1001 ≤ x5.toNatClampNeg then none else ((fM_isNote iv av x5 x1).bind fun (r4, iv4, av4) => if r4 = 0 then (jM_transpose_161 (lM_transpose_124 k) iv4 av4 x1 x2 x3 x4 x5 x5 (av 4 x5.toNatClampNeg) (0 : Int32)) else (jM_transpose_161 (lM_transpose_124 k) iv4 av4 x1 x2 x3 x4 x5 x5 (av 4 x5.toNatClampNeg) x2))))) = some (r', iv', av') := hf
    refine lv_iload C.1.1 C.1.2.1 dM_transpose_124 (lv_at hl 5 rfl) ?_
    refine lv_aload_n C.1.1 C.1.2.1 dM_transpose_126 rfl (lv_at hl 0 rfl) ?_
    refine mg_events C hw dM_transpose_127 ?_
    refine lv_icmp_ge (tgt := 169) C.1.1 C.1.2.1 dM_transpose_130 (by decide) (fun c1 => ?_) (fun c1 => ?_)
    · have hf := ts_t hf c1
      exact wM_transpose_169 C hr hlk hrv iv av x3 x4 _ _ ls (lv_sub hl [0, 3, 4] rfl) hw hf
    · have hf := ts_f hf c1
      refine lv_iload C.1.1 C.1.2.1 dM_transpose_133 (lv_at hl 4 rfl) ?_
      refine lv_if_eq (tgt := 169) C.1.1 C.1.2.1 dM_transpose_135 (by decide) (fun c2 => ?_) (fun c2 => ?_)
      · have hf := ts_t hf c2
        exact wM_transpose_169 C hr hlk hrv iv av x3 x4 _ _ ls (lv_sub hl [0, 3, 4] rfl) hw hf
      · have hf := ts_f hf c2
        refine lv_aload_n C.1.1 C.1.2.1 dM_transpose_138 rfl (lv_at hl 0 rfl) ?_
        refine mg_first C hw dM_transpose_139 ?_
        refine lv_iload C.1.1 C.1.2.1 dM_transpose_142 (lv_at hl 5 rfl) ?_
        refine lv_dup2_11 C.1.1 C.1.2.1 dM_transpose_144 rfl rfl ?_
        obtain ⟨h3, hf⟩ := ts_g hf
        refine ma_first C hw h3 dM_transpose_145 ?_
        refine lv_aload_n C.1.1 C.1.2.1 dM_transpose_146 rfl (lv_at hl 0 rfl) ?_
        refine lv_iload C.1.1 C.1.2.1 dM_transpose_147 (lv_at hl 5 rfl) ?_
        refine lv_iload_n C.1.1 C.1.2.1 dM_transpose_149 rfl (lv_at hl 1 rfl) ?_
        obtain ⟨⟨r4, iv4, av4⟩, g4, hf⟩ := ts_b hf
        dsimp only at hf
        refine m_callV (rest := [.int (av 4 x5.toNatClampNeg), .int x5, .ref (ad 4)]) (As := [.int x5, .int x1]) (rv := (some (.int r4))) C hl.1 hw (cM_isNote_met g4) (callW_of (rm := rM_isNote) 2 C.1.2.2.2.2 gw_917 gw_919 gw_45 gw_55 gw_920 kM_isNote ⟨Nat.le_of_ble_eq_true rfl, Nat.le_of_ble_eq_true rfl⟩) rfl rfl (Nat.le_of_ble_eq_true rfl) dM_transpose_150 ⟨Nat.le_of_ble_eq_true rfl, Nat.le_of_ble_eq_true rfl⟩ (fun H locs hw => ?_)
        refine W.eq (g2 := F0 m 153 ls [.int r4, .int (av 4 x5.toNatClampNeg), .int x5, .ref (ad 4)]) rfl ?_
        refine lv_if_eq (tgt := 160) C.1.1 C.1.2.1 dM_transpose_153 (by decide) (fun c5 => ?_) (fun c5 => ?_)
        · have hf := ts_t hf c5
          refine lv_iconst (v := (0 : Int32)) C.1.1 C.1.2.1 dM_transpose_160 (by decide) ?_
          exact wM_transpose_161 C hr hlk hrv ih iv4 av4 x1 x2 x3 x4 x5 x5 (av 4 x5.toNatClampNeg) (0 : Int32) _ _ ls (lv_sub hl [0, 1, 2, 3, 4, 5] rfl) hw hf
        · have hf := ts_f hf c5
          refine lv_iload_n C.1.1 C.1.2.1 dM_transpose_156 rfl (lv_at hl 2 rfl) ?_
          refine lv_goto (tgt := 161) C.1.1 C.1.2.1 dM_transpose_157 (by decide) ?_
          exact wM_transpose_161 C hr hlk hrv ih iv4 av4 x1 x2 x3 x4 x5 x5 (av 4 x5.toNatClampNeg) x2 _ _ ls (lv_sub hl [0, 1, 2, 3, 4, 5] rfl) hw hf
set_option maxHeartbeats 4000000 in
set_option maxRecDepth 100000 in
theorem wM_transpose_44 {p : Program} {l : Launch} {e : Env} {s : State} {m : MethodId} {args : Array Value} {below : List Frame} {meth : Method} {c : Code} {g : gT} {q : Nat} {ad : Nat → Nat} {X : va_W} {rv : Option Value} {iv' : Nat → Int32} {av' : Nat → Nat → Int32} {r' : Int32} (C : mCx p m c cM_transpose 6 s args g "MidiDeskModel") (hr : meth.sig.returnType = (some .int)) (hlk : meth.locks = false) (hrv : rv = some (.int r')) (k : Nat) : ∀ (iv : Nat → Int32) (av : Nat → Nat → Int32) (x1 : Int32) (x2 : Int32) (x3 : Int32) (x4 : Int32) (x5 : Int32) (H : Heap) (locs : List Loc) (ls : Array Slot), lv_has ls 6 [(0, .ref q), (1, .int x1), (2, .int x2), (3, .int x3), (4, .int x4), (5, .int x5)] → mWd g (mA g q ad X s.heap.size) s.heap q ad X iv av H locs → lM_transpose_44 k iv av x1 x2 x3 x4 x5 = some (r', iv', av') → mG p l e rM_transpose s m args below meth c g q ad X rv iv' av' H locs 0 0 (F0 m 44 ls []) := by
  induction k with
  | zero => intro iv av x1 x2 x3 x4 x5 H locs ls hl hw hf; cases hf
  | succ k ih =>
    intro iv av x1 x2 x3 x4 x5 H locs ls hl hw hf
    have hf : (if (iv 10) ≤ x5 then (lM_transpose_124 FU iv av x1 x2 x3 x4 (0 : Int32)) else ((fM_isNote iv av x5 x1).bind fun (r2, iv2, av2) => if r2 = 0 then (jM_transpose_115 (lM_transpose_44 k) iv2 av2 x1 x2 x3 x4 x5) else (if x4 = 0 then (jM_transpose_112 (lM_transpose_44 k) iv2 av2 x1 x2 (x3 + 1) x5) else (if x5 < 0 ∨ 1001 ≤ x5.toNatClampNeg then none else (if (lg_cmp (((av2 4 x5.toNatClampNeg).toInt64) + x2.toInt64) (0 : Int64)) < 0 then (jM_transpose_112 (lM_transpose_44 k) iv2 av2 x1 x2 (x3 + 1) x5) else (if x5 < 0 ∨ 1001 ≤ x5.toNatClampNeg then none else (if 0 ≤ (lg_cmp (((av2 4 x5.toNatClampNeg).toInt64) + x2.toInt64) (128 : Int64)) then (jM_transpose_112 (lM_transpose_44 k) iv2 av2 x1 x2 (x3 + 1) x5) else (jM_transpose_113 (lM_transpose_44 k) iv2 av2 x1 x2 (x3 + 1) x5 (1 : Int32))))))))) = some (r', iv', av') := hf
    refine lv_iload C.1.1 C.1.2.1 dM_transpose_44 (lv_at hl 5 rfl) ?_
    refine lv_aload_n C.1.1 C.1.2.1 dM_transpose_46 rfl (lv_at hl 0 rfl) ?_
    refine mg_events C hw dM_transpose_47 ?_
    refine lv_icmp_ge (tgt := 121) C.1.1 C.1.2.1 dM_transpose_50 (by decide) (fun c1 => ?_) (fun c1 => ?_)
    · have hf := ts_t hf c1
      refine lv_iconst (v := (0 : Int32)) C.1.1 C.1.2.1 dM_transpose_121 (by decide) ?_
      refine lv_istore (lv' := [(5, .int (0 : Int32)), (0, .ref q), (1, .int x1), (2, .int x2), (3, .int x3), (4, .int x4)]) C.1.1 C.1.2.1 dM_transpose_122 hl (by decide) rfl (fun ls hl => ?_)
      exact wM_transpose_124 C hr hlk hrv FU iv av x1 x2 x3 x4 (0 : Int32) _ _ ls (lv_sub hl [1, 2, 3, 4, 5, 0] rfl) hw hf
    · have hf := ts_f hf c1
      refine lv_aload_n C.1.1 C.1.2.1 dM_transpose_53 rfl (lv_at hl 0 rfl) ?_
      refine lv_iload C.1.1 C.1.2.1 dM_transpose_54 (lv_at hl 5 rfl) ?_
      refine lv_iload_n C.1.1 C.1.2.1 dM_transpose_56 rfl (lv_at hl 1 rfl) ?_
      obtain ⟨⟨r2, iv2, av2⟩, g2, hf⟩ := ts_b hf
      dsimp only at hf
      refine m_callV (rest := []) (As := [.int x5, .int x1]) (rv := (some (.int r2))) C hl.1 hw (cM_isNote_met g2) (callW_of (rm := rM_isNote) 2 C.1.2.2.2.2 gw_917 gw_919 gw_45 gw_55 gw_920 kM_isNote ⟨Nat.le_of_ble_eq_true rfl, Nat.le_of_ble_eq_true rfl⟩) rfl rfl (Nat.le_of_ble_eq_true rfl) dM_transpose_57 ⟨Nat.le_of_ble_eq_true rfl, Nat.le_of_ble_eq_true rfl⟩ (fun H locs hw => ?_)
      refine W.eq (g2 := F0 m 60 ls [.int r2]) rfl ?_
      refine lv_if_ne (tgt := 66) C.1.1 C.1.2.1 dM_transpose_60 (by decide) (fun c3 => ?_) (fun c3 => ?_)
      · have hf := ts_f hf c3
        refine lv_iinc (v := x3 + 1) (lv' := [(3, .int (x3 + 1)), (0, .ref q), (1, .int x1), (2, .int x2), (4, .int x4), (5, .int x5)]) C.1.1 C.1.2.1 dM_transpose_66 hl (k := 3) rfl rfl (by decide) rfl (fun ls hl => ?_)
        refine lv_iload C.1.1 C.1.2.1 dM_transpose_69 (lv_at hl 4 rfl) ?_
        refine lv_if_eq (tgt := 112) C.1.1 C.1.2.1 dM_transpose_71 (by decide) (fun c4 => ?_) (fun c4 => ?_)
        · have hf := ts_t hf c4
          exact wM_transpose_112 C hr hlk hrv ih iv2 av2 x1 x2 (x3 + 1) x5 _ _ ls (lv_sub hl [1, 2, 3, 0, 5] rfl) hw hf
        · have hf := ts_f hf c4
          refine lv_aload_n C.1.1 C.1.2.1 dM_transpose_74 rfl (lv_at hl 1 rfl) ?_
          refine mg_first C hw dM_transpose_75 ?_
          refine lv_iload C.1.1 C.1.2.1 dM_transpose_78 (lv_at hl 5 rfl) ?_
          obtain ⟨h5, hf⟩ := ts_g hf
          refine ma_first C hw h5 dM_transpose_80 ?_
          refine lv_i2l C.1.1 C.1.2.1 dM_transpose_81 rfl ?_
          refine lv_iload_n C.1.1 C.1.2.1 dM_transpose_82 rfl (lv_at hl 3 rfl) ?_
          refine lv_i2l C.1.1 C.1.2.1 dM_transpose_83 rfl ?_
          refine lv_ladd C.1.1 C.1.2.1 dM_transpose_84 ?_
          refine lv_lconst (v := 0) C.1.1 C.1.2.1 dM_transpose_85 (by decide) ?_
          refine W.lcmp C.1.1 C.1.2.1 dM_transpose_86 ?_
          refine lv_if_lt (tgt := 112) C.1.1 C.1.2.1 dM_transpose_87 (by decide) (fun c6 => ?_) (fun c6 => ?_)
          · have hf := ts_t hf c6
            exact wM_transpose_112 C hr hlk hrv ih iv2 av2 x1 x2 (x3 + 1) x5 _ _ ls (lv_sub hl [1, 2, 3, 0, 5] rfl) hw hf
          · have hf := ts_f hf c6
            refine lv_aload_n C.1.1 C.1.2.1 dM_transpose_90 rfl (lv_at hl 1 rfl) ?_
            refine mg_first C hw dM_transpose_91 ?_
            refine lv_iload C.1.1 C.1.2.1 dM_transpose_94 (lv_at hl 5 rfl) ?_
            obtain ⟨h7, hf⟩ := ts_g hf
            refine ma_first C hw h7 dM_transpose_96 ?_
            refine lv_i2l C.1.1 C.1.2.1 dM_transpose_97 rfl ?_
            refine lv_iload_n C.1.1 C.1.2.1 dM_transpose_98 rfl (lv_at hl 3 rfl) ?_
            refine lv_i2l C.1.1 C.1.2.1 dM_transpose_99 rfl ?_
            refine lv_ladd C.1.1 C.1.2.1 dM_transpose_100 ?_
            refine lv_ldc2 C.1.1 C.1.2.1 C.1.2.2.2.1 (C.1.2.2.2.2 _ gw_921) dM_transpose_101 ?_
            refine W.lcmp C.1.1 C.1.2.1 dM_transpose_104 ?_
            refine lv_if_ge (tgt := 112) C.1.1 C.1.2.1 dM_transpose_105 (by decide) (fun c8 => ?_) (fun c8 => ?_)
            · have hf := ts_t hf c8
              exact wM_transpose_112 C hr hlk hrv ih iv2 av2 x1 x2 (x3 + 1) x5 _ _ ls (lv_sub hl [1, 2, 3, 0, 5] rfl) hw hf
            · have hf := ts_f hf c8
              refine lv_iconst (v := (1 : Int32)) C.1.1 C.1.2.1 dM_transpose_108 (by decide) ?_
              refine lv_goto (tgt := 113) C.1.1 C.1.2.1 dM_transpose_109 (by decide) ?_
              exact wM_transpose_113 C hr hlk hrv ih iv2 av2 x1 x2 (x3 + 1) x5 (1 : Int32) _ _ ls (lv_sub hl [1, 2, 3, 0, 5] rfl) hw hf
      · have hf := ts_t hf c3
        refine lv_goto (tgt := 115) C.1.1 C.1.2.1 dM_transpose_63 (by decide) ?_
        exact wM_transpose_115 C hr hlk hrv ih iv2 av2 x1 x2 x3 x4 x5 _ _ ls (lv_sub hl [0, 1, 2, 3, 4, 5] rfl) hw hf
set_option maxHeartbeats 4000000 in
set_option maxRecDepth 100000 in
theorem wM_transpose_28 {p : Program} {l : Launch} {e : Env} {s : State} {m : MethodId} {args : Array Value} {below : List Frame} {meth : Method} {c : Code} {g : gT} {q : Nat} {ad : Nat → Nat} {X : va_W} {rv : Option Value} {iv' : Nat → Int32} {av' : Nat → Nat → Int32} {r' : Int32} (C : mCx p m c cM_transpose 6 s args g "MidiDeskModel") (hr : meth.sig.returnType = (some .int)) (hlk : meth.locks = false) (hrv : rv = some (.int r')) (iv : Nat → Int32) (av : Nat → Nat → Int32) (x1 : Int32) (x2 : Int32) (s1 : Int32) (s2 : Int32) (H : Heap) (locs : List Loc) (ls : Array Slot) (hl : lv_has ls 6 [(0, .ref q), (1, .int x1), (2, .int x2)]) (hw : mWd g (mA g q ad X s.heap.size) s.heap q ad X iv av H locs) (hf : jM_transpose_28 iv av x1 x2 s1 s2 = some (r', iv', av')) : mG p l e rM_transpose s m args below meth c g q ad X rv iv' av' H locs 0 0 (F0 m 28 ls [.int s2, .int s1, .ref q]) := by
  unfold jM_transpose_28 at hf
  obtain ⟨⟨r1, iv1, av1⟩, g1, hf⟩ := ts_b hf
  dsimp only at hf
  refine m_callV (rest := []) (As := [.int s1, .int s2]) (rv := (some (.int r1))) C hl.1 hw (cM_fails_met g1) (callW_of (rm := rM_fails) 2 C.1.2.2.2.2 gw_877 gw_879 gw_39 gw_55 gw_880 kM_fails ⟨Nat.le_of_ble_eq_true rfl, Nat.le_of_ble_eq_true rfl⟩) rfl rfl (Nat.le_of_ble_eq_true rfl) dM_transpose_28 ⟨Nat.le_of_ble_eq_true rfl, Nat.le_of_ble_eq_true rfl⟩ (fun H locs hw => ?_)
  refine W.eq (g2 := F0 m 31 ls [.int r1]) rfl ?_
  refine lv_if_eq (tgt := 36) C.1.1 C.1.2.1 dM_transpose_31 (by decide) (fun c2 => ?_) (fun c2 => ?_)
  · have hf := ts_t hf c2
    refine lv_iconst (v := (0 : Int32)) C.1.1 C.1.2.1 dM_transpose_36 (by decide) ?_
    refine lv_istore_n (lv' := [(3, .int (0 : Int32)), (0, .ref q), (1, .int x1), (2, .int x2)]) C.1.1 C.1.2.1 dM_transpose_37 rfl hl (by decide) rfl (fun ls hl => ?_)
    refine lv_iconst (v := (1 : Int32)) C.1.1 C.1.2.1 dM_transpose_38 (by decide) ?_
    refine lv_istore (lv' := [(4, .int (1 : Int32)), (3, .int (0 : Int32)), (0, .ref q), (1, .int x1), (2, .int x2)]) C.1.1 C.1.2.1 dM_transpose_39 hl (by decide) rfl (fun ls hl => ?_)
    refine lv_iconst (v := (0 : Int32)) C.1.1 C.1.2.1 dM_transpose_41 (by decide) ?_
    refine lv_istore (lv' := [(5, .int (0 : Int32)), (4, .int (1 : Int32)), (3, .int (0 : Int32)), (0, .ref q), (1, .int x1), (2, .int x2)]) C.1.1 C.1.2.1 dM_transpose_42 hl (by decide) rfl (fun ls hl => ?_)
    exact wM_transpose_44 C hr hlk hrv FU iv1 av1 x1 x2 (0 : Int32) (1 : Int32) (0 : Int32) _ _ ls (lv_sub hl [3, 4, 5, 2, 1, 0] rfl) hw hf
  · have hf := ts_f hf c2
    refine lv_iconst (v := (0 : Int32)) C.1.1 C.1.2.1 dM_transpose_34 (by decide) ?_
    exact m_reti C hr hlk hrv hw hf ⟨Nat.le_of_ble_eq_true rfl, Nat.le_of_ble_eq_true rfl⟩ dM_transpose_35
set_option maxHeartbeats 4000000 in
set_option maxRecDepth 100000 in
theorem wM_transpose_23 {p : Program} {l : Launch} {e : Env} {s : State} {m : MethodId} {args : Array Value} {below : List Frame} {meth : Method} {c : Code} {g : gT} {q : Nat} {ad : Nat → Nat} {X : va_W} {rv : Option Value} {iv' : Nat → Int32} {av' : Nat → Nat → Int32} {r' : Int32} (C : mCx p m c cM_transpose 6 s args g "MidiDeskModel") (hr : meth.sig.returnType = (some .int)) (hlk : meth.locks = false) (hrv : rv = some (.int r')) (iv : Nat → Int32) (av : Nat → Nat → Int32) (x1 : Int32) (x2 : Int32) (s1 : Int32) (H : Heap) (locs : List Loc) (ls : Array Slot) (hl : lv_has ls 6 [(0, .ref q), (1, .int x1), (2, .int x2)]) (hw : mWd g (mA g q ad X s.heap.size) s.heap q ad X iv av H locs) (hf : jM_transpose_23 iv av x1 x2 s1 = some (r', iv', av')) : mG p l e rM_transpose s m args below meth c g q ad X rv iv' av' H locs 0 0 (F0 m 23 ls [.int s1, .ref q]) := by
  unfold jM_transpose_23 at hf
  refine lv_iconst (v := (1 : Int32)) C.1.1 C.1.2.1 dM_transpose_23 (by decide) ?_
  refine lv_goto (tgt := 28) C.1.1 C.1.2.1 dM_transpose_24 (by decide) ?_
  exact wM_transpose_28 C hr hlk hrv iv av x1 x2 s1 (1 : Int32) _ _ ls (lv_sub hl [0, 1, 2] rfl) hw hf
set_option maxHeartbeats 4000000 in
set_option maxRecDepth 100000 in
theorem wM_transpose_13 {p : Program} {l : Launch} {e : Env} {s : State} {m : MethodId} {args : Array Value} {below : List Frame} {meth : Method} {c : Code} {g : gT} {q : Nat} {ad : Nat → Nat} {X : va_W} {rv : Option Value} {iv' : Nat → Int32} {av' : Nat → Nat → Int32} {r' : Int32} (C : mCx p m c cM_transpose 6 s args g "MidiDeskModel") (hr : meth.sig.returnType = (some .int)) (hlk : meth.locks = false) (hrv : rv = some (.int r')) (iv : Nat → Int32) (av : Nat → Nat → Int32) (x1 : Int32) (x2 : Int32) (s1 : Int32) (H : Heap) (locs : List Loc) (ls : Array Slot) (hl : lv_has ls 6 [(0, .ref q), (1, .int x1), (2, .int x2)]) (hw : mWd g (mA g q ad X s.heap.size) s.heap q ad X iv av H locs) (hf : jM_transpose_13 iv av x1 x2 s1 = some (r', iv', av')) : mG p l e rM_transpose s m args below meth c g q ad X rv iv' av' H locs 0 0 (F0 m 13 ls [.int s1, .ref q]) := by
  unfold jM_transpose_13 at hf
  refine lv_iload_n C.1.1 C.1.2.1 dM_transpose_13 rfl (lv_at hl 1 rfl) ?_
  refine lv_if_lt (tgt := 23) C.1.1 C.1.2.1 dM_transpose_14 (by decide) (fun c1 => ?_) (fun c1 => ?_)
  · have hf := ts_t hf c1
    exact wM_transpose_23 C hr hlk hrv iv av x1 x2 s1 _ _ ls (lv_sub hl [0, 1, 2] rfl) hw hf
  · have hf := ts_f hf c1
    refine lv_iload_n C.1.1 C.1.2.1 dM_transpose_17 rfl (lv_at hl 1 rfl) ?_
    refine lv_bipush (v := (16 : Int32)) C.1.1 C.1.2.1 dM_transpose_18 (by decide) ?_
    refine lv_icmp_le (tgt := 27) C.1.1 C.1.2.1 dM_transpose_20 (by decide) (fun c2 => ?_) (fun c2 => ?_)
    · have hf := ts_t hf c2
      refine lv_iconst (v := (0 : Int32)) C.1.1 C.1.2.1 dM_transpose_27 (by decide) ?_
      exact wM_transpose_28 C hr hlk hrv iv av x1 x2 s1 (0 : Int32) _ _ ls (lv_sub hl [0, 1, 2] rfl) hw hf
    · have hf := ts_f hf c2
      exact wM_transpose_23 C hr hlk hrv iv av x1 x2 s1 _ _ ls (lv_sub hl [0, 1, 2] rfl) hw hf
set_option maxHeartbeats 4000000 in
set_option maxRecDepth 100000 in
theorem cM_transpose_met {l : Launch} {g : gT} {q : Nat} {ad : Nat → Nat} {X : va_W} {iv iv' : Nat → Int32} {av av' : Nat → Nat → Int32} {x1 : Int32} {x2 : Int32} {r' : Int32} (hf : fM_transpose iv av x1 x2 = some (r', iv', av')) : mMet l yM_transpose cM_transpose 6 (some .int) rM_transpose g q ad X iv av [.ref q, .int x1, .int x2] (some (.int r')) iv' av' := by
  refine m_entry (by decide) (Nat.le_of_ble_eq_true rfl) ?_
  intro p e s m args below meth c ls C hr hlk hnm hl hw
  have hrv : ((some (.int r')) : Option Value) = (some (.int r')) := rfl
  have C : mCx p m c cM_transpose 6 s args g "MidiDeskModel" := C
  have hl : lv_has ls 6 [(0, .ref q), (1, .int x1), (2, .int x2)] := hl
  unfold fM_transpose at hf
  refine lv_aload_n C.1.1 C.1.2.1 dM_transpose_0 rfl (lv_at hl 0 rfl) ?_
  refine lv_aload_n C.1.1 C.1.2.1 dM_transpose_1 rfl (lv_at hl 0 rfl) ?_
  refine mg_there C hw dM_transpose_2 ?_
  refine lv_if_ne (tgt := 12) C.1.1 C.1.2.1 dM_transpose_5 (by decide) (fun c1 => ?_) (fun c1 => ?_)
  · have hf := ts_f hf c1
    refine lv_iconst (v := (0 : Int32)) C.1.1 C.1.2.1 dM_transpose_12 (by decide) ?_
    exact wM_transpose_13 C hr hlk hrv iv av x1 x2 (0 : Int32) _ _ ls (lv_sub hl [0, 1, 2] rfl) hw hf
  · have hf := ts_t hf c1
    refine lv_iconst (v := (1 : Int32)) C.1.1 C.1.2.1 dM_transpose_8 (by decide) ?_
    refine lv_goto (tgt := 13) C.1.1 C.1.2.1 dM_transpose_9 (by decide) ?_
    exact wM_transpose_13 C hr hlk hrv iv av x1 x2 (1 : Int32) _ _ ls (lv_sub hl [0, 1, 2] rfl) hw hf
