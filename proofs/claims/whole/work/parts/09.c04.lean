abbrev cP_number : ByteArray := prog_4_method_5_code
abbrev yP_number : MethodName := ⟨"MidiDesk$Parser", "number", "()I"⟩
theorem kP_number : yP_number.cls ≠ "java/lang/invoke/MethodHandle" ∧ yP_number.cls ≠ "java/lang/invoke/VarHandle" ∧ (parseMethodDescriptor yP_number.desc).map (fun d => d.parameters.length) = some 0 := by decide +kernel
abbrev rP_number : Room := { frames := 2, cells := 0, slots := 0, locals := 47 }
theorem dP_number_0 : decode cP_number 0 = .ok (.aload_n 0, 1) := by decide +kernel
theorem dP_number_1 : decode cP_number 1 = .ok (.getfield 40, 3) := by decide +kernel
theorem dP_number_4 : decode cP_number 4 = .ok (.istore_n 1, 1) := by decide +kernel
theorem dP_number_5 : decode cP_number 5 = .ok (.iconst 0, 1) := by decide +kernel
theorem dP_number_6 : decode cP_number 6 = .ok (.istore_n 2, 1) := by decide +kernel
theorem dP_number_7 : decode cP_number 7 = .ok (.iconst 0, 1) := by decide +kernel
theorem dP_number_8 : decode cP_number 8 = .ok (.istore_n 3, 1) := by decide +kernel
theorem dP_number_9 : decode cP_number 9 = .ok (.iload_n 3, 1) := by decide +kernel
theorem dP_number_10 : decode cP_number 10 = .ok (.iconst 4, 1) := by decide +kernel
theorem dP_number_11 : decode cP_number 11 = .ok (.if_icmp .ge 47, 3) := by decide +kernel
theorem dP_number_14 : decode cP_number 14 = .ok (.aload_n 0, 1) := by decide +kernel
theorem dP_number_15 : decode cP_number 15 = .ok (.iconst 1, 1) := by decide +kernel
theorem dP_number_16 : decode cP_number 16 = .ok (.invokevirtual 73, 3) := by decide +kernel
theorem dP_number_19 : decode cP_number 19 = .ok (.l2i, 1) := by decide +kernel
theorem dP_number_20 : decode cP_number 20 = .ok (.istore 4, 2) := by decide +kernel
theorem dP_number_22 : decode cP_number 22 = .ok (.aload_n 0, 1) := by decide +kernel
theorem dP_number_23 : decode cP_number 23 = .ok (.getfield 37, 3) := by decide +kernel
theorem dP_number_26 : decode cP_number 26 = .ok (.ifCond .eq 5, 3) := by decide +kernel
theorem dP_number_29 : decode cP_number 29 = .ok (.iconst 0, 1) := by decide +kernel
theorem dP_number_30 : decode cP_number 30 = .ok (.ireturn, 1) := by decide +kernel
theorem dP_number_31 : decode cP_number 31 = .ok (.iload_n 2, 1) := by decide +kernel
theorem dP_number_32 : decode cP_number 32 = .ok (.bipush 7, 2) := by decide +kernel
theorem dP_number_34 : decode cP_number 34 = .ok (.ishl, 1) := by decide +kernel
theorem dP_number_35 : decode cP_number 35 = .ok (.iload 4, 2) := by decide +kernel
theorem dP_number_37 : decode cP_number 37 = .ok (.bipush 127, 2) := by decide +kernel
theorem dP_number_39 : decode cP_number 39 = .ok (.iand, 1) := by decide +kernel
theorem dP_number_40 : decode cP_number 40 = .ok (.ior, 1) := by decide +kernel
theorem dP_number_41 : decode cP_number 41 = .ok (.istore_n 2, 1) := by decide +kernel
theorem dP_number_42 : decode cP_number 42 = .ok (.iload 4, 2) := by decide +kernel
theorem dP_number_44 : decode cP_number 44 = .ok (.sipush 128, 3) := by decide +kernel
theorem dP_number_47 : decode cP_number 47 = .ok (.if_icmp .ge 5, 3) := by decide +kernel
theorem dP_number_50 : decode cP_number 50 = .ok (.iload_n 2, 1) := by decide +kernel
theorem dP_number_51 : decode cP_number 51 = .ok (.ireturn, 1) := by decide +kernel
theorem dP_number_52 : decode cP_number 52 = .ok (.iinc 3 1, 3) := by decide +kernel
theorem dP_number_55 : decode cP_number 55 = .ok (.goto (-46), 3) := by decide +kernel
theorem dP_number_58 : decode cP_number 58 = .ok (.aload_n 0, 1) := by decide +kernel
theorem dP_number_59 : decode cP_number 59 = .ok (.iconst 0, 1) := by decide +kernel
theorem dP_number_60 : decode cP_number 60 = .ok (.iconst 4, 1) := by decide +kernel
theorem dP_number_61 : decode cP_number 61 = .ok (.iload_n 1, 1) := by decide +kernel
theorem dP_number_62 : decode cP_number 62 = .ok (.invokevirtual 56, 3) := by decide +kernel
theorem dP_number_65 : decode cP_number 65 = .ok (.iconst 0, 1) := by decide +kernel
theorem dP_number_66 : decode cP_number 66 = .ok (.ireturn, 1) := by decide +kernel
def lP_number_9 (h : cH) : Nat → cZ → (Nat → Int32) → Int32 → Int32 → Int32 → Option (Int32 × cZ × (Nat → Int32))
  | 0 => fun _ _ _ _ _ => none
  | k + 1 => fun z pv x1 x2 x3 => if (4 : Int32) ≤ x3 then ((fP_expect h z pv (0 : Int32) (4 : Int32) x1).bind fun (z2, pv2) => some ((0 : Int32), z2, pv2)) else ((fP_fixed h z pv (1 : Int32)).bind fun (r3, z3, pv3) => if (pv3 2) = 0 then (if (128 : Int32) ≤ r3.toInt32 then (lP_number_9 h k z3 pv3 x1 ((x2 <<< ((7 : Int32) &&& 31)) ||| (r3.toInt32 &&& (127 : Int32))) (x3 + 1)) else (some ((x2 <<< ((7 : Int32) &&& 31)) ||| (r3.toInt32 &&& (127 : Int32)), z3, pv3))) else (some ((0 : Int32), z3, pv3)))
def fP_number (h : cH) (z : cZ) (pv : Nat → Int32) : Option (Int32 × cZ × (Nat → Int32)) := lP_number_9 h FU z pv (pv 0) (0 : Int32) (0 : Int32)
set_option maxHeartbeats 4000000 in
set_option maxRecDepth 100000 in
theorem wP_number_9 {p : Program} {l : Launch} {e : Env} {s : State} {m : MethodId} {args : Array Value} {below : List Frame} {meth : Method} {c : Code} {g : gT} {qq ad ea : Nat → Nat} {h : cH} {X : va_W} {rv : Option Value} {qp : Nat} {pv0 pv' : Nat → Int32} {z' : cZ} {r' : Int32} (C : mCx p m c cP_number 5 s args g "MidiDesk$Parser") (hr : meth.sig.returnType = (some .int)) (hlk : meth.locks = false) (hrv : rv = some (.int r')) (k : Nat) : ∀ (z : cZ) (pv : Nat → Int32) (x1 : Int32) (x2 : Int32) (x3 : Int32) (H : Heap) (locs : List Loc) (ls : Array Slot), lv_has ls 5 [(0, .ref qp), (1, .int x1), (2, .int x2), (3, .int x3)] → cWd g (cA g qq ad ea h (pcell qp qq pv0 :: X) s.heap.size) s.heap qq ad ea h (pcell qp qq pv :: X) z H locs → lP_number_9 h k z pv x1 x2 x3 = some (r', z', pv') → cG p l e rP_number s m args below meth c g qq ad ea h (pcell qp qq pv0 :: X) rv (pcell qp qq pv' :: X) z' H locs 0 0 (F0 m 9 ls []) := by
  induction k with
  | zero => intro z pv x1 x2 x3 H locs ls hl hw hf; cases hf
  | succ k ih =>
    intro z pv x1 x2 x3 H locs ls hl hw hf
    have hf : (if (4 : Int32) ≤ x3 then ((fP_expect h z pv (0 : Int32) (4 : Int32) x1).bind fun (z2, pv2) => some ((0 : Int32), z2, pv2)) else ((fP_fixed h z pv (1 : Int32)).bind fun (r3, z3, pv3) => if (pv3 2) = 0 then (if (128 : Int32) ≤ r3.toInt32 then (lP_number_9 h k z3 pv3 x1 ((x2 <<< ((7 : Int32) &&& 31)) ||| (r3.toInt32 &&& (127 : Int32))) (x3 + 1)) else (some ((x2 <<< ((7 : Int32) &&& 31)) ||| (r3.toInt32 &&& (127 : Int32)), z3, pv3))) else (some ((0 : Int32), z3, pv3)))) = some (r', z', pv') := hf
    refine lv_iload_n C.1.1 C.1.2.1 dP_number_9 rfl (lv_at hl 3 rfl) ?_
    refine lv_iconst (v := (4 : Int32)) C.1.1 C.1.2.1 dP_number_10 (by decide) ?_
    refine lv_icmp_ge (tgt := 58) C.1.1 C.1.2.1 dP_number_11 (by decide) (fun c1 => ?_) (fun c1 => ?_)
    · have hf := ts_t hf c1
      refine lv_aload_n C.1.1 C.1.2.1 dP_number_58 rfl (lv_at hl 0 rfl) ?_
      refine lv_iconst (v := (0 : Int32)) C.1.1 C.1.2.1 dP_number_59 (by decide) ?_
      refine lv_iconst (v := (4 : Int32)) C.1.1 C.1.2.1 dP_number_60 (by decide) ?_
      refine lv_iload_n C.1.1 C.1.2.1 dP_number_61 rfl (lv_at hl 1 rfl) ?_
      obtain ⟨⟨z2, pv2⟩, g2, hf⟩ := ts_b hf
      try dsimp only at hf
      refine c_callV (rest := []) (As := [.int (0 : Int32), .int (4 : Int32), .int x1]) (rv := none) (b := qp) C hl.1 hw (cP_expect_met g2) rfl (callW_of (rm := rP_expect) (C := "MidiDesk$Parser") 3 C.1.2.2.2.2 gw_250 gw_252 gw_2 gw_59 gw_253 kP_expect ⟨Nat.le_of_ble_eq_true rfl, Nat.le_of_ble_eq_true rfl⟩) (c_recvX (ci := 2) C.2 rfl hw) rfl rfl (Nat.le_of_ble_eq_true rfl) dP_number_62 ⟨Nat.le_of_ble_eq_true rfl, Nat.le_of_ble_eq_true rfl⟩ (fun H locs hw => ?_)
      refine W.eq (g2 := F0 m 65 ls []) rfl ?_
      refine lv_iconst (v := (0 : Int32)) C.1.1 C.1.2.1 dP_number_65 (by decide) ?_
      obtain ⟨hf, hpv⟩ := pr3 hf
      exact c_reti C hr hlk hrv hw hf (by rw [hpv]) ⟨Nat.le_of_ble_eq_true rfl, Nat.le_of_ble_eq_true rfl⟩ dP_number_66
    · have hf := ts_f hf c1
      refine lv_aload_n C.1.1 C.1.2.1 dP_number_14 rfl (lv_at hl 0 rfl) ?_
      refine lv_iconst (v := (1 : Int32)) C.1.1 C.1.2.1 dP_number_15 (by decide) ?_
      obtain ⟨⟨r3, z3, pv3⟩, g3, hf⟩ := ts_b hf
      try dsimp only at hf
      refine c_callV (rest := []) (As := [.int (1 : Int32)]) (rv := (some (.long r3))) (b := qp) C hl.1 hw (cP_fixed_met g3) rfl (callW_of (rm := rP_fixed) (C := "MidiDesk$Parser") 1 C.1.2.2.2.2 gw_246 gw_248 gw_1 gw_59 gw_249 kP_fixed ⟨Nat.le_of_ble_eq_true rfl, Nat.le_of_ble_eq_true rfl⟩) (c_recvX (ci := 2) C.2 rfl hw) rfl rfl (Nat.le_of_ble_eq_true rfl) dP_number_16 ⟨Nat.le_of_ble_eq_true rfl, Nat.le_of_ble_eq_true rfl⟩ (fun H locs hw => ?_)
      refine W.eq (g2 := F0 m 19 ls [.long r3]) rfl ?_
      refine lv_l2i C.1.1 C.1.2.1 dP_number_19 rfl ?_
      refine lv_istore (lv' := [(4, .int r3.toInt32), (0, .ref qp), (1, .int x1), (2, .int x2), (3, .int x3)]) C.1.1 C.1.2.1 dP_number_20 hl (by decide) rfl (fun ls hl => ?_)
      refine lv_aload_n C.1.1 C.1.2.1 dP_number_22 rfl (lv_at hl 1 rfl) ?_
      refine cg_Parser_Parser_fault C hw dP_number_23 ?_
      refine lv_if_eq (tgt := 31) C.1.1 C.1.2.1 dP_number_26 (by decide) (fun c4 => ?_) (fun c4 => ?_)
      · have hf := ts_t hf c4
        refine lv_iload_n C.1.1 C.1.2.1 dP_number_31 rfl (lv_at hl 3 rfl) ?_
        refine lv_bipush (v := (7 : Int32)) C.1.1 C.1.2.1 dP_number_32 (by decide) ?_
        refine lv_ishl C.1.1 C.1.2.1 dP_number_34 ?_
        refine lv_iload C.1.1 C.1.2.1 dP_number_35 (lv_at hl 0 rfl) ?_
        refine lv_bipush (v := (127 : Int32)) C.1.1 C.1.2.1 dP_number_37 (by decide) ?_
        refine lv_iand C.1.1 C.1.2.1 dP_number_39 ?_
        refine lv_ior C.1.1 C.1.2.1 dP_number_40 ?_
        refine lv_istore_n (lv' := [(2, .int ((x2 <<< ((7 : Int32) &&& 31)) ||| (r3.toInt32 &&& (127 : Int32)))), (4, .int r3.toInt32), (0, .ref qp), (1, .int x1), (3, .int x3)]) C.1.1 C.1.2.1 dP_number_41 rfl hl (by decide) rfl (fun ls hl => ?_)
        refine lv_iload C.1.1 C.1.2.1 dP_number_42 (lv_at hl 1 rfl) ?_
        refine lv_sipush (v := (128 : Int32)) C.1.1 C.1.2.1 dP_number_44 (by decide) ?_
        refine lv_icmp_ge (tgt := 52) C.1.1 C.1.2.1 dP_number_47 (by decide) (fun c5 => ?_) (fun c5 => ?_)
        · have hf := ts_t hf c5
          refine lv_iinc (v := x3 + 1) (lv' := [(3, .int (x3 + 1)), (2, .int ((x2 <<< ((7 : Int32) &&& 31)) ||| (r3.toInt32 &&& (127 : Int32)))), (4, .int r3.toInt32), (0, .ref qp), (1, .int x1)]) C.1.1 C.1.2.1 dP_number_52 hl (k := 4) rfl rfl (by decide) rfl (fun ls hl => ?_)
          refine lv_goto (tgt := 9) C.1.1 C.1.2.1 dP_number_55 (by decide) ?_
          exact ih z3 pv3 x1 ((x2 <<< ((7 : Int32) &&& 31)) ||| (r3.toInt32 &&& (127 : Int32))) (x3 + 1) _ _ ls (lv_sub hl [3, 4, 1, 0] rfl) hw hf
        · have hf := ts_f hf c5
          refine lv_iload_n C.1.1 C.1.2.1 dP_number_50 rfl (lv_at hl 0 rfl) ?_
          obtain ⟨hf, hpv⟩ := pr3 hf
          exact c_reti C hr hlk hrv hw hf (by rw [hpv]) ⟨Nat.le_of_ble_eq_true rfl, Nat.le_of_ble_eq_true rfl⟩ dP_number_51
      · have hf := ts_f hf c4
        refine lv_iconst (v := (0 : Int32)) C.1.1 C.1.2.1 dP_number_29 (by decide) ?_
        obtain ⟨hf, hpv⟩ := pr3 hf
        exact c_reti C hr hlk hrv hw hf (by rw [hpv]) ⟨Nat.le_of_ble_eq_true rfl, Nat.le_of_ble_eq_true rfl⟩ dP_number_30
set_option maxHeartbeats 4000000 in
set_option maxRecDepth 100000 in
theorem cP_number_met {l : Launch} {g : gT} {qq ad ea : Nat → Nat} {h : cH} {X : va_W} {qp : Nat} {pv pv' : Nat → Int32} {z z' : cZ} {r' : Int32} (hf : fP_number h z pv = some (r', z', pv')) : cMet l yP_number cP_number 5 (some .int) rP_number g qq ad ea h (pcell qp qq pv :: X) z [.ref qp] (some (.int r')) (pcell qp qq pv' :: X) z' := by
  refine c_entry (by decide) (Nat.le_of_ble_eq_true rfl) ?_
  intro p e s m args below meth c ls C hr hlk hnm hl hw
  have hrv : (some (.int r') : Option Value) = some (.int r') := rfl
  have C : mCx p m c cP_number 5 s args g "MidiDesk$Parser" := C
  have hl : lv_has ls 5 [(0, .ref qp)] := hl
  unfold fP_number at hf
  refine lv_aload_n C.1.1 C.1.2.1 dP_number_0 rfl (lv_at hl 0 rfl) ?_
  refine cg_Parser_Parser_pos C hw dP_number_1 ?_
  refine lv_istore_n (lv' := [(1, .int (pv 0)), (0, .ref qp)]) C.1.1 C.1.2.1 dP_number_4 rfl hl (by decide) rfl (fun ls hl => ?_)
  refine lv_iconst (v := (0 : Int32)) C.1.1 C.1.2.1 dP_number_5 (by decide) ?_
  refine lv_istore_n (lv' := [(2, .int (0 : Int32)), (1, .int (pv 0)), (0, .ref qp)]) C.1.1 C.1.2.1 dP_number_6 rfl hl (by decide) rfl (fun ls hl => ?_)
  refine lv_iconst (v := (0 : Int32)) C.1.1 C.1.2.1 dP_number_7 (by decide) ?_
  refine lv_istore_n (lv' := [(3, .int (0 : Int32)), (2, .int (0 : Int32)), (1, .int (pv 0)), (0, .ref qp)]) C.1.1 C.1.2.1 dP_number_8 rfl hl (by decide) rfl (fun ls hl => ?_)
  exact wP_number_9 C hr hlk hrv FU z pv (pv 0) (0 : Int32) (0 : Int32) _ _ ls (lv_sub hl [3, 2, 1, 0] rfl) hw hf
abbrev cP_lowByte : ByteArray := prog_4_method_6_code
abbrev yP_lowByte : MethodName := ⟨"MidiDesk$Parser", "lowByte", "()I"⟩
theorem kP_lowByte : yP_lowByte.cls ≠ "java/lang/invoke/MethodHandle" ∧ yP_lowByte.cls ≠ "java/lang/invoke/VarHandle" ∧ (parseMethodDescriptor yP_lowByte.desc).map (fun d => d.parameters.length) = some 0 := by decide +kernel
abbrev rP_lowByte : Room := { frames := 2, cells := 0, slots := 0, locals := 47 }
theorem dP_lowByte_0 : decode cP_lowByte 0 = .ok (.aload_n 0, 1) := by decide +kernel
theorem dP_lowByte_1 : decode cP_lowByte 1 = .ok (.getfield 40, 3) := by decide +kernel
theorem dP_lowByte_4 : decode cP_lowByte 4 = .ok (.istore_n 1, 1) := by decide +kernel
theorem dP_lowByte_5 : decode cP_lowByte 5 = .ok (.aload_n 0, 1) := by decide +kernel
theorem dP_lowByte_6 : decode cP_lowByte 6 = .ok (.iconst 1, 1) := by decide +kernel
theorem dP_lowByte_7 : decode cP_lowByte 7 = .ok (.invokevirtual 73, 3) := by decide +kernel
theorem dP_lowByte_10 : decode cP_lowByte 10 = .ok (.l2i, 1) := by decide +kernel
theorem dP_lowByte_11 : decode cP_lowByte 11 = .ok (.istore_n 2, 1) := by decide +kernel
theorem dP_lowByte_12 : decode cP_lowByte 12 = .ok (.aload_n 0, 1) := by decide +kernel
theorem dP_lowByte_13 : decode cP_lowByte 13 = .ok (.iload_n 2, 1) := by decide +kernel
theorem dP_lowByte_14 : decode cP_lowByte 14 = .ok (.sipush 128, 3) := by decide +kernel
theorem dP_lowByte_17 : decode cP_lowByte 17 = .ok (.if_icmp .ge 7, 3) := by decide +kernel
theorem dP_lowByte_20 : decode cP_lowByte 20 = .ok (.iconst 1, 1) := by decide +kernel
theorem dP_lowByte_21 : decode cP_lowByte 21 = .ok (.goto 4, 3) := by decide +kernel
theorem dP_lowByte_24 : decode cP_lowByte 24 = .ok (.iconst 0, 1) := by decide +kernel
theorem dP_lowByte_25 : decode cP_lowByte 25 = .ok (.bipush 6, 2) := by decide +kernel
theorem dP_lowByte_27 : decode cP_lowByte 27 = .ok (.iload_n 1, 1) := by decide +kernel
theorem dP_lowByte_28 : decode cP_lowByte 28 = .ok (.invokevirtual 56, 3) := by decide +kernel
theorem dP_lowByte_31 : decode cP_lowByte 31 = .ok (.iload_n 2, 1) := by decide +kernel
theorem dP_lowByte_32 : decode cP_lowByte 32 = .ok (.ireturn, 1) := by decide +kernel
def jP_lowByte_25 (h : cH) (z : cZ) (pv : Nat → Int32) (x1 : Int32) (x2 : Int32) (s1 : Int32) : Option (Int32 × cZ × (Nat → Int32)) := (fP_expect h z pv s1 (6 : Int32) x1).bind fun (z1, pv1) => some (x2, z1, pv1)
def fP_lowByte (h : cH) (z : cZ) (pv : Nat → Int32) : Option (Int32 × cZ × (Nat → Int32)) := (fP_fixed h z pv (1 : Int32)).bind fun (r1, z1, pv1) => if (128 : Int32) ≤ r1.toInt32 then (jP_lowByte_25 h z1 pv1 (pv 0) r1.toInt32 (0 : Int32)) else (jP_lowByte_25 h z1 pv1 (pv 0) r1.toInt32 (1 : Int32))
set_option maxHeartbeats 4000000 in
set_option maxRecDepth 100000 in
theorem wP_lowByte_25 {p : Program} {l : Launch} {e : Env} {s : State} {m : MethodId} {args : Array Value} {below : List Frame} {meth : Method} {c : Code} {g : gT} {qq ad ea : Nat → Nat} {h : cH} {X : va_W} {rv : Option Value} {qp : Nat} {pv0 pv' : Nat → Int32} {z' : cZ} {r' : Int32} (C : mCx p m c cP_lowByte 3 s args g "MidiDesk$Parser") (hr : meth.sig.returnType = (some .int)) (hlk : meth.locks = false) (hrv : rv = some (.int r')) (z : cZ) (pv : Nat → Int32) (x1 : Int32) (x2 : Int32) (s1 : Int32) (H : Heap) (locs : List Loc) (ls : Array Slot) (hl : lv_has ls 3 [(0, .ref qp), (1, .int x1), (2, .int x2)]) (hw : cWd g (cA g qq ad ea h (pcell qp qq pv0 :: X) s.heap.size) s.heap qq ad ea h (pcell qp qq pv :: X) z H locs) (hf : jP_lowByte_25 h z pv x1 x2 s1 = some (r', z', pv')) : cG p l e rP_lowByte s m args below meth c g qq ad ea h (pcell qp qq pv0 :: X) rv (pcell qp qq pv' :: X) z' H locs 0 0 (F0 m 25 ls [.int s1, .ref qp]) := by
  unfold jP_lowByte_25 at hf
  refine lv_bipush (v := (6 : Int32)) C.1.1 C.1.2.1 dP_lowByte_25 (by decide) ?_
  refine lv_iload_n C.1.1 C.1.2.1 dP_lowByte_27 rfl (lv_at hl 1 rfl) ?_
  obtain ⟨⟨z1, pv1⟩, g1, hf⟩ := ts_b hf
  try dsimp only at hf
  refine c_callV (rest := []) (As := [.int s1, .int (6 : Int32), .int x1]) (rv := none) (b := qp) C hl.1 hw (cP_expect_met g1) rfl (callW_of (rm := rP_expect) (C := "MidiDesk$Parser") 3 C.1.2.2.2.2 gw_250 gw_252 gw_2 gw_59 gw_253 kP_expect ⟨Nat.le_of_ble_eq_true rfl, Nat.le_of_ble_eq_true rfl⟩) (c_recvX (ci := 2) C.2 rfl hw) rfl rfl (Nat.le_of_ble_eq_true rfl) dP_lowByte_28 ⟨Nat.le_of_ble_eq_true rfl, Nat.le_of_ble_eq_true rfl⟩ (fun H locs hw => ?_)
  refine W.eq (g2 := F0 m 31 ls []) rfl ?_
  refine lv_iload_n C.1.1 C.1.2.1 dP_lowByte_31 rfl (lv_at hl 2 rfl) ?_
  obtain ⟨hf, hpv⟩ := pr3 hf
  exact c_reti C hr hlk hrv hw hf (by rw [hpv]) ⟨Nat.le_of_ble_eq_true rfl, Nat.le_of_ble_eq_true rfl⟩ dP_lowByte_32
set_option maxHeartbeats 4000000 in
set_option maxRecDepth 100000 in
theorem cP_lowByte_met {l : Launch} {g : gT} {qq ad ea : Nat → Nat} {h : cH} {X : va_W} {qp : Nat} {pv pv' : Nat → Int32} {z z' : cZ} {r' : Int32} (hf : fP_lowByte h z pv = some (r', z', pv')) : cMet l yP_lowByte cP_lowByte 3 (some .int) rP_lowByte g qq ad ea h (pcell qp qq pv :: X) z [.ref qp] (some (.int r')) (pcell qp qq pv' :: X) z' := by
  refine c_entry (by decide) (Nat.le_of_ble_eq_true rfl) ?_
  intro p e s m args below meth c ls C hr hlk hnm hl hw
  have hrv : (some (.int r') : Option Value) = some (.int r') := rfl
  have C : mCx p m c cP_lowByte 3 s args g "MidiDesk$Parser" := C
  have hl : lv_has ls 3 [(0, .ref qp)] := hl
  unfold fP_lowByte at hf
  refine lv_aload_n C.1.1 C.1.2.1 dP_lowByte_0 rfl (lv_at hl 0 rfl) ?_
  refine cg_Parser_Parser_pos C hw dP_lowByte_1 ?_
  refine lv_istore_n (lv' := [(1, .int (pv 0)), (0, .ref qp)]) C.1.1 C.1.2.1 dP_lowByte_4 rfl hl (by decide) rfl (fun ls hl => ?_)
  refine lv_aload_n C.1.1 C.1.2.1 dP_lowByte_5 rfl (lv_at hl 1 rfl) ?_
  refine lv_iconst (v := (1 : Int32)) C.1.1 C.1.2.1 dP_lowByte_6 (by decide) ?_
  obtain ⟨⟨r1, z1, pv1⟩, g1, hf⟩ := ts_b hf
  try dsimp only at hf
  refine c_callV (rest := []) (As := [.int (1 : Int32)]) (rv := (some (.long r1))) (b := qp) C hl.1 hw (cP_fixed_met g1) rfl (callW_of (rm := rP_fixed) (C := "MidiDesk$Parser") 1 C.1.2.2.2.2 gw_246 gw_248 gw_1 gw_59 gw_249 kP_fixed ⟨Nat.le_of_ble_eq_true rfl, Nat.le_of_ble_eq_true rfl⟩) (c_recvX (ci := 2) C.2 rfl hw) rfl rfl (Nat.le_of_ble_eq_true rfl) dP_lowByte_7 ⟨Nat.le_of_ble_eq_true rfl, Nat.le_of_ble_eq_true rfl⟩ (fun H locs hw => ?_)
  refine W.eq (g2 := F0 m 10 ls [.long r1]) rfl ?_
  refine lv_l2i C.1.1 C.1.2.1 dP_lowByte_10 rfl ?_
  refine lv_istore_n (lv' := [(2, .int r1.toInt32), (1, .int (pv 0)), (0, .ref qp)]) C.1.1 C.1.2.1 dP_lowByte_11 rfl hl (by decide) rfl (fun ls hl => ?_)
  refine lv_aload_n C.1.1 C.1.2.1 dP_lowByte_12 rfl (lv_at hl 2 rfl) ?_
  refine lv_iload_n C.1.1 C.1.2.1 dP_lowByte_13 rfl (lv_at hl 0 rfl) ?_
  refine lv_sipush (v := (128 : Int32)) C.1.1 C.1.2.1 dP_lowByte_14 (by decide) ?_
  refine lv_icmp_ge (tgt := 24) C.1.1 C.1.2.1 dP_lowByte_17 (by decide) (fun c2 => ?_) (fun c2 => ?_)
  · have hf := ts_t hf c2
    refine lv_iconst (v := (0 : Int32)) C.1.1 C.1.2.1 dP_lowByte_24 (by decide) ?_
    exact wP_lowByte_25 C hr hlk hrv z1 pv1 (pv 0) r1.toInt32 (0 : Int32) _ _ ls (lv_sub hl [2, 1, 0] rfl) hw hf
  · have hf := ts_f hf c2
    refine lv_iconst (v := (1 : Int32)) C.1.1 C.1.2.1 dP_lowByte_20 (by decide) ?_
    refine lv_goto (tgt := 25) C.1.1 C.1.2.1 dP_lowByte_21 (by decide) ?_
    exact wP_lowByte_25 C hr hlk hrv z1 pv1 (pv 0) r1.toInt32 (1 : Int32) _ _ ls (lv_sub hl [2, 1, 0] rfl) hw hf
abbrev cP_isDivision : ByteArray := prog_4_method_8_code
abbrev yP_isDivision : MethodName := ⟨"MidiDesk$Parser", "isDivision", "(I)Z"⟩
theorem kP_isDivision : yP_isDivision.cls ≠ "java/lang/invoke/MethodHandle" ∧ yP_isDivision.cls ≠ "java/lang/invoke/VarHandle" ∧ (parseMethodDescriptor yP_isDivision.desc).map (fun d => d.parameters.length) = some 1 := by decide +kernel
abbrev rP_isDivision : Room := { frames := 0, cells := 0, slots := 0, locals := 0 }
theorem dP_isDivision_0 : decode cP_isDivision 0 = .ok (.iload_n 0, 1) := by decide +kernel
theorem dP_isDivision_1 : decode cP_isDivision 1 = .ok (.sipush 32767, 3) := by decide +kernel
theorem dP_isDivision_4 : decode cP_isDivision 4 = .ok (.if_icmp .gt 14, 3) := by decide +kernel
theorem dP_isDivision_7 : decode cP_isDivision 7 = .ok (.iload_n 0, 1) := by decide +kernel
theorem dP_isDivision_8 : decode cP_isDivision 8 = .ok (.iconst 1, 1) := by decide +kernel
theorem dP_isDivision_9 : decode cP_isDivision 9 = .ok (.if_icmp .lt 7, 3) := by decide +kernel
theorem dP_isDivision_12 : decode cP_isDivision 12 = .ok (.iconst 1, 1) := by decide +kernel
theorem dP_isDivision_13 : decode cP_isDivision 13 = .ok (.goto 4, 3) := by decide +kernel
theorem dP_isDivision_16 : decode cP_isDivision 16 = .ok (.iconst 0, 1) := by decide +kernel
theorem dP_isDivision_17 : decode cP_isDivision 17 = .ok (.ireturn, 1) := by decide +kernel
theorem dP_isDivision_18 : decode cP_isDivision 18 = .ok (.sipush 256, 3) := by decide +kernel
theorem dP_isDivision_21 : decode cP_isDivision 21 = .ok (.iload_n 0, 1) := by decide +kernel
theorem dP_isDivision_22 : decode cP_isDivision 22 = .ok (.bipush 8, 2) := by decide +kernel
theorem dP_isDivision_24 : decode cP_isDivision 24 = .ok (.ishr, 1) := by decide +kernel
theorem dP_isDivision_25 : decode cP_isDivision 25 = .ok (.isub, 1) := by decide +kernel
theorem dP_isDivision_26 : decode cP_isDivision 26 = .ok (.istore_n 1, 1) := by decide +kernel
theorem dP_isDivision_27 : decode cP_isDivision 27 = .ok (.iload_n 1, 1) := by decide +kernel
theorem dP_isDivision_28 : decode cP_isDivision 28 = .ok (.bipush 24, 2) := by decide +kernel
theorem dP_isDivision_30 : decode cP_isDivision 30 = .ok (.if_icmp .eq 21, 3) := by decide +kernel
theorem dP_isDivision_33 : decode cP_isDivision 33 = .ok (.iload_n 1, 1) := by decide +kernel
theorem dP_isDivision_34 : decode cP_isDivision 34 = .ok (.bipush 25, 2) := by decide +kernel
theorem dP_isDivision_36 : decode cP_isDivision 36 = .ok (.if_icmp .eq 15, 3) := by decide +kernel
theorem dP_isDivision_39 : decode cP_isDivision 39 = .ok (.iload_n 1, 1) := by decide +kernel
theorem dP_isDivision_40 : decode cP_isDivision 40 = .ok (.bipush 29, 2) := by decide +kernel
theorem dP_isDivision_42 : decode cP_isDivision 42 = .ok (.if_icmp .eq 9, 3) := by decide +kernel
theorem dP_isDivision_45 : decode cP_isDivision 45 = .ok (.iload_n 1, 1) := by decide +kernel
theorem dP_isDivision_46 : decode cP_isDivision 46 = .ok (.bipush 30, 2) := by decide +kernel
theorem dP_isDivision_48 : decode cP_isDivision 48 = .ok (.if_icmp .ne 7, 3) := by decide +kernel
theorem dP_isDivision_51 : decode cP_isDivision 51 = .ok (.iconst 1, 1) := by decide +kernel
theorem dP_isDivision_52 : decode cP_isDivision 52 = .ok (.goto 4, 3) := by decide +kernel
theorem dP_isDivision_55 : decode cP_isDivision 55 = .ok (.iconst 0, 1) := by decide +kernel
theorem dP_isDivision_56 : decode cP_isDivision 56 = .ok (.istore_n 2, 1) := by decide +kernel
theorem dP_isDivision_57 : decode cP_isDivision 57 = .ok (.iload_n 2, 1) := by decide +kernel
theorem dP_isDivision_58 : decode cP_isDivision 58 = .ok (.ifCond .eq 15, 3) := by decide +kernel
theorem dP_isDivision_61 : decode cP_isDivision 61 = .ok (.iload_n 0, 1) := by decide +kernel
theorem dP_isDivision_62 : decode cP_isDivision 62 = .ok (.sipush 255, 3) := by decide +kernel
theorem dP_isDivision_65 : decode cP_isDivision 65 = .ok (.iand, 1) := by decide +kernel
theorem dP_isDivision_66 : decode cP_isDivision 66 = .ok (.ifCond .le 7, 3) := by decide +kernel
theorem dP_isDivision_69 : decode cP_isDivision 69 = .ok (.iconst 1, 1) := by decide +kernel
theorem dP_isDivision_70 : decode cP_isDivision 70 = .ok (.goto 4, 3) := by decide +kernel
theorem dP_isDivision_73 : decode cP_isDivision 73 = .ok (.iconst 0, 1) := by decide +kernel
theorem dP_isDivision_74 : decode cP_isDivision 74 = .ok (.ireturn, 1) := by decide +kernel
def jP_isDivision_56 (h : cH) (z : cZ) (x0 : Int32) (s0 : Int32) : Option (Int32 × cZ) := if s0 = 0 then (some ((0 : Int32), z)) else (if (x0 &&& (255 : Int32)) ≤ 0 then (some ((0 : Int32), z)) else (some ((1 : Int32), z)))
def jP_isDivision_51 (h : cH) (z : cZ) (x0 : Int32) : Option (Int32 × cZ) := jP_isDivision_56 h z x0 (1 : Int32)
def fP_isDivision (h : cH) (z : cZ) (x0 : Int32) : Option (Int32 × cZ) := if (32767 : Int32) < x0 then (if ((256 : Int32) - (x0 >>> ((8 : Int32) &&& 31))) = (24 : Int32) then (jP_isDivision_51 h z x0) else (if ((256 : Int32) - (x0 >>> ((8 : Int32) &&& 31))) = (25 : Int32) then (jP_isDivision_51 h z x0) else (if ((256 : Int32) - (x0 >>> ((8 : Int32) &&& 31))) = (29 : Int32) then (jP_isDivision_51 h z x0) else (if ((256 : Int32) - (x0 >>> ((8 : Int32) &&& 31))) = (30 : Int32) then (jP_isDivision_51 h z x0) else (jP_isDivision_56 h z x0 (0 : Int32)))))) else (if x0 < (1 : Int32) then (some ((0 : Int32), z)) else (some ((1 : Int32), z)))
set_option maxHeartbeats 4000000 in
set_option maxRecDepth 100000 in
theorem wP_isDivision_56 {p : Program} {l : Launch} {e : Env} {s : State} {m : MethodId} {args : Array Value} {below : List Frame} {meth : Method} {c : Code} {g : gT} {qq ad ea : Nat → Nat} {h : cH} {X : va_W} {rv : Option Value} {z' : cZ} {r' : Int32} (C : mCx p m c cP_isDivision 3 s args g "MidiDesk$Parser") (hr : meth.sig.returnType = (some .boolean)) (hlk : meth.locks = false) (hrv : rv = some (.int r')) (z : cZ) (x0 : Int32) (s0 : Int32) (H : Heap) (locs : List Loc) (ls : Array Slot) (hl : lv_has ls 3 [(0, .int x0)]) (hw : cWd g (cA g qq ad ea h X s.heap.size) s.heap qq ad ea h X z H locs) (hf : jP_isDivision_56 h z x0 s0 = some (r', z')) : cG p l e rP_isDivision s m args below meth c g qq ad ea h X rv X z' H locs 0 0 (F0 m 56 ls [.int s0]) := by
  unfold jP_isDivision_56 at hf
  refine lv_istore_n (lv' := [(2, .int s0), (0, .int x0)]) C.1.1 C.1.2.1 dP_isDivision_56 rfl hl (by decide) rfl (fun ls hl => ?_)
  refine lv_iload_n C.1.1 C.1.2.1 dP_isDivision_57 rfl (lv_at hl 0 rfl) ?_
  refine lv_if_eq (tgt := 73) C.1.1 C.1.2.1 dP_isDivision_58 (by decide) (fun c1 => ?_) (fun c1 => ?_)
  · have hf := ts_t hf c1
    refine lv_iconst (v := (0 : Int32)) C.1.1 C.1.2.1 dP_isDivision_73 (by decide) ?_
    exact c_retz C hr hlk hrv hw (Or.inl rfl) hf rfl ⟨Nat.le_of_ble_eq_true rfl, Nat.le_of_ble_eq_true rfl⟩ dP_isDivision_74
  · have hf := ts_f hf c1
    refine lv_iload_n C.1.1 C.1.2.1 dP_isDivision_61 rfl (lv_at hl 1 rfl) ?_
    refine lv_sipush (v := (255 : Int32)) C.1.1 C.1.2.1 dP_isDivision_62 (by decide) ?_
    refine lv_iand C.1.1 C.1.2.1 dP_isDivision_65 ?_
    refine lv_if_le (tgt := 73) C.1.1 C.1.2.1 dP_isDivision_66 (by decide) (fun c2 => ?_) (fun c2 => ?_)
    · have hf := ts_t hf c2
      refine lv_iconst (v := (0 : Int32)) C.1.1 C.1.2.1 dP_isDivision_73 (by decide) ?_
      exact c_retz C hr hlk hrv hw (Or.inl rfl) hf rfl ⟨Nat.le_of_ble_eq_true rfl, Nat.le_of_ble_eq_true rfl⟩ dP_isDivision_74
    · have hf := ts_f hf c2
      refine lv_iconst (v := (1 : Int32)) C.1.1 C.1.2.1 dP_isDivision_69 (by decide) ?_
      refine lv_goto (tgt := 74) C.1.1 C.1.2.1 dP_isDivision_70 (by decide) ?_
      exact c_retz C hr hlk hrv hw (Or.inr rfl) hf rfl ⟨Nat.le_of_ble_eq_true rfl, Nat.le_of_ble_eq_true rfl⟩ dP_isDivision_74
set_option maxHeartbeats 4000000 in
set_option maxRecDepth 100000 in
theorem wP_isDivision_51 {p : Program} {l : Launch} {e : Env} {s : State} {m : MethodId} {args : Array Value} {below : List Frame} {meth : Method} {c : Code} {g : gT} {qq ad ea : Nat → Nat} {h : cH} {X : va_W} {rv : Option Value} {z' : cZ} {r' : Int32} (C : mCx p m c cP_isDivision 3 s args g "MidiDesk$Parser") (hr : meth.sig.returnType = (some .boolean)) (hlk : meth.locks = false) (hrv : rv = some (.int r')) (z : cZ) (x0 : Int32) (H : Heap) (locs : List Loc) (ls : Array Slot) (hl : lv_has ls 3 [(0, .int x0)]) (hw : cWd g (cA g qq ad ea h X s.heap.size) s.heap qq ad ea h X z H locs) (hf : jP_isDivision_51 h z x0 = some (r', z')) : cG p l e rP_isDivision s m args below meth c g qq ad ea h X rv X z' H locs 0 0 (F0 m 51 ls []) := by
  unfold jP_isDivision_51 at hf
  refine lv_iconst (v := (1 : Int32)) C.1.1 C.1.2.1 dP_isDivision_51 (by decide) ?_
  refine lv_goto (tgt := 56) C.1.1 C.1.2.1 dP_isDivision_52 (by decide) ?_
  exact wP_isDivision_56 C hr hlk hrv z x0 (1 : Int32) _ _ ls (lv_sub hl [0] rfl) hw hf
set_option maxHeartbeats 4000000 in
set_option maxRecDepth 100000 in
theorem cP_isDivision_met {l : Launch} {g : gT} {qq ad ea : Nat → Nat} {h : cH} {X : va_W} {z z' : cZ} {x0 : Int32} {r' : Int32} (hf : fP_isDivision h z x0 = some (r', z')) : cMet l yP_isDivision cP_isDivision 3 (some .boolean) rP_isDivision g qq ad ea h X z [.int x0] (some (.int r')) X z' := by
  refine c_entry (by decide) (Nat.le_of_ble_eq_true rfl) ?_
  intro p e s m args below meth c ls C hr hlk hnm hl hw
  have hrv : (some (.int r') : Option Value) = some (.int r') := rfl
  have C : mCx p m c cP_isDivision 3 s args g "MidiDesk$Parser" := C
  have hl : lv_has ls 3 [(0, .int x0)] := hl
  unfold fP_isDivision at hf
  refine lv_iload_n C.1.1 C.1.2.1 dP_isDivision_0 rfl (lv_at hl 0 rfl) ?_
  refine lv_sipush (v := (32767 : Int32)) C.1.1 C.1.2.1 dP_isDivision_1 (by decide) ?_
  refine lv_icmp_gt (tgt := 18) C.1.1 C.1.2.1 dP_isDivision_4 (by decide) (fun c1 => ?_) (fun c1 => ?_)
  · have hf := ts_t hf c1
    refine lv_sipush (v := (256 : Int32)) C.1.1 C.1.2.1 dP_isDivision_18 (by decide) ?_
    refine lv_iload_n C.1.1 C.1.2.1 dP_isDivision_21 rfl (lv_at hl 0 rfl) ?_
    refine lv_bipush (v := (8 : Int32)) C.1.1 C.1.2.1 dP_isDivision_22 (by decide) ?_
    refine lv_ishr C.1.1 C.1.2.1 dP_isDivision_24 ?_
    refine lv_isub C.1.1 C.1.2.1 dP_isDivision_25 ?_
    refine lv_istore_n (lv' := [(1, .int ((256 : Int32) - (x0 >>> ((8 : Int32) &&& 31)))), (0, .int x0)]) C.1.1 C.1.2.1 dP_isDivision_26 rfl hl (by decide) rfl (fun ls hl => ?_)
    refine lv_iload_n C.1.1 C.1.2.1 dP_isDivision_27 rfl (lv_at hl 0 rfl) ?_
    refine lv_bipush (v := (24 : Int32)) C.1.1 C.1.2.1 dP_isDivision_28 (by decide) ?_
    refine lv_icmp_eq (tgt := 51) C.1.1 C.1.2.1 dP_isDivision_30 (by decide) (fun c2 => ?_) (fun c2 => ?_)
    · have hf := ts_t hf c2
      exact wP_isDivision_51 C hr hlk hrv z x0 _ _ ls (lv_sub hl [1] rfl) hw hf
    · have hf := ts_f hf c2
      refine lv_iload_n C.1.1 C.1.2.1 dP_isDivision_33 rfl (lv_at hl 0 rfl) ?_
      refine lv_bipush (v := (25 : Int32)) C.1.1 C.1.2.1 dP_isDivision_34 (by decide) ?_
      refine lv_icmp_eq (tgt := 51) C.1.1 C.1.2.1 dP_isDivision_36 (by decide) (fun c3 => ?_) (fun c3 => ?_)
      · have hf := ts_t hf c3
        exact wP_isDivision_51 C hr hlk hrv z x0 _ _ ls (lv_sub hl [1] rfl) hw hf
      · have hf := ts_f hf c3
        refine lv_iload_n C.1.1 C.1.2.1 dP_isDivision_39 rfl (lv_at hl 0 rfl) ?_
        refine lv_bipush (v := (29 : Int32)) C.1.1 C.1.2.1 dP_isDivision_40 (by decide) ?_
        refine lv_icmp_eq (tgt := 51) C.1.1 C.1.2.1 dP_isDivision_42 (by decide) (fun c4 => ?_) (fun c4 => ?_)
        · have hf := ts_t hf c4
          exact wP_isDivision_51 C hr hlk hrv z x0 _ _ ls (lv_sub hl [1] rfl) hw hf
        · have hf := ts_f hf c4
          refine lv_iload_n C.1.1 C.1.2.1 dP_isDivision_45 rfl (lv_at hl 0 rfl) ?_
          refine lv_bipush (v := (30 : Int32)) C.1.1 C.1.2.1 dP_isDivision_46 (by decide) ?_
          refine lv_icmp_ne (tgt := 55) C.1.1 C.1.2.1 dP_isDivision_48 (by decide) (fun c5 => ?_) (fun c5 => ?_)
          · have hf := ts_f hf c5
            refine lv_iconst (v := (0 : Int32)) C.1.1 C.1.2.1 dP_isDivision_55 (by decide) ?_
            exact wP_isDivision_56 C hr hlk hrv z x0 (0 : Int32) _ _ ls (lv_sub hl [1] rfl) hw hf
          · have hf := ts_t hf c5
            exact wP_isDivision_51 C hr hlk hrv z x0 _ _ ls (lv_sub hl [1] rfl) hw hf
  · have hf := ts_f hf c1
    refine lv_iload_n C.1.1 C.1.2.1 dP_isDivision_7 rfl (lv_at hl 0 rfl) ?_
    refine lv_iconst (v := (1 : Int32)) C.1.1 C.1.2.1 dP_isDivision_8 (by decide) ?_
    refine lv_icmp_lt (tgt := 16) C.1.1 C.1.2.1 dP_isDivision_9 (by decide) (fun c6 => ?_) (fun c6 => ?_)
    · have hf := ts_t hf c6
      refine lv_iconst (v := (0 : Int32)) C.1.1 C.1.2.1 dP_isDivision_16 (by decide) ?_
      exact c_retz C hr hlk hrv hw (Or.inl rfl) hf rfl ⟨Nat.le_of_ble_eq_true rfl, Nat.le_of_ble_eq_true rfl⟩ dP_isDivision_17
    · have hf := ts_f hf c6
      refine lv_iconst (v := (1 : Int32)) C.1.1 C.1.2.1 dP_isDivision_12 (by decide) ?_
      refine lv_goto (tgt := 17) C.1.1 C.1.2.1 dP_isDivision_13 (by decide) ?_
      exact c_retz C hr hlk hrv hw (Or.inr rfl) hf rfl ⟨Nat.le_of_ble_eq_true rfl, Nat.le_of_ble_eq_true rfl⟩ dP_isDivision_17
abbrev cP_head : ByteArray := prog_4_method_7_code
abbrev yP_head : MethodName := ⟨"MidiDesk$Parser", "head", "()V"⟩
theorem kP_head : yP_head.cls ≠ "java/lang/invoke/MethodHandle" ∧ yP_head.cls ≠ "java/lang/invoke/VarHandle" ∧ (parseMethodDescriptor yP_head.desc).map (fun d => d.parameters.length) = some 0 := by decide +kernel
abbrev rP_head : Room := { frames := 2, cells := 0, slots := 0, locals := 47 }
theorem dP_head_0 : decode cP_head 0 = .ok (.aload_n 0, 1) := by decide +kernel
theorem dP_head_1 : decode cP_head 1 = .ok (.aload_n 0, 1) := by decide +kernel
theorem dP_head_2 : decode cP_head 2 = .ok (.iconst 4, 1) := by decide +kernel
theorem dP_head_3 : decode cP_head 3 = .ok (.invokevirtual 73, 3) := by decide +kernel
theorem dP_head_6 : decode cP_head 6 = .ok (.ldc2_w 77, 3) := by decide +kernel
theorem dP_head_9 : decode cP_head 9 = .ok (.lcmp, 1) := by decide +kernel
theorem dP_head_10 : decode cP_head 10 = .ok (.ifCond .ne 7, 3) := by decide +kernel
theorem dP_head_13 : decode cP_head 13 = .ok (.iconst 1, 1) := by decide +kernel
theorem dP_head_14 : decode cP_head 14 = .ok (.goto 4, 3) := by decide +kernel
theorem dP_head_17 : decode cP_head 17 = .ok (.iconst 0, 1) := by decide +kernel
theorem dP_head_18 : decode cP_head 18 = .ok (.iconst 2, 1) := by decide +kernel
theorem dP_head_19 : decode cP_head 19 = .ok (.iconst 0, 1) := by decide +kernel
theorem dP_head_20 : decode cP_head 20 = .ok (.invokevirtual 56, 3) := by decide +kernel
theorem dP_head_23 : decode cP_head 23 = .ok (.aload_n 0, 1) := by decide +kernel
theorem dP_head_24 : decode cP_head 24 = .ok (.aload_n 0, 1) := by decide +kernel
theorem dP_head_25 : decode cP_head 25 = .ok (.iconst 4, 1) := by decide +kernel
theorem dP_head_26 : decode cP_head 26 = .ok (.invokevirtual 73, 3) := by decide +kernel
theorem dP_head_29 : decode cP_head 29 = .ok (.ldc2_w 79, 3) := by decide +kernel
theorem dP_head_32 : decode cP_head 32 = .ok (.lcmp, 1) := by decide +kernel
theorem dP_head_33 : decode cP_head 33 = .ok (.ifCond .ne 7, 3) := by decide +kernel
theorem dP_head_36 : decode cP_head 36 = .ok (.iconst 1, 1) := by decide +kernel
theorem dP_head_37 : decode cP_head 37 = .ok (.goto 4, 3) := by decide +kernel
theorem dP_head_40 : decode cP_head 40 = .ok (.iconst 0, 1) := by decide +kernel
theorem dP_head_41 : decode cP_head 41 = .ok (.iconst 2, 1) := by decide +kernel
theorem dP_head_42 : decode cP_head 42 = .ok (.iconst 4, 1) := by decide +kernel
theorem dP_head_43 : decode cP_head 43 = .ok (.invokevirtual 56, 3) := by decide +kernel
theorem dP_head_46 : decode cP_head 46 = .ok (.aload_n 0, 1) := by decide +kernel
theorem dP_head_47 : decode cP_head 47 = .ok (.iconst 2, 1) := by decide +kernel
theorem dP_head_48 : decode cP_head 48 = .ok (.invokevirtual 73, 3) := by decide +kernel
theorem dP_head_51 : decode cP_head 51 = .ok (.l2i, 1) := by decide +kernel
theorem dP_head_52 : decode cP_head 52 = .ok (.istore_n 1, 1) := by decide +kernel
theorem dP_head_53 : decode cP_head 53 = .ok (.aload_n 0, 1) := by decide +kernel
theorem dP_head_54 : decode cP_head 54 = .ok (.iload_n 1, 1) := by decide +kernel
theorem dP_head_55 : decode cP_head 55 = .ok (.iconst 2, 1) := by decide +kernel
theorem dP_head_56 : decode cP_head 56 = .ok (.if_icmp .gt 7, 3) := by decide +kernel
theorem dP_head_59 : decode cP_head 59 = .ok (.iconst 1, 1) := by decide +kernel
theorem dP_head_60 : decode cP_head 60 = .ok (.goto 4, 3) := by decide +kernel
theorem dP_head_63 : decode cP_head 63 = .ok (.iconst 0, 1) := by decide +kernel
theorem dP_head_64 : decode cP_head 64 = .ok (.iconst 3, 1) := by decide +kernel
theorem dP_head_65 : decode cP_head 65 = .ok (.bipush 8, 2) := by decide +kernel
theorem dP_head_67 : decode cP_head 67 = .ok (.invokevirtual 56, 3) := by decide +kernel
theorem dP_head_70 : decode cP_head 70 = .ok (.aload_n 0, 1) := by decide +kernel
theorem dP_head_71 : decode cP_head 71 = .ok (.iconst 2, 1) := by decide +kernel
theorem dP_head_72 : decode cP_head 72 = .ok (.invokevirtual 73, 3) := by decide +kernel
theorem dP_head_75 : decode cP_head 75 = .ok (.l2i, 1) := by decide +kernel
theorem dP_head_76 : decode cP_head 76 = .ok (.istore_n 2, 1) := by decide +kernel
theorem dP_head_77 : decode cP_head 77 = .ok (.iload_n 1, 1) := by decide +kernel
theorem dP_head_78 : decode cP_head 78 = .ok (.ifCond .ne 7, 3) := by decide +kernel
theorem dP_head_81 : decode cP_head 81 = .ok (.iconst 1, 1) := by decide +kernel
theorem dP_head_82 : decode cP_head 82 = .ok (.goto 5, 3) := by decide +kernel
theorem dP_head_85 : decode cP_head 85 = .ok (.bipush 16, 2) := by decide +kernel
theorem dP_head_87 : decode cP_head 87 = .ok (.istore_n 3, 1) := by decide +kernel
theorem dP_head_88 : decode cP_head 88 = .ok (.aload_n 0, 1) := by decide +kernel
theorem dP_head_89 : decode cP_head 89 = .ok (.iload_n 2, 1) := by decide +kernel
theorem dP_head_90 : decode cP_head 90 = .ok (.iconst 1, 1) := by decide +kernel
theorem dP_head_91 : decode cP_head 91 = .ok (.if_icmp .lt 12, 3) := by decide +kernel
theorem dP_head_94 : decode cP_head 94 = .ok (.iload_n 2, 1) := by decide +kernel
theorem dP_head_95 : decode cP_head 95 = .ok (.iload_n 3, 1) := by decide +kernel
theorem dP_head_96 : decode cP_head 96 = .ok (.if_icmp .gt 7, 3) := by decide +kernel
theorem dP_head_99 : decode cP_head 99 = .ok (.iconst 1, 1) := by decide +kernel
theorem dP_head_100 : decode cP_head 100 = .ok (.goto 4, 3) := by decide +kernel
theorem dP_head_103 : decode cP_head 103 = .ok (.iconst 0, 1) := by decide +kernel
theorem dP_head_104 : decode cP_head 104 = .ok (.iconst 3, 1) := by decide +kernel
theorem dP_head_105 : decode cP_head 105 = .ok (.bipush 10, 2) := by decide +kernel
theorem dP_head_107 : decode cP_head 107 = .ok (.invokevirtual 56, 3) := by decide +kernel
theorem dP_head_110 : decode cP_head 110 = .ok (.aload_n 0, 1) := by decide +kernel
theorem dP_head_111 : decode cP_head 111 = .ok (.iconst 2, 1) := by decide +kernel
theorem dP_head_112 : decode cP_head 112 = .ok (.invokevirtual 73, 3) := by decide +kernel
theorem dP_head_115 : decode cP_head 115 = .ok (.l2i, 1) := by decide +kernel
theorem dP_head_116 : decode cP_head 116 = .ok (.istore 4, 2) := by decide +kernel
theorem dP_head_118 : decode cP_head 118 = .ok (.aload_n 0, 1) := by decide +kernel
theorem dP_head_119 : decode cP_head 119 = .ok (.iload 4, 2) := by decide +kernel
theorem dP_head_121 : decode cP_head 121 = .ok (.invokestatic 81, 3) := by decide +kernel
theorem dP_head_124 : decode cP_head 124 = .ok (.iconst 3, 1) := by decide +kernel
theorem dP_head_125 : decode cP_head 125 = .ok (.bipush 12, 2) := by decide +kernel
theorem dP_head_127 : decode cP_head 127 = .ok (.invokevirtual 56, 3) := by decide +kernel
theorem dP_head_130 : decode cP_head 130 = .ok (.aload_n 0, 1) := by decide +kernel
theorem dP_head_131 : decode cP_head 131 = .ok (.getfield 15, 3) := by decide +kernel
theorem dP_head_134 : decode cP_head 134 = .ok (.iload_n 1, 1) := by decide +kernel
theorem dP_head_135 : decode cP_head 135 = .ok (.putfield 85, 3) := by decide +kernel
theorem dP_head_138 : decode cP_head 138 = .ok (.aload_n 0, 1) := by decide +kernel
theorem dP_head_139 : decode cP_head 139 = .ok (.getfield 15, 3) := by decide +kernel
theorem dP_head_142 : decode cP_head 142 = .ok (.iload_n 2, 1) := by decide +kernel
theorem dP_head_143 : decode cP_head 143 = .ok (.putfield 53, 3) := by decide +kernel
theorem dP_head_146 : decode cP_head 146 = .ok (.aload_n 0, 1) := by decide +kernel
theorem dP_head_147 : decode cP_head 147 = .ok (.getfield 15, 3) := by decide +kernel
theorem dP_head_150 : decode cP_head 150 = .ok (.iload 4, 2) := by decide +kernel
theorem dP_head_152 : decode cP_head 152 = .ok (.putfield 88, 3) := by decide +kernel
theorem dP_head_155 : decode cP_head 155 = .ok (.return_, 1) := by decide +kernel
def jP_head_104 (h : cH) (z : cZ) (pv : Nat → Int32) (x1 : Int32) (x2 : Int32) (s1 : Int32) : Option (cZ × (Nat → Int32)) := (fP_expect h z pv s1 (3 : Int32) (10 : Int32)).bind fun (z1, pv1) => (fP_fixed h z1 pv1 (2 : Int32)).bind fun (r2, z2, pv2) => (fP_isDivision h z2 r2.toInt32).bind fun (r3, z3) => (fP_expect h z3 pv2 r3 (3 : Int32) (12 : Int32)).bind fun (z4, pv4) => some (zU (zU (zU z4 4 x1) 5 x2) 6 r2.toInt32, pv4)
def jP_head_103 (h : cH) (z : cZ) (pv : Nat → Int32) (x1 : Int32) (x2 : Int32) : Option (cZ × (Nat → Int32)) := jP_head_104 h z pv x1 x2 (0 : Int32)
def jP_head_87 (h : cH) (z : cZ) (pv : Nat → Int32) (x1 : Int32) (x2 : Int32) (s0 : Int32) : Option (cZ × (Nat → Int32)) := if x2 < (1 : Int32) then (jP_head_103 h z pv x1 x2) else (if s0 < x2 then (jP_head_103 h z pv x1 x2) else (jP_head_104 h z pv x1 x2 (1 : Int32)))
def jP_head_64 (h : cH) (z : cZ) (pv : Nat → Int32) (x1 : Int32) (s1 : Int32) : Option (cZ × (Nat → Int32)) := (fP_expect h z pv s1 (3 : Int32) (8 : Int32)).bind fun (z1, pv1) => (fP_fixed h z1 pv1 (2 : Int32)).bind fun (r2, z2, pv2) => if x1 = 0 then (jP_head_87 h z2 pv2 x1 r2.toInt32 (1 : Int32)) else (jP_head_87 h z2 pv2 x1 r2.toInt32 (16 : Int32))
def jP_head_41 (h : cH) (z : cZ) (pv : Nat → Int32) (s1 : Int32) : Option (cZ × (Nat → Int32)) := (fP_expect h z pv s1 (2 : Int32) (4 : Int32)).bind fun (z1, pv1) => (fP_fixed h z1 pv1 (2 : Int32)).bind fun (r2, z2, pv2) => if (2 : Int32) < r2.toInt32 then (jP_head_64 h z2 pv2 r2.toInt32 (0 : Int32)) else (jP_head_64 h z2 pv2 r2.toInt32 (1 : Int32))
def jP_head_18 (h : cH) (z : cZ) (pv : Nat → Int32) (s1 : Int32) : Option (cZ × (Nat → Int32)) := (fP_expect h z pv s1 (2 : Int32) (0 : Int32)).bind fun (z1, pv1) => (fP_fixed h z1 pv1 (4 : Int32)).bind fun (r2, z2, pv2) => if (lg_cmp r2 (6 : Int64)) = 0 then (jP_head_41 h z2 pv2 (1 : Int32)) else (jP_head_41 h z2 pv2 (0 : Int32))
def fP_head (h : cH) (z : cZ) (pv : Nat → Int32) : Option (cZ × (Nat → Int32)) := (fP_fixed h z pv (4 : Int32)).bind fun (r1, z1, pv1) => if (lg_cmp r1 (1297377380 : Int64)) = 0 then (jP_head_18 h z1 pv1 (1 : Int32)) else (jP_head_18 h z1 pv1 (0 : Int32))
set_option maxHeartbeats 4000000 in
set_option maxRecDepth 100000 in
theorem wP_head_104 {p : Program} {l : Launch} {e : Env} {s : State} {m : MethodId} {args : Array Value} {below : List Frame} {meth : Method} {c : Code} {g : gT} {qq ad ea : Nat → Nat} {h : cH} {X : va_W} {rv : Option Value} {qp : Nat} {pv0 pv' : Nat → Int32} {z' : cZ} (C : mCx p m c cP_head 5 s args g "MidiDesk$Parser") (hr : meth.sig.returnType = none) (hlk : meth.locks = false) (hrv : rv = none) (z : cZ) (pv : Nat → Int32) (x1 : Int32) (x2 : Int32) (s1 : Int32) (H : Heap) (locs : List Loc) (ls : Array Slot) (hl : lv_has ls 5 [(0, .ref qp), (1, .int x1), (2, .int x2)]) (hw : cWd g (cA g qq ad ea h (pcell qp qq pv0 :: X) s.heap.size) s.heap qq ad ea h (pcell qp qq pv :: X) z H locs) (hf : jP_head_104 h z pv x1 x2 s1 = some (z', pv')) : cG p l e rP_head s m args below meth c g qq ad ea h (pcell qp qq pv0 :: X) rv (pcell qp qq pv' :: X) z' H locs 0 0 (F0 m 104 ls [.int s1, .ref qp]) := by
  unfold jP_head_104 at hf
  refine lv_iconst (v := (3 : Int32)) C.1.1 C.1.2.1 dP_head_104 (by decide) ?_
  refine lv_bipush (v := (10 : Int32)) C.1.1 C.1.2.1 dP_head_105 (by decide) ?_
  obtain ⟨⟨z1, pv1⟩, g1, hf⟩ := ts_b hf
  try dsimp only at hf
  refine c_callV (rest := []) (As := [.int s1, .int (3 : Int32), .int (10 : Int32)]) (rv := none) (b := qp) C hl.1 hw (cP_expect_met g1) rfl (callW_of (rm := rP_expect) (C := "MidiDesk$Parser") 3 C.1.2.2.2.2 gw_250 gw_252 gw_2 gw_59 gw_253 kP_expect ⟨Nat.le_of_ble_eq_true rfl, Nat.le_of_ble_eq_true rfl⟩) (c_recvX (ci := 2) C.2 rfl hw) rfl rfl (Nat.le_of_ble_eq_true rfl) dP_head_107 ⟨Nat.le_of_ble_eq_true rfl, Nat.le_of_ble_eq_true rfl⟩ (fun H locs hw => ?_)
  refine W.eq (g2 := F0 m 110 ls []) rfl ?_
  refine lv_aload_n C.1.1 C.1.2.1 dP_head_110 rfl (lv_at hl 0 rfl) ?_
  refine lv_iconst (v := (2 : Int32)) C.1.1 C.1.2.1 dP_head_111 (by decide) ?_
  obtain ⟨⟨r2, z2, pv2⟩, g2, hf⟩ := ts_b hf
  try dsimp only at hf
  refine c_callV (rest := []) (As := [.int (2 : Int32)]) (rv := (some (.long r2))) (b := qp) C hl.1 hw (cP_fixed_met g2) rfl (callW_of (rm := rP_fixed) (C := "MidiDesk$Parser") 1 C.1.2.2.2.2 gw_246 gw_248 gw_1 gw_59 gw_249 kP_fixed ⟨Nat.le_of_ble_eq_true rfl, Nat.le_of_ble_eq_true rfl⟩) (c_recvX (ci := 2) C.2 rfl hw) rfl rfl (Nat.le_of_ble_eq_true rfl) dP_head_112 ⟨Nat.le_of_ble_eq_true rfl, Nat.le_of_ble_eq_true rfl⟩ (fun H locs hw => ?_)
  refine W.eq (g2 := F0 m 115 ls [.long r2]) rfl ?_
  refine lv_l2i C.1.1 C.1.2.1 dP_head_115 rfl ?_
  refine lv_istore (lv' := [(4, .int r2.toInt32), (0, .ref qp), (1, .int x1), (2, .int x2)]) C.1.1 C.1.2.1 dP_head_116 hl (by decide) rfl (fun ls hl => ?_)
  refine lv_aload_n C.1.1 C.1.2.1 dP_head_118 rfl (lv_at hl 1 rfl) ?_
  refine lv_iload C.1.1 C.1.2.1 dP_head_119 (lv_at hl 0 rfl) ?_
  obtain ⟨⟨r3, z3⟩, g3, hf⟩ := ts_b hf
  try dsimp only at hf
  refine c_callS (rest := [.ref qp]) (As := [.int r2.toInt32]) (rv := (some (.int r3))) C hl.1 hw (cP_isDivision_met g3) (callS_of (rm := rP_isDivision) 1 C.1.2.2.2.2 gw_261 gw_262 gw_59 gw_263 kP_isDivision ⟨Nat.le_of_ble_eq_true rfl, Nat.le_of_ble_eq_true rfl⟩) rfl rfl (Nat.le_of_ble_eq_true rfl) dP_head_121 ⟨Nat.le_of_ble_eq_true rfl, Nat.le_of_ble_eq_true rfl⟩ (fun H locs hw => ?_)
  refine W.eq (g2 := F0 m 124 ls [.int r3, .ref qp]) rfl ?_
  refine lv_iconst (v := (3 : Int32)) C.1.1 C.1.2.1 dP_head_124 (by decide) ?_
  refine lv_bipush (v := (12 : Int32)) C.1.1 C.1.2.1 dP_head_125 (by decide) ?_
  obtain ⟨⟨z4, pv4⟩, g4, hf⟩ := ts_b hf
  try dsimp only at hf
  refine c_callV (rest := []) (As := [.int r3, .int (3 : Int32), .int (12 : Int32)]) (rv := none) (b := qp) C hl.1 hw (cP_expect_met g4) rfl (callW_of (rm := rP_expect) (C := "MidiDesk$Parser") 3 C.1.2.2.2.2 gw_250 gw_252 gw_2 gw_59 gw_253 kP_expect ⟨Nat.le_of_ble_eq_true rfl, Nat.le_of_ble_eq_true rfl⟩) (c_recvX (ci := 2) C.2 rfl hw) rfl rfl (Nat.le_of_ble_eq_true rfl) dP_head_127 ⟨Nat.le_of_ble_eq_true rfl, Nat.le_of_ble_eq_true rfl⟩ (fun H locs hw => ?_)
  refine W.eq (g2 := F0 m 130 ls []) rfl ?_
  refine lv_aload_n C.1.1 C.1.2.1 dP_head_130 rfl (lv_at hl 1 rfl) ?_
  refine cg_Parser_Parser_score C hw dP_head_131 ?_
  refine lv_iload_n C.1.1 C.1.2.1 dP_head_134 rfl (lv_at hl 2 rfl) ?_
  refine cp_Parser_Score_format C hw dP_head_135 (fun H locs hw => ?_)
  refine lv_aload_n C.1.1 C.1.2.1 dP_head_138 rfl (lv_at hl 1 rfl) ?_
  refine cg_Parser_Parser_score C hw dP_head_139 ?_
  refine lv_iload_n C.1.1 C.1.2.1 dP_head_142 rfl (lv_at hl 3 rfl) ?_
  refine cp_Parser_Score_tracks C hw dP_head_143 (fun H locs hw => ?_)
  refine lv_aload_n C.1.1 C.1.2.1 dP_head_146 rfl (lv_at hl 1 rfl) ?_
  refine cg_Parser_Parser_score C hw dP_head_147 ?_
  refine lv_iload C.1.1 C.1.2.1 dP_head_150 (lv_at hl 0 rfl) ?_
  refine cp_Parser_Score_division C hw dP_head_152 (fun H locs hw => ?_)
  obtain ⟨hf, hpv⟩ := pr2 hf
  exact c_retv C hr hlk hrv hw hf (by rw [hpv]) ⟨Nat.le_of_ble_eq_true rfl, Nat.le_of_ble_eq_true rfl⟩ dP_head_155
set_option maxHeartbeats 4000000 in
set_option maxRecDepth 100000 in
theorem wP_head_103 {p : Program} {l : Launch} {e : Env} {s : State} {m : MethodId} {args : Array Value} {below : List Frame} {meth : Method} {c : Code} {g : gT} {qq ad ea : Nat → Nat} {h : cH} {X : va_W} {rv : Option Value} {qp : Nat} {pv0 pv' : Nat → Int32} {z' : cZ} (C : mCx p m c cP_head 5 s args g "MidiDesk$Parser") (hr : meth.sig.returnType = none) (hlk : meth.locks = false) (hrv : rv = none) (z : cZ) (pv : Nat → Int32) (x1 : Int32) (x2 : Int32) (H : Heap) (locs : List Loc) (ls : Array Slot) (hl : lv_has ls 5 [(0, .ref qp), (1, .int x1), (2, .int x2)]) (hw : cWd g (cA g qq ad ea h (pcell qp qq pv0 :: X) s.heap.size) s.heap qq ad ea h (pcell qp qq pv :: X) z H locs) (hf : jP_head_103 h z pv x1 x2 = some (z', pv')) : cG p l e rP_head s m args below meth c g qq ad ea h (pcell qp qq pv0 :: X) rv (pcell qp qq pv' :: X) z' H locs 0 0 (F0 m 103 ls [.ref qp]) := by
  unfold jP_head_103 at hf
  refine lv_iconst (v := (0 : Int32)) C.1.1 C.1.2.1 dP_head_103 (by decide) ?_
  exact wP_head_104 C hr hlk hrv z pv x1 x2 (0 : Int32) _ _ ls (lv_sub hl [0, 1, 2] rfl) hw hf
set_option maxHeartbeats 4000000 in
set_option maxRecDepth 100000 in
theorem wP_head_87 {p : Program} {l : Launch} {e : Env} {s : State} {m : MethodId} {args : Array Value} {below : List Frame} {meth : Method} {c : Code} {g : gT} {qq ad ea : Nat → Nat} {h : cH} {X : va_W} {rv : Option Value} {qp : Nat} {pv0 pv' : Nat → Int32} {z' : cZ} (C : mCx p m c cP_head 5 s args g "MidiDesk$Parser") (hr : meth.sig.returnType = none) (hlk : meth.locks = false) (hrv : rv = none) (z : cZ) (pv : Nat → Int32) (x1 : Int32) (x2 : Int32) (s0 : Int32) (H : Heap) (locs : List Loc) (ls : Array Slot) (hl : lv_has ls 5 [(0, .ref qp), (1, .int x1), (2, .int x2)]) (hw : cWd g (cA g qq ad ea h (pcell qp qq pv0 :: X) s.heap.size) s.heap qq ad ea h (pcell qp qq pv :: X) z H locs) (hf : jP_head_87 h z pv x1 x2 s0 = some (z', pv')) : cG p l e rP_head s m args below meth c g qq ad ea h (pcell qp qq pv0 :: X) rv (pcell qp qq pv' :: X) z' H locs 0 0 (F0 m 87 ls [.int s0]) := by
  unfold jP_head_87 at hf
  refine lv_istore_n (lv' := [(3, .int s0), (0, .ref qp), (1, .int x1), (2, .int x2)]) C.1.1 C.1.2.1 dP_head_87 rfl hl (by decide) rfl (fun ls hl => ?_)
  refine lv_aload_n C.1.1 C.1.2.1 dP_head_88 rfl (lv_at hl 1 rfl) ?_
  refine lv_iload_n C.1.1 C.1.2.1 dP_head_89 rfl (lv_at hl 3 rfl) ?_
  refine lv_iconst (v := (1 : Int32)) C.1.1 C.1.2.1 dP_head_90 (by decide) ?_
  refine lv_icmp_lt (tgt := 103) C.1.1 C.1.2.1 dP_head_91 (by decide) (fun c1 => ?_) (fun c1 => ?_)
  · have hf := ts_t hf c1
    exact wP_head_103 C hr hlk hrv z pv x1 x2 _ _ ls (lv_sub hl [1, 2, 3] rfl) hw hf
  · have hf := ts_f hf c1
    refine lv_iload_n C.1.1 C.1.2.1 dP_head_94 rfl (lv_at hl 3 rfl) ?_
    refine lv_iload_n C.1.1 C.1.2.1 dP_head_95 rfl (lv_at hl 0 rfl) ?_
    refine lv_icmp_gt (tgt := 103) C.1.1 C.1.2.1 dP_head_96 (by decide) (fun c2 => ?_) (fun c2 => ?_)
    · have hf := ts_t hf c2
      exact wP_head_103 C hr hlk hrv z pv x1 x2 _ _ ls (lv_sub hl [1, 2, 3] rfl) hw hf
    · have hf := ts_f hf c2
      refine lv_iconst (v := (1 : Int32)) C.1.1 C.1.2.1 dP_head_99 (by decide) ?_
      refine lv_goto (tgt := 104) C.1.1 C.1.2.1 dP_head_100 (by decide) ?_
      exact wP_head_104 C hr hlk hrv z pv x1 x2 (1 : Int32) _ _ ls (lv_sub hl [1, 2, 3] rfl) hw hf
set_option maxHeartbeats 4000000 in
set_option maxRecDepth 100000 in
theorem wP_head_64 {p : Program} {l : Launch} {e : Env} {s : State} {m : MethodId} {args : Array Value} {below : List Frame} {meth : Method} {c : Code} {g : gT} {qq ad ea : Nat → Nat} {h : cH} {X : va_W} {rv : Option Value} {qp : Nat} {pv0 pv' : Nat → Int32} {z' : cZ} (C : mCx p m c cP_head 5 s args g "MidiDesk$Parser") (hr : meth.sig.returnType = none) (hlk : meth.locks = false) (hrv : rv = none) (z : cZ) (pv : Nat → Int32) (x1 : Int32) (s1 : Int32) (H : Heap) (locs : List Loc) (ls : Array Slot) (hl : lv_has ls 5 [(0, .ref qp), (1, .int x1)]) (hw : cWd g (cA g qq ad ea h (pcell qp qq pv0 :: X) s.heap.size) s.heap qq ad ea h (pcell qp qq pv :: X) z H locs) (hf : jP_head_64 h z pv x1 s1 = some (z', pv')) : cG p l e rP_head s m args below meth c g qq ad ea h (pcell qp qq pv0 :: X) rv (pcell qp qq pv' :: X) z' H locs 0 0 (F0 m 64 ls [.int s1, .ref qp]) := by
  unfold jP_head_64 at hf
  refine lv_iconst (v := (3 : Int32)) C.1.1 C.1.2.1 dP_head_64 (by decide) ?_
  refine lv_bipush (v := (8 : Int32)) C.1.1 C.1.2.1 dP_head_65 (by decide) ?_
  obtain ⟨⟨z1, pv1⟩, g1, hf⟩ := ts_b hf
  try dsimp only at hf
  refine c_callV (rest := []) (As := [.int s1, .int (3 : Int32), .int (8 : Int32)]) (rv := none) (b := qp) C hl.1 hw (cP_expect_met g1) rfl (callW_of (rm := rP_expect) (C := "MidiDesk$Parser") 3 C.1.2.2.2.2 gw_250 gw_252 gw_2 gw_59 gw_253 kP_expect ⟨Nat.le_of_ble_eq_true rfl, Nat.le_of_ble_eq_true rfl⟩) (c_recvX (ci := 2) C.2 rfl hw) rfl rfl (Nat.le_of_ble_eq_true rfl) dP_head_67 ⟨Nat.le_of_ble_eq_true rfl, Nat.le_of_ble_eq_true rfl⟩ (fun H locs hw => ?_)
  refine W.eq (g2 := F0 m 70 ls []) rfl ?_
  refine lv_aload_n C.1.1 C.1.2.1 dP_head_70 rfl (lv_at hl 0 rfl) ?_
  refine lv_iconst (v := (2 : Int32)) C.1.1 C.1.2.1 dP_head_71 (by decide) ?_
  obtain ⟨⟨r2, z2, pv2⟩, g2, hf⟩ := ts_b hf
  try dsimp only at hf
  refine c_callV (rest := []) (As := [.int (2 : Int32)]) (rv := (some (.long r2))) (b := qp) C hl.1 hw (cP_fixed_met g2) rfl (callW_of (rm := rP_fixed) (C := "MidiDesk$Parser") 1 C.1.2.2.2.2 gw_246 gw_248 gw_1 gw_59 gw_249 kP_fixed ⟨Nat.le_of_ble_eq_true rfl, Nat.le_of_ble_eq_true rfl⟩) (c_recvX (ci := 2) C.2 rfl hw) rfl rfl (Nat.le_of_ble_eq_true rfl) dP_head_72 ⟨Nat.le_of_ble_eq_true rfl, Nat.le_of_ble_eq_true rfl⟩ (fun H locs hw => ?_)
  refine W.eq (g2 := F0 m 75 ls [.long r2]) rfl ?_
  refine lv_l2i C.1.1 C.1.2.1 dP_head_75 rfl ?_
  refine lv_istore_n (lv' := [(2, .int r2.toInt32), (0, .ref qp), (1, .int x1)]) C.1.1 C.1.2.1 dP_head_76 rfl hl (by decide) rfl (fun ls hl => ?_)
  refine lv_iload_n C.1.1 C.1.2.1 dP_head_77 rfl (lv_at hl 2 rfl) ?_
  refine lv_if_ne (tgt := 85) C.1.1 C.1.2.1 dP_head_78 (by decide) (fun c3 => ?_) (fun c3 => ?_)
  · have hf := ts_f hf c3
    refine lv_bipush (v := (16 : Int32)) C.1.1 C.1.2.1 dP_head_85 (by decide) ?_
    exact wP_head_87 C hr hlk hrv z2 pv2 x1 r2.toInt32 (16 : Int32) _ _ ls (lv_sub hl [1, 2, 0] rfl) hw hf
  · have hf := ts_t hf c3
    refine lv_iconst (v := (1 : Int32)) C.1.1 C.1.2.1 dP_head_81 (by decide) ?_
    refine lv_goto (tgt := 87) C.1.1 C.1.2.1 dP_head_82 (by decide) ?_
    exact wP_head_87 C hr hlk hrv z2 pv2 x1 r2.toInt32 (1 : Int32) _ _ ls (lv_sub hl [1, 2, 0] rfl) hw hf
set_option maxHeartbeats 4000000 in
set_option maxRecDepth 100000 in
theorem wP_head_41 {p : Program} {l : Launch} {e : Env} {s : State} {m : MethodId} {args : Array Value} {below : List Frame} {meth : Method} {c : Code} {g : gT} {qq ad ea : Nat → Nat} {h : cH} {X : va_W} {rv : Option Value} {qp : Nat} {pv0 pv' : Nat → Int32} {z' : cZ} (C : mCx p m c cP_head 5 s args g "MidiDesk$Parser") (hr : meth.sig.returnType = none) (hlk : meth.locks = false) (hrv : rv = none) (z : cZ) (pv : Nat → Int32) (s1 : Int32) (H : Heap) (locs : List Loc) (ls : Array Slot) (hl : lv_has ls 5 [(0, .ref qp)]) (hw : cWd g (cA g qq ad ea h (pcell qp qq pv0 :: X) s.heap.size) s.heap qq ad ea h (pcell qp qq pv :: X) z H locs) (hf : jP_head_41 h z pv s1 = some (z', pv')) : cG p l e rP_head s m args below meth c g qq ad ea h (pcell qp qq pv0 :: X) rv (pcell qp qq pv' :: X) z' H locs 0 0 (F0 m 41 ls [.int s1, .ref qp]) := by
  unfold jP_head_41 at hf
  refine lv_iconst (v := (2 : Int32)) C.1.1 C.1.2.1 dP_head_41 (by decide) ?_
  refine lv_iconst (v := (4 : Int32)) C.1.1 C.1.2.1 dP_head_42 (by decide) ?_
  obtain ⟨⟨z1, pv1⟩, g1, hf⟩ := ts_b hf
  try dsimp only at hf
  refine c_callV (rest := []) (As := [.int s1, .int (2 : Int32), .int (4 : Int32)]) (rv := none) (b := qp) C hl.1 hw (cP_expect_met g1) rfl (callW_of (rm := rP_expect) (C := "MidiDesk$Parser") 3 C.1.2.2.2.2 gw_250 gw_252 gw_2 gw_59 gw_253 kP_expect ⟨Nat.le_of_ble_eq_true rfl, Nat.le_of_ble_eq_true rfl⟩) (c_recvX (ci := 2) C.2 rfl hw) rfl rfl (Nat.le_of_ble_eq_true rfl) dP_head_43 ⟨Nat.le_of_ble_eq_true rfl, Nat.le_of_ble_eq_true rfl⟩ (fun H locs hw => ?_)
  refine W.eq (g2 := F0 m 46 ls []) rfl ?_
  refine lv_aload_n C.1.1 C.1.2.1 dP_head_46 rfl (lv_at hl 0 rfl) ?_
  refine lv_iconst (v := (2 : Int32)) C.1.1 C.1.2.1 dP_head_47 (by decide) ?_
  obtain ⟨⟨r2, z2, pv2⟩, g2, hf⟩ := ts_b hf
  try dsimp only at hf
  refine c_callV (rest := []) (As := [.int (2 : Int32)]) (rv := (some (.long r2))) (b := qp) C hl.1 hw (cP_fixed_met g2) rfl (callW_of (rm := rP_fixed) (C := "MidiDesk$Parser") 1 C.1.2.2.2.2 gw_246 gw_248 gw_1 gw_59 gw_249 kP_fixed ⟨Nat.le_of_ble_eq_true rfl, Nat.le_of_ble_eq_true rfl⟩) (c_recvX (ci := 2) C.2 rfl hw) rfl rfl (Nat.le_of_ble_eq_true rfl) dP_head_48 ⟨Nat.le_of_ble_eq_true rfl, Nat.le_of_ble_eq_true rfl⟩ (fun H locs hw => ?_)
  refine W.eq (g2 := F0 m 51 ls [.long r2]) rfl ?_
  refine lv_l2i C.1.1 C.1.2.1 dP_head_51 rfl ?_
  refine lv_istore_n (lv' := [(1, .int r2.toInt32), (0, .ref qp)]) C.1.1 C.1.2.1 dP_head_52 rfl hl (by decide) rfl (fun ls hl => ?_)
  refine lv_aload_n C.1.1 C.1.2.1 dP_head_53 rfl (lv_at hl 1 rfl) ?_
  refine lv_iload_n C.1.1 C.1.2.1 dP_head_54 rfl (lv_at hl 0 rfl) ?_
  refine lv_iconst (v := (2 : Int32)) C.1.1 C.1.2.1 dP_head_55 (by decide) ?_
  refine lv_icmp_gt (tgt := 63) C.1.1 C.1.2.1 dP_head_56 (by decide) (fun c3 => ?_) (fun c3 => ?_)
  · have hf := ts_t hf c3
    refine lv_iconst (v := (0 : Int32)) C.1.1 C.1.2.1 dP_head_63 (by decide) ?_
    exact wP_head_64 C hr hlk hrv z2 pv2 r2.toInt32 (0 : Int32) _ _ ls (lv_sub hl [1, 0] rfl) hw hf
  · have hf := ts_f hf c3
    refine lv_iconst (v := (1 : Int32)) C.1.1 C.1.2.1 dP_head_59 (by decide) ?_
    refine lv_goto (tgt := 64) C.1.1 C.1.2.1 dP_head_60 (by decide) ?_
    exact wP_head_64 C hr hlk hrv z2 pv2 r2.toInt32 (1 : Int32) _ _ ls (lv_sub hl [1, 0] rfl) hw hf
set_option maxHeartbeats 4000000 in
set_option maxRecDepth 100000 in
theorem wP_head_18 {p : Program} {l : Launch} {e : Env} {s : State} {m : MethodId} {args : Array Value} {below : List Frame} {meth : Method} {c : Code} {g : gT} {qq ad ea : Nat → Nat} {h : cH} {X : va_W} {rv : Option Value} {qp : Nat} {pv0 pv' : Nat → Int32} {z' : cZ} (C : mCx p m c cP_head 5 s args g "MidiDesk$Parser") (hr : meth.sig.returnType = none) (hlk : meth.locks = false) (hrv : rv = none) (z : cZ) (pv : Nat → Int32) (s1 : Int32) (H : Heap) (locs : List Loc) (ls : Array Slot) (hl : lv_has ls 5 [(0, .ref qp)]) (hw : cWd g (cA g qq ad ea h (pcell qp qq pv0 :: X) s.heap.size) s.heap qq ad ea h (pcell qp qq pv :: X) z H locs) (hf : jP_head_18 h z pv s1 = some (z', pv')) : cG p l e rP_head s m args below meth c g qq ad ea h (pcell qp qq pv0 :: X) rv (pcell qp qq pv' :: X) z' H locs 0 0 (F0 m 18 ls [.int s1, .ref qp]) := by
  unfold jP_head_18 at hf
  refine lv_iconst (v := (2 : Int32)) C.1.1 C.1.2.1 dP_head_18 (by decide) ?_
  refine lv_iconst (v := (0 : Int32)) C.1.1 C.1.2.1 dP_head_19 (by decide) ?_
  obtain ⟨⟨z1, pv1⟩, g1, hf⟩ := ts_b hf
  try dsimp only at hf
  refine c_callV (rest := []) (As := [.int s1, .int (2 : Int32), .int (0 : Int32)]) (rv := none) (b := qp) C hl.1 hw (cP_expect_met g1) rfl (callW_of (rm := rP_expect) (C := "MidiDesk$Parser") 3 C.1.2.2.2.2 gw_250 gw_252 gw_2 gw_59 gw_253 kP_expect ⟨Nat.le_of_ble_eq_true rfl, Nat.le_of_ble_eq_true rfl⟩) (c_recvX (ci := 2) C.2 rfl hw) rfl rfl (Nat.le_of_ble_eq_true rfl) dP_head_20 ⟨Nat.le_of_ble_eq_true rfl, Nat.le_of_ble_eq_true rfl⟩ (fun H locs hw => ?_)
  refine W.eq (g2 := F0 m 23 ls []) rfl ?_
  refine lv_aload_n C.1.1 C.1.2.1 dP_head_23 rfl (lv_at hl 0 rfl) ?_
  refine lv_aload_n C.1.1 C.1.2.1 dP_head_24 rfl (lv_at hl 0 rfl) ?_
  refine lv_iconst (v := (4 : Int32)) C.1.1 C.1.2.1 dP_head_25 (by decide) ?_
  obtain ⟨⟨r2, z2, pv2⟩, g2, hf⟩ := ts_b hf
  try dsimp only at hf
  refine c_callV (rest := [.ref qp]) (As := [.int (4 : Int32)]) (rv := (some (.long r2))) (b := qp) C hl.1 hw (cP_fixed_met g2) rfl (callW_of (rm := rP_fixed) (C := "MidiDesk$Parser") 1 C.1.2.2.2.2 gw_246 gw_248 gw_1 gw_59 gw_249 kP_fixed ⟨Nat.le_of_ble_eq_true rfl, Nat.le_of_ble_eq_true rfl⟩) (c_recvX (ci := 2) C.2 rfl hw) rfl rfl (Nat.le_of_ble_eq_true rfl) dP_head_26 ⟨Nat.le_of_ble_eq_true rfl, Nat.le_of_ble_eq_true rfl⟩ (fun H locs hw => ?_)
  refine W.eq (g2 := F0 m 29 ls [.long r2, .ref qp]) rfl ?_
  refine lv_ldc2 C.1.1 C.1.2.1 C.1.2.2.2.1 (C.1.2.2.2.2 _ gw_260) dP_head_29 ?_
  refine W.lcmp C.1.1 C.1.2.1 dP_head_32 ?_
  refine lv_if_ne (tgt := 40) C.1.1 C.1.2.1 dP_head_33 (by decide) (fun c3 => ?_) (fun c3 => ?_)
  · have hf := ts_f hf c3
    refine lv_iconst (v := (0 : Int32)) C.1.1 C.1.2.1 dP_head_40 (by decide) ?_
    exact wP_head_41 C hr hlk hrv z2 pv2 (0 : Int32) _ _ ls (lv_sub hl [0] rfl) hw hf
  · have hf := ts_t hf c3
    refine lv_iconst (v := (1 : Int32)) C.1.1 C.1.2.1 dP_head_36 (by decide) ?_
    refine lv_goto (tgt := 41) C.1.1 C.1.2.1 dP_head_37 (by decide) ?_
    exact wP_head_41 C hr hlk hrv z2 pv2 (1 : Int32) _ _ ls (lv_sub hl [0] rfl) hw hf
set_option maxHeartbeats 4000000 in
set_option maxRecDepth 100000 in
theorem cP_head_met {l : Launch} {g : gT} {qq ad ea : Nat → Nat} {h : cH} {X : va_W} {qp : Nat} {pv pv' : Nat → Int32} {z z' : cZ} (hf : fP_head h z pv = some (z', pv')) : cMet l yP_head cP_head 5 none rP_head g qq ad ea h (pcell qp qq pv :: X) z [.ref qp] (none) (pcell qp qq pv' :: X) z' := by
  refine c_entry (by decide) (Nat.le_of_ble_eq_true rfl) ?_
  intro p e s m args below meth c ls C hr hlk hnm hl hw
  have hrv : (none : Option Value) = none := rfl
  have C : mCx p m c cP_head 5 s args g "MidiDesk$Parser" := C
  have hl : lv_has ls 5 [(0, .ref qp)] := hl
  unfold fP_head at hf
  refine lv_aload_n C.1.1 C.1.2.1 dP_head_0 rfl (lv_at hl 0 rfl) ?_
  refine lv_aload_n C.1.1 C.1.2.1 dP_head_1 rfl (lv_at hl 0 rfl) ?_
  refine lv_iconst (v := (4 : Int32)) C.1.1 C.1.2.1 dP_head_2 (by decide) ?_
  obtain ⟨⟨r1, z1, pv1⟩, g1, hf⟩ := ts_b hf
  try dsimp only at hf
  refine c_callV (rest := [.ref qp]) (As := [.int (4 : Int32)]) (rv := (some (.long r1))) (b := qp) C hl.1 hw (cP_fixed_met g1) rfl (callW_of (rm := rP_fixed) (C := "MidiDesk$Parser") 1 C.1.2.2.2.2 gw_246 gw_248 gw_1 gw_59 gw_249 kP_fixed ⟨Nat.le_of_ble_eq_true rfl, Nat.le_of_ble_eq_true rfl⟩) (c_recvX (ci := 2) C.2 rfl hw) rfl rfl (Nat.le_of_ble_eq_true rfl) dP_head_3 ⟨Nat.le_of_ble_eq_true rfl, Nat.le_of_ble_eq_true rfl⟩ (fun H locs hw => ?_)
  refine W.eq (g2 := F0 m 6 ls [.long r1, .ref qp]) rfl ?_
  refine lv_ldc2 C.1.1 C.1.2.1 C.1.2.2.2.1 (C.1.2.2.2.2 _ gw_259) dP_head_6 ?_
  refine W.lcmp C.1.1 C.1.2.1 dP_head_9 ?_
  refine lv_if_ne (tgt := 17) C.1.1 C.1.2.1 dP_head_10 (by decide) (fun c2 => ?_) (fun c2 => ?_)
  · have hf := ts_f hf c2
    refine lv_iconst (v := (0 : Int32)) C.1.1 C.1.2.1 dP_head_17 (by decide) ?_
    exact wP_head_18 C hr hlk hrv z1 pv1 (0 : Int32) _ _ ls (lv_sub hl [0] rfl) hw hf
  · have hf := ts_t hf c2
    refine lv_iconst (v := (1 : Int32)) C.1.1 C.1.2.1 dP_head_13 (by decide) ?_
    refine lv_goto (tgt := 18) C.1.1 C.1.2.1 dP_head_14 (by decide) ?_
    exact wP_head_18 C hr hlk hrv z1 pv1 (1 : Int32) _ _ ls (lv_sub hl [0] rfl) hw hf
abbrev cP_beginsTrack : ByteArray := prog_4_method_9_code
abbrev yP_beginsTrack : MethodName := ⟨"MidiDesk$Parser", "beginsTrack", "()Z"⟩
theorem kP_beginsTrack : yP_beginsTrack.cls ≠ "java/lang/invoke/MethodHandle" ∧ yP_beginsTrack.cls ≠ "java/lang/invoke/VarHandle" ∧ (parseMethodDescriptor yP_beginsTrack.desc).map (fun d => d.parameters.length) = some 0 := by decide +kernel
abbrev rP_beginsTrack : Room := { frames := 2, cells := 0, slots := 0, locals := 47 }
theorem dP_beginsTrack_0 : decode cP_beginsTrack 0 = .ok (.aload_n 0, 1) := by decide +kernel
theorem dP_beginsTrack_1 : decode cP_beginsTrack 1 = .ok (.getfield 40, 3) := by decide +kernel
theorem dP_beginsTrack_4 : decode cP_beginsTrack 4 = .ok (.istore_n 1, 1) := by decide +kernel
theorem dP_beginsTrack_5 : decode cP_beginsTrack 5 = .ok (.aload_n 0, 1) := by decide +kernel
theorem dP_beginsTrack_6 : decode cP_beginsTrack 6 = .ok (.iconst 4, 1) := by decide +kernel
theorem dP_beginsTrack_7 : decode cP_beginsTrack 7 = .ok (.invokevirtual 73, 3) := by decide +kernel
theorem dP_beginsTrack_10 : decode cP_beginsTrack 10 = .ok (.ldc2_w 91, 3) := by decide +kernel
theorem dP_beginsTrack_13 : decode cP_beginsTrack 13 = .ok (.lcmp, 1) := by decide +kernel
theorem dP_beginsTrack_14 : decode cP_beginsTrack 14 = .ok (.ifCond .ne 7, 3) := by decide +kernel
theorem dP_beginsTrack_17 : decode cP_beginsTrack 17 = .ok (.iconst 1, 1) := by decide +kernel
theorem dP_beginsTrack_18 : decode cP_beginsTrack 18 = .ok (.goto 4, 3) := by decide +kernel
theorem dP_beginsTrack_21 : decode cP_beginsTrack 21 = .ok (.iconst 0, 1) := by decide +kernel
theorem dP_beginsTrack_22 : decode cP_beginsTrack 22 = .ok (.istore_n 2, 1) := by decide +kernel
theorem dP_beginsTrack_23 : decode cP_beginsTrack 23 = .ok (.aload_n 0, 1) := by decide +kernel
theorem dP_beginsTrack_24 : decode cP_beginsTrack 24 = .ok (.iload_n 2, 1) := by decide +kernel
theorem dP_beginsTrack_25 : decode cP_beginsTrack 25 = .ok (.ifCond .eq 17, 3) := by decide +kernel
theorem dP_beginsTrack_28 : decode cP_beginsTrack 28 = .ok (.aload_n 0, 1) := by decide +kernel
theorem dP_beginsTrack_29 : decode cP_beginsTrack 29 = .ok (.getfield 50, 3) := by decide +kernel
theorem dP_beginsTrack_32 : decode cP_beginsTrack 32 = .ok (.aload_n 0, 1) := by decide +kernel
theorem dP_beginsTrack_33 : decode cP_beginsTrack 33 = .ok (.getfield 15, 3) := by decide +kernel
theorem dP_beginsTrack_36 : decode cP_beginsTrack 36 = .ok (.getfield 53, 3) := by decide +kernel
theorem dP_beginsTrack_39 : decode cP_beginsTrack 39 = .ok (.if_icmp .ge 7, 3) := by decide +kernel
theorem dP_beginsTrack_42 : decode cP_beginsTrack 42 = .ok (.iconst 1, 1) := by decide +kernel
theorem dP_beginsTrack_43 : decode cP_beginsTrack 43 = .ok (.goto 4, 3) := by decide +kernel
theorem dP_beginsTrack_46 : decode cP_beginsTrack 46 = .ok (.iconst 0, 1) := by decide +kernel
theorem dP_beginsTrack_47 : decode cP_beginsTrack 47 = .ok (.bipush 10, 2) := by decide +kernel
theorem dP_beginsTrack_49 : decode cP_beginsTrack 49 = .ok (.iload_n 1, 1) := by decide +kernel
theorem dP_beginsTrack_50 : decode cP_beginsTrack 50 = .ok (.invokevirtual 56, 3) := by decide +kernel
theorem dP_beginsTrack_53 : decode cP_beginsTrack 53 = .ok (.aload_n 0, 1) := by decide +kernel
theorem dP_beginsTrack_54 : decode cP_beginsTrack 54 = .ok (.iconst 4, 1) := by decide +kernel
theorem dP_beginsTrack_55 : decode cP_beginsTrack 55 = .ok (.invokevirtual 73, 3) := by decide +kernel
theorem dP_beginsTrack_58 : decode cP_beginsTrack 58 = .ok (.lstore_n 3, 1) := by decide +kernel
theorem dP_beginsTrack_59 : decode cP_beginsTrack 59 = .ok (.aload_n 0, 1) := by decide +kernel
theorem dP_beginsTrack_60 : decode cP_beginsTrack 60 = .ok (.lload_n 3, 1) := by decide +kernel
theorem dP_beginsTrack_61 : decode cP_beginsTrack 61 = .ok (.aload_n 0, 1) := by decide +kernel
theorem dP_beginsTrack_62 : decode cP_beginsTrack 62 = .ok (.getfield 30, 3) := by decide +kernel
theorem dP_beginsTrack_65 : decode cP_beginsTrack 65 = .ok (.aload_n 0, 1) := by decide +kernel
theorem dP_beginsTrack_66 : decode cP_beginsTrack 66 = .ok (.getfield 40, 3) := by decide +kernel
theorem dP_beginsTrack_69 : decode cP_beginsTrack 69 = .ok (.isub, 1) := by decide +kernel
theorem dP_beginsTrack_70 : decode cP_beginsTrack 70 = .ok (.i2l, 1) := by decide +kernel
theorem dP_beginsTrack_71 : decode cP_beginsTrack 71 = .ok (.lcmp, 1) := by decide +kernel
theorem dP_beginsTrack_72 : decode cP_beginsTrack 72 = .ok (.ifCond .gt 7, 3) := by decide +kernel
theorem dP_beginsTrack_75 : decode cP_beginsTrack 75 = .ok (.iconst 1, 1) := by decide +kernel
theorem dP_beginsTrack_76 : decode cP_beginsTrack 76 = .ok (.goto 4, 3) := by decide +kernel
theorem dP_beginsTrack_79 : decode cP_beginsTrack 79 = .ok (.iconst 0, 1) := by decide +kernel
theorem dP_beginsTrack_80 : decode cP_beginsTrack 80 = .ok (.iconst 1, 1) := by decide +kernel
theorem dP_beginsTrack_81 : decode cP_beginsTrack 81 = .ok (.aload_n 0, 1) := by decide +kernel
theorem dP_beginsTrack_82 : decode cP_beginsTrack 82 = .ok (.getfield 30, 3) := by decide +kernel
theorem dP_beginsTrack_85 : decode cP_beginsTrack 85 = .ok (.invokevirtual 56, 3) := by decide +kernel
theorem dP_beginsTrack_88 : decode cP_beginsTrack 88 = .ok (.aload_n 0, 1) := by decide +kernel
theorem dP_beginsTrack_89 : decode cP_beginsTrack 89 = .ok (.getfield 37, 3) := by decide +kernel
theorem dP_beginsTrack_92 : decode cP_beginsTrack 92 = .ok (.ifCond .eq 5, 3) := by decide +kernel
theorem dP_beginsTrack_95 : decode cP_beginsTrack 95 = .ok (.iconst 0, 1) := by decide +kernel
theorem dP_beginsTrack_96 : decode cP_beginsTrack 96 = .ok (.ireturn, 1) := by decide +kernel
theorem dP_beginsTrack_97 : decode cP_beginsTrack 97 = .ok (.aload_n 0, 1) := by decide +kernel
theorem dP_beginsTrack_98 : decode cP_beginsTrack 98 = .ok (.aload_n 0, 1) := by decide +kernel
theorem dP_beginsTrack_99 : decode cP_beginsTrack 99 = .ok (.getfield 40, 3) := by decide +kernel
theorem dP_beginsTrack_102 : decode cP_beginsTrack 102 = .ok (.lload_n 3, 1) := by decide +kernel
theorem dP_beginsTrack_103 : decode cP_beginsTrack 103 = .ok (.l2i, 1) := by decide +kernel
theorem dP_beginsTrack_104 : decode cP_beginsTrack 104 = .ok (.iadd, 1) := by decide +kernel
theorem dP_beginsTrack_105 : decode cP_beginsTrack 105 = .ok (.putfield 30, 3) := by decide +kernel
theorem dP_beginsTrack_108 : decode cP_beginsTrack 108 = .ok (.iload_n 2, 1) := by decide +kernel
theorem dP_beginsTrack_109 : decode cP_beginsTrack 109 = .ok (.ireturn, 1) := by decide +kernel
def jP_beginsTrack_80 (h : cH) (z : cZ) (pv : Nat → Int32) (x2 : Int32) (y3 : Int64) (s1 : Int32) : Option (Int32 × cZ × (Nat → Int32)) := (fP_expect h z pv s1 (1 : Int32) (pv 1)).bind fun (z1, pv1) => if (pv1 2) = 0 then (if ¬ (x2 = 0 ∨ x2 = 1) then none else some (x2, z1, upd pv1 1 ((pv1 0) + y3.toInt32))) else (some ((0 : Int32), z1, pv1))
def jP_beginsTrack_47 (h : cH) (z : cZ) (pv : Nat → Int32) (x1 : Int32) (x2 : Int32) (s1 : Int32) : Option (Int32 × cZ × (Nat → Int32)) := (fP_expect h z pv s1 (10 : Int32) x1).bind fun (z1, pv1) => (fP_fixed h z1 pv1 (4 : Int32)).bind fun (r2, z2, pv2) => if 0 < (lg_cmp r2 (((pv2 1) - (pv2 0)).toInt64)) then (jP_beginsTrack_80 h z2 pv2 x2 r2 (0 : Int32)) else (jP_beginsTrack_80 h z2 pv2 x2 r2 (1 : Int32))
def jP_beginsTrack_42 (h : cH) (z : cZ) (pv : Nat → Int32) (x1 : Int32) (x2 : Int32) : Option (Int32 × cZ × (Nat → Int32)) := jP_beginsTrack_47 h z pv x1 x2 (1 : Int32)
def jP_beginsTrack_22 (h : cH) (z : cZ) (pv : Nat → Int32) (x1 : Int32) (s0 : Int32) : Option (Int32 × cZ × (Nat → Int32)) := if s0 = 0 then (jP_beginsTrack_42 h z pv x1 s0) else (if (zi z 5) ≤ (pv 3) then (jP_beginsTrack_47 h z pv x1 s0 (0 : Int32)) else (jP_beginsTrack_42 h z pv x1 s0))
def fP_beginsTrack (h : cH) (z : cZ) (pv : Nat → Int32) : Option (Int32 × cZ × (Nat → Int32)) := (fP_fixed h z pv (4 : Int32)).bind fun (r1, z1, pv1) => if (lg_cmp r1 (1297379947 : Int64)) = 0 then (jP_beginsTrack_22 h z1 pv1 (pv 0) (1 : Int32)) else (jP_beginsTrack_22 h z1 pv1 (pv 0) (0 : Int32))
set_option maxHeartbeats 4000000 in
set_option maxRecDepth 100000 in
theorem wP_beginsTrack_80 {p : Program} {l : Launch} {e : Env} {s : State} {m : MethodId} {args : Array Value} {below : List Frame} {meth : Method} {c : Code} {g : gT} {qq ad ea : Nat → Nat} {h : cH} {X : va_W} {rv : Option Value} {qp : Nat} {pv0 pv' : Nat → Int32} {z' : cZ} {r' : Int32} (C : mCx p m c cP_beginsTrack 5 s args g "MidiDesk$Parser") (hr : meth.sig.returnType = (some .boolean)) (hlk : meth.locks = false) (hrv : rv = some (.int r')) (z : cZ) (pv : Nat → Int32) (x2 : Int32) (y3 : Int64) (s1 : Int32) (H : Heap) (locs : List Loc) (ls : Array Slot) (hl : lv_has ls 5 [(0, .ref qp), (2, .int x2), (3, .long y3)]) (hw : cWd g (cA g qq ad ea h (pcell qp qq pv0 :: X) s.heap.size) s.heap qq ad ea h (pcell qp qq pv :: X) z H locs) (hf : jP_beginsTrack_80 h z pv x2 y3 s1 = some (r', z', pv')) : cG p l e rP_beginsTrack s m args below meth c g qq ad ea h (pcell qp qq pv0 :: X) rv (pcell qp qq pv' :: X) z' H locs 0 0 (F0 m 80 ls [.int s1, .ref qp]) := by
  unfold jP_beginsTrack_80 at hf
  refine lv_iconst (v := (1 : Int32)) C.1.1 C.1.2.1 dP_beginsTrack_80 (by decide) ?_
  refine lv_aload_n C.1.1 C.1.2.1 dP_beginsTrack_81 rfl (lv_at hl 0 rfl) ?_
  refine cg_Parser_Parser_end C hw dP_beginsTrack_82 ?_
  obtain ⟨⟨z1, pv1⟩, g1, hf⟩ := ts_b hf
  try dsimp only at hf
  refine c_callV (rest := []) (As := [.int s1, .int (1 : Int32), .int (pv 1)]) (rv := none) (b := qp) C hl.1 hw (cP_expect_met g1) rfl (callW_of (rm := rP_expect) (C := "MidiDesk$Parser") 3 C.1.2.2.2.2 gw_250 gw_252 gw_2 gw_59 gw_253 kP_expect ⟨Nat.le_of_ble_eq_true rfl, Nat.le_of_ble_eq_true rfl⟩) (c_recvX (ci := 2) C.2 rfl hw) rfl rfl (Nat.le_of_ble_eq_true rfl) dP_beginsTrack_85 ⟨Nat.le_of_ble_eq_true rfl, Nat.le_of_ble_eq_true rfl⟩ (fun H locs hw => ?_)
  refine W.eq (g2 := F0 m 88 ls []) rfl ?_
  refine lv_aload_n C.1.1 C.1.2.1 dP_beginsTrack_88 rfl (lv_at hl 0 rfl) ?_
  refine cg_Parser_Parser_fault C hw dP_beginsTrack_89 ?_
  refine lv_if_eq (tgt := 97) C.1.1 C.1.2.1 dP_beginsTrack_92 (by decide) (fun c2 => ?_) (fun c2 => ?_)
  · have hf := ts_t hf c2
    refine lv_aload_n C.1.1 C.1.2.1 dP_beginsTrack_97 rfl (lv_at hl 0 rfl) ?_
    refine lv_aload_n C.1.1 C.1.2.1 dP_beginsTrack_98 rfl (lv_at hl 0 rfl) ?_
    refine cg_Parser_Parser_pos C hw dP_beginsTrack_99 ?_
    refine lv_lload_n C.1.1 C.1.2.1 dP_beginsTrack_102 rfl (lv_at hl 2 rfl) ?_
    refine lv_l2i C.1.1 C.1.2.1 dP_beginsTrack_103 rfl ?_
    refine lv_iadd C.1.1 C.1.2.1 dP_beginsTrack_104 ?_
    refine cp_Parser_Parser_end C hw dP_beginsTrack_105 (fun H locs hw => ?_)
    refine lv_iload_n C.1.1 C.1.2.1 dP_beginsTrack_108 rfl (lv_at hl 1 rfl) ?_
    obtain ⟨h3, hf⟩ := ts_g hf
    obtain ⟨hf, hpv⟩ := pr3 hf
    exact c_retz C hr hlk hrv hw (Decidable.not_not.mp h3) hf (by rw [hpv]) ⟨Nat.le_of_ble_eq_true rfl, Nat.le_of_ble_eq_true rfl⟩ dP_beginsTrack_109
  · have hf := ts_f hf c2
    refine lv_iconst (v := (0 : Int32)) C.1.1 C.1.2.1 dP_beginsTrack_95 (by decide) ?_
    obtain ⟨hf, hpv⟩ := pr3 hf
    exact c_retz C hr hlk hrv hw (Or.inl rfl) hf (by rw [hpv]) ⟨Nat.le_of_ble_eq_true rfl, Nat.le_of_ble_eq_true rfl⟩ dP_beginsTrack_96
set_option maxHeartbeats 4000000 in
set_option maxRecDepth 100000 in
theorem wP_beginsTrack_47 {p : Program} {l : Launch} {e : Env} {s : State} {m : MethodId} {args : Array Value} {below : List Frame} {meth : Method} {c : Code} {g : gT} {qq ad ea : Nat → Nat} {h : cH} {X : va_W} {rv : Option Value} {qp : Nat} {pv0 pv' : Nat → Int32} {z' : cZ} {r' : Int32} (C : mCx p m c cP_beginsTrack 5 s args g "MidiDesk$Parser") (hr : meth.sig.returnType = (some .boolean)) (hlk : meth.locks = false) (hrv : rv = some (.int r')) (z : cZ) (pv : Nat → Int32) (x1 : Int32) (x2 : Int32) (s1 : Int32) (H : Heap) (locs : List Loc) (ls : Array Slot) (hl : lv_has ls 5 [(0, .ref qp), (1, .int x1), (2, .int x2)]) (hw : cWd g (cA g qq ad ea h (pcell qp qq pv0 :: X) s.heap.size) s.heap qq ad ea h (pcell qp qq pv :: X) z H locs) (hf : jP_beginsTrack_47 h z pv x1 x2 s1 = some (r', z', pv')) : cG p l e rP_beginsTrack s m args below meth c g qq ad ea h (pcell qp qq pv0 :: X) rv (pcell qp qq pv' :: X) z' H locs 0 0 (F0 m 47 ls [.int s1, .ref qp]) := by
  unfold jP_beginsTrack_47 at hf
  refine lv_bipush (v := (10 : Int32)) C.1.1 C.1.2.1 dP_beginsTrack_47 (by decide) ?_
  refine lv_iload_n C.1.1 C.1.2.1 dP_beginsTrack_49 rfl (lv_at hl 1 rfl) ?_
  obtain ⟨⟨z1, pv1⟩, g1, hf⟩ := ts_b hf
  try dsimp only at hf
  refine c_callV (rest := []) (As := [.int s1, .int (10 : Int32), .int x1]) (rv := none) (b := qp) C hl.1 hw (cP_expect_met g1) rfl (callW_of (rm := rP_expect) (C := "MidiDesk$Parser") 3 C.1.2.2.2.2 gw_250 gw_252 gw_2 gw_59 gw_253 kP_expect ⟨Nat.le_of_ble_eq_true rfl, Nat.le_of_ble_eq_true rfl⟩) (c_recvX (ci := 2) C.2 rfl hw) rfl rfl (Nat.le_of_ble_eq_true rfl) dP_beginsTrack_50 ⟨Nat.le_of_ble_eq_true rfl, Nat.le_of_ble_eq_true rfl⟩ (fun H locs hw => ?_)
  refine W.eq (g2 := F0 m 53 ls []) rfl ?_
  refine lv_aload_n C.1.1 C.1.2.1 dP_beginsTrack_53 rfl (lv_at hl 0 rfl) ?_
  refine lv_iconst (v := (4 : Int32)) C.1.1 C.1.2.1 dP_beginsTrack_54 (by decide) ?_
  obtain ⟨⟨r2, z2, pv2⟩, g2, hf⟩ := ts_b hf
  try dsimp only at hf
  refine c_callV (rest := []) (As := [.int (4 : Int32)]) (rv := (some (.long r2))) (b := qp) C hl.1 hw (cP_fixed_met g2) rfl (callW_of (rm := rP_fixed) (C := "MidiDesk$Parser") 1 C.1.2.2.2.2 gw_246 gw_248 gw_1 gw_59 gw_249 kP_fixed ⟨Nat.le_of_ble_eq_true rfl, Nat.le_of_ble_eq_true rfl⟩) (c_recvX (ci := 2) C.2 rfl hw) rfl rfl (Nat.le_of_ble_eq_true rfl) dP_beginsTrack_55 ⟨Nat.le_of_ble_eq_true rfl, Nat.le_of_ble_eq_true rfl⟩ (fun H locs hw => ?_)
  refine W.eq (g2 := F0 m 58 ls [.long r2]) rfl ?_
  refine lv_lstore_n (lv' := [(3, .long r2), (0, .ref qp), (1, .int x1), (2, .int x2)]) C.1.1 C.1.2.1 dP_beginsTrack_58 rfl hl (by decide) rfl (fun ls hl => ?_)
  refine lv_aload_n C.1.1 C.1.2.1 dP_beginsTrack_59 rfl (lv_at hl 1 rfl) ?_
  refine lv_lload_n C.1.1 C.1.2.1 dP_beginsTrack_60 rfl (lv_at hl 0 rfl) ?_
  refine lv_aload_n C.1.1 C.1.2.1 dP_beginsTrack_61 rfl (lv_at hl 1 rfl) ?_
  refine cg_Parser_Parser_end C hw dP_beginsTrack_62 ?_
  refine lv_aload_n C.1.1 C.1.2.1 dP_beginsTrack_65 rfl (lv_at hl 1 rfl) ?_
  refine cg_Parser_Parser_pos C hw dP_beginsTrack_66 ?_
  refine lv_isub C.1.1 C.1.2.1 dP_beginsTrack_69 ?_
  refine lv_i2l C.1.1 C.1.2.1 dP_beginsTrack_70 rfl ?_
  refine W.lcmp C.1.1 C.1.2.1 dP_beginsTrack_71 ?_
  refine lv_if_gt (tgt := 79) C.1.1 C.1.2.1 dP_beginsTrack_72 (by decide) (fun c3 => ?_) (fun c3 => ?_)
  · have hf := ts_t hf c3
    refine lv_iconst (v := (0 : Int32)) C.1.1 C.1.2.1 dP_beginsTrack_79 (by decide) ?_
    exact wP_beginsTrack_80 C hr hlk hrv z2 pv2 x2 r2 (0 : Int32) _ _ ls (lv_sub hl [1, 3, 0] rfl) hw hf
  · have hf := ts_f hf c3
    refine lv_iconst (v := (1 : Int32)) C.1.1 C.1.2.1 dP_beginsTrack_75 (by decide) ?_
    refine lv_goto (tgt := 80) C.1.1 C.1.2.1 dP_beginsTrack_76 (by decide) ?_
    exact wP_beginsTrack_80 C hr hlk hrv z2 pv2 x2 r2 (1 : Int32) _ _ ls (lv_sub hl [1, 3, 0] rfl) hw hf
set_option maxHeartbeats 4000000 in
set_option maxRecDepth 100000 in
theorem wP_beginsTrack_42 {p : Program} {l : Launch} {e : Env} {s : State} {m : MethodId} {args : Array Value} {below : List Frame} {meth : Method} {c : Code} {g : gT} {qq ad ea : Nat → Nat} {h : cH} {X : va_W} {rv : Option Value} {qp : Nat} {pv0 pv' : Nat → Int32} {z' : cZ} {r' : Int32} (C : mCx p m c cP_beginsTrack 5 s args g "MidiDesk$Parser") (hr : meth.sig.returnType = (some .boolean)) (hlk : meth.locks = false) (hrv : rv = some (.int r')) (z : cZ) (pv : Nat → Int32) (x1 : Int32) (x2 : Int32) (H : Heap) (locs : List Loc) (ls : Array Slot) (hl : lv_has ls 5 [(0, .ref qp), (1, .int x1), (2, .int x2)]) (hw : cWd g (cA g qq ad ea h (pcell qp qq pv0 :: X) s.heap.size) s.heap qq ad ea h (pcell qp qq pv :: X) z H locs) (hf : jP_beginsTrack_42 h z pv x1 x2 = some (r', z', pv')) : cG p l e rP_beginsTrack s m args below meth c g qq ad ea h (pcell qp qq pv0 :: X) rv (pcell qp qq pv' :: X) z' H locs 0 0 (F0 m 42 ls [.ref qp]) := by
  unfold jP_beginsTrack_42 at hf
  refine lv_iconst (v := (1 : Int32)) C.1.1 C.1.2.1 dP_beginsTrack_42 (by decide) ?_
  refine lv_goto (tgt := 47) C.1.1 C.1.2.1 dP_beginsTrack_43 (by decide) ?_
  exact wP_beginsTrack_47 C hr hlk hrv z pv x1 x2 (1 : Int32) _ _ ls (lv_sub hl [0, 1, 2] rfl) hw hf
set_option maxHeartbeats 4000000 in
set_option maxRecDepth 100000 in
theorem wP_beginsTrack_22 {p : Program} {l : Launch} {e : Env} {s : State} {m : MethodId} {args : Array Value} {below : List Frame} {meth : Method} {c : Code} {g : gT} {qq ad ea : Nat → Nat} {h : cH} {X : va_W} {rv : Option Value} {qp : Nat} {pv0 pv' : Nat → Int32} {z' : cZ} {r' : Int32} (C : mCx p m c cP_beginsTrack 5 s args g "MidiDesk$Parser") (hr : meth.sig.returnType = (some .boolean)) (hlk : meth.locks = false) (hrv : rv = some (.int r')) (z : cZ) (pv : Nat → Int32) (x1 : Int32) (s0 : Int32) (H : Heap) (locs : List Loc) (ls : Array Slot) (hl : lv_has ls 5 [(0, .ref qp), (1, .int x1)]) (hw : cWd g (cA g qq ad ea h (pcell qp qq pv0 :: X) s.heap.size) s.heap qq ad ea h (pcell qp qq pv :: X) z H locs) (hf : jP_beginsTrack_22 h z pv x1 s0 = some (r', z', pv')) : cG p l e rP_beginsTrack s m args below meth c g qq ad ea h (pcell qp qq pv0 :: X) rv (pcell qp qq pv' :: X) z' H locs 0 0 (F0 m 22 ls [.int s0]) := by
  unfold jP_beginsTrack_22 at hf
  refine lv_istore_n (lv' := [(2, .int s0), (0, .ref qp), (1, .int x1)]) C.1.1 C.1.2.1 dP_beginsTrack_22 rfl hl (by decide) rfl (fun ls hl => ?_)
  refine lv_aload_n C.1.1 C.1.2.1 dP_beginsTrack_23 rfl (lv_at hl 1 rfl) ?_
  refine lv_iload_n C.1.1 C.1.2.1 dP_beginsTrack_24 rfl (lv_at hl 0 rfl) ?_
  refine lv_if_eq (tgt := 42) C.1.1 C.1.2.1 dP_beginsTrack_25 (by decide) (fun c1 => ?_) (fun c1 => ?_)
  · have hf := ts_t hf c1
    exact wP_beginsTrack_42 C hr hlk hrv z pv x1 s0 _ _ ls (lv_sub hl [1, 2, 0] rfl) hw hf
  · have hf := ts_f hf c1
    refine lv_aload_n C.1.1 C.1.2.1 dP_beginsTrack_28 rfl (lv_at hl 1 rfl) ?_
    refine cg_Parser_Parser_tracksSeen C hw dP_beginsTrack_29 ?_
    refine lv_aload_n C.1.1 C.1.2.1 dP_beginsTrack_32 rfl (lv_at hl 1 rfl) ?_
    refine cg_Parser_Parser_score C hw dP_beginsTrack_33 ?_
    refine cg_Parser_Score_tracks C hw dP_beginsTrack_36 ?_
    refine lv_icmp_ge (tgt := 46) C.1.1 C.1.2.1 dP_beginsTrack_39 (by decide) (fun c2 => ?_) (fun c2 => ?_)
    · have hf := ts_t hf c2
      refine lv_iconst (v := (0 : Int32)) C.1.1 C.1.2.1 dP_beginsTrack_46 (by decide) ?_
      exact wP_beginsTrack_47 C hr hlk hrv z pv x1 s0 (0 : Int32) _ _ ls (lv_sub hl [1, 2, 0] rfl) hw hf
    · have hf := ts_f hf c2
      exact wP_beginsTrack_42 C hr hlk hrv z pv x1 s0 _ _ ls (lv_sub hl [1, 2, 0] rfl) hw hf
set_option maxHeartbeats 4000000 in
set_option maxRecDepth 100000 in
theorem cP_beginsTrack_met {l : Launch} {g : gT} {qq ad ea : Nat → Nat} {h : cH} {X : va_W} {qp : Nat} {pv pv' : Nat → Int32} {z z' : cZ} {r' : Int32} (hf : fP_beginsTrack h z pv = some (r', z', pv')) : cMet l yP_beginsTrack cP_beginsTrack 5 (some .boolean) rP_beginsTrack g qq ad ea h (pcell qp qq pv :: X) z [.ref qp] (some (.int r')) (pcell qp qq pv' :: X) z' := by
  refine c_entry (by decide) (Nat.le_of_ble_eq_true rfl) ?_
  intro p e s m args below meth c ls C hr hlk hnm hl hw
  have hrv : (some (.int r') : Option Value) = some (.int r') := rfl
  have C : mCx p m c cP_beginsTrack 5 s args g "MidiDesk$Parser" := C
  have hl : lv_has ls 5 [(0, .ref qp)] := hl
  unfold fP_beginsTrack at hf
  refine lv_aload_n C.1.1 C.1.2.1 dP_beginsTrack_0 rfl (lv_at hl 0 rfl) ?_
  refine cg_Parser_Parser_pos C hw dP_beginsTrack_1 ?_
  refine lv_istore_n (lv' := [(1, .int (pv 0)), (0, .ref qp)]) C.1.1 C.1.2.1 dP_beginsTrack_4 rfl hl (by decide) rfl (fun ls hl => ?_)
  refine lv_aload_n C.1.1 C.1.2.1 dP_beginsTrack_5 rfl (lv_at hl 1 rfl) ?_
  refine lv_iconst (v := (4 : Int32)) C.1.1 C.1.2.1 dP_beginsTrack_6 (by decide) ?_
  obtain ⟨⟨r1, z1, pv1⟩, g1, hf⟩ := ts_b hf
  try dsimp only at hf
  refine c_callV (rest := []) (As := [.int (4 : Int32)]) (rv := (some (.long r1))) (b := qp) C hl.1 hw (cP_fixed_met g1) rfl (callW_of (rm := rP_fixed) (C := "MidiDesk$Parser") 1 C.1.2.2.2.2 gw_246 gw_248 gw_1 gw_59 gw_249 kP_fixed ⟨Nat.le_of_ble_eq_true rfl, Nat.le_of_ble_eq_true rfl⟩) (c_recvX (ci := 2) C.2 rfl hw) rfl rfl (Nat.le_of_ble_eq_true rfl) dP_beginsTrack_7 ⟨Nat.le_of_ble_eq_true rfl, Nat.le_of_ble_eq_true rfl⟩ (fun H locs hw => ?_)
  refine W.eq (g2 := F0 m 10 ls [.long r1]) rfl ?_
  refine lv_ldc2 C.1.1 C.1.2.1 C.1.2.2.2.1 (C.1.2.2.2.2 _ gw_268) dP_beginsTrack_10 ?_
  refine W.lcmp C.1.1 C.1.2.1 dP_beginsTrack_13 ?_
  refine lv_if_ne (tgt := 21) C.1.1 C.1.2.1 dP_beginsTrack_14 (by decide) (fun c2 => ?_) (fun c2 => ?_)
  · have hf := ts_f hf c2
    refine lv_iconst (v := (0 : Int32)) C.1.1 C.1.2.1 dP_beginsTrack_21 (by decide) ?_
    exact wP_beginsTrack_22 C hr hlk hrv z1 pv1 (pv 0) (0 : Int32) _ _ ls (lv_sub hl [1, 0] rfl) hw hf
  · have hf := ts_t hf c2
    refine lv_iconst (v := (1 : Int32)) C.1.1 C.1.2.1 dP_beginsTrack_17 (by decide) ?_
    refine lv_goto (tgt := 22) C.1.1 C.1.2.1 dP_beginsTrack_18 (by decide) ?_
    exact wP_beginsTrack_22 C hr hlk hrv z1 pv1 (pv 0) (1 : Int32) _ _ ls (lv_sub hl [1, 0] rfl) hw hf
abbrev cP_status : ByteArray := prog_4_method_12_code
abbrev yP_status : MethodName := ⟨"MidiDesk$Parser", "status", "()I"⟩
theorem kP_status : yP_status.cls ≠ "java/lang/invoke/MethodHandle" ∧ yP_status.cls ≠ "java/lang/invoke/VarHandle" ∧ (parseMethodDescriptor yP_status.desc).map (fun d => d.parameters.length) = some 0 := by decide +kernel
abbrev rP_status : Room := { frames := 2, cells := 0, slots := 0, locals := 47 }
theorem dP_status_0 : decode cP_status 0 = .ok (.aload_n 0, 1) := by decide +kernel
theorem dP_status_1 : decode cP_status 1 = .ok (.getfield 40, 3) := by decide +kernel
theorem dP_status_4 : decode cP_status 4 = .ok (.istore_n 1, 1) := by decide +kernel
theorem dP_status_5 : decode cP_status 5 = .ok (.aload_n 0, 1) := by decide +kernel
theorem dP_status_6 : decode cP_status 6 = .ok (.iconst 1, 1) := by decide +kernel
theorem dP_status_7 : decode cP_status 7 = .ok (.invokevirtual 73, 3) := by decide +kernel
theorem dP_status_10 : decode cP_status 10 = .ok (.l2i, 1) := by decide +kernel
theorem dP_status_11 : decode cP_status 11 = .ok (.istore_n 2, 1) := by decide +kernel
theorem dP_status_12 : decode cP_status 12 = .ok (.aload_n 0, 1) := by decide +kernel
theorem dP_status_13 : decode cP_status 13 = .ok (.getfield 37, 3) := by decide +kernel
theorem dP_status_16 : decode cP_status 16 = .ok (.ifCond .ne 39, 3) := by decide +kernel
theorem dP_status_19 : decode cP_status 19 = .ok (.iload_n 2, 1) := by decide +kernel
theorem dP_status_20 : decode cP_status 20 = .ok (.sipush 128, 3) := by decide +kernel
theorem dP_status_23 : decode cP_status 23 = .ok (.if_icmp .ge 32, 3) := by decide +kernel
theorem dP_status_26 : decode cP_status 26 = .ok (.aload_n 0, 1) := by decide +kernel
theorem dP_status_27 : decode cP_status 27 = .ok (.aload_n 0, 1) := by decide +kernel
theorem dP_status_28 : decode cP_status 28 = .ok (.getfield 96, 3) := by decide +kernel
theorem dP_status_31 : decode cP_status 31 = .ok (.iconst (-1), 1) := by decide +kernel
theorem dP_status_32 : decode cP_status 32 = .ok (.if_icmp .eq 7, 3) := by decide +kernel
theorem dP_status_35 : decode cP_status 35 = .ok (.iconst 1, 1) := by decide +kernel
theorem dP_status_36 : decode cP_status 36 = .ok (.goto 4, 3) := by decide +kernel
theorem dP_status_39 : decode cP_status 39 = .ok (.iconst 0, 1) := by decide +kernel
theorem dP_status_40 : decode cP_status 40 = .ok (.iconst 5, 1) := by decide +kernel
theorem dP_status_41 : decode cP_status 41 = .ok (.iload_n 1, 1) := by decide +kernel
theorem dP_status_42 : decode cP_status 42 = .ok (.invokevirtual 56, 3) := by decide +kernel
theorem dP_status_45 : decode cP_status 45 = .ok (.aload_n 0, 1) := by decide +kernel
theorem dP_status_46 : decode cP_status 46 = .ok (.iload_n 1, 1) := by decide +kernel
theorem dP_status_47 : decode cP_status 47 = .ok (.putfield 40, 3) := by decide +kernel
theorem dP_status_50 : decode cP_status 50 = .ok (.aload_n 0, 1) := by decide +kernel
theorem dP_status_51 : decode cP_status 51 = .ok (.getfield 96, 3) := by decide +kernel
theorem dP_status_54 : decode cP_status 54 = .ok (.ireturn, 1) := by decide +kernel
theorem dP_status_55 : decode cP_status 55 = .ok (.aload_n 0, 1) := by decide +kernel
theorem dP_status_56 : decode cP_status 56 = .ok (.iload_n 2, 1) := by decide +kernel
theorem dP_status_57 : decode cP_status 57 = .ok (.sipush 240, 3) := by decide +kernel
theorem dP_status_60 : decode cP_status 60 = .ok (.if_icmp .le 17, 3) := by decide +kernel
theorem dP_status_63 : decode cP_status 63 = .ok (.iload_n 2, 1) := by decide +kernel
theorem dP_status_64 : decode cP_status 64 = .ok (.sipush 247, 3) := by decide +kernel
theorem dP_status_67 : decode cP_status 67 = .ok (.if_icmp .eq 10, 3) := by decide +kernel
theorem dP_status_70 : decode cP_status 70 = .ok (.iload_n 2, 1) := by decide +kernel
theorem dP_status_71 : decode cP_status 71 = .ok (.sipush 255, 3) := by decide +kernel
theorem dP_status_74 : decode cP_status 74 = .ok (.if_icmp .ne 7, 3) := by decide +kernel
theorem dP_status_77 : decode cP_status 77 = .ok (.iconst 1, 1) := by decide +kernel
theorem dP_status_78 : decode cP_status 78 = .ok (.goto 4, 3) := by decide +kernel
theorem dP_status_81 : decode cP_status 81 = .ok (.iconst 0, 1) := by decide +kernel
theorem dP_status_82 : decode cP_status 82 = .ok (.iconst 5, 1) := by decide +kernel
theorem dP_status_83 : decode cP_status 83 = .ok (.iload_n 1, 1) := by decide +kernel
theorem dP_status_84 : decode cP_status 84 = .ok (.invokevirtual 56, 3) := by decide +kernel
theorem dP_status_87 : decode cP_status 87 = .ok (.iload_n 2, 1) := by decide +kernel
theorem dP_status_88 : decode cP_status 88 = .ok (.ireturn, 1) := by decide +kernel
def jP_status_40 (h : cH) (z : cZ) (pv : Nat → Int32) (x1 : Int32) (s1 : Int32) : Option (Int32 × cZ × (Nat → Int32)) := (fP_expect h z pv s1 (5 : Int32) x1).bind fun (z1, pv1) => some ((upd pv1 0 x1) 5, z1, upd pv1 0 x1)
def jP_status_82 (h : cH) (z : cZ) (pv : Nat → Int32) (x1 : Int32) (x2 : Int32) (s1 : Int32) : Option (Int32 × cZ × (Nat → Int32)) := (fP_expect h z pv s1 (5 : Int32) x1).bind fun (z1, pv1) => some (x2, z1, pv1)
def jP_status_77 (h : cH) (z : cZ) (pv : Nat → Int32) (x1 : Int32) (x2 : Int32) : Option (Int32 × cZ × (Nat → Int32)) := jP_status_82 h z pv x1 x2 (1 : Int32)
def jP_status_55 (h : cH) (z : cZ) (pv : Nat → Int32) (x1 : Int32) (x2 : Int32) : Option (Int32 × cZ × (Nat → Int32)) := if x2 ≤ (240 : Int32) then (jP_status_77 h z pv x1 x2) else (if x2 = (247 : Int32) then (jP_status_77 h z pv x1 x2) else (if x2 = (255 : Int32) then (jP_status_77 h z pv x1 x2) else (jP_status_82 h z pv x1 x2 (0 : Int32))))
def fP_status (h : cH) (z : cZ) (pv : Nat → Int32) : Option (Int32 × cZ × (Nat → Int32)) := (fP_fixed h z pv (1 : Int32)).bind fun (r1, z1, pv1) => if (pv1 2) = 0 then (if (128 : Int32) ≤ r1.toInt32 then (jP_status_55 h z1 pv1 (pv 0) r1.toInt32) else (if (pv1 5) = (-1 : Int32) then (jP_status_40 h z1 pv1 (pv 0) (0 : Int32)) else (jP_status_40 h z1 pv1 (pv 0) (1 : Int32)))) else (jP_status_55 h z1 pv1 (pv 0) r1.toInt32)
set_option maxHeartbeats 4000000 in
set_option maxRecDepth 100000 in
theorem wP_status_40 {p : Program} {l : Launch} {e : Env} {s : State} {m : MethodId} {args : Array Value} {below : List Frame} {meth : Method} {c : Code} {g : gT} {qq ad ea : Nat → Nat} {h : cH} {X : va_W} {rv : Option Value} {qp : Nat} {pv0 pv' : Nat → Int32} {z' : cZ} {r' : Int32} (C : mCx p m c cP_status 3 s args g "MidiDesk$Parser") (hr : meth.sig.returnType = (some .int)) (hlk : meth.locks = false) (hrv : rv = some (.int r')) (z : cZ) (pv : Nat → Int32) (x1 : Int32) (s1 : Int32) (H : Heap) (locs : List Loc) (ls : Array Slot) (hl : lv_has ls 3 [(0, .ref qp), (1, .int x1)]) (hw : cWd g (cA g qq ad ea h (pcell qp qq pv0 :: X) s.heap.size) s.heap qq ad ea h (pcell qp qq pv :: X) z H locs) (hf : jP_status_40 h z pv x1 s1 = some (r', z', pv')) : cG p l e rP_status s m args below meth c g qq ad ea h (pcell qp qq pv0 :: X) rv (pcell qp qq pv' :: X) z' H locs 0 0 (F0 m 40 ls [.int s1, .ref qp]) := by
  unfold jP_status_40 at hf
  refine lv_iconst (v := (5 : Int32)) C.1.1 C.1.2.1 dP_status_40 (by decide) ?_
  refine lv_iload_n C.1.1 C.1.2.1 dP_status_41 rfl (lv_at hl 1 rfl) ?_
  obtain ⟨⟨z1, pv1⟩, g1, hf⟩ := ts_b hf
  try dsimp only at hf
  refine c_callV (rest := []) (As := [.int s1, .int (5 : Int32), .int x1]) (rv := none) (b := qp) C hl.1 hw (cP_expect_met g1) rfl (callW_of (rm := rP_expect) (C := "MidiDesk$Parser") 3 C.1.2.2.2.2 gw_250 gw_252 gw_2 gw_59 gw_253 kP_expect ⟨Nat.le_of_ble_eq_true rfl, Nat.le_of_ble_eq_true rfl⟩) (c_recvX (ci := 2) C.2 rfl hw) rfl rfl (Nat.le_of_ble_eq_true rfl) dP_status_42 ⟨Nat.le_of_ble_eq_true rfl, Nat.le_of_ble_eq_true rfl⟩ (fun H locs hw => ?_)
  refine W.eq (g2 := F0 m 45 ls []) rfl ?_
  refine lv_aload_n C.1.1 C.1.2.1 dP_status_45 rfl (lv_at hl 0 rfl) ?_
  refine lv_iload_n C.1.1 C.1.2.1 dP_status_46 rfl (lv_at hl 1 rfl) ?_
  refine cp_Parser_Parser_pos C hw dP_status_47 (fun H locs hw => ?_)
  refine lv_aload_n C.1.1 C.1.2.1 dP_status_50 rfl (lv_at hl 0 rfl) ?_
  refine cg_Parser_Parser_running C hw dP_status_51 ?_
  obtain ⟨hf, hpv⟩ := pr3 hf
  exact c_reti C hr hlk hrv hw hf (by rw [hpv]) ⟨Nat.le_of_ble_eq_true rfl, Nat.le_of_ble_eq_true rfl⟩ dP_status_54
set_option maxHeartbeats 4000000 in
set_option maxRecDepth 100000 in
theorem wP_status_82 {p : Program} {l : Launch} {e : Env} {s : State} {m : MethodId} {args : Array Value} {below : List Frame} {meth : Method} {c : Code} {g : gT} {qq ad ea : Nat → Nat} {h : cH} {X : va_W} {rv : Option Value} {qp : Nat} {pv0 pv' : Nat → Int32} {z' : cZ} {r' : Int32} (C : mCx p m c cP_status 3 s args g "MidiDesk$Parser") (hr : meth.sig.returnType = (some .int)) (hlk : meth.locks = false) (hrv : rv = some (.int r')) (z : cZ) (pv : Nat → Int32) (x1 : Int32) (x2 : Int32) (s1 : Int32) (H : Heap) (locs : List Loc) (ls : Array Slot) (hl : lv_has ls 3 [(0, .ref qp), (1, .int x1), (2, .int x2)]) (hw : cWd g (cA g qq ad ea h (pcell qp qq pv0 :: X) s.heap.size) s.heap qq ad ea h (pcell qp qq pv :: X) z H locs) (hf : jP_status_82 h z pv x1 x2 s1 = some (r', z', pv')) : cG p l e rP_status s m args below meth c g qq ad ea h (pcell qp qq pv0 :: X) rv (pcell qp qq pv' :: X) z' H locs 0 0 (F0 m 82 ls [.int s1, .ref qp]) := by
  unfold jP_status_82 at hf
  refine lv_iconst (v := (5 : Int32)) C.1.1 C.1.2.1 dP_status_82 (by decide) ?_
  refine lv_iload_n C.1.1 C.1.2.1 dP_status_83 rfl (lv_at hl 1 rfl) ?_
  obtain ⟨⟨z1, pv1⟩, g1, hf⟩ := ts_b hf
  try dsimp only at hf
  refine c_callV (rest := []) (As := [.int s1, .int (5 : Int32), .int x1]) (rv := none) (b := qp) C hl.1 hw (cP_expect_met g1) rfl (callW_of (rm := rP_expect) (C := "MidiDesk$Parser") 3 C.1.2.2.2.2 gw_250 gw_252 gw_2 gw_59 gw_253 kP_expect ⟨Nat.le_of_ble_eq_true rfl, Nat.le_of_ble_eq_true rfl⟩) (c_recvX (ci := 2) C.2 rfl hw) rfl rfl (Nat.le_of_ble_eq_true rfl) dP_status_84 ⟨Nat.le_of_ble_eq_true rfl, Nat.le_of_ble_eq_true rfl⟩ (fun H locs hw => ?_)
  refine W.eq (g2 := F0 m 87 ls []) rfl ?_
  refine lv_iload_n C.1.1 C.1.2.1 dP_status_87 rfl (lv_at hl 2 rfl) ?_
  obtain ⟨hf, hpv⟩ := pr3 hf
  exact c_reti C hr hlk hrv hw hf (by rw [hpv]) ⟨Nat.le_of_ble_eq_true rfl, Nat.le_of_ble_eq_true rfl⟩ dP_status_88
set_option maxHeartbeats 4000000 in
set_option maxRecDepth 100000 in
theorem wP_status_77 {p : Program} {l : Launch} {e : Env} {s : State} {m : MethodId} {args : Array Value} {below : List Frame} {meth : Method} {c : Code} {g : gT} {qq ad ea : Nat → Nat} {h : cH} {X : va_W} {rv : Option Value} {qp : Nat} {pv0 pv' : Nat → Int32} {z' : cZ} {r' : Int32} (C : mCx p m c cP_status 3 s args g "MidiDesk$Parser") (hr : meth.sig.returnType = (some .int)) (hlk : meth.locks = false) (hrv : rv = some (.int r')) (z : cZ) (pv : Nat → Int32) (x1 : Int32) (x2 : Int32) (H : Heap) (locs : List Loc) (ls : Array Slot) (hl : lv_has ls 3 [(0, .ref qp), (1, .int x1), (2, .int x2)]) (hw : cWd g (cA g qq ad ea h (pcell qp qq pv0 :: X) s.heap.size) s.heap qq ad ea h (pcell qp qq pv :: X) z H locs) (hf : jP_status_77 h z pv x1 x2 = some (r', z', pv')) : cG p l e rP_status s m args below meth c g qq ad ea h (pcell qp qq pv0 :: X) rv (pcell qp qq pv' :: X) z' H locs 0 0 (F0 m 77 ls [.ref qp]) := by
  unfold jP_status_77 at hf
  refine lv_iconst (v := (1 : Int32)) C.1.1 C.1.2.1 dP_status_77 (by decide) ?_
  refine lv_goto (tgt := 82) C.1.1 C.1.2.1 dP_status_78 (by decide) ?_
  exact wP_status_82 C hr hlk hrv z pv x1 x2 (1 : Int32) _ _ ls (lv_sub hl [0, 1, 2] rfl) hw hf
set_option maxHeartbeats 4000000 in
set_option maxRecDepth 100000 in
theorem wP_status_55 {p : Program} {l : Launch} {e : Env} {s : State} {m : MethodId} {args : Array Value} {below : List Frame} {meth : Method} {c : Code} {g : gT} {qq ad ea : Nat → Nat} {h : cH} {X : va_W} {rv : Option Value} {qp : Nat} {pv0 pv' : Nat → Int32} {z' : cZ} {r' : Int32} (C : mCx p m c cP_status 3 s args g "MidiDesk$Parser") (hr : meth.sig.returnType = (some .int)) (hlk : meth.locks = false) (hrv : rv = some (.int r')) (z : cZ) (pv : Nat → Int32) (x1 : Int32) (x2 : Int32) (H : Heap) (locs : List Loc) (ls : Array Slot) (hl : lv_has ls 3 [(0, .ref qp), (1, .int x1), (2, .int x2)]) (hw : cWd g (cA g qq ad ea h (pcell qp qq pv0 :: X) s.heap.size) s.heap qq ad ea h (pcell qp qq pv :: X) z H locs) (hf : jP_status_55 h z pv x1 x2 = some (r', z', pv')) : cG p l e rP_status s m args below meth c g qq ad ea h (pcell qp qq pv0 :: X) rv (pcell qp qq pv' :: X) z' H locs 0 0 (F0 m 55 ls []) := by
  unfold jP_status_55 at hf
  refine lv_aload_n C.1.1 C.1.2.1 dP_status_55 rfl (lv_at hl 0 rfl) ?_
  refine lv_iload_n C.1.1 C.1.2.1 dP_status_56 rfl (lv_at hl 2 rfl) ?_
  refine lv_sipush (v := (240 : Int32)) C.1.1 C.1.2.1 dP_status_57 (by decide) ?_
  refine lv_icmp_le (tgt := 77) C.1.1 C.1.2.1 dP_status_60 (by decide) (fun c1 => ?_) (fun c1 => ?_)
  · have hf := ts_t hf c1
    exact wP_status_77 C hr hlk hrv z pv x1 x2 _ _ ls (lv_sub hl [0, 1, 2] rfl) hw hf
  · have hf := ts_f hf c1
    refine lv_iload_n C.1.1 C.1.2.1 dP_status_63 rfl (lv_at hl 2 rfl) ?_
    refine lv_sipush (v := (247 : Int32)) C.1.1 C.1.2.1 dP_status_64 (by decide) ?_
    refine lv_icmp_eq (tgt := 77) C.1.1 C.1.2.1 dP_status_67 (by decide) (fun c2 => ?_) (fun c2 => ?_)
    · have hf := ts_t hf c2
      exact wP_status_77 C hr hlk hrv z pv x1 x2 _ _ ls (lv_sub hl [0, 1, 2] rfl) hw hf
    · have hf := ts_f hf c2
      refine lv_iload_n C.1.1 C.1.2.1 dP_status_70 rfl (lv_at hl 2 rfl) ?_
      refine lv_sipush (v := (255 : Int32)) C.1.1 C.1.2.1 dP_status_71 (by decide) ?_
      refine lv_icmp_ne (tgt := 81) C.1.1 C.1.2.1 dP_status_74 (by decide) (fun c3 => ?_) (fun c3 => ?_)
      · have hf := ts_f hf c3
        refine lv_iconst (v := (0 : Int32)) C.1.1 C.1.2.1 dP_status_81 (by decide) ?_
        exact wP_status_82 C hr hlk hrv z pv x1 x2 (0 : Int32) _ _ ls (lv_sub hl [0, 1, 2] rfl) hw hf
      · have hf := ts_t hf c3
        exact wP_status_77 C hr hlk hrv z pv x1 x2 _ _ ls (lv_sub hl [0, 1, 2] rfl) hw hf
set_option maxHeartbeats 4000000 in
set_option maxRecDepth 100000 in
theorem cP_status_met {l : Launch} {g : gT} {qq ad ea : Nat → Nat} {h : cH} {X : va_W} {qp : Nat} {pv pv' : Nat → Int32} {z z' : cZ} {r' : Int32} (hf : fP_status h z pv = some (r', z', pv')) : cMet l yP_status cP_status 3 (some .int) rP_status g qq ad ea h (pcell qp qq pv :: X) z [.ref qp] (some (.int r')) (pcell qp qq pv' :: X) z' := by
  refine c_entry (by decide) (Nat.le_of_ble_eq_true rfl) ?_
  intro p e s m args below meth c ls C hr hlk hnm hl hw
  have hrv : (some (.int r') : Option Value) = some (.int r') := rfl
  have C : mCx p m c cP_status 3 s args g "MidiDesk$Parser" := C
  have hl : lv_has ls 3 [(0, .ref qp)] := hl
  unfold fP_status at hf
  refine lv_aload_n C.1.1 C.1.2.1 dP_status_0 rfl (lv_at hl 0 rfl) ?_
  refine cg_Parser_Parser_pos C hw dP_status_1 ?_
  refine lv_istore_n (lv' := [(1, .int (pv 0)), (0, .ref qp)]) C.1.1 C.1.2.1 dP_status_4 rfl hl (by decide) rfl (fun ls hl => ?_)
  refine lv_aload_n C.1.1 C.1.2.1 dP_status_5 rfl (lv_at hl 1 rfl) ?_
  refine lv_iconst (v := (1 : Int32)) C.1.1 C.1.2.1 dP_status_6 (by decide) ?_
  obtain ⟨⟨r1, z1, pv1⟩, g1, hf⟩ := ts_b hf
  try dsimp only at hf
  refine c_callV (rest := []) (As := [.int (1 : Int32)]) (rv := (some (.long r1))) (b := qp) C hl.1 hw (cP_fixed_met g1) rfl (callW_of (rm := rP_fixed) (C := "MidiDesk$Parser") 1 C.1.2.2.2.2 gw_246 gw_248 gw_1 gw_59 gw_249 kP_fixed ⟨Nat.le_of_ble_eq_true rfl, Nat.le_of_ble_eq_true rfl⟩) (c_recvX (ci := 2) C.2 rfl hw) rfl rfl (Nat.le_of_ble_eq_true rfl) dP_status_7 ⟨Nat.le_of_ble_eq_true rfl, Nat.le_of_ble_eq_true rfl⟩ (fun H locs hw => ?_)
  refine W.eq (g2 := F0 m 10 ls [.long r1]) rfl ?_
  refine lv_l2i C.1.1 C.1.2.1 dP_status_10 rfl ?_
  refine lv_istore_n (lv' := [(2, .int r1.toInt32), (1, .int (pv 0)), (0, .ref qp)]) C.1.1 C.1.2.1 dP_status_11 rfl hl (by decide) rfl (fun ls hl => ?_)
  refine lv_aload_n C.1.1 C.1.2.1 dP_status_12 rfl (lv_at hl 2 rfl) ?_
  refine cg_Parser_Parser_fault C hw dP_status_13 ?_
  refine lv_if_ne (tgt := 55) C.1.1 C.1.2.1 dP_status_16 (by decide) (fun c2 => ?_) (fun c2 => ?_)
  · have hf := ts_f hf c2
    exact wP_status_55 C hr hlk hrv z1 pv1 (pv 0) r1.toInt32 _ _ ls (lv_sub hl [2, 1, 0] rfl) hw hf
  · have hf := ts_t hf c2
    refine lv_iload_n C.1.1 C.1.2.1 dP_status_19 rfl (lv_at hl 0 rfl) ?_
    refine lv_sipush (v := (128 : Int32)) C.1.1 C.1.2.1 dP_status_20 (by decide) ?_
    refine lv_icmp_ge (tgt := 55) C.1.1 C.1.2.1 dP_status_23 (by decide) (fun c3 => ?_) (fun c3 => ?_)
    · have hf := ts_t hf c3
      exact wP_status_55 C hr hlk hrv z1 pv1 (pv 0) r1.toInt32 _ _ ls (lv_sub hl [2, 1, 0] rfl) hw hf
    · have hf := ts_f hf c3
      refine lv_aload_n C.1.1 C.1.2.1 dP_status_26 rfl (lv_at hl 2 rfl) ?_
      refine lv_aload_n C.1.1 C.1.2.1 dP_status_27 rfl (lv_at hl 2 rfl) ?_
      refine cg_Parser_Parser_running C hw dP_status_28 ?_
      refine lv_iconst (v := (-1 : Int32)) C.1.1 C.1.2.1 dP_status_31 (by decide) ?_
      refine lv_icmp_eq (tgt := 39) C.1.1 C.1.2.1 dP_status_32 (by decide) (fun c4 => ?_) (fun c4 => ?_)
      · have hf := ts_t hf c4
        refine lv_iconst (v := (0 : Int32)) C.1.1 C.1.2.1 dP_status_39 (by decide) ?_
        exact wP_status_40 C hr hlk hrv z1 pv1 (pv 0) (0 : Int32) _ _ ls (lv_sub hl [2, 1] rfl) hw hf
      · have hf := ts_f hf c4
        refine lv_iconst (v := (1 : Int32)) C.1.1 C.1.2.1 dP_status_35 (by decide) ?_
        refine lv_goto (tgt := 40) C.1.1 C.1.2.1 dP_status_36 (by decide) ?_
        exact wP_status_40 C hr hlk hrv z1 pv1 (pv 0) (1 : Int32) _ _ ls (lv_sub hl [2, 1] rfl) hw hf
