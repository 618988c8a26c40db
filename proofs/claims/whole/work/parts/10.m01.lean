abbrev cM_thrown : ByteArray := prog_8_method_2_code
abbrev yM_thrown : MethodName := ⟨"MidiDeskModel", "thrown", "()I"⟩
theorem kM_thrown : yM_thrown.cls ≠ "java/lang/invoke/MethodHandle" ∧ yM_thrown.cls ≠ "java/lang/invoke/VarHandle" ∧ (parseMethodDescriptor yM_thrown.desc).map (fun d => d.parameters.length) = some 0 := by decide +kernel
abbrev rM_thrown : Room := { frames := 0, cells := 0, slots := 0, locals := 0 }
theorem dM_thrown_0 : decode cM_thrown 0 = .ok (.aload_n 0, 1) := by decide +kernel
theorem dM_thrown_1 : decode cM_thrown 1 = .ok (.getfield 47, 3) := by decide +kernel
theorem dM_thrown_4 : decode cM_thrown 4 = .ok (.ireturn, 1) := by decide +kernel
def fM_thrown (iv : Nat → Int32) (av : Nat → Nat → Int32) : Option (Int32 × (Nat → Int32) × (Nat → Nat → Int32)) := some (iv 0, iv, av)
set_option maxHeartbeats 4000000 in
set_option maxRecDepth 100000 in
theorem cM_thrown_met {l : Launch} {g : gT} {q : Nat} {ad : Nat → Nat} {X : va_W} {iv iv' : Nat → Int32} {av av' : Nat → Nat → Int32} {r' : Int32} (hf : fM_thrown iv av = some (r', iv', av')) : mMet l yM_thrown cM_thrown 1 (some .int) rM_thrown g q ad X iv av [.ref q] (some (.int r')) iv' av' := by
  refine m_entry (by decide) (Nat.le_of_ble_eq_true rfl) ?_
  intro p e s m args below meth c ls C hr hlk hnm hl hw
  have hrv : ((some (.int r')) : Option Value) = (some (.int r')) := rfl
  have C : mCx p m c cM_thrown 1 s args g "MidiDeskModel" := C
  have hl : lv_has ls 1 [(0, .ref q)] := hl
  unfold fM_thrown at hf
  refine lv_aload_n C.1.1 C.1.2.1 dM_thrown_0 rfl (lv_at hl 0 rfl) ?_
  refine mg_thrown C hw dM_thrown_1 ?_
  exact m_reti C hr hlk hrv hw hf ⟨Nat.le_of_ble_eq_true rfl, Nat.le_of_ble_eq_true rfl⟩ dM_thrown_4
abbrev cM_fails : ByteArray := prog_8_method_3_code
abbrev yM_fails : MethodName := ⟨"MidiDeskModel", "fails", "(ZZ)Z"⟩
theorem kM_fails : yM_fails.cls ≠ "java/lang/invoke/MethodHandle" ∧ yM_fails.cls ≠ "java/lang/invoke/VarHandle" ∧ (parseMethodDescriptor yM_fails.desc).map (fun d => d.parameters.length) = some 2 := by decide +kernel
abbrev rM_fails : Room := { frames := 0, cells := 0, slots := 0, locals := 0 }
theorem dM_fails_0 : decode cM_fails 0 = .ok (.aload_n 0, 1) := by decide +kernel
theorem dM_fails_1 : decode cM_fails 1 = .ok (.iload_n 1, 1) := by decide +kernel
theorem dM_fails_2 : decode cM_fails 2 = .ok (.ifCond .eq 7, 3) := by decide +kernel
theorem dM_fails_5 : decode cM_fails 5 = .ok (.iconst 1, 1) := by decide +kernel
theorem dM_fails_6 : decode cM_fails 6 = .ok (.goto 12, 3) := by decide +kernel
theorem dM_fails_9 : decode cM_fails 9 = .ok (.iload_n 2, 1) := by decide +kernel
theorem dM_fails_10 : decode cM_fails 10 = .ok (.ifCond .eq 7, 3) := by decide +kernel
theorem dM_fails_13 : decode cM_fails 13 = .ok (.iconst 2, 1) := by decide +kernel
theorem dM_fails_14 : decode cM_fails 14 = .ok (.goto 4, 3) := by decide +kernel
theorem dM_fails_17 : decode cM_fails 17 = .ok (.iconst 0, 1) := by decide +kernel
theorem dM_fails_18 : decode cM_fails 18 = .ok (.putfield 47, 3) := by decide +kernel
theorem dM_fails_21 : decode cM_fails 21 = .ok (.aload_n 0, 1) := by decide +kernel
theorem dM_fails_22 : decode cM_fails 22 = .ok (.getfield 47, 3) := by decide +kernel
theorem dM_fails_25 : decode cM_fails 25 = .ok (.ifCond .le 7, 3) := by decide +kernel
theorem dM_fails_28 : decode cM_fails 28 = .ok (.iconst 1, 1) := by decide +kernel
theorem dM_fails_29 : decode cM_fails 29 = .ok (.goto 4, 3) := by decide +kernel
theorem dM_fails_32 : decode cM_fails 32 = .ok (.iconst 0, 1) := by decide +kernel
theorem dM_fails_33 : decode cM_fails 33 = .ok (.ireturn, 1) := by decide +kernel
def jM_fails_18 (iv : Nat → Int32) (av : Nat → Nat → Int32) (s1 : Int32) : Option (Int32 × (Nat → Int32) × (Nat → Nat → Int32)) := if ((upd iv 0 s1) 0) ≤ 0 then (some ((0 : Int32), upd iv 0 s1, av)) else (some ((1 : Int32), upd iv 0 s1, av))
def fM_fails (iv : Nat → Int32) (av : Nat → Nat → Int32) (x1 : Int32) (x2 : Int32) : Option (Int32 × (Nat → Int32) × (Nat → Nat → Int32)) := if x1 = 0 then (if x2 = 0 then (jM_fails_18 iv av (0 : Int32)) else (jM_fails_18 iv av (2 : Int32))) else (jM_fails_18 iv av (1 : Int32))
set_option maxHeartbeats 4000000 in
set_option maxRecDepth 100000 in
theorem wM_fails_18 {p : Program} {l : Launch} {e : Env} {s : State} {m : MethodId} {args : Array Value} {below : List Frame} {meth : Method} {c : Code} {g : gT} {q : Nat} {ad : Nat → Nat} {X : va_W} {rv : Option Value} {iv' : Nat → Int32} {av' : Nat → Nat → Int32} {r' : Int32} (C : mCx p m c cM_fails 3 s args g "MidiDeskModel") (hr : meth.sig.returnType = (some .boolean)) (hlk : meth.locks = false) (hrv : rv = some (.int r')) (iv : Nat → Int32) (av : Nat → Nat → Int32) (s1 : Int32) (H : Heap) (locs : List Loc) (ls : Array Slot) (hl : lv_has ls 3 [(0, .ref q)]) (hw : mWd g (mA g q ad X s.heap.size) s.heap q ad X iv av H locs) (hf : jM_fails_18 iv av s1 = some (r', iv', av')) : mG p l e rM_fails s m args below meth c g q ad X rv iv' av' H locs 0 0 (F0 m 18 ls [.int s1, .ref q]) := by
  unfold jM_fails_18 at hf
  refine mp_thrown C hw dM_fails_18 (fun H locs hw => ?_)
  refine lv_aload_n C.1.1 C.1.2.1 dM_fails_21 rfl (lv_at hl 0 rfl) ?_
  refine mg_thrown C hw dM_fails_22 ?_
  refine lv_if_le (tgt := 32) C.1.1 C.1.2.1 dM_fails_25 (by decide) (fun c1 => ?_) (fun c1 => ?_)
  · have hf := ts_t hf c1
    refine lv_iconst (v := (0 : Int32)) C.1.1 C.1.2.1 dM_fails_32 (by decide) ?_
    exact m_retz C hr hlk hrv hw (Or.inl rfl) hf ⟨Nat.le_of_ble_eq_true rfl, Nat.le_of_ble_eq_true rfl⟩ dM_fails_33
  · have hf := ts_f hf c1
    refine lv_iconst (v := (1 : Int32)) C.1.1 C.1.2.1 dM_fails_28 (by decide) ?_
    refine lv_goto (tgt := 33) C.1.1 C.1.2.1 dM_fails_29 (by decide) ?_
    exact m_retz C hr hlk hrv hw (Or.inr rfl) hf ⟨Nat.le_of_ble_eq_true rfl, Nat.le_of_ble_eq_true rfl⟩ dM_fails_33
set_option maxHeartbeats 4000000 in
set_option maxRecDepth 100000 in
theorem cM_fails_met {l : Launch} {g : gT} {q : Nat} {ad : Nat → Nat} {X : va_W} {iv iv' : Nat → Int32} {av av' : Nat → Nat → Int32} {x1 : Int32} {x2 : Int32} {r' : Int32} (hf : fM_fails iv av x1 x2 = some (r', iv', av')) : mMet l yM_fails cM_fails 3 (some .boolean) rM_fails g q ad X iv av [.ref q, .int x1, .int x2] (some (.int r')) iv' av' := by
  refine m_entry (by decide) (Nat.le_of_ble_eq_true rfl) ?_
  intro p e s m args below meth c ls C hr hlk hnm hl hw
  have hrv : ((some (.int r')) : Option Value) = (some (.int r')) := rfl
  have C : mCx p m c cM_fails 3 s args g "MidiDeskModel" := C
  have hl : lv_has ls 3 [(0, .ref q), (1, .int x1), (2, .int x2)] := hl
  unfold fM_fails at hf
  refine lv_aload_n C.1.1 C.1.2.1 dM_fails_0 rfl (lv_at hl 0 rfl) ?_
  refine lv_iload_n C.1.1 C.1.2.1 dM_fails_1 rfl (lv_at hl 1 rfl) ?_
  refine lv_if_eq (tgt := 9) C.1.1 C.1.2.1 dM_fails_2 (by decide) (fun c1 => ?_) (fun c1 => ?_)
  · have hf := ts_t hf c1
    refine lv_iload_n C.1.1 C.1.2.1 dM_fails_9 rfl (lv_at hl 2 rfl) ?_
    refine lv_if_eq (tgt := 17) C.1.1 C.1.2.1 dM_fails_10 (by decide) (fun c2 => ?_) (fun c2 => ?_)
    · have hf := ts_t hf c2
      refine lv_iconst (v := (0 : Int32)) C.1.1 C.1.2.1 dM_fails_17 (by decide) ?_
      exact wM_fails_18 C hr hlk hrv iv av (0 : Int32) _ _ ls (lv_sub hl [0] rfl) hw hf
    · have hf := ts_f hf c2
      refine lv_iconst (v := (2 : Int32)) C.1.1 C.1.2.1 dM_fails_13 (by decide) ?_
      refine lv_goto (tgt := 18) C.1.1 C.1.2.1 dM_fails_14 (by decide) ?_
      exact wM_fails_18 C hr hlk hrv iv av (2 : Int32) _ _ ls (lv_sub hl [0] rfl) hw hf
  · have hf := ts_f hf c1
    refine lv_iconst (v := (1 : Int32)) C.1.1 C.1.2.1 dM_fails_5 (by decide) ?_
    refine lv_goto (tgt := 18) C.1.1 C.1.2.1 dM_fails_6 (by decide) ?_
    exact wM_fails_18 C hr hlk hrv iv av (1 : Int32) _ _ ls (lv_sub hl [0] rfl) hw hf
abbrev cM_feed : ByteArray := prog_8_method_4_code
abbrev yM_feed : MethodName := ⟨"MidiDeskModel", "feed", "(JI)I"⟩
theorem kM_feed : yM_feed.cls ≠ "java/lang/invoke/MethodHandle" ∧ yM_feed.cls ≠ "java/lang/invoke/VarHandle" ∧ (parseMethodDescriptor yM_feed.desc).map (fun d => d.parameters.length) = some 2 := by decide +kernel
abbrev rM_feed : Room := { frames := 0, cells := 0, slots := 0, locals := 0 }
theorem dM_feed_0 : decode cM_feed 0 = .ok (.aload_n 0, 1) := by decide +kernel
theorem dM_feed_1 : decode cM_feed 1 = .ok (.iconst 0, 1) := by decide +kernel
theorem dM_feed_2 : decode cM_feed 2 = .ok (.putfield 47, 3) := by decide +kernel
theorem dM_feed_5 : decode cM_feed 5 = .ok (.iload_n 3, 1) := by decide +kernel
theorem dM_feed_6 : decode cM_feed 6 = .ok (.iconst 1, 1) := by decide +kernel
theorem dM_feed_7 : decode cM_feed 7 = .ok (.if_icmp .lt 21, 3) := by decide +kernel
theorem dM_feed_10 : decode cM_feed 10 = .ok (.iload_n 3, 1) := by decide +kernel
theorem dM_feed_11 : decode cM_feed 11 = .ok (.bipush 8, 2) := by decide +kernel
theorem dM_feed_13 : decode cM_feed 13 = .ok (.if_icmp .gt 15, 3) := by decide +kernel
theorem dM_feed_16 : decode cM_feed 16 = .ok (.aload_n 0, 1) := by decide +kernel
theorem dM_feed_17 : decode cM_feed 17 = .ok (.getfield 51, 3) := by decide +kernel
theorem dM_feed_20 : decode cM_feed 20 = .ok (.iload_n 3, 1) := by decide +kernel
theorem dM_feed_21 : decode cM_feed 21 = .ok (.iadd, 1) := by decide +kernel
theorem dM_feed_22 : decode cM_feed 22 = .ok (.sipush 12000, 3) := by decide +kernel
theorem dM_feed_25 : decode cM_feed 25 = .ok (.if_icmp .le 5, 3) := by decide +kernel
theorem dM_feed_28 : decode cM_feed 28 = .ok (.iconst (-1), 1) := by decide +kernel
theorem dM_feed_29 : decode cM_feed 29 = .ok (.ireturn, 1) := by decide +kernel
theorem dM_feed_30 : decode cM_feed 30 = .ok (.iconst 0, 1) := by decide +kernel
theorem dM_feed_31 : decode cM_feed 31 = .ok (.istore 4, 2) := by decide +kernel
theorem dM_feed_33 : decode cM_feed 33 = .ok (.iload 4, 2) := by decide +kernel
theorem dM_feed_35 : decode cM_feed 35 = .ok (.iload_n 3, 1) := by decide +kernel
theorem dM_feed_36 : decode cM_feed 36 = .ok (.if_icmp .ge 37, 3) := by decide +kernel
theorem dM_feed_39 : decode cM_feed 39 = .ok (.aload_n 0, 1) := by decide +kernel
theorem dM_feed_40 : decode cM_feed 40 = .ok (.getfield 7, 3) := by decide +kernel
theorem dM_feed_43 : decode cM_feed 43 = .ok (.aload_n 0, 1) := by decide +kernel
theorem dM_feed_44 : decode cM_feed 44 = .ok (.getfield 51, 3) := by decide +kernel
theorem dM_feed_47 : decode cM_feed 47 = .ok (.iload 4, 2) := by decide +kernel
theorem dM_feed_49 : decode cM_feed 49 = .ok (.iadd, 1) := by decide +kernel
theorem dM_feed_50 : decode cM_feed 50 = .ok (.lload_n 1, 1) := by decide +kernel
theorem dM_feed_51 : decode cM_feed 51 = .ok (.bipush 8, 2) := by decide +kernel
theorem dM_feed_53 : decode cM_feed 53 = .ok (.iload_n 3, 1) := by decide +kernel
theorem dM_feed_54 : decode cM_feed 54 = .ok (.iconst 1, 1) := by decide +kernel
theorem dM_feed_55 : decode cM_feed 55 = .ok (.isub, 1) := by decide +kernel
theorem dM_feed_56 : decode cM_feed 56 = .ok (.iload 4, 2) := by decide +kernel
theorem dM_feed_58 : decode cM_feed 58 = .ok (.isub, 1) := by decide +kernel
theorem dM_feed_59 : decode cM_feed 59 = .ok (.imul, 1) := by decide +kernel
theorem dM_feed_60 : decode cM_feed 60 = .ok (.lshr, 1) := by decide +kernel
theorem dM_feed_61 : decode cM_feed 61 = .ok (.ldc2_w 54, 3) := by decide +kernel
theorem dM_feed_64 : decode cM_feed 64 = .ok (.land, 1) := by decide +kernel
theorem dM_feed_65 : decode cM_feed 65 = .ok (.l2i, 1) := by decide +kernel
theorem dM_feed_66 : decode cM_feed 66 = .ok (.iastore, 1) := by decide +kernel
theorem dM_feed_67 : decode cM_feed 67 = .ok (.iinc 4 1, 3) := by decide +kernel
theorem dM_feed_70 : decode cM_feed 70 = .ok (.goto (-37), 3) := by decide +kernel
theorem dM_feed_73 : decode cM_feed 73 = .ok (.aload_n 0, 1) := by decide +kernel
theorem dM_feed_74 : decode cM_feed 74 = .ok (.dup, 1) := by decide +kernel
theorem dM_feed_75 : decode cM_feed 75 = .ok (.getfield 51, 3) := by decide +kernel
theorem dM_feed_78 : decode cM_feed 78 = .ok (.iload_n 3, 1) := by decide +kernel
theorem dM_feed_79 : decode cM_feed 79 = .ok (.iadd, 1) := by decide +kernel
theorem dM_feed_80 : decode cM_feed 80 = .ok (.putfield 51, 3) := by decide +kernel
theorem dM_feed_83 : decode cM_feed 83 = .ok (.aload_n 0, 1) := by decide +kernel
theorem dM_feed_84 : decode cM_feed 84 = .ok (.getfield 51, 3) := by decide +kernel
theorem dM_feed_87 : decode cM_feed 87 = .ok (.ireturn, 1) := by decide +kernel
def lM_feed_33 : Nat → (Nat → Int32) → (Nat → Nat → Int32) → Int64 → Int32 → Int32 → Option (Int32 × (Nat → Int32) × (Nat → Nat → Int32))
  | 0 => fun _ _ _ _ _ => none
  | k + 1 => fun iv av y1 x3 x4 => if x3 ≤ x4 then (some ((upd iv 1 ((iv 1) + x3)) 1, upd iv 1 ((iv 1) + x3), av)) else (if ((iv 1) + x4) < 0 ∨ 12000 ≤ ((iv 1) + x4).toNatClampNeg then none else (lM_feed_33 k iv (up2 av 0 ((iv 1) + x4).toNatClampNeg (((y1 >>> (((8 : Int32) * ((x3 - (1 : Int32)) - x4)).toInt64 &&& 63)) &&& (255 : Int64)).toInt32)) y1 x3 (x4 + 1)))
def fM_feed (iv : Nat → Int32) (av : Nat → Nat → Int32) (y1 : Int64) (x3 : Int32) : Option (Int32 × (Nat → Int32) × (Nat → Nat → Int32)) := if x3 < (1 : Int32) then (some ((-1 : Int32), upd iv 0 (0 : Int32), av)) else (if (8 : Int32) < x3 then (some ((-1 : Int32), upd iv 0 (0 : Int32), av)) else (if (((upd iv 0 (0 : Int32)) 1) + x3) ≤ (12000 : Int32) then (lM_feed_33 FU (upd iv 0 (0 : Int32)) av y1 x3 (0 : Int32)) else (some ((-1 : Int32), upd iv 0 (0 : Int32), av))))
set_option maxHeartbeats 4000000 in
set_option maxRecDepth 100000 in
theorem wM_feed_33 {p : Program} {l : Launch} {e : Env} {s : State} {m : MethodId} {args : Array Value} {below : List Frame} {meth : Method} {c : Code} {g : gT} {q : Nat} {ad : Nat → Nat} {X : va_W} {rv : Option Value} {iv' : Nat → Int32} {av' : Nat → Nat → Int32} {r' : Int32} (C : mCx p m c cM_feed 5 s args g "MidiDeskModel") (hr : meth.sig.returnType = (some .int)) (hlk : meth.locks = false) (hrv : rv = some (.int r')) (k : Nat) : ∀ (iv : Nat → Int32) (av : Nat → Nat → Int32) (y1 : Int64) (x3 : Int32) (x4 : Int32) (H : Heap) (locs : List Loc) (ls : Array Slot), lv_has ls 5 [(0, .ref q), (1, .long y1), (3, .int x3), (4, .int x4)] → mWd g (mA g q ad X s.heap.size) s.heap q ad X iv av H locs → lM_feed_33 k iv av y1 x3 x4 = some (r', iv', av') → mG p l e rM_feed s m args below meth c g q ad X rv iv' av' H locs 0 0 (F0 m 33 ls []) := by
  induction k with
  | zero => intro iv av y1 x3 x4 H locs ls hl hw hf; cases hf
  | succ k ih =>
    intro iv av y1 x3 x4 H locs ls hl hw hf
    have hf : (if x3 ≤ x4 then (some ((upd iv 1 ((iv 1) + x3)) 1, upd iv 1 ((iv 1) + x3), av)) else (if ((iv 1) + x4) < 0 ∨ 12000 ≤ ((iv 1) + x4).toNatClampNeg then none else (lM_feed_33 k iv (up2 av 0 ((iv 1) + x4).toNatClampNeg (((y1 >>> (((8 : Int32) * ((x3 - (1 : Int32)) - x4)).toInt64 &&& 63)) &&& (255 : Int64)).toInt32)) y1 x3 (x4 + 1)))) = some (r', iv', av') := hf
    refine lv_iload C.1.1 C.1.2.1 dM_feed_33 (lv_at hl 3 rfl) ?_
    refine lv_iload_n C.1.1 C.1.2.1 dM_feed_35 rfl (lv_at hl 2 rfl) ?_
    refine lv_icmp_ge (tgt := 73) C.1.1 C.1.2.1 dM_feed_36 (by decide) (fun c1 => ?_) (fun c1 => ?_)
    · have hf := ts_t hf c1
      refine lv_aload_n C.1.1 C.1.2.1 dM_feed_73 rfl (lv_at hl 0 rfl) ?_
      refine lv_dup C.1.1 C.1.2.1 dM_feed_74 rfl ?_
      refine mg_size C hw dM_feed_75 ?_
      refine lv_iload_n C.1.1 C.1.2.1 dM_feed_78 rfl (lv_at hl 2 rfl) ?_
      refine lv_iadd C.1.1 C.1.2.1 dM_feed_79 ?_
      refine mp_size C hw dM_feed_80 (fun H locs hw => ?_)
      refine lv_aload_n C.1.1 C.1.2.1 dM_feed_83 rfl (lv_at hl 0 rfl) ?_
      refine mg_size C hw dM_feed_84 ?_
      exact m_reti C hr hlk hrv hw hf ⟨Nat.le_of_ble_eq_true rfl, Nat.le_of_ble_eq_true rfl⟩ dM_feed_87
    · have hf := ts_f hf c1
      refine lv_aload_n C.1.1 C.1.2.1 dM_feed_39 rfl (lv_at hl 0 rfl) ?_
      refine mg_input C hw dM_feed_40 ?_
      refine lv_aload_n C.1.1 C.1.2.1 dM_feed_43 rfl (lv_at hl 0 rfl) ?_
      refine mg_size C hw dM_feed_44 ?_
      refine lv_iload C.1.1 C.1.2.1 dM_feed_47 (lv_at hl 3 rfl) ?_
      refine lv_iadd C.1.1 C.1.2.1 dM_feed_49 ?_
      refine lv_lload_n C.1.1 C.1.2.1 dM_feed_50 rfl (lv_at hl 1 rfl) ?_
      refine lv_bipush (v := (8 : Int32)) C.1.1 C.1.2.1 dM_feed_51 (by decide) ?_
      refine lv_iload_n C.1.1 C.1.2.1 dM_feed_53 rfl (lv_at hl 2 rfl) ?_
      refine lv_iconst (v := (1 : Int32)) C.1.1 C.1.2.1 dM_feed_54 (by decide) ?_
      refine lv_isub C.1.1 C.1.2.1 dM_feed_55 ?_
      refine lv_iload C.1.1 C.1.2.1 dM_feed_56 (lv_at hl 3 rfl) ?_
      refine lv_isub C.1.1 C.1.2.1 dM_feed_58 ?_
      refine lv_imul C.1.1 C.1.2.1 dM_feed_59 ?_
      refine lv_lshr C.1.1 C.1.2.1 dM_feed_60 rfl ?_
      refine lv_ldc2 C.1.1 C.1.2.1 C.1.2.2.2.1 (C.1.2.2.2.2 _ gw_799) dM_feed_61 ?_
      refine lv_land C.1.1 C.1.2.1 dM_feed_64 ?_
      refine lv_l2i C.1.1 C.1.2.1 dM_feed_65 rfl ?_
      obtain ⟨h2, hf⟩ := ts_g hf
      refine ms_input C hw h2 dM_feed_66 (fun H locs hw => ?_)
      refine lv_iinc (v := x4 + 1) (lv' := [(4, .int (x4 + 1)), (0, .ref q), (1, .long y1), (3, .int x3)]) C.1.1 C.1.2.1 dM_feed_67 hl (k := 3) rfl rfl (by decide) rfl (fun ls hl => ?_)
      refine lv_goto (tgt := 33) C.1.1 C.1.2.1 dM_feed_70 (by decide) ?_
      exact ih iv (up2 av 0 ((iv 1) + x4).toNatClampNeg (((y1 >>> (((8 : Int32) * ((x3 - (1 : Int32)) - x4)).toInt64 &&& 63)) &&& (255 : Int64)).toInt32)) y1 x3 (x4 + 1) _ _ ls (lv_sub hl [1, 2, 3, 0] rfl) hw hf
set_option maxHeartbeats 4000000 in
set_option maxRecDepth 100000 in
theorem cM_feed_met {l : Launch} {g : gT} {q : Nat} {ad : Nat → Nat} {X : va_W} {iv iv' : Nat → Int32} {av av' : Nat → Nat → Int32} {y1 : Int64} {x3 : Int32} {r' : Int32} (hf : fM_feed iv av y1 x3 = some (r', iv', av')) : mMet l yM_feed cM_feed 5 (some .int) rM_feed g q ad X iv av [.ref q, .long y1, .int x3] (some (.int r')) iv' av' := by
  refine m_entry (by decide) (Nat.le_of_ble_eq_true rfl) ?_
  intro p e s m args below meth c ls C hr hlk hnm hl hw
  have hrv : ((some (.int r')) : Option Value) = (some (.int r')) := rfl
  have C : mCx p m c cM_feed 5 s args g "MidiDeskModel" := C
  have hl : lv_has ls 5 [(0, .ref q), (1, .long y1), (3, .int x3)] := hl
  unfold fM_feed at hf
  refine lv_aload_n C.1.1 C.1.2.1 dM_feed_0 rfl (lv_at hl 0 rfl) ?_
  refine lv_iconst (v := (0 : Int32)) C.1.1 C.1.2.1 dM_feed_1 (by decide) ?_
  refine mp_thrown C hw dM_feed_2 (fun H locs hw => ?_)
  refine lv_iload_n C.1.1 C.1.2.1 dM_feed_5 rfl (lv_at hl 2 rfl) ?_
  refine lv_iconst (v := (1 : Int32)) C.1.1 C.1.2.1 dM_feed_6 (by decide) ?_
  refine lv_icmp_lt (tgt := 28) C.1.1 C.1.2.1 dM_feed_7 (by decide) (fun c1 => ?_) (fun c1 => ?_)
  · have hf := ts_t hf c1
    refine lv_iconst (v := (-1 : Int32)) C.1.1 C.1.2.1 dM_feed_28 (by decide) ?_
    exact m_reti C hr hlk hrv hw hf ⟨Nat.le_of_ble_eq_true rfl, Nat.le_of_ble_eq_true rfl⟩ dM_feed_29
  · have hf := ts_f hf c1
    refine lv_iload_n C.1.1 C.1.2.1 dM_feed_10 rfl (lv_at hl 2 rfl) ?_
    refine lv_bipush (v := (8 : Int32)) C.1.1 C.1.2.1 dM_feed_11 (by decide) ?_
    refine lv_icmp_gt (tgt := 28) C.1.1 C.1.2.1 dM_feed_13 (by decide) (fun c2 => ?_) (fun c2 => ?_)
    · have hf := ts_t hf c2
      refine lv_iconst (v := (-1 : Int32)) C.1.1 C.1.2.1 dM_feed_28 (by decide) ?_
      exact m_reti C hr hlk hrv hw hf ⟨Nat.le_of_ble_eq_true rfl, Nat.le_of_ble_eq_true rfl⟩ dM_feed_29
    · have hf := ts_f hf c2
      refine lv_aload_n C.1.1 C.1.2.1 dM_feed_16 rfl (lv_at hl 0 rfl) ?_
      refine mg_size C hw dM_feed_17 ?_
      refine lv_iload_n C.1.1 C.1.2.1 dM_feed_20 rfl (lv_at hl 2 rfl) ?_
      refine lv_iadd C.1.1 C.1.2.1 dM_feed_21 ?_
      refine lv_sipush (v := (12000 : Int32)) C.1.1 C.1.2.1 dM_feed_22 (by decide) ?_
      refine lv_icmp_le (tgt := 30) C.1.1 C.1.2.1 dM_feed_25 (by decide) (fun c3 => ?_) (fun c3 => ?_)
      · have hf := ts_t hf c3
        refine lv_iconst (v := (0 : Int32)) C.1.1 C.1.2.1 dM_feed_30 (by decide) ?_
        refine lv_istore (lv' := [(4, .int (0 : Int32)), (0, .ref q), (1, .long y1), (3, .int x3)]) C.1.1 C.1.2.1 dM_feed_31 hl (by decide) rfl (fun ls hl => ?_)
        exact wM_feed_33 C hr hlk hrv FU (upd iv 0 (0 : Int32)) av y1 x3 (0 : Int32) _ _ ls (lv_sub hl [1, 2, 3, 0] rfl) hw hf
      · have hf := ts_f hf c3
        refine lv_iconst (v := (-1 : Int32)) C.1.1 C.1.2.1 dM_feed_28 (by decide) ?_
        exact m_reti C hr hlk hrv hw hf ⟨Nat.le_of_ble_eq_true rfl, Nat.le_of_ble_eq_true rfl⟩ dM_feed_29
abbrev cM_fail : ByteArray := prog_8_method_5_code
abbrev yM_fail : MethodName := ⟨"MidiDeskModel", "fail", "(II)V"⟩
theorem kM_fail : yM_fail.cls ≠ "java/lang/invoke/MethodHandle" ∧ yM_fail.cls ≠ "java/lang/invoke/VarHandle" ∧ (parseMethodDescriptor yM_fail.desc).map (fun d => d.parameters.length) = some 2 := by decide +kernel
abbrev rM_fail : Room := { frames := 0, cells := 0, slots := 0, locals := 0 }
theorem dM_fail_0 : decode cM_fail 0 = .ok (.aload_n 0, 1) := by decide +kernel
theorem dM_fail_1 : decode cM_fail 1 = .ok (.getfield 56, 3) := by decide +kernel
theorem dM_fail_4 : decode cM_fail 4 = .ok (.ifCond .le 4, 3) := by decide +kernel
theorem dM_fail_7 : decode cM_fail 7 = .ok (.return_, 1) := by decide +kernel
theorem dM_fail_8 : decode cM_fail 8 = .ok (.aload_n 0, 1) := by decide +kernel
theorem dM_fail_9 : decode cM_fail 9 = .ok (.iload_n 1, 1) := by decide +kernel
theorem dM_fail_10 : decode cM_fail 10 = .ok (.putfield 56, 3) := by decide +kernel
theorem dM_fail_13 : decode cM_fail 13 = .ok (.aload_n 0, 1) := by decide +kernel
theorem dM_fail_14 : decode cM_fail 14 = .ok (.iload_n 2, 1) := by decide +kernel
theorem dM_fail_15 : decode cM_fail 15 = .ok (.putfield 59, 3) := by decide +kernel
theorem dM_fail_18 : decode cM_fail 18 = .ok (.return_, 1) := by decide +kernel
def fM_fail (iv : Nat → Int32) (av : Nat → Nat → Int32) (x1 : Int32) (x2 : Int32) : Option ((Nat → Int32) × (Nat → Nat → Int32)) := if (iv 4) ≤ 0 then (some (upd (upd iv 4 x1) 5 x2, av)) else (some (iv, av))
set_option maxHeartbeats 4000000 in
set_option maxRecDepth 100000 in
theorem cM_fail_met {l : Launch} {g : gT} {q : Nat} {ad : Nat → Nat} {X : va_W} {iv iv' : Nat → Int32} {av av' : Nat → Nat → Int32} {x1 : Int32} {x2 : Int32} (hf : fM_fail iv av x1 x2 = some (iv', av')) : mMet l yM_fail cM_fail 3 none rM_fail g q ad X iv av [.ref q, .int x1, .int x2] none iv' av' := by
  refine m_entry (by decide) (Nat.le_of_ble_eq_true rfl) ?_
  intro p e s m args below meth c ls C hr hlk hnm hl hw
  have hrv : (none : Option Value) = none := rfl
  have C : mCx p m c cM_fail 3 s args g "MidiDeskModel" := C
  have hl : lv_has ls 3 [(0, .ref q), (1, .int x1), (2, .int x2)] := hl
  unfold fM_fail at hf
  refine lv_aload_n C.1.1 C.1.2.1 dM_fail_0 rfl (lv_at hl 0 rfl) ?_
  refine mg_fault C hw dM_fail_1 ?_
  refine lv_if_le (tgt := 8) C.1.1 C.1.2.1 dM_fail_4 (by decide) (fun c1 => ?_) (fun c1 => ?_)
  · have hf := ts_t hf c1
    refine lv_aload_n C.1.1 C.1.2.1 dM_fail_8 rfl (lv_at hl 0 rfl) ?_
    refine lv_iload_n C.1.1 C.1.2.1 dM_fail_9 rfl (lv_at hl 1 rfl) ?_
    refine mp_fault C hw dM_fail_10 (fun H locs hw => ?_)
    refine lv_aload_n C.1.1 C.1.2.1 dM_fail_13 rfl (lv_at hl 0 rfl) ?_
    refine lv_iload_n C.1.1 C.1.2.1 dM_fail_14 rfl (lv_at hl 2 rfl) ?_
    refine mp_place C hw dM_fail_15 (fun H locs hw => ?_)
    exact m_retv C hr hlk hrv hw hf ⟨Nat.le_of_ble_eq_true rfl, Nat.le_of_ble_eq_true rfl⟩ dM_fail_18
  · have hf := ts_f hf c1
    exact m_retv C hr hlk hrv hw hf ⟨Nat.le_of_ble_eq_true rfl, Nat.le_of_ble_eq_true rfl⟩ dM_fail_7
abbrev cM_taken : ByteArray := prog_8_method_6_code
abbrev yM_taken : MethodName := ⟨"MidiDeskModel", "taken", "(I)J"⟩
theorem kM_taken : yM_taken.cls ≠ "java/lang/invoke/MethodHandle" ∧ yM_taken.cls ≠ "java/lang/invoke/VarHandle" ∧ (parseMethodDescriptor yM_taken.desc).map (fun d => d.parameters.length) = some 1 := by decide +kernel
abbrev rM_taken : Room := { frames := 1, cells := 0, slots := 0, locals := 22 }
theorem dM_taken_0 : decode cM_taken 0 = .ok (.aload_n 0, 1) := by decide +kernel
theorem dM_taken_1 : decode cM_taken 1 = .ok (.getfield 56, 3) := by decide +kernel
theorem dM_taken_4 : decode cM_taken 4 = .ok (.ifCond .ne 25, 3) := by decide +kernel
theorem dM_taken_7 : decode cM_taken 7 = .ok (.aload_n 0, 1) := by decide +kernel
theorem dM_taken_8 : decode cM_taken 8 = .ok (.getfield 62, 3) := by decide +kernel
theorem dM_taken_11 : decode cM_taken 11 = .ok (.iload_n 1, 1) := by decide +kernel
theorem dM_taken_12 : decode cM_taken 12 = .ok (.iadd, 1) := by decide +kernel
theorem dM_taken_13 : decode cM_taken 13 = .ok (.aload_n 0, 1) := by decide +kernel
theorem dM_taken_14 : decode cM_taken 14 = .ok (.getfield 65, 3) := by decide +kernel
theorem dM_taken_17 : decode cM_taken 17 = .ok (.if_icmp .le 12, 3) := by decide +kernel
theorem dM_taken_20 : decode cM_taken 20 = .ok (.aload_n 0, 1) := by decide +kernel
theorem dM_taken_21 : decode cM_taken 21 = .ok (.iconst 1, 1) := by decide +kernel
theorem dM_taken_22 : decode cM_taken 22 = .ok (.aload_n 0, 1) := by decide +kernel
theorem dM_taken_23 : decode cM_taken 23 = .ok (.getfield 65, 3) := by decide +kernel
theorem dM_taken_26 : decode cM_taken 26 = .ok (.invokevirtual 68, 3) := by decide +kernel
theorem dM_taken_29 : decode cM_taken 29 = .ok (.aload_n 0, 1) := by decide +kernel
theorem dM_taken_30 : decode cM_taken 30 = .ok (.getfield 56, 3) := by decide +kernel
theorem dM_taken_33 : decode cM_taken 33 = .ok (.ifCond .le 5, 3) := by decide +kernel
theorem dM_taken_36 : decode cM_taken 36 = .ok (.lconst 0, 1) := by decide +kernel
theorem dM_taken_37 : decode cM_taken 37 = .ok (.lreturn, 1) := by decide +kernel
theorem dM_taken_38 : decode cM_taken 38 = .ok (.lconst 0, 1) := by decide +kernel
theorem dM_taken_39 : decode cM_taken 39 = .ok (.lstore_n 2, 1) := by decide +kernel
theorem dM_taken_40 : decode cM_taken 40 = .ok (.iconst 0, 1) := by decide +kernel
theorem dM_taken_41 : decode cM_taken 41 = .ok (.istore 4, 2) := by decide +kernel
theorem dM_taken_43 : decode cM_taken 43 = .ok (.iload 4, 2) := by decide +kernel
theorem dM_taken_45 : decode cM_taken 45 = .ok (.iload_n 1, 1) := by decide +kernel
theorem dM_taken_46 : decode cM_taken 46 = .ok (.if_icmp .ge 29, 3) := by decide +kernel
theorem dM_taken_49 : decode cM_taken 49 = .ok (.ldc2_w 72, 3) := by decide +kernel
theorem dM_taken_52 : decode cM_taken 52 = .ok (.lload_n 2, 1) := by decide +kernel
theorem dM_taken_53 : decode cM_taken 53 = .ok (.lmul, 1) := by decide +kernel
theorem dM_taken_54 : decode cM_taken 54 = .ok (.aload_n 0, 1) := by decide +kernel
theorem dM_taken_55 : decode cM_taken 55 = .ok (.getfield 7, 3) := by decide +kernel
theorem dM_taken_58 : decode cM_taken 58 = .ok (.aload_n 0, 1) := by decide +kernel
theorem dM_taken_59 : decode cM_taken 59 = .ok (.getfield 62, 3) := by decide +kernel
theorem dM_taken_62 : decode cM_taken 62 = .ok (.iload 4, 2) := by decide +kernel
theorem dM_taken_64 : decode cM_taken 64 = .ok (.iadd, 1) := by decide +kernel
theorem dM_taken_65 : decode cM_taken 65 = .ok (.iaload, 1) := by decide +kernel
theorem dM_taken_66 : decode cM_taken 66 = .ok (.i2l, 1) := by decide +kernel
theorem dM_taken_67 : decode cM_taken 67 = .ok (.ladd, 1) := by decide +kernel
theorem dM_taken_68 : decode cM_taken 68 = .ok (.lstore_n 2, 1) := by decide +kernel
theorem dM_taken_69 : decode cM_taken 69 = .ok (.iinc 4 1, 3) := by decide +kernel
theorem dM_taken_72 : decode cM_taken 72 = .ok (.goto (-29), 3) := by decide +kernel
theorem dM_taken_75 : decode cM_taken 75 = .ok (.aload_n 0, 1) := by decide +kernel
theorem dM_taken_76 : decode cM_taken 76 = .ok (.dup, 1) := by decide +kernel
theorem dM_taken_77 : decode cM_taken 77 = .ok (.getfield 62, 3) := by decide +kernel
theorem dM_taken_80 : decode cM_taken 80 = .ok (.iload_n 1, 1) := by decide +kernel
theorem dM_taken_81 : decode cM_taken 81 = .ok (.iadd, 1) := by decide +kernel
theorem dM_taken_82 : decode cM_taken 82 = .ok (.putfield 62, 3) := by decide +kernel
theorem dM_taken_85 : decode cM_taken 85 = .ok (.lload_n 2, 1) := by decide +kernel
theorem dM_taken_86 : decode cM_taken 86 = .ok (.lreturn, 1) := by decide +kernel
def lM_taken_43 : Nat → (Nat → Int32) → (Nat → Nat → Int32) → Int32 → Int64 → Int32 → Option (Int64 × (Nat → Int32) × (Nat → Nat → Int32))
  | 0 => fun _ _ _ _ _ => none
  | k + 1 => fun iv av x1 y2 x4 => if x1 ≤ x4 then (some (y2, upd iv 2 ((iv 2) + x1), av)) else (if ((iv 2) + x4) < 0 ∨ 12000 ≤ ((iv 2) + x4).toNatClampNeg then none else (lM_taken_43 k iv av x1 (((256 : Int64) * y2) + ((av 0 ((iv 2) + x4).toNatClampNeg).toInt64)) (x4 + 1)))
def jM_taken_29 (iv : Nat → Int32) (av : Nat → Nat → Int32) (x1 : Int32) : Option (Int64 × (Nat → Int32) × (Nat → Nat → Int32)) := if (iv 4) ≤ 0 then (lM_taken_43 FU iv av x1 (0 : Int64) (0 : Int32)) else (some ((0 : Int64), iv, av))
def fM_taken (iv : Nat → Int32) (av : Nat → Nat → Int32) (x1 : Int32) : Option (Int64 × (Nat → Int32) × (Nat → Nat → Int32)) := if (iv 4) = 0 then (if ((iv 2) + x1) ≤ (iv 3) then (jM_taken_29 iv av x1) else ((fM_fail iv av (1 : Int32) (iv 3)).bind fun (iv3, av3) => jM_taken_29 iv3 av3 x1)) else (jM_taken_29 iv av x1)
set_option maxHeartbeats 4000000 in
set_option maxRecDepth 100000 in
theorem wM_taken_43 {p : Program} {l : Launch} {e : Env} {s : State} {m : MethodId} {args : Array Value} {below : List Frame} {meth : Method} {c : Code} {g : gT} {q : Nat} {ad : Nat → Nat} {X : va_W} {rv : Option Value} {iv' : Nat → Int32} {av' : Nat → Nat → Int32} {r' : Int64} (C : mCx p m c cM_taken 5 s args g "MidiDeskModel") (hr : meth.sig.returnType = (some .long)) (hlk : meth.locks = false) (hrv : rv = some (.long r')) (k : Nat) : ∀ (iv : Nat → Int32) (av : Nat → Nat → Int32) (x1 : Int32) (y2 : Int64) (x4 : Int32) (H : Heap) (locs : List Loc) (ls : Array Slot), lv_has ls 5 [(0, .ref q), (1, .int x1), (2, .long y2), (4, .int x4)] → mWd g (mA g q ad X s.heap.size) s.heap q ad X iv av H locs → lM_taken_43 k iv av x1 y2 x4 = some (r', iv', av') → mG p l e rM_taken s m args below meth c g q ad X rv iv' av' H locs 0 0 (F0 m 43 ls []) := by
  induction k with
  | zero => intro iv av x1 y2 x4 H locs ls hl hw hf; cases hf
  | succ k ih =>
    intro iv av x1 y2 x4 H locs ls hl hw hf
    have hf : (if x1 ≤ x4 then (some (y2, upd iv 2 ((iv 2) + x1), av)) else (if ((iv 2) + x4) < 0 ∨ 12000 ≤ ((iv 2) + x4).toNatClampNeg then none else (lM_taken_43 k iv av x1 (((256 : Int64) * y2) + ((av 0 ((iv 2) + x4).toNatClampNeg).toInt64)) (x4 + 1)))) = some (r', iv', av') := hf
    refine lv_iload C.1.1 C.1.2.1 dM_taken_43 (lv_at hl 3 rfl) ?_
    refine lv_iload_n C.1.1 C.1.2.1 dM_taken_45 rfl (lv_at hl 1 rfl) ?_
    refine lv_icmp_ge (tgt := 75) C.1.1 C.1.2.1 dM_taken_46 (by decide) (fun c1 => ?_) (fun c1 => ?_)
    · have hf := ts_t hf c1
      refine lv_aload_n C.1.1 C.1.2.1 dM_taken_75 rfl (lv_at hl 0 rfl) ?_
      refine lv_dup C.1.1 C.1.2.1 dM_taken_76 rfl ?_
      refine mg_at C hw dM_taken_77 ?_
      refine lv_iload_n C.1.1 C.1.2.1 dM_taken_80 rfl (lv_at hl 1 rfl) ?_
      refine lv_iadd C.1.1 C.1.2.1 dM_taken_81 ?_
      refine mp_at C hw dM_taken_82 (fun H locs hw => ?_)
      refine lv_lload_n C.1.1 C.1.2.1 dM_taken_85 rfl (lv_at hl 2 rfl) ?_
      exact m_retl C hr hlk hrv hw hf ⟨Nat.le_of_ble_eq_true rfl, Nat.le_of_ble_eq_true rfl⟩ dM_taken_86
    · have hf := ts_f hf c1
      refine lv_ldc2 C.1.1 C.1.2.1 C.1.2.2.2.1 (C.1.2.2.2.2 _ gw_816) dM_taken_49 ?_
      refine lv_lload_n C.1.1 C.1.2.1 dM_taken_52 rfl (lv_at hl 2 rfl) ?_
      refine lv_lmul C.1.1 C.1.2.1 dM_taken_53 ?_
      refine lv_aload_n C.1.1 C.1.2.1 dM_taken_54 rfl (lv_at hl 0 rfl) ?_
      refine mg_input C hw dM_taken_55 ?_
      refine lv_aload_n C.1.1 C.1.2.1 dM_taken_58 rfl (lv_at hl 0 rfl) ?_
      refine mg_at C hw dM_taken_59 ?_
      refine lv_iload C.1.1 C.1.2.1 dM_taken_62 (lv_at hl 3 rfl) ?_
      refine lv_iadd C.1.1 C.1.2.1 dM_taken_64 ?_
      obtain ⟨h2, hf⟩ := ts_g hf
      refine ma_input C hw h2 dM_taken_65 ?_
      refine lv_i2l C.1.1 C.1.2.1 dM_taken_66 rfl ?_
      refine lv_ladd C.1.1 C.1.2.1 dM_taken_67 ?_
      refine lv_lstore_n (lv' := [(2, .long (((256 : Int64) * y2) + ((av 0 ((iv 2) + x4).toNatClampNeg).toInt64))), (0, .ref q), (1, .int x1), (4, .int x4)]) C.1.1 C.1.2.1 dM_taken_68 rfl hl (by decide) rfl (fun ls hl => ?_)
      refine lv_iinc (v := x4 + 1) (lv' := [(4, .int (x4 + 1)), (2, .long (((256 : Int64) * y2) + ((av 0 ((iv 2) + x4).toNatClampNeg).toInt64))), (0, .ref q), (1, .int x1)]) C.1.1 C.1.2.1 dM_taken_69 hl (k := 3) rfl rfl (by decide) rfl (fun ls hl => ?_)
      refine lv_goto (tgt := 43) C.1.1 C.1.2.1 dM_taken_72 (by decide) ?_
      exact ih iv av x1 (((256 : Int64) * y2) + ((av 0 ((iv 2) + x4).toNatClampNeg).toInt64)) (x4 + 1) _ _ ls (lv_sub hl [2, 3, 1, 0] rfl) hw hf
set_option maxHeartbeats 4000000 in
set_option maxRecDepth 100000 in
theorem wM_taken_29 {p : Program} {l : Launch} {e : Env} {s : State} {m : MethodId} {args : Array Value} {below : List Frame} {meth : Method} {c : Code} {g : gT} {q : Nat} {ad : Nat → Nat} {X : va_W} {rv : Option Value} {iv' : Nat → Int32} {av' : Nat → Nat → Int32} {r' : Int64} (C : mCx p m c cM_taken 5 s args g "MidiDeskModel") (hr : meth.sig.returnType = (some .long)) (hlk : meth.locks = false) (hrv : rv = some (.long r')) (iv : Nat → Int32) (av : Nat → Nat → Int32) (x1 : Int32) (H : Heap) (locs : List Loc) (ls : Array Slot) (hl : lv_has ls 5 [(0, .ref q), (1, .int x1)]) (hw : mWd g (mA g q ad X s.heap.size) s.heap q ad X iv av H locs) (hf : jM_taken_29 iv av x1 = some (r', iv', av')) : mG p l e rM_taken s m args below meth c g q ad X rv iv' av' H locs 0 0 (F0 m 29 ls []) := by
  unfold jM_taken_29 at hf
  refine lv_aload_n C.1.1 C.1.2.1 dM_taken_29 rfl (lv_at hl 0 rfl) ?_
  refine mg_fault C hw dM_taken_30 ?_
  refine lv_if_le (tgt := 38) C.1.1 C.1.2.1 dM_taken_33 (by decide) (fun c1 => ?_) (fun c1 => ?_)
  · have hf := ts_t hf c1
    refine lv_lconst (v := 0) C.1.1 C.1.2.1 dM_taken_38 (by decide) ?_
    refine lv_lstore_n (lv' := [(2, .long (0 : Int64)), (0, .ref q), (1, .int x1)]) C.1.1 C.1.2.1 dM_taken_39 rfl hl (by decide) rfl (fun ls hl => ?_)
    refine lv_iconst (v := (0 : Int32)) C.1.1 C.1.2.1 dM_taken_40 (by decide) ?_
    refine lv_istore (lv' := [(4, .int (0 : Int32)), (2, .long (0 : Int64)), (0, .ref q), (1, .int x1)]) C.1.1 C.1.2.1 dM_taken_41 hl (by decide) rfl (fun ls hl => ?_)
    exact wM_taken_43 C hr hlk hrv FU iv av x1 (0 : Int64) (0 : Int32) _ _ ls (lv_sub hl [2, 3, 1, 0] rfl) hw hf
  · have hf := ts_f hf c1
    refine lv_lconst (v := 0) C.1.1 C.1.2.1 dM_taken_36 (by decide) ?_
    exact m_retl C hr hlk hrv hw hf ⟨Nat.le_of_ble_eq_true rfl, Nat.le_of_ble_eq_true rfl⟩ dM_taken_37
set_option maxHeartbeats 4000000 in
set_option maxRecDepth 100000 in
theorem cM_taken_met {l : Launch} {g : gT} {q : Nat} {ad : Nat → Nat} {X : va_W} {iv iv' : Nat → Int32} {av av' : Nat → Nat → Int32} {x1 : Int32} {r' : Int64} (hf : fM_taken iv av x1 = some (r', iv', av')) : mMet l yM_taken cM_taken 5 (some .long) rM_taken g q ad X iv av [.ref q, .int x1] (some (.long r')) iv' av' := by
  refine m_entry (by decide) (Nat.le_of_ble_eq_true rfl) ?_
  intro p e s m args below meth c ls C hr hlk hnm hl hw
  have hrv : ((some (.long r')) : Option Value) = (some (.long r')) := rfl
  have C : mCx p m c cM_taken 5 s args g "MidiDeskModel" := C
  have hl : lv_has ls 5 [(0, .ref q), (1, .int x1)] := hl
  unfold fM_taken at hf
  refine lv_aload_n C.1.1 C.1.2.1 dM_taken_0 rfl (lv_at hl 0 rfl) ?_
  refine mg_fault C hw dM_taken_1 ?_
  refine lv_if_ne (tgt := 29) C.1.1 C.1.2.1 dM_taken_4 (by decide) (fun c1 => ?_) (fun c1 => ?_)
  · have hf := ts_f hf c1
    exact wM_taken_29 C hr hlk hrv iv av x1 _ _ ls (lv_sub hl [0, 1] rfl) hw hf
  · have hf := ts_t hf c1
    refine lv_aload_n C.1.1 C.1.2.1 dM_taken_7 rfl (lv_at hl 0 rfl) ?_
    refine mg_at C hw dM_taken_8 ?_
    refine lv_iload_n C.1.1 C.1.2.1 dM_taken_11 rfl (lv_at hl 1 rfl) ?_
    refine lv_iadd C.1.1 C.1.2.1 dM_taken_12 ?_
    refine lv_aload_n C.1.1 C.1.2.1 dM_taken_13 rfl (lv_at hl 0 rfl) ?_
    refine mg_end C hw dM_taken_14 ?_
    refine lv_icmp_le (tgt := 29) C.1.1 C.1.2.1 dM_taken_17 (by decide) (fun c2 => ?_) (fun c2 => ?_)
    · have hf := ts_t hf c2
      exact wM_taken_29 C hr hlk hrv iv av x1 _ _ ls (lv_sub hl [0, 1] rfl) hw hf
    · have hf := ts_f hf c2
      refine lv_aload_n C.1.1 C.1.2.1 dM_taken_20 rfl (lv_at hl 0 rfl) ?_
      refine lv_iconst (v := (1 : Int32)) C.1.1 C.1.2.1 dM_taken_21 (by decide) ?_
      refine lv_aload_n C.1.1 C.1.2.1 dM_taken_22 rfl (lv_at hl 0 rfl) ?_
      refine mg_end C hw dM_taken_23 ?_
      obtain ⟨⟨iv3, av3⟩, g3, hf⟩ := ts_b hf
      dsimp only at hf
      refine m_callV (rest := []) (As := [.int (1 : Int32), .int (iv 3)]) (rv := none) C hl.1 hw (cM_fail_met g3) (callW_of (rm := rM_fail) 2 C.1.2.2.2.2 gw_812 gw_814 gw_28 gw_55 gw_815 kM_fail ⟨Nat.le_of_ble_eq_true rfl, Nat.le_of_ble_eq_true rfl⟩) rfl rfl (Nat.le_of_ble_eq_true rfl) dM_taken_26 ⟨Nat.le_of_ble_eq_true rfl, Nat.le_of_ble_eq_true rfl⟩ (fun H locs hw => ?_)
      refine W.eq (g2 := F0 m 29 ls []) rfl ?_
      exact wM_taken_29 C hr hlk hrv iv3 av3 x1 _ _ ls (lv_sub hl [0, 1] rfl) hw hf
abbrev cM_number : ByteArray := prog_8_method_7_code
abbrev yM_number : MethodName := ⟨"MidiDeskModel", "number", "()I"⟩
theorem kM_number : yM_number.cls ≠ "java/lang/invoke/MethodHandle" ∧ yM_number.cls ≠ "java/lang/invoke/VarHandle" ∧ (parseMethodDescriptor yM_number.desc).map (fun d => d.parameters.length) = some 0 := by decide +kernel
abbrev rM_number : Room := { frames := 2, cells := 0, slots := 0, locals := 46 }
theorem dM_number_0 : decode cM_number 0 = .ok (.aload_n 0, 1) := by decide +kernel
theorem dM_number_1 : decode cM_number 1 = .ok (.getfield 62, 3) := by decide +kernel
theorem dM_number_4 : decode cM_number 4 = .ok (.istore_n 1, 1) := by decide +kernel
theorem dM_number_5 : decode cM_number 5 = .ok (.iconst 0, 1) := by decide +kernel
theorem dM_number_6 : decode cM_number 6 = .ok (.istore_n 2, 1) := by decide +kernel
theorem dM_number_7 : decode cM_number 7 = .ok (.iconst 0, 1) := by decide +kernel
theorem dM_number_8 : decode cM_number 8 = .ok (.istore_n 3, 1) := by decide +kernel
theorem dM_number_9 : decode cM_number 9 = .ok (.iload_n 3, 1) := by decide +kernel
theorem dM_number_10 : decode cM_number 10 = .ok (.iconst 4, 1) := by decide +kernel
theorem dM_number_11 : decode cM_number 11 = .ok (.if_icmp .ge 45, 3) := by decide +kernel
theorem dM_number_14 : decode cM_number 14 = .ok (.aload_n 0, 1) := by decide +kernel
theorem dM_number_15 : decode cM_number 15 = .ok (.getfield 56, 3) := by decide +kernel
theorem dM_number_18 : decode cM_number 18 = .ok (.ifCond .ne 38, 3) := by decide +kernel
theorem dM_number_21 : decode cM_number 21 = .ok (.aload_n 0, 1) := by decide +kernel
theorem dM_number_22 : decode cM_number 22 = .ok (.iconst 1, 1) := by decide +kernel
theorem dM_number_23 : decode cM_number 23 = .ok (.invokevirtual 74, 3) := by decide +kernel
theorem dM_number_26 : decode cM_number 26 = .ok (.l2i, 1) := by decide +kernel
theorem dM_number_27 : decode cM_number 27 = .ok (.istore 4, 2) := by decide +kernel
theorem dM_number_29 : decode cM_number 29 = .ok (.iload_n 2, 1) := by decide +kernel
theorem dM_number_30 : decode cM_number 30 = .ok (.bipush 7, 2) := by decide +kernel
theorem dM_number_32 : decode cM_number 32 = .ok (.ishl, 1) := by decide +kernel
theorem dM_number_33 : decode cM_number 33 = .ok (.iload 4, 2) := by decide +kernel
theorem dM_number_35 : decode cM_number 35 = .ok (.bipush 127, 2) := by decide +kernel
theorem dM_number_37 : decode cM_number 37 = .ok (.iand, 1) := by decide +kernel
theorem dM_number_38 : decode cM_number 38 = .ok (.ior, 1) := by decide +kernel
theorem dM_number_39 : decode cM_number 39 = .ok (.istore_n 2, 1) := by decide +kernel
theorem dM_number_40 : decode cM_number 40 = .ok (.iload 4, 2) := by decide +kernel
theorem dM_number_42 : decode cM_number 42 = .ok (.sipush 128, 3) := by decide +kernel
theorem dM_number_45 : decode cM_number 45 = .ok (.if_icmp .ge 5, 3) := by decide +kernel
theorem dM_number_48 : decode cM_number 48 = .ok (.iload_n 2, 1) := by decide +kernel
theorem dM_number_49 : decode cM_number 49 = .ok (.ireturn, 1) := by decide +kernel
theorem dM_number_50 : decode cM_number 50 = .ok (.iinc 3 1, 3) := by decide +kernel
theorem dM_number_53 : decode cM_number 53 = .ok (.goto (-44), 3) := by decide +kernel
theorem dM_number_56 : decode cM_number 56 = .ok (.aload_n 0, 1) := by decide +kernel
theorem dM_number_57 : decode cM_number 57 = .ok (.iconst 4, 1) := by decide +kernel
theorem dM_number_58 : decode cM_number 58 = .ok (.iload_n 1, 1) := by decide +kernel
theorem dM_number_59 : decode cM_number 59 = .ok (.invokevirtual 68, 3) := by decide +kernel
theorem dM_number_62 : decode cM_number 62 = .ok (.iconst 0, 1) := by decide +kernel
theorem dM_number_63 : decode cM_number 63 = .ok (.ireturn, 1) := by decide +kernel
def jM_number_56 (iv : Nat → Int32) (av : Nat → Nat → Int32) (x1 : Int32) : Option (Int32 × (Nat → Int32) × (Nat → Nat → Int32)) := (fM_fail iv av (4 : Int32) x1).bind fun (iv1, av1) => some ((0 : Int32), iv1, av1)
def lM_number_9 : Nat → (Nat → Int32) → (Nat → Nat → Int32) → Int32 → Int32 → Int32 → Option (Int32 × (Nat → Int32) × (Nat → Nat → Int32))
  | 0 => fun _ _ _ _ _ => none
  | k + 1 => fun iv av x1 x2 x3 => if (4 : Int32) ≤ x3 then (jM_number_56 iv av x1) else (if (iv 4) = 0 then ((fM_taken iv av (1 : Int32)).bind fun (r3, iv3, av3) => if (128 : Int32) ≤ r3.toInt32 then (lM_number_9 k iv3 av3 x1 ((x2 <<< ((7 : Int32) &&& 31)) ||| (r3.toInt32 &&& (127 : Int32))) (x3 + 1)) else (some ((x2 <<< ((7 : Int32) &&& 31)) ||| (r3.toInt32 &&& (127 : Int32)), iv3, av3))) else (jM_number_56 iv av x1))
def fM_number (iv : Nat → Int32) (av : Nat → Nat → Int32) : Option (Int32 × (Nat → Int32) × (Nat → Nat → Int32)) := lM_number_9 FU iv av (iv 2) (0 : Int32) (0 : Int32)
set_option maxHeartbeats 4000000 in
set_option maxRecDepth 100000 in
theorem wM_number_56 {p : Program} {l : Launch} {e : Env} {s : State} {m : MethodId} {args : Array Value} {below : List Frame} {meth : Method} {c : Code} {g : gT} {q : Nat} {ad : Nat → Nat} {X : va_W} {rv : Option Value} {iv' : Nat → Int32} {av' : Nat → Nat → Int32} {r' : Int32} (C : mCx p m c cM_number 5 s args g "MidiDeskModel") (hr : meth.sig.returnType = (some .int)) (hlk : meth.locks = false) (hrv : rv = some (.int r')) (iv : Nat → Int32) (av : Nat → Nat → Int32) (x1 : Int32) (H : Heap) (locs : List Loc) (ls : Array Slot) (hl : lv_has ls 5 [(0, .ref q), (1, .int x1)]) (hw : mWd g (mA g q ad X s.heap.size) s.heap q ad X iv av H locs) (hf : jM_number_56 iv av x1 = some (r', iv', av')) : mG p l e rM_number s m args below meth c g q ad X rv iv' av' H locs 0 0 (F0 m 56 ls []) := by
  unfold jM_number_56 at hf
  refine lv_aload_n C.1.1 C.1.2.1 dM_number_56 rfl (lv_at hl 0 rfl) ?_
  refine lv_iconst (v := (4 : Int32)) C.1.1 C.1.2.1 dM_number_57 (by decide) ?_
  refine lv_iload_n C.1.1 C.1.2.1 dM_number_58 rfl (lv_at hl 1 rfl) ?_
  obtain ⟨⟨iv1, av1⟩, g1, hf⟩ := ts_b hf
  dsimp only at hf
  refine m_callV (rest := []) (As := [.int (4 : Int32), .int x1]) (rv := none) C hl.1 hw (cM_fail_met g1) (callW_of (rm := rM_fail) 2 C.1.2.2.2.2 gw_812 gw_814 gw_28 gw_55 gw_815 kM_fail ⟨Nat.le_of_ble_eq_true rfl, Nat.le_of_ble_eq_true rfl⟩) rfl rfl (Nat.le_of_ble_eq_true rfl) dM_number_59 ⟨Nat.le_of_ble_eq_true rfl, Nat.le_of_ble_eq_true rfl⟩ (fun H locs hw => ?_)
  refine W.eq (g2 := F0 m 62 ls []) rfl ?_
  refine lv_iconst (v := (0 : Int32)) C.1.1 C.1.2.1 dM_number_62 (by decide) ?_
  exact m_reti C hr hlk hrv hw hf ⟨Nat.le_of_ble_eq_true rfl, Nat.le_of_ble_eq_true rfl⟩ dM_number_63
set_option maxHeartbeats 4000000 in
set_option maxRecDepth 100000 in
theorem wM_number_9 {p : Program} {l : Launch} {e : Env} {s : State} {m : MethodId} {args : Array Value} {below : List Frame} {meth : Method} {c : Code} {g : gT} {q : Nat} {ad : Nat → Nat} {X : va_W} {rv : Option Value} {iv' : Nat → Int32} {av' : Nat → Nat → Int32} {r' : Int32} (C : mCx p m c cM_number 5 s args g "MidiDeskModel") (hr : meth.sig.returnType = (some .int)) (hlk : meth.locks = false) (hrv : rv = some (.int r')) (k : Nat) : ∀ (iv : Nat → Int32) (av : Nat → Nat → Int32) (x1 : Int32) (x2 : Int32) (x3 : Int32) (H : Heap) (locs : List Loc) (ls : Array Slot), lv_has ls 5 [(0, .ref q), (1, .int x1), (2, .int x2), (3, .int x3)] → mWd g (mA g q ad X s.heap.size) s.heap q ad X iv av H locs → lM_number_9 k iv av x1 x2 x3 = some (r', iv', av') → mG p l e rM_number s m args below meth c g q ad X rv iv' av' H locs 0 0 (F0 m 9 ls []) := by
  induction k with
  | zero => intro iv av x1 x2 x3 H locs ls hl hw hf; cases hf
  | succ k ih =>
    intro iv av x1 x2 x3 H locs ls hl hw hf
    have hf : (if (4 : Int32) ≤ x3 then (jM_number_56 iv av x1) else (if (iv 4) = 0 then ((fM_taken iv av (1 : Int32)).bind fun (r3, iv3, av3) => if (128 : Int32) ≤ r3.toInt32 then (lM_number_9 k iv3 av3 x1 ((x2 <<< ((7 : Int32) &&& 31)) ||| (r3.toInt32 &&& (127 : Int32))) (x3 + 1)) else (some ((x2 <<< ((7 : Int32) &&& 31)) ||| (r3.toInt32 &&& (127 : Int32)), iv3, av3))) else (jM_number_56 iv av x1))) = some (r', iv', av') := hf
    refine lv_iload_n C.1.1 C.1.2.1 dM_number_9 rfl (lv_at hl 3 rfl) ?_
    refine lv_iconst (v := (4 : Int32)) C.1.1 C.1.2.1 dM_number_10 (by decide) ?_
    refine lv_icmp_ge (tgt := 56) C.1.1 C.1.2.1 dM_number_11 (by decide) (fun c1 => ?_) (fun c1 => ?_)
    · have hf := ts_t hf c1
      exact wM_number_56 C hr hlk hrv iv av x1 _ _ ls (lv_sub hl [0, 1] rfl) hw hf
    · have hf := ts_f hf c1
      refine lv_aload_n C.1.1 C.1.2.1 dM_number_14 rfl (lv_at hl 0 rfl) ?_
      refine mg_fault C hw dM_number_15 ?_
      refine lv_if_ne (tgt := 56) C.1.1 C.1.2.1 dM_number_18 (by decide) (fun c2 => ?_) (fun c2 => ?_)
      · have hf := ts_f hf c2
        exact wM_number_56 C hr hlk hrv iv av x1 _ _ ls (lv_sub hl [0, 1] rfl) hw hf
      · have hf := ts_t hf c2
        refine lv_aload_n C.1.1 C.1.2.1 dM_number_21 rfl (lv_at hl 0 rfl) ?_
        refine lv_iconst (v := (1 : Int32)) C.1.1 C.1.2.1 dM_number_22 (by decide) ?_
        obtain ⟨⟨r3, iv3, av3⟩, g3, hf⟩ := ts_b hf
        dsimp only at hf
        refine m_callV (rest := []) (As := [.int (1 : Int32)]) (rv := (some (.long r3))) C hl.1 hw (cM_taken_met g3) (callW_of (rm := rM_taken) 1 C.1.2.2.2.2 gw_808 gw_810 gw_27 gw_55 gw_811 kM_taken ⟨Nat.le_of_ble_eq_true rfl, Nat.le_of_ble_eq_true rfl⟩) rfl rfl (Nat.le_of_ble_eq_true rfl) dM_number_23 ⟨Nat.le_of_ble_eq_true rfl, Nat.le_of_ble_eq_true rfl⟩ (fun H locs hw => ?_)
        refine W.eq (g2 := F0 m 26 ls [.long r3]) rfl ?_
        refine lv_l2i C.1.1 C.1.2.1 dM_number_26 rfl ?_
        refine lv_istore (lv' := [(4, .int r3.toInt32), (0, .ref q), (1, .int x1), (2, .int x2), (3, .int x3)]) C.1.1 C.1.2.1 dM_number_27 hl (by decide) rfl (fun ls hl => ?_)
        refine lv_iload_n C.1.1 C.1.2.1 dM_number_29 rfl (lv_at hl 3 rfl) ?_
        refine lv_bipush (v := (7 : Int32)) C.1.1 C.1.2.1 dM_number_30 (by decide) ?_
        refine lv_ishl C.1.1 C.1.2.1 dM_number_32 ?_
        refine lv_iload C.1.1 C.1.2.1 dM_number_33 (lv_at hl 0 rfl) ?_
        refine lv_bipush (v := (127 : Int32)) C.1.1 C.1.2.1 dM_number_35 (by decide) ?_
        refine lv_iand C.1.1 C.1.2.1 dM_number_37 ?_
        refine lv_ior C.1.1 C.1.2.1 dM_number_38 ?_
        refine lv_istore_n (lv' := [(2, .int ((x2 <<< ((7 : Int32) &&& 31)) ||| (r3.toInt32 &&& (127 : Int32)))), (4, .int r3.toInt32), (0, .ref q), (1, .int x1), (3, .int x3)]) C.1.1 C.1.2.1 dM_number_39 rfl hl (by decide) rfl (fun ls hl => ?_)
        refine lv_iload C.1.1 C.1.2.1 dM_number_40 (lv_at hl 1 rfl) ?_
        refine lv_sipush (v := (128 : Int32)) C.1.1 C.1.2.1 dM_number_42 (by decide) ?_
        refine lv_icmp_ge (tgt := 50) C.1.1 C.1.2.1 dM_number_45 (by decide) (fun c4 => ?_) (fun c4 => ?_)
        · have hf := ts_t hf c4
          refine lv_iinc (v := x3 + 1) (lv' := [(3, .int (x3 + 1)), (2, .int ((x2 <<< ((7 : Int32) &&& 31)) ||| (r3.toInt32 &&& (127 : Int32)))), (4, .int r3.toInt32), (0, .ref q), (1, .int x1)]) C.1.1 C.1.2.1 dM_number_50 hl (k := 4) rfl rfl (by decide) rfl (fun ls hl => ?_)
          refine lv_goto (tgt := 9) C.1.1 C.1.2.1 dM_number_53 (by decide) ?_
          exact ih iv3 av3 x1 ((x2 <<< ((7 : Int32) &&& 31)) ||| (r3.toInt32 &&& (127 : Int32))) (x3 + 1) _ _ ls (lv_sub hl [3, 4, 1, 0] rfl) hw hf
        · have hf := ts_f hf c4
          refine lv_iload_n C.1.1 C.1.2.1 dM_number_48 rfl (lv_at hl 0 rfl) ?_
          exact m_reti C hr hlk hrv hw hf ⟨Nat.le_of_ble_eq_true rfl, Nat.le_of_ble_eq_true rfl⟩ dM_number_49
set_option maxHeartbeats 4000000 in
set_option maxRecDepth 100000 in
theorem cM_number_met {l : Launch} {g : gT} {q : Nat} {ad : Nat → Nat} {X : va_W} {iv iv' : Nat → Int32} {av av' : Nat → Nat → Int32} {r' : Int32} (hf : fM_number iv av = some (r', iv', av')) : mMet l yM_number cM_number 5 (some .int) rM_number g q ad X iv av [.ref q] (some (.int r')) iv' av' := by
  refine m_entry (by decide) (Nat.le_of_ble_eq_true rfl) ?_
  intro p e s m args below meth c ls C hr hlk hnm hl hw
  have hrv : ((some (.int r')) : Option Value) = (some (.int r')) := rfl
  have C : mCx p m c cM_number 5 s args g "MidiDeskModel" := C
  have hl : lv_has ls 5 [(0, .ref q)] := hl
  unfold fM_number at hf
  refine lv_aload_n C.1.1 C.1.2.1 dM_number_0 rfl (lv_at hl 0 rfl) ?_
  refine mg_at C hw dM_number_1 ?_
  refine lv_istore_n (lv' := [(1, .int (iv 2)), (0, .ref q)]) C.1.1 C.1.2.1 dM_number_4 rfl hl (by decide) rfl (fun ls hl => ?_)
  refine lv_iconst (v := (0 : Int32)) C.1.1 C.1.2.1 dM_number_5 (by decide) ?_
  refine lv_istore_n (lv' := [(2, .int (0 : Int32)), (1, .int (iv 2)), (0, .ref q)]) C.1.1 C.1.2.1 dM_number_6 rfl hl (by decide) rfl (fun ls hl => ?_)
  refine lv_iconst (v := (0 : Int32)) C.1.1 C.1.2.1 dM_number_7 (by decide) ?_
  refine lv_istore_n (lv' := [(3, .int (0 : Int32)), (2, .int (0 : Int32)), (1, .int (iv 2)), (0, .ref q)]) C.1.1 C.1.2.1 dM_number_8 rfl hl (by decide) rfl (fun ls hl => ?_)
  exact wM_number_9 C hr hlk hrv FU iv av (iv 2) (0 : Int32) (0 : Int32) _ _ ls (lv_sub hl [3, 2, 1, 0] rfl) hw hf
abbrev cM_isDivision : ByteArray := prog_8_method_8_code
abbrev yM_isDivision : MethodName := ⟨"MidiDeskModel", "isDivision", "(I)Z"⟩
theorem kM_isDivision : yM_isDivision.cls ≠ "java/lang/invoke/MethodHandle" ∧ yM_isDivision.cls ≠ "java/lang/invoke/VarHandle" ∧ (parseMethodDescriptor yM_isDivision.desc).map (fun d => d.parameters.length) = some 1 := by decide +kernel
abbrev rM_isDivision : Room := { frames := 0, cells := 0, slots := 0, locals := 0 }
theorem dM_isDivision_0 : decode cM_isDivision 0 = .ok (.sipush 256, 3) := by decide +kernel
theorem dM_isDivision_3 : decode cM_isDivision 3 = .ok (.iload_n 0, 1) := by decide +kernel
theorem dM_isDivision_4 : decode cM_isDivision 4 = .ok (.bipush 8, 2) := by decide +kernel
theorem dM_isDivision_6 : decode cM_isDivision 6 = .ok (.ishr, 1) := by decide +kernel
theorem dM_isDivision_7 : decode cM_isDivision 7 = .ok (.isub, 1) := by decide +kernel
theorem dM_isDivision_8 : decode cM_isDivision 8 = .ok (.istore_n 1, 1) := by decide +kernel
theorem dM_isDivision_9 : decode cM_isDivision 9 = .ok (.iload_n 0, 1) := by decide +kernel
theorem dM_isDivision_10 : decode cM_isDivision 10 = .ok (.ldc 43, 2) := by decide +kernel
theorem dM_isDivision_12 : decode cM_isDivision 12 = .ok (.if_icmp .ge 15, 3) := by decide +kernel
theorem dM_isDivision_15 : decode cM_isDivision 15 = .ok (.iload_n 0, 1) := by decide +kernel
theorem dM_isDivision_16 : decode cM_isDivision 16 = .ok (.ifCond .le 7, 3) := by decide +kernel
theorem dM_isDivision_19 : decode cM_isDivision 19 = .ok (.iconst 1, 1) := by decide +kernel
theorem dM_isDivision_20 : decode cM_isDivision 20 = .ok (.goto 44, 3) := by decide +kernel
theorem dM_isDivision_23 : decode cM_isDivision 23 = .ok (.iconst 0, 1) := by decide +kernel
theorem dM_isDivision_24 : decode cM_isDivision 24 = .ok (.goto 40, 3) := by decide +kernel
theorem dM_isDivision_27 : decode cM_isDivision 27 = .ok (.iload_n 1, 1) := by decide +kernel
theorem dM_isDivision_28 : decode cM_isDivision 28 = .ok (.bipush 24, 2) := by decide +kernel
theorem dM_isDivision_30 : decode cM_isDivision 30 = .ok (.if_icmp .eq 21, 3) := by decide +kernel
theorem dM_isDivision_33 : decode cM_isDivision 33 = .ok (.iload_n 1, 1) := by decide +kernel
theorem dM_isDivision_34 : decode cM_isDivision 34 = .ok (.bipush 25, 2) := by decide +kernel
theorem dM_isDivision_36 : decode cM_isDivision 36 = .ok (.if_icmp .eq 15, 3) := by decide +kernel
theorem dM_isDivision_39 : decode cM_isDivision 39 = .ok (.iload_n 1, 1) := by decide +kernel
theorem dM_isDivision_40 : decode cM_isDivision 40 = .ok (.bipush 29, 2) := by decide +kernel
theorem dM_isDivision_42 : decode cM_isDivision 42 = .ok (.if_icmp .eq 9, 3) := by decide +kernel
theorem dM_isDivision_45 : decode cM_isDivision 45 = .ok (.iload_n 1, 1) := by decide +kernel
theorem dM_isDivision_46 : decode cM_isDivision 46 = .ok (.bipush 30, 2) := by decide +kernel
theorem dM_isDivision_48 : decode cM_isDivision 48 = .ok (.if_icmp .ne 15, 3) := by decide +kernel
theorem dM_isDivision_51 : decode cM_isDivision 51 = .ok (.iload_n 0, 1) := by decide +kernel
theorem dM_isDivision_52 : decode cM_isDivision 52 = .ok (.sipush 255, 3) := by decide +kernel
theorem dM_isDivision_55 : decode cM_isDivision 55 = .ok (.iand, 1) := by decide +kernel
theorem dM_isDivision_56 : decode cM_isDivision 56 = .ok (.ifCond .le 7, 3) := by decide +kernel
theorem dM_isDivision_59 : decode cM_isDivision 59 = .ok (.iconst 1, 1) := by decide +kernel
theorem dM_isDivision_60 : decode cM_isDivision 60 = .ok (.goto 4, 3) := by decide +kernel
theorem dM_isDivision_63 : decode cM_isDivision 63 = .ok (.iconst 0, 1) := by decide +kernel
theorem dM_isDivision_64 : decode cM_isDivision 64 = .ok (.ireturn, 1) := by decide +kernel
def jM_isDivision_51 (iv : Nat → Int32) (av : Nat → Nat → Int32) (x0 : Int32) : Option (Int32 × (Nat → Int32) × (Nat → Nat → Int32)) := if (x0 &&& (255 : Int32)) ≤ 0 then (some ((0 : Int32), iv, av)) else (some ((1 : Int32), iv, av))
def fM_isDivision (iv : Nat → Int32) (av : Nat → Nat → Int32) (x0 : Int32) : Option (Int32 × (Nat → Int32) × (Nat → Nat → Int32)) := if (32768 : Int32) ≤ x0 then (if ((256 : Int32) - (x0 >>> ((8 : Int32) &&& 31))) = (24 : Int32) then (jM_isDivision_51 iv av x0) else (if ((256 : Int32) - (x0 >>> ((8 : Int32) &&& 31))) = (25 : Int32) then (jM_isDivision_51 iv av x0) else (if ((256 : Int32) - (x0 >>> ((8 : Int32) &&& 31))) = (29 : Int32) then (jM_isDivision_51 iv av x0) else (if ((256 : Int32) - (x0 >>> ((8 : Int32) &&& 31))) = (30 : Int32) then (jM_isDivision_51 iv av x0) else (some ((0 : Int32), iv, av)))))) else (if x0 ≤ 0 then (some ((0 : Int32), iv, av)) else (some ((1 : Int32), iv, av)))
set_option maxHeartbeats 4000000 in
set_option maxRecDepth 100000 in
theorem wM_isDivision_51 {p : Program} {l : Launch} {e : Env} {s : State} {m : MethodId} {args : Array Value} {below : List Frame} {meth : Method} {c : Code} {g : gT} {q : Nat} {ad : Nat → Nat} {X : va_W} {rv : Option Value} {iv' : Nat → Int32} {av' : Nat → Nat → Int32} {r' : Int32} (C : mCx p m c cM_isDivision 2 s args g "MidiDeskModel") (hr : meth.sig.returnType = (some .boolean)) (hlk : meth.locks = false) (hrv : rv = some (.int r')) (iv : Nat → Int32) (av : Nat → Nat → Int32) (x0 : Int32) (H : Heap) (locs : List Loc) (ls : Array Slot) (hl : lv_has ls 2 [(0, .int x0)]) (hw : mWd g (mA g q ad X s.heap.size) s.heap q ad X iv av H locs) (hf : jM_isDivision_51 iv av x0 = some (r', iv', av')) : mG p l e rM_isDivision s m args below meth c g q ad X rv iv' av' H locs 0 0 (F0 m 51 ls []) := by
  unfold jM_isDivision_51 at hf
  refine lv_iload_n C.1.1 C.1.2.1 dM_isDivision_51 rfl (lv_at hl 0 rfl) ?_
  refine lv_sipush (v := (255 : Int32)) C.1.1 C.1.2.1 dM_isDivision_52 (by decide) ?_
  refine lv_iand C.1.1 C.1.2.1 dM_isDivision_55 ?_
  refine lv_if_le (tgt := 63) C.1.1 C.1.2.1 dM_isDivision_56 (by decide) (fun c1 => ?_) (fun c1 => ?_)
  · have hf := ts_t hf c1
    refine lv_iconst (v := (0 : Int32)) C.1.1 C.1.2.1 dM_isDivision_63 (by decide) ?_
    exact m_retz C hr hlk hrv hw (Or.inl rfl) hf ⟨Nat.le_of_ble_eq_true rfl, Nat.le_of_ble_eq_true rfl⟩ dM_isDivision_64
  · have hf := ts_f hf c1
    refine lv_iconst (v := (1 : Int32)) C.1.1 C.1.2.1 dM_isDivision_59 (by decide) ?_
    refine lv_goto (tgt := 64) C.1.1 C.1.2.1 dM_isDivision_60 (by decide) ?_
    exact m_retz C hr hlk hrv hw (Or.inr rfl) hf ⟨Nat.le_of_ble_eq_true rfl, Nat.le_of_ble_eq_true rfl⟩ dM_isDivision_64
set_option maxHeartbeats 4000000 in
set_option maxRecDepth 100000 in
theorem cM_isDivision_met {l : Launch} {g : gT} {q : Nat} {ad : Nat → Nat} {X : va_W} {iv iv' : Nat → Int32} {av av' : Nat → Nat → Int32} {x0 : Int32} {r' : Int32} (hf : fM_isDivision iv av x0 = some (r', iv', av')) : mMet l yM_isDivision cM_isDivision 2 (some .boolean) rM_isDivision g q ad X iv av [.int x0] (some (.int r')) iv' av' := by
  refine m_entry (by decide) (Nat.le_of_ble_eq_true rfl) ?_
  intro p e s m args below meth c ls C hr hlk hnm hl hw
  have hrv : ((some (.int r')) : Option Value) = (some (.int r')) := rfl
  have C : mCx p m c cM_isDivision 2 s args g "MidiDeskModel" := C
  have hl : lv_has ls 2 [(0, .int x0)] := hl
  unfold fM_isDivision at hf
  refine lv_sipush (v := (256 : Int32)) C.1.1 C.1.2.1 dM_isDivision_0 (by decide) ?_
  refine lv_iload_n C.1.1 C.1.2.1 dM_isDivision_3 rfl (lv_at hl 0 rfl) ?_
  refine lv_bipush (v := (8 : Int32)) C.1.1 C.1.2.1 dM_isDivision_4 (by decide) ?_
  refine lv_ishr C.1.1 C.1.2.1 dM_isDivision_6 ?_
  refine lv_isub C.1.1 C.1.2.1 dM_isDivision_7 ?_
  refine lv_istore_n (lv' := [(1, .int ((256 : Int32) - (x0 >>> ((8 : Int32) &&& 31)))), (0, .int x0)]) C.1.1 C.1.2.1 dM_isDivision_8 rfl hl (by decide) rfl (fun ls hl => ?_)
  refine lv_iload_n C.1.1 C.1.2.1 dM_isDivision_9 rfl (lv_at hl 1 rfl) ?_
  refine lv_ldc C.1.1 C.1.2.1 C.1.2.2.2.1 (C.1.2.2.2.2 _ gw_714) dM_isDivision_10 ?_
  refine lv_icmp_ge (tgt := 27) C.1.1 C.1.2.1 dM_isDivision_12 (by decide) (fun c1 => ?_) (fun c1 => ?_)
  · have hf := ts_t hf c1
    refine lv_iload_n C.1.1 C.1.2.1 dM_isDivision_27 rfl (lv_at hl 0 rfl) ?_
    refine lv_bipush (v := (24 : Int32)) C.1.1 C.1.2.1 dM_isDivision_28 (by decide) ?_
    refine lv_icmp_eq (tgt := 51) C.1.1 C.1.2.1 dM_isDivision_30 (by decide) (fun c2 => ?_) (fun c2 => ?_)
    · have hf := ts_t hf c2
      exact wM_isDivision_51 C hr hlk hrv iv av x0 _ _ ls (lv_sub hl [1] rfl) hw hf
    · have hf := ts_f hf c2
      refine lv_iload_n C.1.1 C.1.2.1 dM_isDivision_33 rfl (lv_at hl 0 rfl) ?_
      refine lv_bipush (v := (25 : Int32)) C.1.1 C.1.2.1 dM_isDivision_34 (by decide) ?_
      refine lv_icmp_eq (tgt := 51) C.1.1 C.1.2.1 dM_isDivision_36 (by decide) (fun c3 => ?_) (fun c3 => ?_)
      · have hf := ts_t hf c3
        exact wM_isDivision_51 C hr hlk hrv iv av x0 _ _ ls (lv_sub hl [1] rfl) hw hf
      · have hf := ts_f hf c3
        refine lv_iload_n C.1.1 C.1.2.1 dM_isDivision_39 rfl (lv_at hl 0 rfl) ?_
        refine lv_bipush (v := (29 : Int32)) C.1.1 C.1.2.1 dM_isDivision_40 (by decide) ?_
        refine lv_icmp_eq (tgt := 51) C.1.1 C.1.2.1 dM_isDivision_42 (by decide) (fun c4 => ?_) (fun c4 => ?_)
        · have hf := ts_t hf c4
          exact wM_isDivision_51 C hr hlk hrv iv av x0 _ _ ls (lv_sub hl [1] rfl) hw hf
        · have hf := ts_f hf c4
          refine lv_iload_n C.1.1 C.1.2.1 dM_isDivision_45 rfl (lv_at hl 0 rfl) ?_
          refine lv_bipush (v := (30 : Int32)) C.1.1 C.1.2.1 dM_isDivision_46 (by decide) ?_
          refine lv_icmp_ne (tgt := 63) C.1.1 C.1.2.1 dM_isDivision_48 (by decide) (fun c5 => ?_) (fun c5 => ?_)
          · have hf := ts_f hf c5
            refine lv_iconst (v := (0 : Int32)) C.1.1 C.1.2.1 dM_isDivision_63 (by decide) ?_
            exact m_retz C hr hlk hrv hw (Or.inl rfl) hf ⟨Nat.le_of_ble_eq_true rfl, Nat.le_of_ble_eq_true rfl⟩ dM_isDivision_64
          · have hf := ts_t hf c5
            exact wM_isDivision_51 C hr hlk hrv iv av x0 _ _ ls (lv_sub hl [1] rfl) hw hf
  · have hf := ts_f hf c1
    refine lv_iload_n C.1.1 C.1.2.1 dM_isDivision_15 rfl (lv_at hl 1 rfl) ?_
    refine lv_if_le (tgt := 23) C.1.1 C.1.2.1 dM_isDivision_16 (by decide) (fun c6 => ?_) (fun c6 => ?_)
    · have hf := ts_t hf c6
      refine lv_iconst (v := (0 : Int32)) C.1.1 C.1.2.1 dM_isDivision_23 (by decide) ?_
      refine lv_goto (tgt := 64) C.1.1 C.1.2.1 dM_isDivision_24 (by decide) ?_
      exact m_retz C hr hlk hrv hw (Or.inl rfl) hf ⟨Nat.le_of_ble_eq_true rfl, Nat.le_of_ble_eq_true rfl⟩ dM_isDivision_64
    · have hf := ts_f hf c6
      refine lv_iconst (v := (1 : Int32)) C.1.1 C.1.2.1 dM_isDivision_19 (by decide) ?_
      refine lv_goto (tgt := 64) C.1.1 C.1.2.1 dM_isDivision_20 (by decide) ?_
      exact m_retz C hr hlk hrv hw (Or.inr rfl) hf ⟨Nat.le_of_ble_eq_true rfl, Nat.le_of_ble_eq_true rfl⟩ dM_isDivision_64
abbrev cM_head : ByteArray := prog_8_method_9_code
abbrev yM_head : MethodName := ⟨"MidiDeskModel", "head", "()V"⟩
theorem kM_head : yM_head.cls ≠ "java/lang/invoke/MethodHandle" ∧ yM_head.cls ≠ "java/lang/invoke/VarHandle" ∧ (parseMethodDescriptor yM_head.desc).map (fun d => d.parameters.length) = some 0 := by decide +kernel
abbrev rM_head : Room := { frames := 2, cells := 0, slots := 0, locals := 46 }
theorem dM_head_0 : decode cM_head 0 = .ok (.aload_n 0, 1) := by decide +kernel
theorem dM_head_1 : decode cM_head 1 = .ok (.iconst 4, 1) := by decide +kernel
theorem dM_head_2 : decode cM_head 2 = .ok (.invokevirtual 74, 3) := by decide +kernel
theorem dM_head_5 : decode cM_head 5 = .ok (.ldc2_w 78, 3) := by decide +kernel
theorem dM_head_8 : decode cM_head 8 = .ok (.lcmp, 1) := by decide +kernel
theorem dM_head_9 : decode cM_head 9 = .ok (.ifCond .eq 9, 3) := by decide +kernel
theorem dM_head_12 : decode cM_head 12 = .ok (.aload_n 0, 1) := by decide +kernel
theorem dM_head_13 : decode cM_head 13 = .ok (.iconst 2, 1) := by decide +kernel
theorem dM_head_14 : decode cM_head 14 = .ok (.iconst 0, 1) := by decide +kernel
theorem dM_head_15 : decode cM_head 15 = .ok (.invokevirtual 68, 3) := by decide +kernel
theorem dM_head_18 : decode cM_head 18 = .ok (.aload_n 0, 1) := by decide +kernel
theorem dM_head_19 : decode cM_head 19 = .ok (.iconst 4, 1) := by decide +kernel
theorem dM_head_20 : decode cM_head 20 = .ok (.invokevirtual 74, 3) := by decide +kernel
theorem dM_head_23 : decode cM_head 23 = .ok (.ldc2_w 80, 3) := by decide +kernel
theorem dM_head_26 : decode cM_head 26 = .ok (.lcmp, 1) := by decide +kernel
theorem dM_head_27 : decode cM_head 27 = .ok (.ifCond .eq 9, 3) := by decide +kernel
theorem dM_head_30 : decode cM_head 30 = .ok (.aload_n 0, 1) := by decide +kernel
theorem dM_head_31 : decode cM_head 31 = .ok (.iconst 2, 1) := by decide +kernel
theorem dM_head_32 : decode cM_head 32 = .ok (.iconst 4, 1) := by decide +kernel
theorem dM_head_33 : decode cM_head 33 = .ok (.invokevirtual 68, 3) := by decide +kernel
theorem dM_head_36 : decode cM_head 36 = .ok (.aload_n 0, 1) := by decide +kernel
theorem dM_head_37 : decode cM_head 37 = .ok (.aload_n 0, 1) := by decide +kernel
theorem dM_head_38 : decode cM_head 38 = .ok (.iconst 2, 1) := by decide +kernel
theorem dM_head_39 : decode cM_head 39 = .ok (.invokevirtual 74, 3) := by decide +kernel
theorem dM_head_42 : decode cM_head 42 = .ok (.l2i, 1) := by decide +kernel
theorem dM_head_43 : decode cM_head 43 = .ok (.putfield 82, 3) := by decide +kernel
theorem dM_head_46 : decode cM_head 46 = .ok (.aload_n 0, 1) := by decide +kernel
theorem dM_head_47 : decode cM_head 47 = .ok (.getfield 82, 3) := by decide +kernel
theorem dM_head_50 : decode cM_head 50 = .ok (.iconst 2, 1) := by decide +kernel
theorem dM_head_51 : decode cM_head 51 = .ok (.if_icmp .le 10, 3) := by decide +kernel
theorem dM_head_54 : decode cM_head 54 = .ok (.aload_n 0, 1) := by decide +kernel
theorem dM_head_55 : decode cM_head 55 = .ok (.iconst 3, 1) := by decide +kernel
theorem dM_head_56 : decode cM_head 56 = .ok (.bipush 8, 2) := by decide +kernel
theorem dM_head_58 : decode cM_head 58 = .ok (.invokevirtual 68, 3) := by decide +kernel
theorem dM_head_61 : decode cM_head 61 = .ok (.aload_n 0, 1) := by decide +kernel
theorem dM_head_62 : decode cM_head 62 = .ok (.aload_n 0, 1) := by decide +kernel
theorem dM_head_63 : decode cM_head 63 = .ok (.iconst 2, 1) := by decide +kernel
theorem dM_head_64 : decode cM_head 64 = .ok (.invokevirtual 74, 3) := by decide +kernel
theorem dM_head_67 : decode cM_head 67 = .ok (.l2i, 1) := by decide +kernel
theorem dM_head_68 : decode cM_head 68 = .ok (.putfield 85, 3) := by decide +kernel
theorem dM_head_71 : decode cM_head 71 = .ok (.aload_n 0, 1) := by decide +kernel
theorem dM_head_72 : decode cM_head 72 = .ok (.getfield 85, 3) := by decide +kernel
theorem dM_head_75 : decode cM_head 75 = .ok (.iconst 1, 1) := by decide +kernel
theorem dM_head_76 : decode cM_head 76 = .ok (.if_icmp .lt 27, 3) := by decide +kernel
theorem dM_head_79 : decode cM_head 79 = .ok (.aload_n 0, 1) := by decide +kernel
theorem dM_head_80 : decode cM_head 80 = .ok (.getfield 85, 3) := by decide +kernel
theorem dM_head_83 : decode cM_head 83 = .ok (.bipush 16, 2) := by decide +kernel
theorem dM_head_85 : decode cM_head 85 = .ok (.if_icmp .gt 18, 3) := by decide +kernel
theorem dM_head_88 : decode cM_head 88 = .ok (.aload_n 0, 1) := by decide +kernel
theorem dM_head_89 : decode cM_head 89 = .ok (.getfield 82, 3) := by decide +kernel
theorem dM_head_92 : decode cM_head 92 = .ok (.ifCond .ne 18, 3) := by decide +kernel
theorem dM_head_95 : decode cM_head 95 = .ok (.aload_n 0, 1) := by decide +kernel
theorem dM_head_96 : decode cM_head 96 = .ok (.getfield 85, 3) := by decide +kernel
theorem dM_head_99 : decode cM_head 99 = .ok (.iconst 1, 1) := by decide +kernel
theorem dM_head_100 : decode cM_head 100 = .ok (.if_icmp .le 10, 3) := by decide +kernel
theorem dM_head_103 : decode cM_head 103 = .ok (.aload_n 0, 1) := by decide +kernel
theorem dM_head_104 : decode cM_head 104 = .ok (.iconst 3, 1) := by decide +kernel
theorem dM_head_105 : decode cM_head 105 = .ok (.bipush 10, 2) := by decide +kernel
theorem dM_head_107 : decode cM_head 107 = .ok (.invokevirtual 68, 3) := by decide +kernel
theorem dM_head_110 : decode cM_head 110 = .ok (.aload_n 0, 1) := by decide +kernel
theorem dM_head_111 : decode cM_head 111 = .ok (.aload_n 0, 1) := by decide +kernel
theorem dM_head_112 : decode cM_head 112 = .ok (.iconst 2, 1) := by decide +kernel
theorem dM_head_113 : decode cM_head 113 = .ok (.invokevirtual 74, 3) := by decide +kernel
theorem dM_head_116 : decode cM_head 116 = .ok (.l2i, 1) := by decide +kernel
theorem dM_head_117 : decode cM_head 117 = .ok (.putfield 88, 3) := by decide +kernel
theorem dM_head_120 : decode cM_head 120 = .ok (.aload_n 0, 1) := by decide +kernel
theorem dM_head_121 : decode cM_head 121 = .ok (.getfield 88, 3) := by decide +kernel
theorem dM_head_124 : decode cM_head 124 = .ok (.invokestatic 91, 3) := by decide +kernel
theorem dM_head_127 : decode cM_head 127 = .ok (.ifCond .ne 10, 3) := by decide +kernel
theorem dM_head_130 : decode cM_head 130 = .ok (.aload_n 0, 1) := by decide +kernel
theorem dM_head_131 : decode cM_head 131 = .ok (.iconst 3, 1) := by decide +kernel
theorem dM_head_132 : decode cM_head 132 = .ok (.bipush 12, 2) := by decide +kernel
theorem dM_head_134 : decode cM_head 134 = .ok (.invokevirtual 68, 3) := by decide +kernel
theorem dM_head_137 : decode cM_head 137 = .ok (.return_, 1) := by decide +kernel
def jM_head_110 (iv : Nat → Int32) (av : Nat → Nat → Int32) : Option ((Nat → Int32) × (Nat → Nat → Int32)) := (fM_taken iv av (2 : Int32)).bind fun (r1, iv1, av1) => (fM_isDivision (upd iv1 9 r1.toInt32) av1 ((upd iv1 9 r1.toInt32) 9)).bind fun (r2, iv2, av2) => if r2 = 0 then ((fM_fail iv2 av2 (3 : Int32) (12 : Int32)).bind fun (iv4, av4) => some (iv4, av4)) else (some (iv2, av2))
def jM_head_103 (iv : Nat → Int32) (av : Nat → Nat → Int32) : Option ((Nat → Int32) × (Nat → Nat → Int32)) := (fM_fail iv av (3 : Int32) (10 : Int32)).bind fun (iv1, av1) => jM_head_110 iv1 av1
def jM_head_61 (iv : Nat → Int32) (av : Nat → Nat → Int32) : Option ((Nat → Int32) × (Nat → Nat → Int32)) := (fM_taken iv av (2 : Int32)).bind fun (r1, iv1, av1) => if ((upd iv1 8 r1.toInt32) 8) < (1 : Int32) then (jM_head_103 (upd iv1 8 r1.toInt32) av1) else (if (16 : Int32) < ((upd iv1 8 r1.toInt32) 8) then (jM_head_103 (upd iv1 8 r1.toInt32) av1) else (if ((upd iv1 8 r1.toInt32) 7) = 0 then (if ((upd iv1 8 r1.toInt32) 8) ≤ (1 : Int32) then (jM_head_110 (upd iv1 8 r1.toInt32) av1) else (jM_head_103 (upd iv1 8 r1.toInt32) av1)) else (jM_head_110 (upd iv1 8 r1.toInt32) av1)))
def jM_head_36 (iv : Nat → Int32) (av : Nat → Nat → Int32) : Option ((Nat → Int32) × (Nat → Nat → Int32)) := (fM_taken iv av (2 : Int32)).bind fun (r1, iv1, av1) => if ((upd iv1 7 r1.toInt32) 7) ≤ (2 : Int32) then (jM_head_61 (upd iv1 7 r1.toInt32) av1) else ((fM_fail (upd iv1 7 r1.toInt32) av1 (3 : Int32) (8 : Int32)).bind fun (iv3, av3) => jM_head_61 iv3 av3)
def jM_head_18 (iv : Nat → Int32) (av : Nat → Nat → Int32) : Option ((Nat → Int32) × (Nat → Nat → Int32)) := (fM_taken iv av (4 : Int32)).bind fun (r1, iv1, av1) => if (lg_cmp r1 (6 : Int64)) = 0 then (jM_head_36 iv1 av1) else ((fM_fail iv1 av1 (2 : Int32) (4 : Int32)).bind fun (iv3, av3) => jM_head_36 iv3 av3)
def fM_head (iv : Nat → Int32) (av : Nat → Nat → Int32) : Option ((Nat → Int32) × (Nat → Nat → Int32)) := (fM_taken iv av (4 : Int32)).bind fun (r1, iv1, av1) => if (lg_cmp r1 (1297377380 : Int64)) = 0 then (jM_head_18 iv1 av1) else ((fM_fail iv1 av1 (2 : Int32) (0 : Int32)).bind fun (iv3, av3) => jM_head_18 iv3 av3)
set_option maxHeartbeats 4000000 in
set_option maxRecDepth 100000 in
theorem wM_head_110 {p : Program} {l : Launch} {e : Env} {s : State} {m : MethodId} {args : Array Value} {below : List Frame} {meth : Method} {c : Code} {g : gT} {q : Nat} {ad : Nat → Nat} {X : va_W} {rv : Option Value} {iv' : Nat → Int32} {av' : Nat → Nat → Int32} (C : mCx p m c cM_head 1 s args g "MidiDeskModel") (hr : meth.sig.returnType = none) (hlk : meth.locks = false) (hrv : rv = none) (iv : Nat → Int32) (av : Nat → Nat → Int32) (H : Heap) (locs : List Loc) (ls : Array Slot) (hl : lv_has ls 1 [(0, .ref q)]) (hw : mWd g (mA g q ad X s.heap.size) s.heap q ad X iv av H locs) (hf : jM_head_110 iv av = some (iv', av')) : mG p l e rM_head s m args below meth c g q ad X rv iv' av' H locs 0 0 (F0 m 110 ls []) := by
  unfold jM_head_110 at hf
  refine lv_aload_n C.1.1 C.1.2.1 dM_head_110 rfl (lv_at hl 0 rfl) ?_
  refine lv_aload_n C.1.1 C.1.2.1 dM_head_111 rfl (lv_at hl 0 rfl) ?_
  refine lv_iconst (v := (2 : Int32)) C.1.1 C.1.2.1 dM_head_112 (by decide) ?_
  obtain ⟨⟨r1, iv1, av1⟩, g1, hf⟩ := ts_b hf
  dsimp only at hf
  refine m_callV (rest := [.ref q]) (As := [.int (2 : Int32)]) (rv := (some (.long r1))) C hl.1 hw (cM_taken_met g1) (callW_of (rm := rM_taken) 1 C.1.2.2.2.2 gw_808 gw_810 gw_27 gw_55 gw_811 kM_taken ⟨Nat.le_of_ble_eq_true rfl, Nat.le_of_ble_eq_true rfl⟩) rfl rfl (Nat.le_of_ble_eq_true rfl) dM_head_113 ⟨Nat.le_of_ble_eq_true rfl, Nat.le_of_ble_eq_true rfl⟩ (fun H locs hw => ?_)
  refine W.eq (g2 := F0 m 116 ls [.long r1, .ref q]) rfl ?_
  refine lv_l2i C.1.1 C.1.2.1 dM_head_116 rfl ?_
  refine mp_division C hw dM_head_117 (fun H locs hw => ?_)
  refine lv_aload_n C.1.1 C.1.2.1 dM_head_120 rfl (lv_at hl 0 rfl) ?_
  refine mg_division C hw dM_head_121 ?_
  obtain ⟨⟨r2, iv2, av2⟩, g2, hf⟩ := ts_b hf
  dsimp only at hf
  refine m_callS (rest := []) (As := [.int ((upd iv1 9 r1.toInt32) 9)]) (rv := (some (.int r2))) C hl.1 hw (cM_isDivision_met g2) (callS_of (rm := rM_isDivision) 1 C.1.2.2.2.2 gw_819 gw_820 gw_55 gw_821 kM_isDivision ⟨Nat.le_of_ble_eq_true rfl, Nat.le_of_ble_eq_true rfl⟩) rfl rfl (Nat.le_of_ble_eq_true rfl) dM_head_124 ⟨Nat.le_of_ble_eq_true rfl, Nat.le_of_ble_eq_true rfl⟩ (fun H locs hw => ?_)
  refine W.eq (g2 := F0 m 127 ls [.int r2]) rfl ?_
  refine lv_if_ne (tgt := 137) C.1.1 C.1.2.1 dM_head_127 (by decide) (fun c3 => ?_) (fun c3 => ?_)
  · have hf := ts_f hf c3
    exact m_retv C hr hlk hrv hw hf ⟨Nat.le_of_ble_eq_true rfl, Nat.le_of_ble_eq_true rfl⟩ dM_head_137
  · have hf := ts_t hf c3
    refine lv_aload_n C.1.1 C.1.2.1 dM_head_130 rfl (lv_at hl 0 rfl) ?_
    refine lv_iconst (v := (3 : Int32)) C.1.1 C.1.2.1 dM_head_131 (by decide) ?_
    refine lv_bipush (v := (12 : Int32)) C.1.1 C.1.2.1 dM_head_132 (by decide) ?_
    obtain ⟨⟨iv4, av4⟩, g4, hf⟩ := ts_b hf
    dsimp only at hf
    refine m_callV (rest := []) (As := [.int (3 : Int32), .int (12 : Int32)]) (rv := none) C hl.1 hw (cM_fail_met g4) (callW_of (rm := rM_fail) 2 C.1.2.2.2.2 gw_812 gw_814 gw_28 gw_55 gw_815 kM_fail ⟨Nat.le_of_ble_eq_true rfl, Nat.le_of_ble_eq_true rfl⟩) rfl rfl (Nat.le_of_ble_eq_true rfl) dM_head_134 ⟨Nat.le_of_ble_eq_true rfl, Nat.le_of_ble_eq_true rfl⟩ (fun H locs hw => ?_)
    refine W.eq (g2 := F0 m 137 ls []) rfl ?_
    exact m_retv C hr hlk hrv hw hf ⟨Nat.le_of_ble_eq_true rfl, Nat.le_of_ble_eq_true rfl⟩ dM_head_137
set_option maxHeartbeats 4000000 in
set_option maxRecDepth 100000 in
theorem wM_head_103 {p : Program} {l : Launch} {e : Env} {s : State} {m : MethodId} {args : Array Value} {below : List Frame} {meth : Method} {c : Code} {g : gT} {q : Nat} {ad : Nat → Nat} {X : va_W} {rv : Option Value} {iv' : Nat → Int32} {av' : Nat → Nat → Int32} (C : mCx p m c cM_head 1 s args g "MidiDeskModel") (hr : meth.sig.returnType = none) (hlk : meth.locks = false) (hrv : rv = none) (iv : Nat → Int32) (av : Nat → Nat → Int32) (H : Heap) (locs : List Loc) (ls : Array Slot) (hl : lv_has ls 1 [(0, .ref q)]) (hw : mWd g (mA g q ad X s.heap.size) s.heap q ad X iv av H locs) (hf : jM_head_103 iv av = some (iv', av')) : mG p l e rM_head s m args below meth c g q ad X rv iv' av' H locs 0 0 (F0 m 103 ls []) := by
  unfold jM_head_103 at hf
  refine lv_aload_n C.1.1 C.1.2.1 dM_head_103 rfl (lv_at hl 0 rfl) ?_
  refine lv_iconst (v := (3 : Int32)) C.1.1 C.1.2.1 dM_head_104 (by decide) ?_
  refine lv_bipush (v := (10 : Int32)) C.1.1 C.1.2.1 dM_head_105 (by decide) ?_
  obtain ⟨⟨iv1, av1⟩, g1, hf⟩ := ts_b hf
  dsimp only at hf
  refine m_callV (rest := []) (As := [.int (3 : Int32), .int (10 : Int32)]) (rv := none) C hl.1 hw (cM_fail_met g1) (callW_of (rm := rM_fail) 2 C.1.2.2.2.2 gw_812 gw_814 gw_28 gw_55 gw_815 kM_fail ⟨Nat.le_of_ble_eq_true rfl, Nat.le_of_ble_eq_true rfl⟩) rfl rfl (Nat.le_of_ble_eq_true rfl) dM_head_107 ⟨Nat.le_of_ble_eq_true rfl, Nat.le_of_ble_eq_true rfl⟩ (fun H locs hw => ?_)
  refine W.eq (g2 := F0 m 110 ls []) rfl ?_
  exact wM_head_110 C hr hlk hrv iv1 av1 _ _ ls (lv_sub hl [0] rfl) hw hf
set_option maxHeartbeats 4000000 in
set_option maxRecDepth 100000 in
theorem wM_head_61 {p : Program} {l : Launch} {e : Env} {s : State} {m : MethodId} {args : Array Value} {below : List Frame} {meth : Method} {c : Code} {g : gT} {q : Nat} {ad : Nat → Nat} {X : va_W} {rv : Option Value} {iv' : Nat → Int32} {av' : Nat → Nat → Int32} (C : mCx p m c cM_head 1 s args g "MidiDeskModel") (hr : meth.sig.returnType = none) (hlk : meth.locks = false) (hrv : rv = none) (iv : Nat → Int32) (av : Nat → Nat → Int32) (H : Heap) (locs : List Loc) (ls : Array Slot) (hl : lv_has ls 1 [(0, .ref q)]) (hw : mWd g (mA g q ad X s.heap.size) s.heap q ad X iv av H locs) (hf : jM_head_61 iv av = some (iv', av')) : mG p l e rM_head s m args below meth c g q ad X rv iv' av' H locs 0 0 (F0 m 61 ls []) := by
  unfold jM_head_61 at hf
  refine lv_aload_n C.1.1 C.1.2.1 dM_head_61 rfl (lv_at hl 0 rfl) ?_
  refine lv_aload_n C.1.1 C.1.2.1 dM_head_62 rfl (lv_at hl 0 rfl) ?_
  refine lv_iconst (v := (2 : Int32)) C.1.1 C.1.2.1 dM_head_63 (by decide) ?_
  obtain ⟨⟨r1, iv1, av1⟩, g1, hf⟩ := ts_b hf
  dsimp only at hf
  refine m_callV (rest := [.ref q]) (As := [.int (2 : Int32)]) (rv := (some (.long r1))) C hl.1 hw (cM_taken_met g1) (callW_of (rm := rM_taken) 1 C.1.2.2.2.2 gw_808 gw_810 gw_27 gw_55 gw_811 kM_taken ⟨Nat.le_of_ble_eq_true rfl, Nat.le_of_ble_eq_true rfl⟩) rfl rfl (Nat.le_of_ble_eq_true rfl) dM_head_64 ⟨Nat.le_of_ble_eq_true rfl, Nat.le_of_ble_eq_true rfl⟩ (fun H locs hw => ?_)
  refine W.eq (g2 := F0 m 67 ls [.long r1, .ref q]) rfl ?_
  refine lv_l2i C.1.1 C.1.2.1 dM_head_67 rfl ?_
  refine mp_tracks C hw dM_head_68 (fun H locs hw => ?_)
  refine lv_aload_n C.1.1 C.1.2.1 dM_head_71 rfl (lv_at hl 0 rfl) ?_
  refine mg_tracks C hw dM_head_72 ?_
  refine lv_iconst (v := (1 : Int32)) C.1.1 C.1.2.1 dM_head_75 (by decide) ?_
  refine lv_icmp_lt (tgt := 103) C.1.1 C.1.2.1 dM_head_76 (by decide) (fun c2 => ?_) (fun c2 => ?_)
  · have hf := ts_t hf c2
    exact wM_head_103 C hr hlk hrv (upd iv1 8 r1.toInt32) av1 _ _ ls (lv_sub hl [0] rfl) hw hf
  · have hf := ts_f hf c2
    refine lv_aload_n C.1.1 C.1.2.1 dM_head_79 rfl (lv_at hl 0 rfl) ?_
    refine mg_tracks C hw dM_head_80 ?_
    refine lv_bipush (v := (16 : Int32)) C.1.1 C.1.2.1 dM_head_83 (by decide) ?_
    refine lv_icmp_gt (tgt := 103) C.1.1 C.1.2.1 dM_head_85 (by decide) (fun c3 => ?_) (fun c3 => ?_)
    · have hf := ts_t hf c3
      exact wM_head_103 C hr hlk hrv (upd iv1 8 r1.toInt32) av1 _ _ ls (lv_sub hl [0] rfl) hw hf
    · have hf := ts_f hf c3
      refine lv_aload_n C.1.1 C.1.2.1 dM_head_88 rfl (lv_at hl 0 rfl) ?_
      refine mg_format C hw dM_head_89 ?_
      refine lv_if_ne (tgt := 110) C.1.1 C.1.2.1 dM_head_92 (by decide) (fun c4 => ?_) (fun c4 => ?_)
      · have hf := ts_f hf c4
        exact wM_head_110 C hr hlk hrv (upd iv1 8 r1.toInt32) av1 _ _ ls (lv_sub hl [0] rfl) hw hf
      · have hf := ts_t hf c4
        refine lv_aload_n C.1.1 C.1.2.1 dM_head_95 rfl (lv_at hl 0 rfl) ?_
        refine mg_tracks C hw dM_head_96 ?_
        refine lv_iconst (v := (1 : Int32)) C.1.1 C.1.2.1 dM_head_99 (by decide) ?_
        refine lv_icmp_le (tgt := 110) C.1.1 C.1.2.1 dM_head_100 (by decide) (fun c5 => ?_) (fun c5 => ?_)
        · have hf := ts_t hf c5
          exact wM_head_110 C hr hlk hrv (upd iv1 8 r1.toInt32) av1 _ _ ls (lv_sub hl [0] rfl) hw hf
        · have hf := ts_f hf c5
          exact wM_head_103 C hr hlk hrv (upd iv1 8 r1.toInt32) av1 _ _ ls (lv_sub hl [0] rfl) hw hf
set_option maxHeartbeats 4000000 in
set_option maxRecDepth 100000 in
theorem wM_head_36 {p : Program} {l : Launch} {e : Env} {s : State} {m : MethodId} {args : Array Value} {below : List Frame} {meth : Method} {c : Code} {g : gT} {q : Nat} {ad : Nat → Nat} {X : va_W} {rv : Option Value} {iv' : Nat → Int32} {av' : Nat → Nat → Int32} (C : mCx p m c cM_head 1 s args g "MidiDeskModel") (hr : meth.sig.returnType = none) (hlk : meth.locks = false) (hrv : rv = none) (iv : Nat → Int32) (av : Nat → Nat → Int32) (H : Heap) (locs : List Loc) (ls : Array Slot) (hl : lv_has ls 1 [(0, .ref q)]) (hw : mWd g (mA g q ad X s.heap.size) s.heap q ad X iv av H locs) (hf : jM_head_36 iv av = some (iv', av')) : mG p l e rM_head s m args below meth c g q ad X rv iv' av' H locs 0 0 (F0 m 36 ls []) := by
  unfold jM_head_36 at hf
  refine lv_aload_n C.1.1 C.1.2.1 dM_head_36 rfl (lv_at hl 0 rfl) ?_
  refine lv_aload_n C.1.1 C.1.2.1 dM_head_37 rfl (lv_at hl 0 rfl) ?_
  refine lv_iconst (v := (2 : Int32)) C.1.1 C.1.2.1 dM_head_38 (by decide) ?_
  obtain ⟨⟨r1, iv1, av1⟩, g1, hf⟩ := ts_b hf
  dsimp only at hf
  refine m_callV (rest := [.ref q]) (As := [.int (2 : Int32)]) (rv := (some (.long r1))) C hl.1 hw (cM_taken_met g1) (callW_of (rm := rM_taken) 1 C.1.2.2.2.2 gw_808 gw_810 gw_27 gw_55 gw_811 kM_taken ⟨Nat.le_of_ble_eq_true rfl, Nat.le_of_ble_eq_true rfl⟩) rfl rfl (Nat.le_of_ble_eq_true rfl) dM_head_39 ⟨Nat.le_of_ble_eq_true rfl, Nat.le_of_ble_eq_true rfl⟩ (fun H locs hw => ?_)
  refine W.eq (g2 := F0 m 42 ls [.long r1, .ref q]) rfl ?_
  refine lv_l2i C.1.1 C.1.2.1 dM_head_42 rfl ?_
  refine mp_format C hw dM_head_43 (fun H locs hw => ?_)
  refine lv_aload_n C.1.1 C.1.2.1 dM_head_46 rfl (lv_at hl 0 rfl) ?_
  refine mg_format C hw dM_head_47 ?_
  refine lv_iconst (v := (2 : Int32)) C.1.1 C.1.2.1 dM_head_50 (by decide) ?_
  refine lv_icmp_le (tgt := 61) C.1.1 C.1.2.1 dM_head_51 (by decide) (fun c2 => ?_) (fun c2 => ?_)
  · have hf := ts_t hf c2
    exact wM_head_61 C hr hlk hrv (upd iv1 7 r1.toInt32) av1 _ _ ls (lv_sub hl [0] rfl) hw hf
  · have hf := ts_f hf c2
    refine lv_aload_n C.1.1 C.1.2.1 dM_head_54 rfl (lv_at hl 0 rfl) ?_
    refine lv_iconst (v := (3 : Int32)) C.1.1 C.1.2.1 dM_head_55 (by decide) ?_
    refine lv_bipush (v := (8 : Int32)) C.1.1 C.1.2.1 dM_head_56 (by decide) ?_
    obtain ⟨⟨iv3, av3⟩, g3, hf⟩ := ts_b hf
    dsimp only at hf
    refine m_callV (rest := []) (As := [.int (3 : Int32), .int (8 : Int32)]) (rv := none) C hl.1 hw (cM_fail_met g3) (callW_of (rm := rM_fail) 2 C.1.2.2.2.2 gw_812 gw_814 gw_28 gw_55 gw_815 kM_fail ⟨Nat.le_of_ble_eq_true rfl, Nat.le_of_ble_eq_true rfl⟩) rfl rfl (Nat.le_of_ble_eq_true rfl) dM_head_58 ⟨Nat.le_of_ble_eq_true rfl, Nat.le_of_ble_eq_true rfl⟩ (fun H locs hw => ?_)
    refine W.eq (g2 := F0 m 61 ls []) rfl ?_
    exact wM_head_61 C hr hlk hrv iv3 av3 _ _ ls (lv_sub hl [0] rfl) hw hf
set_option maxHeartbeats 4000000 in
set_option maxRecDepth 100000 in
theorem wM_head_18 {p : Program} {l : Launch} {e : Env} {s : State} {m : MethodId} {args : Array Value} {below : List Frame} {meth : Method} {c : Code} {g : gT} {q : Nat} {ad : Nat → Nat} {X : va_W} {rv : Option Value} {iv' : Nat → Int32} {av' : Nat → Nat → Int32} (C : mCx p m c cM_head 1 s args g "MidiDeskModel") (hr : meth.sig.returnType = none) (hlk : meth.locks = false) (hrv : rv = none) (iv : Nat → Int32) (av : Nat → Nat → Int32) (H : Heap) (locs : List Loc) (ls : Array Slot) (hl : lv_has ls 1 [(0, .ref q)]) (hw : mWd g (mA g q ad X s.heap.size) s.heap q ad X iv av H locs) (hf : jM_head_18 iv av = some (iv', av')) : mG p l e rM_head s m args below meth c g q ad X rv iv' av' H locs 0 0 (F0 m 18 ls []) := by
  unfold jM_head_18 at hf
  refine lv_aload_n C.1.1 C.1.2.1 dM_head_18 rfl (lv_at hl 0 rfl) ?_
  refine lv_iconst (v := (4 : Int32)) C.1.1 C.1.2.1 dM_head_19 (by decide) ?_
  obtain ⟨⟨r1, iv1, av1⟩, g1, hf⟩ := ts_b hf
  dsimp only at hf
  refine m_callV (rest := []) (As := [.int (4 : Int32)]) (rv := (some (.long r1))) C hl.1 hw (cM_taken_met g1) (callW_of (rm := rM_taken) 1 C.1.2.2.2.2 gw_808 gw_810 gw_27 gw_55 gw_811 kM_taken ⟨Nat.le_of_ble_eq_true rfl, Nat.le_of_ble_eq_true rfl⟩) rfl rfl (Nat.le_of_ble_eq_true rfl) dM_head_20 ⟨Nat.le_of_ble_eq_true rfl, Nat.le_of_ble_eq_true rfl⟩ (fun H locs hw => ?_)
  refine W.eq (g2 := F0 m 23 ls [.long r1]) rfl ?_
  refine lv_ldc2 C.1.1 C.1.2.1 C.1.2.2.2.1 (C.1.2.2.2.2 _ gw_818) dM_head_23 ?_
  refine W.lcmp C.1.1 C.1.2.1 dM_head_26 ?_
  refine lv_if_eq (tgt := 36) C.1.1 C.1.2.1 dM_head_27 (by decide) (fun c2 => ?_) (fun c2 => ?_)
  · have hf := ts_t hf c2
    exact wM_head_36 C hr hlk hrv iv1 av1 _ _ ls (lv_sub hl [0] rfl) hw hf
  · have hf := ts_f hf c2
    refine lv_aload_n C.1.1 C.1.2.1 dM_head_30 rfl (lv_at hl 0 rfl) ?_
    refine lv_iconst (v := (2 : Int32)) C.1.1 C.1.2.1 dM_head_31 (by decide) ?_
    refine lv_iconst (v := (4 : Int32)) C.1.1 C.1.2.1 dM_head_32 (by decide) ?_
    obtain ⟨⟨iv3, av3⟩, g3, hf⟩ := ts_b hf
    dsimp only at hf
    refine m_callV (rest := []) (As := [.int (2 : Int32), .int (4 : Int32)]) (rv := none) C hl.1 hw (cM_fail_met g3) (callW_of (rm := rM_fail) 2 C.1.2.2.2.2 gw_812 gw_814 gw_28 gw_55 gw_815 kM_fail ⟨Nat.le_of_ble_eq_true rfl, Nat.le_of_ble_eq_true rfl⟩) rfl rfl (Nat.le_of_ble_eq_true rfl) dM_head_33 ⟨Nat.le_of_ble_eq_true rfl, Nat.le_of_ble_eq_true rfl⟩ (fun H locs hw => ?_)
    refine W.eq (g2 := F0 m 36 ls []) rfl ?_
    exact wM_head_36 C hr hlk hrv iv3 av3 _ _ ls (lv_sub hl [0] rfl) hw hf
set_option maxHeartbeats 4000000 in
set_option maxRecDepth 100000 in
theorem cM_head_met {l : Launch} {g : gT} {q : Nat} {ad : Nat → Nat} {X : va_W} {iv iv' : Nat → Int32} {av av' : Nat → Nat → Int32} (hf : fM_head iv av = some (iv', av')) : mMet l yM_head cM_head 1 none rM_head g q ad X iv av [.ref q] none iv' av' := by
  refine m_entry (by decide) (Nat.le_of_ble_eq_true rfl) ?_
  intro p e s m args below meth c ls C hr hlk hnm hl hw
  have hrv : (none : Option Value) = none := rfl
  have C : mCx p m c cM_head 1 s args g "MidiDeskModel" := C
  have hl : lv_has ls 1 [(0, .ref q)] := hl
  unfold fM_head at hf
  refine lv_aload_n C.1.1 C.1.2.1 dM_head_0 rfl (lv_at hl 0 rfl) ?_
  refine lv_iconst (v := (4 : Int32)) C.1.1 C.1.2.1 dM_head_1 (by decide) ?_
  obtain ⟨⟨r1, iv1, av1⟩, g1, hf⟩ := ts_b hf
  dsimp only at hf
  refine m_callV (rest := []) (As := [.int (4 : Int32)]) (rv := (some (.long r1))) C hl.1 hw (cM_taken_met g1) (callW_of (rm := rM_taken) 1 C.1.2.2.2.2 gw_808 gw_810 gw_27 gw_55 gw_811 kM_taken ⟨Nat.le_of_ble_eq_true rfl, Nat.le_of_ble_eq_true rfl⟩) rfl rfl (Nat.le_of_ble_eq_true rfl) dM_head_2 ⟨Nat.le_of_ble_eq_true rfl, Nat.le_of_ble_eq_true rfl⟩ (fun H locs hw => ?_)
  refine W.eq (g2 := F0 m 5 ls [.long r1]) rfl ?_
  refine lv_ldc2 C.1.1 C.1.2.1 C.1.2.2.2.1 (C.1.2.2.2.2 _ gw_817) dM_head_5 ?_
  refine W.lcmp C.1.1 C.1.2.1 dM_head_8 ?_
  refine lv_if_eq (tgt := 18) C.1.1 C.1.2.1 dM_head_9 (by decide) (fun c2 => ?_) (fun c2 => ?_)
  · have hf := ts_t hf c2
    exact wM_head_18 C hr hlk hrv iv1 av1 _ _ ls (lv_sub hl [0] rfl) hw hf
  · have hf := ts_f hf c2
    refine lv_aload_n C.1.1 C.1.2.1 dM_head_12 rfl (lv_at hl 0 rfl) ?_
    refine lv_iconst (v := (2 : Int32)) C.1.1 C.1.2.1 dM_head_13 (by decide) ?_
    refine lv_iconst (v := (0 : Int32)) C.1.1 C.1.2.1 dM_head_14 (by decide) ?_
    obtain ⟨⟨iv3, av3⟩, g3, hf⟩ := ts_b hf
    dsimp only at hf
    refine m_callV (rest := []) (As := [.int (2 : Int32), .int (0 : Int32)]) (rv := none) C hl.1 hw (cM_fail_met g3) (callW_of (rm := rM_fail) 2 C.1.2.2.2.2 gw_812 gw_814 gw_28 gw_55 gw_815 kM_fail ⟨Nat.le_of_ble_eq_true rfl, Nat.le_of_ble_eq_true rfl⟩) rfl rfl (Nat.le_of_ble_eq_true rfl) dM_head_15 ⟨Nat.le_of_ble_eq_true rfl, Nat.le_of_ble_eq_true rfl⟩ (fun H locs hw => ?_)
    refine W.eq (g2 := F0 m 18 ls []) rfl ?_
    exact wM_head_18 C hr hlk hrv iv3 av3 _ _ ls (lv_sub hl [0] rfl) hw hf
