abbrev cM_nearest : ByteArray := prog_8_method_32_code
abbrev yM_nearest : MethodName := ⟨"MidiDeskModel", "nearest", "(II)J"⟩
theorem kM_nearest : yM_nearest.cls ≠ "java/lang/invoke/MethodHandle" ∧ yM_nearest.cls ≠ "java/lang/invoke/VarHandle" ∧ (parseMethodDescriptor yM_nearest.desc).map (fun d => d.parameters.length) = some 2 := by decide +kernel
abbrev rM_nearest : Room := { frames := 0, cells := 0, slots := 0, locals := 0 }
theorem dM_nearest_0 : decode cM_nearest 0 = .ok (.iload_n 0, 1) := by decide +kernel
theorem dM_nearest_1 : decode cM_nearest 1 = .ok (.iload_n 1, 1) := by decide +kernel
theorem dM_nearest_2 : decode cM_nearest 2 = .ok (.idiv, 1) := by decide +kernel
theorem dM_nearest_3 : decode cM_nearest 3 = .ok (.i2l, 1) := by decide +kernel
theorem dM_nearest_4 : decode cM_nearest 4 = .ok (.lstore_n 2, 1) := by decide +kernel
theorem dM_nearest_5 : decode cM_nearest 5 = .ok (.ldc2_w 180, 3) := by decide +kernel
theorem dM_nearest_8 : decode cM_nearest 8 = .ok (.iload_n 0, 1) := by decide +kernel
theorem dM_nearest_9 : decode cM_nearest 9 = .ok (.iload_n 1, 1) := by decide +kernel
theorem dM_nearest_10 : decode cM_nearest 10 = .ok (.irem, 1) := by decide +kernel
theorem dM_nearest_11 : decode cM_nearest 11 = .ok (.i2l, 1) := by decide +kernel
theorem dM_nearest_12 : decode cM_nearest 12 = .ok (.lmul, 1) := by decide +kernel
theorem dM_nearest_13 : decode cM_nearest 13 = .ok (.iload_n 1, 1) := by decide +kernel
theorem dM_nearest_14 : decode cM_nearest 14 = .ok (.i2l, 1) := by decide +kernel
theorem dM_nearest_15 : decode cM_nearest 15 = .ok (.lcmp, 1) := by decide +kernel
theorem dM_nearest_16 : decode cM_nearest 16 = .ok (.ifCond .lt 9, 3) := by decide +kernel
theorem dM_nearest_19 : decode cM_nearest 19 = .ok (.lload_n 2, 1) := by decide +kernel
theorem dM_nearest_20 : decode cM_nearest 20 = .ok (.lconst 1, 1) := by decide +kernel
theorem dM_nearest_21 : decode cM_nearest 21 = .ok (.ladd, 1) := by decide +kernel
theorem dM_nearest_22 : decode cM_nearest 22 = .ok (.goto 4, 3) := by decide +kernel
theorem dM_nearest_25 : decode cM_nearest 25 = .ok (.lload_n 2, 1) := by decide +kernel
theorem dM_nearest_26 : decode cM_nearest 26 = .ok (.iload_n 1, 1) := by decide +kernel
theorem dM_nearest_27 : decode cM_nearest 27 = .ok (.i2l, 1) := by decide +kernel
theorem dM_nearest_28 : decode cM_nearest 28 = .ok (.lmul, 1) := by decide +kernel
theorem dM_nearest_29 : decode cM_nearest 29 = .ok (.lreturn, 1) := by decide +kernel
def fM_nearest (iv : Nat → Int32) (av : Nat → Nat → Int32) (x0 : Int32) (x1 : Int32) : Option (Int64 × (Nat → Int32) × (Nat → Nat → Int32)) := if x1 = 0 then none else (if x1 = 0 then none else (if (lg_cmp ((2 : Int64) * ((x0 - x0 / x1 * x1).toInt64)) x1.toInt64) < 0 then (some (((x0 / x1).toInt64) * x1.toInt64, iv, av)) else (some ((((x0 / x1).toInt64) + (1 : Int64)) * x1.toInt64, iv, av))))
set_option maxHeartbeats 4000000 in
set_option maxRecDepth 100000 in
theorem cM_nearest_met {l : Launch} {g : gT} {q : Nat} {ad : Nat → Nat} {X : va_W} {iv iv' : Nat → Int32} {av av' : Nat → Nat → Int32} {x0 : Int32} {x1 : Int32} {r' : Int64} (hf : fM_nearest iv av x0 x1 = some (r', iv', av')) : mMet l yM_nearest cM_nearest 4 (some .long) rM_nearest g q ad X iv av [.int x0, .int x1] (some (.long r')) iv' av' := by
  refine m_entry (by decide) (Nat.le_of_ble_eq_true rfl) ?_
  intro p e s m args below meth c ls C hr hlk hnm hl hw
  have hrv : ((some (.long r')) : Option Value) = (some (.long r')) := rfl
  have C : mCx p m c cM_nearest 4 s args g "MidiDeskModel" := C
  have hl : lv_has ls 4 [(0, .int x0), (1, .int x1)] := hl
  unfold fM_nearest at hf
  refine lv_iload_n C.1.1 C.1.2.1 dM_nearest_0 rfl (lv_at hl 0 rfl) ?_
  refine lv_iload_n C.1.1 C.1.2.1 dM_nearest_1 rfl (lv_at hl 1 rfl) ?_
  obtain ⟨h1, hf⟩ := ts_g hf
  refine lv_idiv C.1.1 C.1.2.1 dM_nearest_2 h1 ?_
  refine lv_i2l C.1.1 C.1.2.1 dM_nearest_3 rfl ?_
  refine lv_lstore_n (lv' := [(2, .long ((x0 / x1).toInt64)), (0, .int x0), (1, .int x1)]) C.1.1 C.1.2.1 dM_nearest_4 rfl hl (by decide) rfl (fun ls hl => ?_)
  refine lv_ldc2 C.1.1 C.1.2.1 C.1.2.2.2.1 (C.1.2.2.2.2 _ gw_930) dM_nearest_5 ?_
  refine lv_iload_n C.1.1 C.1.2.1 dM_nearest_8 rfl (lv_at hl 1 rfl) ?_
  refine lv_iload_n C.1.1 C.1.2.1 dM_nearest_9 rfl (lv_at hl 2 rfl) ?_
  obtain ⟨h2, hf⟩ := ts_g hf
  refine lv_irem C.1.1 C.1.2.1 dM_nearest_10 h2 ?_
  refine lv_i2l C.1.1 C.1.2.1 dM_nearest_11 rfl ?_
  refine lv_lmul C.1.1 C.1.2.1 dM_nearest_12 ?_
  refine lv_iload_n C.1.1 C.1.2.1 dM_nearest_13 rfl (lv_at hl 2 rfl) ?_
  refine lv_i2l C.1.1 C.1.2.1 dM_nearest_14 rfl ?_
  refine W.lcmp C.1.1 C.1.2.1 dM_nearest_15 ?_
  refine lv_if_lt (tgt := 25) C.1.1 C.1.2.1 dM_nearest_16 (by decide) (fun c3 => ?_) (fun c3 => ?_)
  · have hf := ts_t hf c3
    refine lv_lload_n C.1.1 C.1.2.1 dM_nearest_25 rfl (lv_at hl 0 rfl) ?_
    refine lv_iload_n C.1.1 C.1.2.1 dM_nearest_26 rfl (lv_at hl 2 rfl) ?_
    refine lv_i2l C.1.1 C.1.2.1 dM_nearest_27 rfl ?_
    refine lv_lmul C.1.1 C.1.2.1 dM_nearest_28 ?_
    exact m_retl C hr hlk hrv hw hf ⟨Nat.le_of_ble_eq_true rfl, Nat.le_of_ble_eq_true rfl⟩ dM_nearest_29
  · have hf := ts_f hf c3
    refine lv_lload_n C.1.1 C.1.2.1 dM_nearest_19 rfl (lv_at hl 0 rfl) ?_
    refine lv_lconst (v := 1) C.1.1 C.1.2.1 dM_nearest_20 (by decide) ?_
    refine lv_ladd C.1.1 C.1.2.1 dM_nearest_21 ?_
    refine lv_goto (tgt := 26) C.1.1 C.1.2.1 dM_nearest_22 (by decide) ?_
    refine lv_iload_n C.1.1 C.1.2.1 dM_nearest_26 rfl (lv_at hl 2 rfl) ?_
    refine lv_i2l C.1.1 C.1.2.1 dM_nearest_27 rfl ?_
    refine lv_lmul C.1.1 C.1.2.1 dM_nearest_28 ?_
    exact m_retl C hr hlk hrv hw hf ⟨Nat.le_of_ble_eq_true rfl, Nat.le_of_ble_eq_true rfl⟩ dM_nearest_29
abbrev cM_grid : ByteArray := prog_8_method_33_code
abbrev yM_grid : MethodName := ⟨"MidiDeskModel", "grid", "(I)I"⟩
theorem kM_grid : yM_grid.cls ≠ "java/lang/invoke/MethodHandle" ∧ yM_grid.cls ≠ "java/lang/invoke/VarHandle" ∧ (parseMethodDescriptor yM_grid.desc).map (fun d => d.parameters.length) = some 1 := by decide +kernel
abbrev rM_grid : Room := { frames := 2, cells := 0, slots := 0, locals := 45 }
theorem dM_grid_0 : decode cM_grid 0 = .ok (.iload_n 1, 1) := by decide +kernel
theorem dM_grid_1 : decode cM_grid 1 = .ok (.iconst 1, 1) := by decide +kernel
theorem dM_grid_2 : decode cM_grid 2 = .ok (.if_icmp .lt 9, 3) := by decide +kernel
theorem dM_grid_5 : decode cM_grid 5 = .ok (.iload_n 1, 1) := by decide +kernel
theorem dM_grid_6 : decode cM_grid 6 = .ok (.ldc 182, 2) := by decide +kernel
theorem dM_grid_8 : decode cM_grid 8 = .ok (.if_icmp .le 7, 3) := by decide +kernel
theorem dM_grid_11 : decode cM_grid 11 = .ok (.iconst 1, 1) := by decide +kernel
theorem dM_grid_12 : decode cM_grid 12 = .ok (.goto 4, 3) := by decide +kernel
theorem dM_grid_15 : decode cM_grid 15 = .ok (.iconst 0, 1) := by decide +kernel
theorem dM_grid_16 : decode cM_grid 16 = .ok (.istore_n 2, 1) := by decide +kernel
theorem dM_grid_17 : decode cM_grid 17 = .ok (.iconst 0, 1) := by decide +kernel
theorem dM_grid_18 : decode cM_grid 18 = .ok (.istore_n 3, 1) := by decide +kernel
theorem dM_grid_19 : decode cM_grid 19 = .ok (.iload_n 3, 1) := by decide +kernel
theorem dM_grid_20 : decode cM_grid 20 = .ok (.aload_n 0, 1) := by decide +kernel
theorem dM_grid_21 : decode cM_grid 21 = .ok (.getfield 95, 3) := by decide +kernel
theorem dM_grid_24 : decode cM_grid 24 = .ok (.if_icmp .ge 43, 3) := by decide +kernel
theorem dM_grid_27 : decode cM_grid 27 = .ok (.aload_n 0, 1) := by decide +kernel
theorem dM_grid_28 : decode cM_grid 28 = .ok (.getfield 110, 3) := by decide +kernel
theorem dM_grid_31 : decode cM_grid 31 = .ok (.ifCond .eq 36, 3) := by decide +kernel
theorem dM_grid_34 : decode cM_grid 34 = .ok (.iload_n 2, 1) := by decide +kernel
theorem dM_grid_35 : decode cM_grid 35 = .ok (.ifCond .ne 32, 3) := by decide +kernel
theorem dM_grid_38 : decode cM_grid 38 = .ok (.aload_n 0, 1) := by decide +kernel
theorem dM_grid_39 : decode cM_grid 39 = .ok (.getfield 13, 3) := by decide +kernel
theorem dM_grid_42 : decode cM_grid 42 = .ok (.iload_n 3, 1) := by decide +kernel
theorem dM_grid_43 : decode cM_grid 43 = .ok (.iaload, 1) := by decide +kernel
theorem dM_grid_44 : decode cM_grid 44 = .ok (.iload_n 1, 1) := by decide +kernel
theorem dM_grid_45 : decode cM_grid 45 = .ok (.invokestatic 183, 3) := by decide +kernel
theorem dM_grid_48 : decode cM_grid 48 = .ok (.ldc2_w 121, 3) := by decide +kernel
theorem dM_grid_51 : decode cM_grid 51 = .ok (.lcmp, 1) := by decide +kernel
theorem dM_grid_52 : decode cM_grid 52 = .ok (.ifCond .le 7, 3) := by decide +kernel
theorem dM_grid_55 : decode cM_grid 55 = .ok (.iconst 1, 1) := by decide +kernel
theorem dM_grid_56 : decode cM_grid 56 = .ok (.goto 4, 3) := by decide +kernel
theorem dM_grid_59 : decode cM_grid 59 = .ok (.iconst 0, 1) := by decide +kernel
theorem dM_grid_60 : decode cM_grid 60 = .ok (.istore_n 2, 1) := by decide +kernel
theorem dM_grid_61 : decode cM_grid 61 = .ok (.iinc 3 1, 3) := by decide +kernel
theorem dM_grid_64 : decode cM_grid 64 = .ok (.goto (-45), 3) := by decide +kernel
theorem dM_grid_67 : decode cM_grid 67 = .ok (.aload_n 0, 1) := by decide +kernel
theorem dM_grid_68 : decode cM_grid 68 = .ok (.aload_n 0, 1) := by decide +kernel
theorem dM_grid_69 : decode cM_grid 69 = .ok (.getfield 110, 3) := by decide +kernel
theorem dM_grid_72 : decode cM_grid 72 = .ok (.ifCond .ne 7, 3) := by decide +kernel
theorem dM_grid_75 : decode cM_grid 75 = .ok (.iconst 1, 1) := by decide +kernel
theorem dM_grid_76 : decode cM_grid 76 = .ok (.goto 4, 3) := by decide +kernel
theorem dM_grid_79 : decode cM_grid 79 = .ok (.iconst 0, 1) := by decide +kernel
theorem dM_grid_80 : decode cM_grid 80 = .ok (.iload_n 2, 1) := by decide +kernel
theorem dM_grid_81 : decode cM_grid 81 = .ok (.invokevirtual 158, 3) := by decide +kernel
theorem dM_grid_84 : decode cM_grid 84 = .ok (.ifCond .eq 5, 3) := by decide +kernel
theorem dM_grid_87 : decode cM_grid 87 = .ok (.iconst 0, 1) := by decide +kernel
theorem dM_grid_88 : decode cM_grid 88 = .ok (.ireturn, 1) := by decide +kernel
theorem dM_grid_89 : decode cM_grid 89 = .ok (.iconst 0, 1) := by decide +kernel
theorem dM_grid_90 : decode cM_grid 90 = .ok (.istore_n 3, 1) := by decide +kernel
theorem dM_grid_91 : decode cM_grid 91 = .ok (.iconst 0, 1) := by decide +kernel
theorem dM_grid_92 : decode cM_grid 92 = .ok (.istore 4, 2) := by decide +kernel
theorem dM_grid_94 : decode cM_grid 94 = .ok (.iload 4, 2) := by decide +kernel
theorem dM_grid_96 : decode cM_grid 96 = .ok (.aload_n 0, 1) := by decide +kernel
theorem dM_grid_97 : decode cM_grid 97 = .ok (.getfield 95, 3) := by decide +kernel
theorem dM_grid_100 : decode cM_grid 100 = .ok (.if_icmp .ge 52, 3) := by decide +kernel
theorem dM_grid_103 : decode cM_grid 103 = .ok (.aload_n 0, 1) := by decide +kernel
theorem dM_grid_104 : decode cM_grid 104 = .ok (.getfield 13, 3) := by decide +kernel
theorem dM_grid_107 : decode cM_grid 107 = .ok (.iload 4, 2) := by decide +kernel
theorem dM_grid_109 : decode cM_grid 109 = .ok (.iaload, 1) := by decide +kernel
theorem dM_grid_110 : decode cM_grid 110 = .ok (.iload_n 1, 1) := by decide +kernel
theorem dM_grid_111 : decode cM_grid 111 = .ok (.invokestatic 183, 3) := by decide +kernel
theorem dM_grid_114 : decode cM_grid 114 = .ok (.l2i, 1) := by decide +kernel
theorem dM_grid_115 : decode cM_grid 115 = .ok (.istore 5, 2) := by decide +kernel
theorem dM_grid_117 : decode cM_grid 117 = .ok (.iload_n 3, 1) := by decide +kernel
theorem dM_grid_118 : decode cM_grid 118 = .ok (.iload 5, 2) := by decide +kernel
theorem dM_grid_120 : decode cM_grid 120 = .ok (.aload_n 0, 1) := by decide +kernel
theorem dM_grid_121 : decode cM_grid 121 = .ok (.getfield 13, 3) := by decide +kernel
theorem dM_grid_124 : decode cM_grid 124 = .ok (.iload 4, 2) := by decide +kernel
theorem dM_grid_126 : decode cM_grid 126 = .ok (.iaload, 1) := by decide +kernel
theorem dM_grid_127 : decode cM_grid 127 = .ok (.if_icmp .eq 7, 3) := by decide +kernel
theorem dM_grid_130 : decode cM_grid 130 = .ok (.iconst 1, 1) := by decide +kernel
theorem dM_grid_131 : decode cM_grid 131 = .ok (.goto 4, 3) := by decide +kernel
theorem dM_grid_134 : decode cM_grid 134 = .ok (.iconst 0, 1) := by decide +kernel
theorem dM_grid_135 : decode cM_grid 135 = .ok (.iadd, 1) := by decide +kernel
theorem dM_grid_136 : decode cM_grid 136 = .ok (.istore_n 3, 1) := by decide +kernel
theorem dM_grid_137 : decode cM_grid 137 = .ok (.aload_n 0, 1) := by decide +kernel
theorem dM_grid_138 : decode cM_grid 138 = .ok (.getfield 13, 3) := by decide +kernel
theorem dM_grid_141 : decode cM_grid 141 = .ok (.iload 4, 2) := by decide +kernel
theorem dM_grid_143 : decode cM_grid 143 = .ok (.iload 5, 2) := by decide +kernel
theorem dM_grid_145 : decode cM_grid 145 = .ok (.iastore, 1) := by decide +kernel
theorem dM_grid_146 : decode cM_grid 146 = .ok (.iinc 4 1, 3) := by decide +kernel
theorem dM_grid_149 : decode cM_grid 149 = .ok (.goto (-55), 3) := by decide +kernel
theorem dM_grid_152 : decode cM_grid 152 = .ok (.aload_n 0, 1) := by decide +kernel
theorem dM_grid_153 : decode cM_grid 153 = .ok (.invokevirtual 137, 3) := by decide +kernel
theorem dM_grid_156 : decode cM_grid 156 = .ok (.iload_n 3, 1) := by decide +kernel
theorem dM_grid_157 : decode cM_grid 157 = .ok (.ireturn, 1) := by decide +kernel
def jM_grid_135 (K94 : (Nat → Int32) → (Nat → Nat → Int32) → Int32 → Int32 → Int32 → Option (Int32 × (Nat → Int32) × (Nat → Nat → Int32))) (iv : Nat → Int32) (av : Nat → Nat → Int32) (x1 : Int32) (x4 : Int32) (x5 : Int32) (s0 : Int32) (s1 : Int32) : Option (Int32 × (Nat → Int32) × (Nat → Nat → Int32)) := if x4 < 0 ∨ 1001 ≤ x4.toNatClampNeg then none else (K94 iv (up2 av 1 x4.toNatClampNeg x5) x1 (s0 + s1) (x4 + 1))
def lM_grid_94 : Nat → (Nat → Int32) → (Nat → Nat → Int32) → Int32 → Int32 → Int32 → Option (Int32 × (Nat → Int32) × (Nat → Nat → Int32))
  | 0 => fun _ _ _ _ _ => none
  | k + 1 => fun iv av x1 x3 x4 => if (iv 10) ≤ x4 then ((fM_again iv av).bind fun (iv2, av2) => some (x3, iv2, av2)) else (if x4 < 0 ∨ 1001 ≤ x4.toNatClampNeg then none else ((fM_nearest iv av (av 1 x4.toNatClampNeg) x1).bind fun (r4, iv4, av4) => if x4 < 0 ∨ 1001 ≤ x4.toNatClampNeg then none else (if r4.toInt32 = (av4 1 x4.toNatClampNeg) then (jM_grid_135 (lM_grid_94 k) iv4 av4 x1 x4 r4.toInt32 x3 (0 : Int32)) else (jM_grid_135 (lM_grid_94 k) iv4 av4 x1 x4 r4.toInt32 x3 (1 : Int32)))))
def jM_grid_80 (iv : Nat → Int32) (av : Nat → Nat → Int32) (x1 : Int32) (x2 : Int32) (s1 : Int32) : Option (Int32 × (Nat → Int32) × (Nat → Nat → Int32)) := (fM_fails iv av s1 x2).bind fun (r1, iv1, av1) => if r1 = 0 then (lM_grid_94 FU iv1 av1 x1 (0 : Int32) (0 : Int32)) else (some ((0 : Int32), iv1, av1))
def jM_grid_67 (iv : Nat → Int32) (av : Nat → Nat → Int32) (x1 : Int32) (x2 : Int32) : Option (Int32 × (Nat → Int32) × (Nat → Nat → Int32)) := if (iv 6) = 0 then (jM_grid_80 iv av x1 x2 (1 : Int32)) else (jM_grid_80 iv av x1 x2 (0 : Int32))
def jM_grid_60 (K19 : (Nat → Int32) → (Nat → Nat → Int32) → Int32 → Int32 → Int32 → Option (Int32 × (Nat → Int32) × (Nat → Nat → Int32))) (iv : Nat → Int32) (av : Nat → Nat → Int32) (x1 : Int32) (x3 : Int32) (s0 : Int32) : Option (Int32 × (Nat → Int32) × (Nat → Nat → Int32)) := K19 iv av x1 s0 (x3 + 1)
def lM_grid_19 : Nat → (Nat → Int32) → (Nat → Nat → Int32) → Int32 → Int32 → Int32 → Option (Int32 × (Nat → Int32) × (Nat → Nat → Int32))
  | 0 => fun _ _ _ _ _ => none
  | k + 1 => fun iv av x1 x2 x3 => if (iv 10) ≤ x3 then (jM_grid_67 iv av x1 x2) else (if (iv 6) = 0 then (jM_grid_67 iv av x1 x2) else (if x2 = 0 then (if x3 < 0 ∨ 1001 ≤ x3.toNatClampNeg then none else ((fM_nearest iv av (av 1 x3.toNatClampNeg) x1).bind fun (r5, iv5, av5) => if (lg_cmp r5 (268435455 : Int64)) ≤ 0 then (jM_grid_60 (lM_grid_19 k) iv5 av5 x1 x3 (0 : Int32)) else (jM_grid_60 (lM_grid_19 k) iv5 av5 x1 x3 (1 : Int32)))) else (jM_grid_67 iv av x1 x2)))
def jM_grid_16 (iv : Nat → Int32) (av : Nat → Nat → Int32) (x1 : Int32) (s0 : Int32) : Option (Int32 × (Nat → Int32) × (Nat → Nat → Int32)) := lM_grid_19 FU iv av x1 s0 (0 : Int32)
def jM_grid_11 (iv : Nat → Int32) (av : Nat → Nat → Int32) (x1 : Int32) : Option (Int32 × (Nat → Int32) × (Nat → Nat → Int32)) := jM_grid_16 iv av x1 (1 : Int32)
def fM_grid (iv : Nat → Int32) (av : Nat → Nat → Int32) (x1 : Int32) : Option (Int32 × (Nat → Int32) × (Nat → Nat → Int32)) := if x1 < (1 : Int32) then (jM_grid_11 iv av x1) else (if x1 ≤ (100000 : Int32) then (jM_grid_16 iv av x1 (0 : Int32)) else (jM_grid_11 iv av x1))
set_option maxHeartbeats 4000000 in
set_option maxRecDepth 100000 in
theorem wM_grid_135 {p : Program} {l : Launch} {e : Env} {s : State} {m : MethodId} {args : Array Value} {below : List Frame} {meth : Method} {c : Code} {g : gT} {q : Nat} {ad : Nat → Nat} {X : va_W} {rv : Option Value} {iv' : Nat → Int32} {av' : Nat → Nat → Int32} {r' : Int32} (C : mCx p m c cM_grid 6 s args g "MidiDeskModel") (hr : meth.sig.returnType = (some .int)) (hlk : meth.locks = false) (hrv : rv = some (.int r')) {K94 : (Nat → Int32) → (Nat → Nat → Int32) → Int32 → Int32 → Int32 → Option (Int32 × (Nat → Int32) × (Nat → Nat → Int32))} (hK94 : ∀ (iv : Nat → Int32) (av : Nat → Nat → Int32) (x1 : Int32) (x3 : Int32) (x4 : Int32) (H : Heap) (locs : List Loc) (ls : Array Slot), lv_has ls 6 [(0, .ref q), (1, .int x1), (3, .int x3), (4, .int x4)] → mWd g (mA g q ad X s.heap.size) s.heap q ad X iv av H locs → K94 iv av x1 x3 x4 = some (r', iv', av') → mG p l e rM_grid s m args below meth c g q ad X rv iv' av' H locs 0 0 (F0 m 94 ls [])) (iv : Nat → Int32) (av : Nat → Nat → Int32) (x1 : Int32) (x4 : Int32) (x5 : Int32) (s0 : Int32) (s1 : Int32) (H : Heap) (locs : List Loc) (ls : Array Slot) (hl : lv_has ls 6 [(0, .ref q), (1, .int x1), (4, .int x4), (5, .int x5)]) (hw : mWd g (mA g q ad X s.heap.size) s.heap q ad X iv av H locs) (hf : jM_grid_135 K94 iv av x1 x4 x5 s0 s1 = some (r', iv', av')) : mG p l e rM_grid s m args below meth c g q ad X rv iv' av' H locs 0 0 (F0 m 135 ls [.int s1, .int s0]) := by
  unfold jM_grid_135 at hf
  refine lv_iadd C.1.1 C.1.2.1 dM_grid_135 ?_
  refine lv_istore_n (lv' := [(3, .int (s0 + s1)), (0, .ref q), (1, .int x1), (4, .int x4), (5, .int x5)]) C.1.1 C.1.2.1 dM_grid_136 rfl hl (by decide) rfl (fun ls hl => ?_)
  refine lv_aload_n C.1.1 C.1.2.1 dM_grid_137 rfl (lv_at hl 1 rfl) ?_
  refine mg_ticks C hw dM_grid_138 ?_
  refine lv_iload C.1.1 C.1.2.1 dM_grid_141 (lv_at hl 3 rfl) ?_
  refine lv_iload C.1.1 C.1.2.1 dM_grid_143 (lv_at hl 4 rfl) ?_
  obtain ⟨h1, hf⟩ := ts_g hf
  refine ms_ticks C hw h1 dM_grid_145 (fun H locs hw => ?_)
  refine lv_iinc (v := x4 + 1) (lv' := [(4, .int (x4 + 1)), (3, .int (s0 + s1)), (0, .ref q), (1, .int x1), (5, .int x5)]) C.1.1 C.1.2.1 dM_grid_146 hl (k := 3) rfl rfl (by decide) rfl (fun ls hl => ?_)
  refine lv_goto (tgt := 94) C.1.1 C.1.2.1 dM_grid_149 (by decide) ?_
  exact hK94 iv (up2 av 1 x4.toNatClampNeg x5) x1 (s0 + s1) (x4 + 1) _ _ ls (lv_sub hl [2, 3, 1, 0] rfl) hw hf
set_option maxHeartbeats 4000000 in
set_option maxRecDepth 100000 in
theorem wM_grid_94 {p : Program} {l : Launch} {e : Env} {s : State} {m : MethodId} {args : Array Value} {below : List Frame} {meth : Method} {c : Code} {g : gT} {q : Nat} {ad : Nat → Nat} {X : va_W} {rv : Option Value} {iv' : Nat → Int32} {av' : Nat → Nat → Int32} {r' : Int32} (C : mCx p m c cM_grid 6 s args g "MidiDeskModel") (hr : meth.sig.returnType = (some .int)) (hlk : meth.locks = false) (hrv : rv = some (.int r')) (k : Nat) : ∀ (iv : Nat → Int32) (av : Nat → Nat → Int32) (x1 : Int32) (x3 : Int32) (x4 : Int32) (H : Heap) (locs : List Loc) (ls : Array Slot), lv_has ls 6 [(0, .ref q), (1, .int x1), (3, .int x3), (4, .int x4)] → mWd g (mA g q ad X s.heap.size) s.heap q ad X iv av H locs → lM_grid_94 k iv av x1 x3 x4 = some (r', iv', av') → mG p l e rM_grid s m args below meth c g q ad X rv iv' av' H locs 0 0 (F0 m 94 ls []) := by
  induction k with
  | zero => intro iv av x1 x3 x4 H locs ls hl hw hf; cases hf
  | succ k ih =>
    intro iv av x1 x3 x4 H locs ls hl hw hf
    have hf : (if (iv 10) ≤ x4 then ((fM_again iv av).bind fun (iv2, av2) => some (x3, iv2, av2)) else (if x4 < 0 ∨ 1001 ≤ x4.toNatClampNeg then none else ((fM_nearest iv av (av 1 x4.toNatClampNeg) x1).bind fun (r4, iv4, av4) => if x4 < 0 ∨ 1001 ≤ x4.toNatClampNeg then none else (if r4.toInt32 = (av4 1 x4.toNatClampNeg) then (jM_grid_135 (lM_grid_94 k) iv4 av4 x1 x4 r4.toInt32 x3 (0 : Int32)) else (jM_grid_135 (lM_grid_94 k) iv4 av4 x1 x4 r4.toInt32 x3 (1 : Int32)))))) = some (r', iv', av') := hf
    refine lv_iload C.1.1 C.1.2.1 dM_grid_94 (lv_at hl 3 rfl) ?_
    refine lv_aload_n C.1.1 C.1.2.1 dM_grid_96 rfl (lv_at hl 0 rfl) ?_
    refine mg_events C hw dM_grid_97 ?_
    refine lv_icmp_ge (tgt := 152) C.1.1 C.1.2.1 dM_grid_100 (by decide) (fun c1 => ?_) (fun c1 => ?_)
    · have hf := ts_t hf c1
      refine lv_aload_n C.1.1 C.1.2.1 dM_grid_152 rfl (lv_at hl 0 rfl) ?_
      obtain ⟨⟨iv2, av2⟩, g2, hf⟩ := ts_b hf
      dsimp only at hf
      refine m_callV (rest := []) (As := []) (rv := none) C hl.1 hw (cM_again_met g2) (callW_of (rm := rM_again) 0 C.1.2.2.2.2 gw_852 gw_854 gw_36 gw_55 gw_855 kM_again ⟨Nat.le_of_ble_eq_true rfl, Nat.le_of_ble_eq_true rfl⟩) rfl rfl (Nat.le_of_ble_eq_true rfl) dM_grid_153 ⟨Nat.le_of_ble_eq_true rfl, Nat.le_of_ble_eq_true rfl⟩ (fun H locs hw => ?_)
      refine W.eq (g2 := F0 m 156 ls []) rfl ?_
      refine lv_iload_n C.1.1 C.1.2.1 dM_grid_156 rfl (lv_at hl 2 rfl) ?_
      exact m_reti C hr hlk hrv hw hf ⟨Nat.le_of_ble_eq_true rfl, Nat.le_of_ble_eq_true rfl⟩ dM_grid_157
    · have hf := ts_f hf c1
      refine lv_aload_n C.1.1 C.1.2.1 dM_grid_103 rfl (lv_at hl 0 rfl) ?_
      refine mg_ticks C hw dM_grid_104 ?_
      refine lv_iload C.1.1 C.1.2.1 dM_grid_107 (lv_at hl 3 rfl) ?_
      obtain ⟨h3, hf⟩ := ts_g hf
      refine ma_ticks C hw h3 dM_grid_109 ?_
      refine lv_iload_n C.1.1 C.1.2.1 dM_grid_110 rfl (lv_at hl 1 rfl) ?_
      obtain ⟨⟨r4, iv4, av4⟩, g4, hf⟩ := ts_b hf
      dsimp only at hf
      refine m_callS (rest := []) (As := [.int (av 1 x4.toNatClampNeg), .int x1]) (rv := (some (.long r4))) C hl.1 hw (cM_nearest_met g4) (callS_of (rm := rM_nearest) 2 C.1.2.2.2.2 gw_927 gw_928 gw_55 gw_929 kM_nearest ⟨Nat.le_of_ble_eq_true rfl, Nat.le_of_ble_eq_true rfl⟩) rfl rfl (Nat.le_of_ble_eq_true rfl) dM_grid_111 ⟨Nat.le_of_ble_eq_true rfl, Nat.le_of_ble_eq_true rfl⟩ (fun H locs hw => ?_)
      refine W.eq (g2 := F0 m 114 ls [.long r4]) rfl ?_
      refine lv_l2i C.1.1 C.1.2.1 dM_grid_114 rfl ?_
      refine lv_istore (lv' := [(5, .int r4.toInt32), (0, .ref q), (1, .int x1), (3, .int x3), (4, .int x4)]) C.1.1 C.1.2.1 dM_grid_115 hl (by decide) rfl (fun ls hl => ?_)
      refine lv_iload_n C.1.1 C.1.2.1 dM_grid_117 rfl (lv_at hl 3 rfl) ?_
      refine lv_iload C.1.1 C.1.2.1 dM_grid_118 (lv_at hl 0 rfl) ?_
      refine lv_aload_n C.1.1 C.1.2.1 dM_grid_120 rfl (lv_at hl 1 rfl) ?_
      refine mg_ticks C hw dM_grid_121 ?_
      refine lv_iload C.1.1 C.1.2.1 dM_grid_124 (lv_at hl 4 rfl) ?_
      obtain ⟨h5, hf⟩ := ts_g hf
      refine ma_ticks C hw h5 dM_grid_126 ?_
      refine lv_icmp_eq (tgt := 134) C.1.1 C.1.2.1 dM_grid_127 (by decide) (fun c6 => ?_) (fun c6 => ?_)
      · have hf := ts_t hf c6
        refine lv_iconst (v := (0 : Int32)) C.1.1 C.1.2.1 dM_grid_134 (by decide) ?_
        exact wM_grid_135 C hr hlk hrv ih iv4 av4 x1 x4 r4.toInt32 x3 (0 : Int32) _ _ ls (lv_sub hl [1, 2, 4, 0] rfl) hw hf
      · have hf := ts_f hf c6
        refine lv_iconst (v := (1 : Int32)) C.1.1 C.1.2.1 dM_grid_130 (by decide) ?_
        refine lv_goto (tgt := 135) C.1.1 C.1.2.1 dM_grid_131 (by decide) ?_
        exact wM_grid_135 C hr hlk hrv ih iv4 av4 x1 x4 r4.toInt32 x3 (1 : Int32) _ _ ls (lv_sub hl [1, 2, 4, 0] rfl) hw hf
set_option maxHeartbeats 4000000 in
set_option maxRecDepth 100000 in
theorem wM_grid_80 {p : Program} {l : Launch} {e : Env} {s : State} {m : MethodId} {args : Array Value} {below : List Frame} {meth : Method} {c : Code} {g : gT} {q : Nat} {ad : Nat → Nat} {X : va_W} {rv : Option Value} {iv' : Nat → Int32} {av' : Nat → Nat → Int32} {r' : Int32} (C : mCx p m c cM_grid 6 s args g "MidiDeskModel") (hr : meth.sig.returnType = (some .int)) (hlk : meth.locks = false) (hrv : rv = some (.int r')) (iv : Nat → Int32) (av : Nat → Nat → Int32) (x1 : Int32) (x2 : Int32) (s1 : Int32) (H : Heap) (locs : List Loc) (ls : Array Slot) (hl : lv_has ls 6 [(0, .ref q), (1, .int x1), (2, .int x2)]) (hw : mWd g (mA g q ad X s.heap.size) s.heap q ad X iv av H locs) (hf : jM_grid_80 iv av x1 x2 s1 = some (r', iv', av')) : mG p l e rM_grid s m args below meth c g q ad X rv iv' av' H locs 0 0 (F0 m 80 ls [.int s1, .ref q]) := by
  unfold jM_grid_80 at hf
  refine lv_iload_n C.1.1 C.1.2.1 dM_grid_80 rfl (lv_at hl 2 rfl) ?_
  obtain ⟨⟨r1, iv1, av1⟩, g1, hf⟩ := ts_b hf
  dsimp only at hf
  refine m_callV (rest := []) (As := [.int s1, .int x2]) (rv := (some (.int r1))) C hl.1 hw (cM_fails_met g1) (callW_of (rm := rM_fails) 2 C.1.2.2.2.2 gw_877 gw_879 gw_39 gw_55 gw_880 kM_fails ⟨Nat.le_of_ble_eq_true rfl, Nat.le_of_ble_eq_true rfl⟩) rfl rfl (Nat.le_of_ble_eq_true rfl) dM_grid_81 ⟨Nat.le_of_ble_eq_true rfl, Nat.le_of_ble_eq_true rfl⟩ (fun H locs hw => ?_)
  refine W.eq (g2 := F0 m 84 ls [.int r1]) rfl ?_
  refine lv_if_eq (tgt := 89) C.1.1 C.1.2.1 dM_grid_84 (by decide) (fun c2 => ?_) (fun c2 => ?_)
  · have hf := ts_t hf c2
    refine lv_iconst (v := (0 : Int32)) C.1.1 C.1.2.1 dM_grid_89 (by decide) ?_
    refine lv_istore_n (lv' := [(3, .int (0 : Int32)), (0, .ref q), (1, .int x1), (2, .int x2)]) C.1.1 C.1.2.1 dM_grid_90 rfl hl (by decide) rfl (fun ls hl => ?_)
    refine lv_iconst (v := (0 : Int32)) C.1.1 C.1.2.1 dM_grid_91 (by decide) ?_
    refine lv_istore (lv' := [(4, .int (0 : Int32)), (3, .int (0 : Int32)), (0, .ref q), (1, .int x1), (2, .int x2)]) C.1.1 C.1.2.1 dM_grid_92 hl (by decide) rfl (fun ls hl => ?_)
    exact wM_grid_94 C hr hlk hrv FU iv1 av1 x1 (0 : Int32) (0 : Int32) _ _ ls (lv_sub hl [2, 3, 1, 0] rfl) hw hf
  · have hf := ts_f hf c2
    refine lv_iconst (v := (0 : Int32)) C.1.1 C.1.2.1 dM_grid_87 (by decide) ?_
    exact m_reti C hr hlk hrv hw hf ⟨Nat.le_of_ble_eq_true rfl, Nat.le_of_ble_eq_true rfl⟩ dM_grid_88
set_option maxHeartbeats 4000000 in
set_option maxRecDepth 100000 in
theorem wM_grid_67 {p : Program} {l : Launch} {e : Env} {s : State} {m : MethodId} {args : Array Value} {below : List Frame} {meth : Method} {c : Code} {g : gT} {q : Nat} {ad : Nat → Nat} {X : va_W} {rv : Option Value} {iv' : Nat → Int32} {av' : Nat → Nat → Int32} {r' : Int32} (C : mCx p m c cM_grid 6 s args g "MidiDeskModel") (hr : meth.sig.returnType = (some .int)) (hlk : meth.locks = false) (hrv : rv = some (.int r')) (iv : Nat → Int32) (av : Nat → Nat → Int32) (x1 : Int32) (x2 : Int32) (H : Heap) (locs : List Loc) (ls : Array Slot) (hl : lv_has ls 6 [(0, .ref q), (1, .int x1), (2, .int x2)]) (hw : mWd g (mA g q ad X s.heap.size) s.heap q ad X iv av H locs) (hf : jM_grid_67 iv av x1 x2 = some (r', iv', av')) : mG p l e rM_grid s m args below meth c g q ad X rv iv' av' H locs 0 0 (F0 m 67 ls []) := by
  unfold jM_grid_67 at hf
  refine lv_aload_n C.1.1 C.1.2.1 dM_grid_67 rfl (lv_at hl 0 rfl) ?_
  refine lv_aload_n C.1.1 C.1.2.1 dM_grid_68 rfl (lv_at hl 0 rfl) ?_
  refine mg_there C hw dM_grid_69 ?_
  refine lv_if_ne (tgt := 79) C.1.1 C.1.2.1 dM_grid_72 (by decide) (fun c1 => ?_) (fun c1 => ?_)
  · have hf := ts_f hf c1
    refine lv_iconst (v := (0 : Int32)) C.1.1 C.1.2.1 dM_grid_79 (by decide) ?_
    exact wM_grid_80 C hr hlk hrv iv av x1 x2 (0 : Int32) _ _ ls (lv_sub hl [0, 1, 2] rfl) hw hf
  · have hf := ts_t hf c1
    refine lv_iconst (v := (1 : Int32)) C.1.1 C.1.2.1 dM_grid_75 (by decide) ?_
    refine lv_goto (tgt := 80) C.1.1 C.1.2.1 dM_grid_76 (by decide) ?_
    exact wM_grid_80 C hr hlk hrv iv av x1 x2 (1 : Int32) _ _ ls (lv_sub hl [0, 1, 2] rfl) hw hf
set_option maxHeartbeats 4000000 in
set_option maxRecDepth 100000 in
theorem wM_grid_60 {p : Program} {l : Launch} {e : Env} {s : State} {m : MethodId} {args : Array Value} {below : List Frame} {meth : Method} {c : Code} {g : gT} {q : Nat} {ad : Nat → Nat} {X : va_W} {rv : Option Value} {iv' : Nat → Int32} {av' : Nat → Nat → Int32} {r' : Int32} (C : mCx p m c cM_grid 6 s args g "MidiDeskModel") (hr : meth.sig.returnType = (some .int)) (hlk : meth.locks = false) (hrv : rv = some (.int r')) {K19 : (Nat → Int32) → (Nat → Nat → Int32) → Int32 → Int32 → Int32 → Option (Int32 × (Nat → Int32) × (Nat → Nat → Int32))} (hK19 : ∀ (iv : Nat → Int32) (av : Nat → Nat → Int32) (x1 : Int32) (x2 : Int32) (x3 : Int32) (H : Heap) (locs : List Loc) (ls : Array Slot), lv_has ls 6 [(0, .ref q), (1, .int x1), (2, .int x2), (3, .int x3)] → mWd g (mA g q ad X s.heap.size) s.heap q ad X iv av H locs → K19 iv av x1 x2 x3 = some (r', iv', av') → mG p l e rM_grid s m args below meth c g q ad X rv iv' av' H locs 0 0 (F0 m 19 ls [])) (iv : Nat → Int32) (av : Nat → Nat → Int32) (x1 : Int32) (x3 : Int32) (s0 : Int32) (H : Heap) (locs : List Loc) (ls : Array Slot) (hl : lv_has ls 6 [(0, .ref q), (1, .int x1), (3, .int x3)]) (hw : mWd g (mA g q ad X s.heap.size) s.heap q ad X iv av H locs) (hf : jM_grid_60 K19 iv av x1 x3 s0 = some (r', iv', av')) : mG p l e rM_grid s m args below meth c g q ad X rv iv' av' H locs 0 0 (F0 m 60 ls [.int s0]) := by
  unfold jM_grid_60 at hf
  refine lv_istore_n (lv' := [(2, .int s0), (0, .ref q), (1, .int x1), (3, .int x3)]) C.1.1 C.1.2.1 dM_grid_60 rfl hl (by decide) rfl (fun ls hl => ?_)
  refine lv_iinc (v := x3 + 1) (lv' := [(3, .int (x3 + 1)), (2, .int s0), (0, .ref q), (1, .int x1)]) C.1.1 C.1.2.1 dM_grid_61 hl (k := 3) rfl rfl (by decide) rfl (fun ls hl => ?_)
  refine lv_goto (tgt := 19) C.1.1 C.1.2.1 dM_grid_64 (by decide) ?_
  exact hK19 iv av x1 s0 (x3 + 1) _ _ ls (lv_sub hl [2, 3, 1, 0] rfl) hw hf
set_option maxHeartbeats 4000000 in
set_option maxRecDepth 100000 in
theorem wM_grid_19 {p : Program} {l : Launch} {e : Env} {s : State} {m : MethodId} {args : Array Value} {below : List Frame} {meth : Method} {c : Code} {g : gT} {q : Nat} {ad : Nat → Nat} {X : va_W} {rv : Option Value} {iv' : Nat → Int32} {av' : Nat → Nat → Int32} {r' : Int32} (C : mCx p m c cM_grid 6 s args g "MidiDeskModel") (hr : meth.sig.returnType = (some .int)) (hlk : meth.locks = false) (hrv : rv = some (.int r')) (k : Nat) : ∀ (iv : Nat → Int32) (av : Nat → Nat → Int32) (x1 : Int32) (x2 : Int32) (x3 : Int32) (H : Heap) (locs : List Loc) (ls : Array Slot), lv_has ls 6 [(0, .ref q), (1, .int x1), (2, .int x2), (3, .int x3)] → mWd g (mA g q ad X s.heap.size) s.heap q ad X iv av H locs → lM_grid_19 k iv av x1 x2 x3 = some (r', iv', av') → mG p l e rM_grid s m args below meth c g q ad X rv iv' av' H locs 0 0 (F0 m 19 ls []) := by
  induction k with
  | zero => intro iv av x1 x2 x3 H locs ls hl hw hf; cases hf
  | succ k ih =>
    intro iv av x1 x2 x3 H locs ls hl hw hf
    have hf : (if (iv 10) ≤ x3 then (jM_grid_67 iv av x1 x2) else (if (iv 6) = 0 then (jM_grid_67 iv av x1 x2) else (if x2 = 0 then (if x3 < 0 ∨ 1001 ≤ x3.toNatClampNeg then none else ((fM_nearest iv av (av 1 x3.toNatClampNeg) x1).bind fun (r5, iv5, av5) => if (lg_cmp r5 (268435455 : Int64)) ≤ 0 then (jM_grid_60 (lM_grid_19 k) iv5 av5 x1 x3 (0 : Int32)) else (jM_grid_60 (lM_grid_19 k) iv5 av5 x1 x3 (1 : Int32)))) else (jM_grid_67 iv av x1 x2)))) = some (r', iv', av') := hf
    refine lv_iload_n C.1.1 C.1.2.1 dM_grid_19 rfl (lv_at hl 3 rfl) ?_
    refine lv_aload_n C.1.1 C.1.2.1 dM_grid_20 rfl (lv_at hl 0 rfl) ?_
    refine mg_events C hw dM_grid_21 ?_
    refine lv_icmp_ge (tgt := 67) C.1.1 C.1.2.1 dM_grid_24 (by decide) (fun c1 => ?_) (fun c1 => ?_)
    · have hf := ts_t hf c1
      exact wM_grid_67 C hr hlk hrv iv av x1 x2 _ _ ls (lv_sub hl [0, 1, 2] rfl) hw hf
    · have hf := ts_f hf c1
      refine lv_aload_n C.1.1 C.1.2.1 dM_grid_27 rfl (lv_at hl 0 rfl) ?_
      refine mg_there C hw dM_grid_28 ?_
      refine lv_if_eq (tgt := 67) C.1.1 C.1.2.1 dM_grid_31 (by decide) (fun c2 => ?_) (fun c2 => ?_)
      · have hf := ts_t hf c2
        exact wM_grid_67 C hr hlk hrv iv av x1 x2 _ _ ls (lv_sub hl [0, 1, 2] rfl) hw hf
      · have hf := ts_f hf c2
        refine lv_iload_n C.1.1 C.1.2.1 dM_grid_34 rfl (lv_at hl 2 rfl) ?_
        refine lv_if_ne (tgt := 67) C.1.1 C.1.2.1 dM_grid_35 (by decide) (fun c3 => ?_) (fun c3 => ?_)
        · have hf := ts_f hf c3
          exact wM_grid_67 C hr hlk hrv iv av x1 x2 _ _ ls (lv_sub hl [0, 1, 2] rfl) hw hf
        · have hf := ts_t hf c3
          refine lv_aload_n C.1.1 C.1.2.1 dM_grid_38 rfl (lv_at hl 0 rfl) ?_
          refine mg_ticks C hw dM_grid_39 ?_
          refine lv_iload_n C.1.1 C.1.2.1 dM_grid_42 rfl (lv_at hl 3 rfl) ?_
          obtain ⟨h4, hf⟩ := ts_g hf
          refine ma_ticks C hw h4 dM_grid_43 ?_
          refine lv_iload_n C.1.1 C.1.2.1 dM_grid_44 rfl (lv_at hl 1 rfl) ?_
          obtain ⟨⟨r5, iv5, av5⟩, g5, hf⟩ := ts_b hf
          dsimp only at hf
          refine m_callS (rest := []) (As := [.int (av 1 x3.toNatClampNeg), .int x1]) (rv := (some (.long r5))) C hl.1 hw (cM_nearest_met g5) (callS_of (rm := rM_nearest) 2 C.1.2.2.2.2 gw_927 gw_928 gw_55 gw_929 kM_nearest ⟨Nat.le_of_ble_eq_true rfl, Nat.le_of_ble_eq_true rfl⟩) rfl rfl (Nat.le_of_ble_eq_true rfl) dM_grid_45 ⟨Nat.le_of_ble_eq_true rfl, Nat.le_of_ble_eq_true rfl⟩ (fun H locs hw => ?_)
          refine W.eq (g2 := F0 m 48 ls [.long r5]) rfl ?_
          refine lv_ldc2 C.1.1 C.1.2.1 C.1.2.2.2.1 (C.1.2.2.2.2 _ gw_831) dM_grid_48 ?_
          refine W.lcmp C.1.1 C.1.2.1 dM_grid_51 ?_
          refine lv_if_le (tgt := 59) C.1.1 C.1.2.1 dM_grid_52 (by decide) (fun c6 => ?_) (fun c6 => ?_)
          · have hf := ts_t hf c6
            refine lv_iconst (v := (0 : Int32)) C.1.1 C.1.2.1 dM_grid_59 (by decide) ?_
            exact wM_grid_60 C hr hlk hrv ih iv5 av5 x1 x3 (0 : Int32) _ _ ls (lv_sub hl [0, 1, 3] rfl) hw hf
          · have hf := ts_f hf c6
            refine lv_iconst (v := (1 : Int32)) C.1.1 C.1.2.1 dM_grid_55 (by decide) ?_
            refine lv_goto (tgt := 60) C.1.1 C.1.2.1 dM_grid_56 (by decide) ?_
            exact wM_grid_60 C hr hlk hrv ih iv5 av5 x1 x3 (1 : Int32) _ _ ls (lv_sub hl [0, 1, 3] rfl) hw hf
set_option maxHeartbeats 4000000 in
set_option maxRecDepth 100000 in
theorem wM_grid_16 {p : Program} {l : Launch} {e : Env} {s : State} {m : MethodId} {args : Array Value} {below : List Frame} {meth : Method} {c : Code} {g : gT} {q : Nat} {ad : Nat → Nat} {X : va_W} {rv : Option Value} {iv' : Nat → Int32} {av' : Nat → Nat → Int32} {r' : Int32} (C : mCx p m c cM_grid 6 s args g "MidiDeskModel") (hr : meth.sig.returnType = (some .int)) (hlk : meth.locks = false) (hrv : rv = some (.int r')) (iv : Nat → Int32) (av : Nat → Nat → Int32) (x1 : Int32) (s0 : Int32) (H : Heap) (locs : List Loc) (ls : Array Slot) (hl : lv_has ls 6 [(0, .ref q), (1, .int x1)]) (hw : mWd g (mA g q ad X s.heap.size) s.heap q ad X iv av H locs) (hf : jM_grid_16 iv av x1 s0 = some (r', iv', av')) : mG p l e rM_grid s m args below meth c g q ad X rv iv' av' H locs 0 0 (F0 m 16 ls [.int s0]) := by
  unfold jM_grid_16 at hf
  refine lv_istore_n (lv' := [(2, .int s0), (0, .ref q), (1, .int x1)]) C.1.1 C.1.2.1 dM_grid_16 rfl hl (by decide) rfl (fun ls hl => ?_)
  refine lv_iconst (v := (0 : Int32)) C.1.1 C.1.2.1 dM_grid_17 (by decide) ?_
  refine lv_istore_n (lv' := [(3, .int (0 : Int32)), (2, .int s0), (0, .ref q), (1, .int x1)]) C.1.1 C.1.2.1 dM_grid_18 rfl hl (by decide) rfl (fun ls hl => ?_)
  exact wM_grid_19 C hr hlk hrv FU iv av x1 s0 (0 : Int32) _ _ ls (lv_sub hl [2, 3, 1, 0] rfl) hw hf
set_option maxHeartbeats 4000000 in
set_option maxRecDepth 100000 in
theorem wM_grid_11 {p : Program} {l : Launch} {e : Env} {s : State} {m : MethodId} {args : Array Value} {below : List Frame} {meth : Method} {c : Code} {g : gT} {q : Nat} {ad : Nat → Nat} {X : va_W} {rv : Option Value} {iv' : Nat → Int32} {av' : Nat → Nat → Int32} {r' : Int32} (C : mCx p m c cM_grid 6 s args g "MidiDeskModel") (hr : meth.sig.returnType = (some .int)) (hlk : meth.locks = false) (hrv : rv = some (.int r')) (iv : Nat → Int32) (av : Nat → Nat → Int32) (x1 : Int32) (H : Heap) (locs : List Loc) (ls : Array Slot) (hl : lv_has ls 6 [(0, .ref q), (1, .int x1)]) (hw : mWd g (mA g q ad X s.heap.size) s.heap q ad X iv av H locs) (hf : jM_grid_11 iv av x1 = some (r', iv', av')) : mG p l e rM_grid s m args below meth c g q ad X rv iv' av' H locs 0 0 (F0 m 11 ls []) := by
  unfold jM_grid_11 at hf
  refine lv_iconst (v := (1 : Int32)) C.1.1 C.1.2.1 dM_grid_11 (by decide) ?_
  refine lv_goto (tgt := 16) C.1.1 C.1.2.1 dM_grid_12 (by decide) ?_
  exact wM_grid_16 C hr hlk hrv iv av x1 (1 : Int32) _ _ ls (lv_sub hl [0, 1] rfl) hw hf
set_option maxHeartbeats 4000000 in
set_option maxRecDepth 100000 in
theorem cM_grid_met {l : Launch} {g : gT} {q : Nat} {ad : Nat → Nat} {X : va_W} {iv iv' : Nat → Int32} {av av' : Nat → Nat → Int32} {x1 : Int32} {r' : Int32} (hf : fM_grid iv av x1 = some (r', iv', av')) : mMet l yM_grid cM_grid 6 (some .int) rM_grid g q ad X iv av [.ref q, .int x1] (some (.int r')) iv' av' := by
  refine m_entry (by decide) (Nat.le_of_ble_eq_true rfl) ?_
  intro p e s m args below meth c ls C hr hlk hnm hl hw
  have hrv : ((some (.int r')) : Option Value) = (some (.int r')) := rfl
  have C : mCx p m c cM_grid 6 s args g "MidiDeskModel" := C
  have hl : lv_has ls 6 [(0, .ref q), (1, .int x1)] := hl
  unfold fM_grid at hf
  refine lv_iload_n C.1.1 C.1.2.1 dM_grid_0 rfl (lv_at hl 1 rfl) ?_
  refine lv_iconst (v := (1 : Int32)) C.1.1 C.1.2.1 dM_grid_1 (by decide) ?_
  refine lv_icmp_lt (tgt := 11) C.1.1 C.1.2.1 dM_grid_2 (by decide) (fun c1 => ?_) (fun c1 => ?_)
  · have hf := ts_t hf c1
    exact wM_grid_11 C hr hlk hrv iv av x1 _ _ ls (lv_sub hl [0, 1] rfl) hw hf
  · have hf := ts_f hf c1
    refine lv_iload_n C.1.1 C.1.2.1 dM_grid_5 rfl (lv_at hl 1 rfl) ?_
    refine lv_ldc C.1.1 C.1.2.1 C.1.2.2.2.1 (C.1.2.2.2.2 _ gw_926) dM_grid_6 ?_
    refine lv_icmp_le (tgt := 15) C.1.1 C.1.2.1 dM_grid_8 (by decide) (fun c2 => ?_) (fun c2 => ?_)
    · have hf := ts_t hf c2
      refine lv_iconst (v := (0 : Int32)) C.1.1 C.1.2.1 dM_grid_15 (by decide) ?_
      exact wM_grid_16 C hr hlk hrv iv av x1 (0 : Int32) _ _ ls (lv_sub hl [0, 1] rfl) hw hf
    · have hf := ts_f hf c2
      exact wM_grid_11 C hr hlk hrv iv av x1 _ _ ls (lv_sub hl [0, 1] rfl) hw hf
abbrev cM_put : ByteArray := prog_8_method_35_code
abbrev yM_put : MethodName := ⟨"MidiDeskModel", "put", "(I)V"⟩
theorem kM_put : yM_put.cls ≠ "java/lang/invoke/MethodHandle" ∧ yM_put.cls ≠ "java/lang/invoke/VarHandle" ∧ (parseMethodDescriptor yM_put.desc).map (fun d => d.parameters.length) = some 1 := by decide +kernel
abbrev rM_put : Room := { frames := 0, cells := 0, slots := 0, locals := 0 }
theorem dM_put_0 : decode cM_put 0 = .ok (.aload_n 0, 1) := by decide +kernel
theorem dM_put_1 : decode cM_put 1 = .ok (.getfield 44, 3) := by decide +kernel
theorem dM_put_4 : decode cM_put 4 = .ok (.aload_n 0, 1) := by decide +kernel
theorem dM_put_5 : decode cM_put 5 = .ok (.getfield 187, 3) := by decide +kernel
theorem dM_put_8 : decode cM_put 8 = .ok (.iload_n 1, 1) := by decide +kernel
theorem dM_put_9 : decode cM_put 9 = .ok (.iastore, 1) := by decide +kernel
theorem dM_put_10 : decode cM_put 10 = .ok (.aload_n 0, 1) := by decide +kernel
theorem dM_put_11 : decode cM_put 11 = .ok (.dup, 1) := by decide +kernel
theorem dM_put_12 : decode cM_put 12 = .ok (.getfield 187, 3) := by decide +kernel
theorem dM_put_15 : decode cM_put 15 = .ok (.iconst 1, 1) := by decide +kernel
theorem dM_put_16 : decode cM_put 16 = .ok (.iadd, 1) := by decide +kernel
theorem dM_put_17 : decode cM_put 17 = .ok (.putfield 187, 3) := by decide +kernel
theorem dM_put_20 : decode cM_put 20 = .ok (.return_, 1) := by decide +kernel
def fM_put (iv : Nat → Int32) (av : Nat → Nat → Int32) (x1 : Int32) : Option ((Nat → Int32) × (Nat → Nat → Int32)) := if (iv 12) < 0 ∨ 32768 ≤ (iv 12).toNatClampNeg then none else (some (upd iv 12 ((iv 12) + (1 : Int32)), up2 av 11 (iv 12).toNatClampNeg x1))
set_option maxHeartbeats 4000000 in
set_option maxRecDepth 100000 in
theorem cM_put_met {l : Launch} {g : gT} {q : Nat} {ad : Nat → Nat} {X : va_W} {iv iv' : Nat → Int32} {av av' : Nat → Nat → Int32} {x1 : Int32} (hf : fM_put iv av x1 = some (iv', av')) : mMet l yM_put cM_put 2 none rM_put g q ad X iv av [.ref q, .int x1] none iv' av' := by
  refine m_entry (by decide) (Nat.le_of_ble_eq_true rfl) ?_
  intro p e s m args below meth c ls C hr hlk hnm hl hw
  have hrv : (none : Option Value) = none := rfl
  have C : mCx p m c cM_put 2 s args g "MidiDeskModel" := C
  have hl : lv_has ls 2 [(0, .ref q), (1, .int x1)] := hl
  unfold fM_put at hf
  refine lv_aload_n C.1.1 C.1.2.1 dM_put_0 rfl (lv_at hl 0 rfl) ?_
  refine mg_written C hw dM_put_1 ?_
  refine lv_aload_n C.1.1 C.1.2.1 dM_put_4 rfl (lv_at hl 0 rfl) ?_
  refine mg_writtenSize C hw dM_put_5 ?_
  refine lv_iload_n C.1.1 C.1.2.1 dM_put_8 rfl (lv_at hl 1 rfl) ?_
  obtain ⟨h1, hf⟩ := ts_g hf
  refine ms_written C hw h1 dM_put_9 (fun H locs hw => ?_)
  refine lv_aload_n C.1.1 C.1.2.1 dM_put_10 rfl (lv_at hl 0 rfl) ?_
  refine lv_dup C.1.1 C.1.2.1 dM_put_11 rfl ?_
  refine mg_writtenSize C hw dM_put_12 ?_
  refine lv_iconst (v := (1 : Int32)) C.1.1 C.1.2.1 dM_put_15 (by decide) ?_
  refine lv_iadd C.1.1 C.1.2.1 dM_put_16 ?_
  refine mp_writtenSize C hw dM_put_17 (fun H locs hw => ?_)
  exact m_retv C hr hlk hrv hw hf ⟨Nat.le_of_ble_eq_true rfl, Nat.le_of_ble_eq_true rfl⟩ dM_put_20
abbrev cM_puts : ByteArray := prog_8_method_36_code
abbrev yM_puts : MethodName := ⟨"MidiDeskModel", "put", "(II)V"⟩
theorem kM_puts : yM_puts.cls ≠ "java/lang/invoke/MethodHandle" ∧ yM_puts.cls ≠ "java/lang/invoke/VarHandle" ∧ (parseMethodDescriptor yM_puts.desc).map (fun d => d.parameters.length) = some 2 := by decide +kernel
abbrev rM_puts : Room := { frames := 1, cells := 0, slots := 0, locals := 21 }
theorem dM_puts_0 : decode cM_puts 0 = .ok (.iload_n 2, 1) := by decide +kernel
theorem dM_puts_1 : decode cM_puts 1 = .ok (.iconst 1, 1) := by decide +kernel
theorem dM_puts_2 : decode cM_puts 2 = .ok (.isub, 1) := by decide +kernel
theorem dM_puts_3 : decode cM_puts 3 = .ok (.istore_n 3, 1) := by decide +kernel
theorem dM_puts_4 : decode cM_puts 4 = .ok (.iload_n 3, 1) := by decide +kernel
theorem dM_puts_5 : decode cM_puts 5 = .ok (.ifCond .lt 23, 3) := by decide +kernel
theorem dM_puts_8 : decode cM_puts 8 = .ok (.aload_n 0, 1) := by decide +kernel
theorem dM_puts_9 : decode cM_puts 9 = .ok (.iload_n 1, 1) := by decide +kernel
theorem dM_puts_10 : decode cM_puts 10 = .ok (.bipush 8, 2) := by decide +kernel
theorem dM_puts_12 : decode cM_puts 12 = .ok (.iload_n 3, 1) := by decide +kernel
theorem dM_puts_13 : decode cM_puts 13 = .ok (.imul, 1) := by decide +kernel
theorem dM_puts_14 : decode cM_puts 14 = .ok (.ishr, 1) := by decide +kernel
theorem dM_puts_15 : decode cM_puts 15 = .ok (.sipush 255, 3) := by decide +kernel
theorem dM_puts_18 : decode cM_puts 18 = .ok (.iand, 1) := by decide +kernel
theorem dM_puts_19 : decode cM_puts 19 = .ok (.invokevirtual 190, 3) := by decide +kernel
theorem dM_puts_22 : decode cM_puts 22 = .ok (.iinc 3 (-1), 3) := by decide +kernel
theorem dM_puts_25 : decode cM_puts 25 = .ok (.goto (-21), 3) := by decide +kernel
theorem dM_puts_28 : decode cM_puts 28 = .ok (.return_, 1) := by decide +kernel
def lM_puts_4 : Nat → (Nat → Int32) → (Nat → Nat → Int32) → Int32 → Int32 → Option ((Nat → Int32) × (Nat → Nat → Int32))
  | 0 => fun _ _ _ _ => none
  | k + 1 => fun iv av x1 x3 => if x3 < 0 then (some (iv, av)) else ((fM_put iv av ((x1 >>> (((8 : Int32) * x3) &&& 31)) &&& (255 : Int32))).bind fun (iv2, av2) => lM_puts_4 k iv2 av2 x1 (x3 + (-1)))
def fM_puts (iv : Nat → Int32) (av : Nat → Nat → Int32) (x1 : Int32) (x2 : Int32) : Option ((Nat → Int32) × (Nat → Nat → Int32)) := lM_puts_4 FU iv av x1 (x2 - (1 : Int32))
set_option maxHeartbeats 4000000 in
set_option maxRecDepth 100000 in
theorem wM_puts_4 {p : Program} {l : Launch} {e : Env} {s : State} {m : MethodId} {args : Array Value} {below : List Frame} {meth : Method} {c : Code} {g : gT} {q : Nat} {ad : Nat → Nat} {X : va_W} {rv : Option Value} {iv' : Nat → Int32} {av' : Nat → Nat → Int32} (C : mCx p m c cM_puts 4 s args g "MidiDeskModel") (hr : meth.sig.returnType = none) (hlk : meth.locks = false) (hrv : rv = none) (k : Nat) : ∀ (iv : Nat → Int32) (av : Nat → Nat → Int32) (x1 : Int32) (x3 : Int32) (H : Heap) (locs : List Loc) (ls : Array Slot), lv_has ls 4 [(0, .ref q), (1, .int x1), (3, .int x3)] → mWd g (mA g q ad X s.heap.size) s.heap q ad X iv av H locs → lM_puts_4 k iv av x1 x3 = some (iv', av') → mG p l e rM_puts s m args below meth c g q ad X rv iv' av' H locs 0 0 (F0 m 4 ls []) := by
  induction k with
  | zero => intro iv av x1 x3 H locs ls hl hw hf; cases hf
  | succ k ih =>
    intro iv av x1 x3 H locs ls hl hw hf
    have hf : (if x3 < 0 then (some (iv, av)) else ((fM_put iv av ((x1 >>> (((8 : Int32) * x3) &&& 31)) &&& (255 : Int32))).bind fun (iv2, av2) => lM_puts_4 k iv2 av2 x1 (x3 + (-1)))) = some (iv', av') := hf
    refine lv_iload_n C.1.1 C.1.2.1 dM_puts_4 rfl (lv_at hl 2 rfl) ?_
    refine lv_if_lt (tgt := 28) C.1.1 C.1.2.1 dM_puts_5 (by decide) (fun c1 => ?_) (fun c1 => ?_)
    · have hf := ts_t hf c1
      exact m_retv C hr hlk hrv hw hf ⟨Nat.le_of_ble_eq_true rfl, Nat.le_of_ble_eq_true rfl⟩ dM_puts_28
    · have hf := ts_f hf c1
      refine lv_aload_n C.1.1 C.1.2.1 dM_puts_8 rfl (lv_at hl 0 rfl) ?_
      refine lv_iload_n C.1.1 C.1.2.1 dM_puts_9 rfl (lv_at hl 1 rfl) ?_
      refine lv_bipush (v := (8 : Int32)) C.1.1 C.1.2.1 dM_puts_10 (by decide) ?_
      refine lv_iload_n C.1.1 C.1.2.1 dM_puts_12 rfl (lv_at hl 2 rfl) ?_
      refine lv_imul C.1.1 C.1.2.1 dM_puts_13 ?_
      refine lv_ishr C.1.1 C.1.2.1 dM_puts_14 ?_
      refine lv_sipush (v := (255 : Int32)) C.1.1 C.1.2.1 dM_puts_15 (by decide) ?_
      refine lv_iand C.1.1 C.1.2.1 dM_puts_18 ?_
      obtain ⟨⟨iv2, av2⟩, g2, hf⟩ := ts_b hf
      dsimp only at hf
      refine m_callV (rest := []) (As := [.int ((x1 >>> (((8 : Int32) * x3) &&& 31)) &&& (255 : Int32))]) (rv := none) C hl.1 hw (cM_put_met g2) (callW_of (rm := rM_put) 1 C.1.2.2.2.2 gw_944 gw_946 gw_47 gw_55 gw_947 kM_put ⟨Nat.le_of_ble_eq_true rfl, Nat.le_of_ble_eq_true rfl⟩) rfl rfl (Nat.le_of_ble_eq_true rfl) dM_puts_19 ⟨Nat.le_of_ble_eq_true rfl, Nat.le_of_ble_eq_true rfl⟩ (fun H locs hw => ?_)
      refine W.eq (g2 := F0 m 22 ls []) rfl ?_
      refine lv_iinc (v := x3 + (-1)) (lv' := [(3, .int (x3 + (-1))), (0, .ref q), (1, .int x1)]) C.1.1 C.1.2.1 dM_puts_22 hl (k := 2) rfl rfl (by decide) rfl (fun ls hl => ?_)
      refine lv_goto (tgt := 4) C.1.1 C.1.2.1 dM_puts_25 (by decide) ?_
      exact ih iv2 av2 x1 (x3 + (-1)) _ _ ls (lv_sub hl [1, 2, 0] rfl) hw hf
set_option maxHeartbeats 4000000 in
set_option maxRecDepth 100000 in
theorem cM_puts_met {l : Launch} {g : gT} {q : Nat} {ad : Nat → Nat} {X : va_W} {iv iv' : Nat → Int32} {av av' : Nat → Nat → Int32} {x1 : Int32} {x2 : Int32} (hf : fM_puts iv av x1 x2 = some (iv', av')) : mMet l yM_puts cM_puts 4 none rM_puts g q ad X iv av [.ref q, .int x1, .int x2] none iv' av' := by
  refine m_entry (by decide) (Nat.le_of_ble_eq_true rfl) ?_
  intro p e s m args below meth c ls C hr hlk hnm hl hw
  have hrv : (none : Option Value) = none := rfl
  have C : mCx p m c cM_puts 4 s args g "MidiDeskModel" := C
  have hl : lv_has ls 4 [(0, .ref q), (1, .int x1), (2, .int x2)] := hl
  unfold fM_puts at hf
  refine lv_iload_n C.1.1 C.1.2.1 dM_puts_0 rfl (lv_at hl 2 rfl) ?_
  refine lv_iconst (v := (1 : Int32)) C.1.1 C.1.2.1 dM_puts_1 (by decide) ?_
  refine lv_isub C.1.1 C.1.2.1 dM_puts_2 ?_
  refine lv_istore_n (lv' := [(3, .int (x2 - (1 : Int32))), (0, .ref q), (1, .int x1), (2, .int x2)]) C.1.1 C.1.2.1 dM_puts_3 rfl hl (by decide) rfl (fun ls hl => ?_)
  exact wM_puts_4 C hr hlk hrv FU iv av x1 (x2 - (1 : Int32)) _ _ ls (lv_sub hl [1, 2, 0] rfl) hw hf
abbrev cM_putNumber : ByteArray := prog_8_method_37_code
abbrev yM_putNumber : MethodName := ⟨"MidiDeskModel", "putNumber", "(I)V"⟩
theorem kM_putNumber : yM_putNumber.cls ≠ "java/lang/invoke/MethodHandle" ∧ yM_putNumber.cls ≠ "java/lang/invoke/VarHandle" ∧ (parseMethodDescriptor yM_putNumber.desc).map (fun d => d.parameters.length) = some 1 := by decide +kernel
abbrev rM_putNumber : Room := { frames := 1, cells := 0, slots := 0, locals := 21 }
theorem dM_putNumber_0 : decode cM_putNumber 0 = .ok (.iload_n 1, 1) := by decide +kernel
theorem dM_putNumber_1 : decode cM_putNumber 1 = .ok (.ldc 193, 2) := by decide +kernel
theorem dM_putNumber_3 : decode cM_putNumber 3 = .ok (.if_icmp .le 7, 3) := by decide +kernel
theorem dM_putNumber_6 : decode cM_putNumber 6 = .ok (.iconst 4, 1) := by decide +kernel
theorem dM_putNumber_7 : decode cM_putNumber 7 = .ok (.goto 25, 3) := by decide +kernel
theorem dM_putNumber_10 : decode cM_putNumber 10 = .ok (.iload_n 1, 1) := by decide +kernel
theorem dM_putNumber_11 : decode cM_putNumber 11 = .ok (.sipush 16383, 3) := by decide +kernel
theorem dM_putNumber_14 : decode cM_putNumber 14 = .ok (.if_icmp .le 7, 3) := by decide +kernel
theorem dM_putNumber_17 : decode cM_putNumber 17 = .ok (.iconst 3, 1) := by decide +kernel
theorem dM_putNumber_18 : decode cM_putNumber 18 = .ok (.goto 14, 3) := by decide +kernel
theorem dM_putNumber_21 : decode cM_putNumber 21 = .ok (.iload_n 1, 1) := by decide +kernel
theorem dM_putNumber_22 : decode cM_putNumber 22 = .ok (.bipush 127, 2) := by decide +kernel
theorem dM_putNumber_24 : decode cM_putNumber 24 = .ok (.if_icmp .le 7, 3) := by decide +kernel
theorem dM_putNumber_27 : decode cM_putNumber 27 = .ok (.iconst 2, 1) := by decide +kernel
theorem dM_putNumber_28 : decode cM_putNumber 28 = .ok (.goto 4, 3) := by decide +kernel
theorem dM_putNumber_31 : decode cM_putNumber 31 = .ok (.iconst 1, 1) := by decide +kernel
theorem dM_putNumber_32 : decode cM_putNumber 32 = .ok (.istore_n 2, 1) := by decide +kernel
theorem dM_putNumber_33 : decode cM_putNumber 33 = .ok (.iload_n 2, 1) := by decide +kernel
theorem dM_putNumber_34 : decode cM_putNumber 34 = .ok (.iconst 1, 1) := by decide +kernel
theorem dM_putNumber_35 : decode cM_putNumber 35 = .ok (.isub, 1) := by decide +kernel
theorem dM_putNumber_36 : decode cM_putNumber 36 = .ok (.istore_n 3, 1) := by decide +kernel
theorem dM_putNumber_37 : decode cM_putNumber 37 = .ok (.iload_n 3, 1) := by decide +kernel
theorem dM_putNumber_38 : decode cM_putNumber 38 = .ok (.ifCond .lt 34, 3) := by decide +kernel
theorem dM_putNumber_41 : decode cM_putNumber 41 = .ok (.aload_n 0, 1) := by decide +kernel
theorem dM_putNumber_42 : decode cM_putNumber 42 = .ok (.iload_n 1, 1) := by decide +kernel
theorem dM_putNumber_43 : decode cM_putNumber 43 = .ok (.bipush 7, 2) := by decide +kernel
theorem dM_putNumber_45 : decode cM_putNumber 45 = .ok (.iload_n 3, 1) := by decide +kernel
theorem dM_putNumber_46 : decode cM_putNumber 46 = .ok (.imul, 1) := by decide +kernel
theorem dM_putNumber_47 : decode cM_putNumber 47 = .ok (.ishr, 1) := by decide +kernel
theorem dM_putNumber_48 : decode cM_putNumber 48 = .ok (.bipush 127, 2) := by decide +kernel
theorem dM_putNumber_50 : decode cM_putNumber 50 = .ok (.iand, 1) := by decide +kernel
theorem dM_putNumber_51 : decode cM_putNumber 51 = .ok (.iload_n 3, 1) := by decide +kernel
theorem dM_putNumber_52 : decode cM_putNumber 52 = .ok (.ifCond .le 9, 3) := by decide +kernel
theorem dM_putNumber_55 : decode cM_putNumber 55 = .ok (.sipush 128, 3) := by decide +kernel
theorem dM_putNumber_58 : decode cM_putNumber 58 = .ok (.goto 4, 3) := by decide +kernel
theorem dM_putNumber_61 : decode cM_putNumber 61 = .ok (.iconst 0, 1) := by decide +kernel
theorem dM_putNumber_62 : decode cM_putNumber 62 = .ok (.ior, 1) := by decide +kernel
theorem dM_putNumber_63 : decode cM_putNumber 63 = .ok (.invokevirtual 190, 3) := by decide +kernel
theorem dM_putNumber_66 : decode cM_putNumber 66 = .ok (.iinc 3 (-1), 3) := by decide +kernel
theorem dM_putNumber_69 : decode cM_putNumber 69 = .ok (.goto (-32), 3) := by decide +kernel
theorem dM_putNumber_72 : decode cM_putNumber 72 = .ok (.return_, 1) := by decide +kernel
def jM_putNumber_62 (K37 : (Nat → Int32) → (Nat → Nat → Int32) → Int32 → Int32 → Option ((Nat → Int32) × (Nat → Nat → Int32))) (iv : Nat → Int32) (av : Nat → Nat → Int32) (x1 : Int32) (x3 : Int32) (s1 : Int32) (s2 : Int32) : Option ((Nat → Int32) × (Nat → Nat → Int32)) := (fM_put iv av (s1 ||| s2)).bind fun (iv1, av1) => K37 iv1 av1 x1 (x3 + (-1))
def lM_putNumber_37 : Nat → (Nat → Int32) → (Nat → Nat → Int32) → Int32 → Int32 → Option ((Nat → Int32) × (Nat → Nat → Int32))
  | 0 => fun _ _ _ _ => none
  | k + 1 => fun iv av x1 x3 => if x3 < 0 then (some (iv, av)) else (if x3 ≤ 0 then (jM_putNumber_62 (lM_putNumber_37 k) iv av x1 x3 ((x1 >>> (((7 : Int32) * x3) &&& 31)) &&& (127 : Int32)) (0 : Int32)) else (jM_putNumber_62 (lM_putNumber_37 k) iv av x1 x3 ((x1 >>> (((7 : Int32) * x3) &&& 31)) &&& (127 : Int32)) (128 : Int32)))
def jM_putNumber_32 (iv : Nat → Int32) (av : Nat → Nat → Int32) (x1 : Int32) (s0 : Int32) : Option ((Nat → Int32) × (Nat → Nat → Int32)) := lM_putNumber_37 FU iv av x1 (s0 - (1 : Int32))
def fM_putNumber (iv : Nat → Int32) (av : Nat → Nat → Int32) (x1 : Int32) : Option ((Nat → Int32) × (Nat → Nat → Int32)) := if x1 ≤ (2097151 : Int32) then (if x1 ≤ (16383 : Int32) then (if x1 ≤ (127 : Int32) then (jM_putNumber_32 iv av x1 (1 : Int32)) else (jM_putNumber_32 iv av x1 (2 : Int32))) else (jM_putNumber_32 iv av x1 (3 : Int32))) else (jM_putNumber_32 iv av x1 (4 : Int32))
set_option maxHeartbeats 4000000 in
set_option maxRecDepth 100000 in
theorem wM_putNumber_62 {p : Program} {l : Launch} {e : Env} {s : State} {m : MethodId} {args : Array Value} {below : List Frame} {meth : Method} {c : Code} {g : gT} {q : Nat} {ad : Nat → Nat} {X : va_W} {rv : Option Value} {iv' : Nat → Int32} {av' : Nat → Nat → Int32} (C : mCx p m c cM_putNumber 4 s args g "MidiDeskModel") (hr : meth.sig.returnType = none) (hlk : meth.locks = false) (hrv : rv = none) {K37 : (Nat → Int32) → (Nat → Nat → Int32) → Int32 → Int32 → Option ((Nat → Int32) × (Nat → Nat → Int32))} (hK37 : ∀ (iv : Nat → Int32) (av : Nat → Nat → Int32) (x1 : Int32) (x3 : Int32) (H : Heap) (locs : List Loc) (ls : Array Slot), lv_has ls 4 [(0, .ref q), (1, .int x1), (3, .int x3)] → mWd g (mA g q ad X s.heap.size) s.heap q ad X iv av H locs → K37 iv av x1 x3 = some (iv', av') → mG p l e rM_putNumber s m args below meth c g q ad X rv iv' av' H locs 0 0 (F0 m 37 ls [])) (iv : Nat → Int32) (av : Nat → Nat → Int32) (x1 : Int32) (x3 : Int32) (s1 : Int32) (s2 : Int32) (H : Heap) (locs : List Loc) (ls : Array Slot) (hl : lv_has ls 4 [(0, .ref q), (1, .int x1), (3, .int x3)]) (hw : mWd g (mA g q ad X s.heap.size) s.heap q ad X iv av H locs) (hf : jM_putNumber_62 K37 iv av x1 x3 s1 s2 = some (iv', av')) : mG p l e rM_putNumber s m args below meth c g q ad X rv iv' av' H locs 0 0 (F0 m 62 ls [.int s2, .int s1, .ref q]) := by
  unfold jM_putNumber_62 at hf
  refine lv_ior C.1.1 C.1.2.1 dM_putNumber_62 ?_
  obtain ⟨⟨iv1, av1⟩, g1, hf⟩ := ts_b hf
  dsimp only at hf
  refine m_callV (rest := []) (As := [.int (s1 ||| s2)]) (rv := none) C hl.1 hw (cM_put_met g1) (callW_of (rm := rM_put) 1 C.1.2.2.2.2 gw_944 gw_946 gw_47 gw_55 gw_947 kM_put ⟨Nat.le_of_ble_eq_true rfl, Nat.le_of_ble_eq_true rfl⟩) rfl rfl (Nat.le_of_ble_eq_true rfl) dM_putNumber_63 ⟨Nat.le_of_ble_eq_true rfl, Nat.le_of_ble_eq_true rfl⟩ (fun H locs hw => ?_)
  refine W.eq (g2 := F0 m 66 ls []) rfl ?_
  refine lv_iinc (v := x3 + (-1)) (lv' := [(3, .int (x3 + (-1))), (0, .ref q), (1, .int x1)]) C.1.1 C.1.2.1 dM_putNumber_66 hl (k := 2) rfl rfl (by decide) rfl (fun ls hl => ?_)
  refine lv_goto (tgt := 37) C.1.1 C.1.2.1 dM_putNumber_69 (by decide) ?_
  exact hK37 iv1 av1 x1 (x3 + (-1)) _ _ ls (lv_sub hl [1, 2, 0] rfl) hw hf
set_option maxHeartbeats 4000000 in
set_option maxRecDepth 100000 in
theorem wM_putNumber_37 {p : Program} {l : Launch} {e : Env} {s : State} {m : MethodId} {args : Array Value} {below : List Frame} {meth : Method} {c : Code} {g : gT} {q : Nat} {ad : Nat → Nat} {X : va_W} {rv : Option Value} {iv' : Nat → Int32} {av' : Nat → Nat → Int32} (C : mCx p m c cM_putNumber 4 s args g "MidiDeskModel") (hr : meth.sig.returnType = none) (hlk : meth.locks = false) (hrv : rv = none) (k : Nat) : ∀ (iv : Nat → Int32) (av : Nat → Nat → Int32) (x1 : Int32) (x3 : Int32) (H : Heap) (locs : List Loc) (ls : Array Slot), lv_has ls 4 [(0, .ref q), (1, .int x1), (3, .int x3)] → mWd g (mA g q ad X s.heap.size) s.heap q ad X iv av H locs → lM_putNumber_37 k iv av x1 x3 = some (iv', av') → mG p l e rM_putNumber s m args below meth c g q ad X rv iv' av' H locs 0 0 (F0 m 37 ls []) := by
  induction k with
  | zero => intro iv av x1 x3 H locs ls hl hw hf; cases hf
  | succ k ih =>
    intro iv av x1 x3 H locs ls hl hw hf
    have hf : (if x3 < 0 then (some (iv, av)) else (if x3 ≤ 0 then (jM_putNumber_62 (lM_putNumber_37 k) iv av x1 x3 ((x1 >>> (((7 : Int32) * x3) &&& 31)) &&& (127 : Int32)) (0 : Int32)) else (jM_putNumber_62 (lM_putNumber_37 k) iv av x1 x3 ((x1 >>> (((7 : Int32) * x3) &&& 31)) &&& (127 : Int32)) (128 : Int32)))) = some (iv', av') := hf
    refine lv_iload_n C.1.1 C.1.2.1 dM_putNumber_37 rfl (lv_at hl 2 rfl) ?_
    refine lv_if_lt (tgt := 72) C.1.1 C.1.2.1 dM_putNumber_38 (by decide) (fun c1 => ?_) (fun c1 => ?_)
    · have hf := ts_t hf c1
      exact m_retv C hr hlk hrv hw hf ⟨Nat.le_of_ble_eq_true rfl, Nat.le_of_ble_eq_true rfl⟩ dM_putNumber_72
    · have hf := ts_f hf c1
      refine lv_aload_n C.1.1 C.1.2.1 dM_putNumber_41 rfl (lv_at hl 0 rfl) ?_
      refine lv_iload_n C.1.1 C.1.2.1 dM_putNumber_42 rfl (lv_at hl 1 rfl) ?_
      refine lv_bipush (v := (7 : Int32)) C.1.1 C.1.2.1 dM_putNumber_43 (by decide) ?_
      refine lv_iload_n C.1.1 C.1.2.1 dM_putNumber_45 rfl (lv_at hl 2 rfl) ?_
      refine lv_imul C.1.1 C.1.2.1 dM_putNumber_46 ?_
      refine lv_ishr C.1.1 C.1.2.1 dM_putNumber_47 ?_
      refine lv_bipush (v := (127 : Int32)) C.1.1 C.1.2.1 dM_putNumber_48 (by decide) ?_
      refine lv_iand C.1.1 C.1.2.1 dM_putNumber_50 ?_
      refine lv_iload_n C.1.1 C.1.2.1 dM_putNumber_51 rfl (lv_at hl 2 rfl) ?_
      refine lv_if_le (tgt := 61) C.1.1 C.1.2.1 dM_putNumber_52 (by decide) (fun c2 => ?_) (fun c2 => ?_)
      · have hf := ts_t hf c2
        refine lv_iconst (v := (0 : Int32)) C.1.1 C.1.2.1 dM_putNumber_61 (by decide) ?_
        exact wM_putNumber_62 C hr hlk hrv ih iv av x1 x3 ((x1 >>> (((7 : Int32) * x3) &&& 31)) &&& (127 : Int32)) (0 : Int32) _ _ ls (lv_sub hl [0, 1, 2] rfl) hw hf
      · have hf := ts_f hf c2
        refine lv_sipush (v := (128 : Int32)) C.1.1 C.1.2.1 dM_putNumber_55 (by decide) ?_
        refine lv_goto (tgt := 62) C.1.1 C.1.2.1 dM_putNumber_58 (by decide) ?_
        exact wM_putNumber_62 C hr hlk hrv ih iv av x1 x3 ((x1 >>> (((7 : Int32) * x3) &&& 31)) &&& (127 : Int32)) (128 : Int32) _ _ ls (lv_sub hl [0, 1, 2] rfl) hw hf
set_option maxHeartbeats 4000000 in
set_option maxRecDepth 100000 in
theorem wM_putNumber_32 {p : Program} {l : Launch} {e : Env} {s : State} {m : MethodId} {args : Array Value} {below : List Frame} {meth : Method} {c : Code} {g : gT} {q : Nat} {ad : Nat → Nat} {X : va_W} {rv : Option Value} {iv' : Nat → Int32} {av' : Nat → Nat → Int32} (C : mCx p m c cM_putNumber 4 s args g "MidiDeskModel") (hr : meth.sig.returnType = none) (hlk : meth.locks = false) (hrv : rv = none) (iv : Nat → Int32) (av : Nat → Nat → Int32) (x1 : Int32) (s0 : Int32) (H : Heap) (locs : List Loc) (ls : Array Slot) (hl : lv_has ls 4 [(0, .ref q), (1, .int x1)]) (hw : mWd g (mA g q ad X s.heap.size) s.heap q ad X iv av H locs) (hf : jM_putNumber_32 iv av x1 s0 = some (iv', av')) : mG p l e rM_putNumber s m args below meth c g q ad X rv iv' av' H locs 0 0 (F0 m 32 ls [.int s0]) := by
  unfold jM_putNumber_32 at hf
  refine lv_istore_n (lv' := [(2, .int s0), (0, .ref q), (1, .int x1)]) C.1.1 C.1.2.1 dM_putNumber_32 rfl hl (by decide) rfl (fun ls hl => ?_)
  refine lv_iload_n C.1.1 C.1.2.1 dM_putNumber_33 rfl (lv_at hl 0 rfl) ?_
  refine lv_iconst (v := (1 : Int32)) C.1.1 C.1.2.1 dM_putNumber_34 (by decide) ?_
  refine lv_isub C.1.1 C.1.2.1 dM_putNumber_35 ?_
  refine lv_istore_n (lv' := [(3, .int (s0 - (1 : Int32))), (2, .int s0), (0, .ref q), (1, .int x1)]) C.1.1 C.1.2.1 dM_putNumber_36 rfl hl (by decide) rfl (fun ls hl => ?_)
  exact wM_putNumber_37 C hr hlk hrv FU iv av x1 (s0 - (1 : Int32)) _ _ ls (lv_sub hl [2, 3, 0] rfl) hw hf
set_option maxHeartbeats 4000000 in
set_option maxRecDepth 100000 in
theorem cM_putNumber_met {l : Launch} {g : gT} {q : Nat} {ad : Nat → Nat} {X : va_W} {iv iv' : Nat → Int32} {av av' : Nat → Nat → Int32} {x1 : Int32} (hf : fM_putNumber iv av x1 = some (iv', av')) : mMet l yM_putNumber cM_putNumber 4 none rM_putNumber g q ad X iv av [.ref q, .int x1] none iv' av' := by
  refine m_entry (by decide) (Nat.le_of_ble_eq_true rfl) ?_
  intro p e s m args below meth c ls C hr hlk hnm hl hw
  have hrv : (none : Option Value) = none := rfl
  have C : mCx p m c cM_putNumber 4 s args g "MidiDeskModel" := C
  have hl : lv_has ls 4 [(0, .ref q), (1, .int x1)] := hl
  unfold fM_putNumber at hf
  refine lv_iload_n C.1.1 C.1.2.1 dM_putNumber_0 rfl (lv_at hl 1 rfl) ?_
  refine lv_ldc C.1.1 C.1.2.1 C.1.2.2.2.1 (C.1.2.2.2.2 _ gw_957) dM_putNumber_1 ?_
  refine lv_icmp_le (tgt := 10) C.1.1 C.1.2.1 dM_putNumber_3 (by decide) (fun c1 => ?_) (fun c1 => ?_)
  · have hf := ts_t hf c1
    refine lv_iload_n C.1.1 C.1.2.1 dM_putNumber_10 rfl (lv_at hl 1 rfl) ?_
    refine lv_sipush (v := (16383 : Int32)) C.1.1 C.1.2.1 dM_putNumber_11 (by decide) ?_
    refine lv_icmp_le (tgt := 21) C.1.1 C.1.2.1 dM_putNumber_14 (by decide) (fun c2 => ?_) (fun c2 => ?_)
    · have hf := ts_t hf c2
      refine lv_iload_n C.1.1 C.1.2.1 dM_putNumber_21 rfl (lv_at hl 1 rfl) ?_
      refine lv_bipush (v := (127 : Int32)) C.1.1 C.1.2.1 dM_putNumber_22 (by decide) ?_
      refine lv_icmp_le (tgt := 31) C.1.1 C.1.2.1 dM_putNumber_24 (by decide) (fun c3 => ?_) (fun c3 => ?_)
      · have hf := ts_t hf c3
        refine lv_iconst (v := (1 : Int32)) C.1.1 C.1.2.1 dM_putNumber_31 (by decide) ?_
        exact wM_putNumber_32 C hr hlk hrv iv av x1 (1 : Int32) _ _ ls (lv_sub hl [0, 1] rfl) hw hf
      · have hf := ts_f hf c3
        refine lv_iconst (v := (2 : Int32)) C.1.1 C.1.2.1 dM_putNumber_27 (by decide) ?_
        refine lv_goto (tgt := 32) C.1.1 C.1.2.1 dM_putNumber_28 (by decide) ?_
        exact wM_putNumber_32 C hr hlk hrv iv av x1 (2 : Int32) _ _ ls (lv_sub hl [0, 1] rfl) hw hf
    · have hf := ts_f hf c2
      refine lv_iconst (v := (3 : Int32)) C.1.1 C.1.2.1 dM_putNumber_17 (by decide) ?_
      refine lv_goto (tgt := 32) C.1.1 C.1.2.1 dM_putNumber_18 (by decide) ?_
      exact wM_putNumber_32 C hr hlk hrv iv av x1 (3 : Int32) _ _ ls (lv_sub hl [0, 1] rfl) hw hf
  · have hf := ts_f hf c1
    refine lv_iconst (v := (4 : Int32)) C.1.1 C.1.2.1 dM_putNumber_6 (by decide) ?_
    refine lv_goto (tgt := 32) C.1.1 C.1.2.1 dM_putNumber_7 (by decide) ?_
    exact wM_putNumber_32 C hr hlk hrv iv av x1 (4 : Int32) _ _ ls (lv_sub hl [0, 1] rfl) hw hf
abbrev cM_putTrack : ByteArray := prog_8_method_38_code
abbrev yM_putTrack : MethodName := ⟨"MidiDeskModel", "putTrack", "(IZZ)V"⟩
theorem kM_putTrack : yM_putTrack.cls ≠ "java/lang/invoke/MethodHandle" ∧ yM_putTrack.cls ≠ "java/lang/invoke/VarHandle" ∧ (parseMethodDescriptor yM_putTrack.desc).map (fun d => d.parameters.length) = some 3 := by decide +kernel
abbrev rM_putTrack : Room := { frames := 2, cells := 0, slots := 0, locals := 44 }
theorem dM_putTrack_0 : decode cM_putTrack 0 = .ok (.aload_n 0, 1) := by decide +kernel
theorem dM_putTrack_1 : decode cM_putTrack 1 = .ok (.ldc 194, 2) := by decide +kernel
theorem dM_putTrack_3 : decode cM_putTrack 3 = .ok (.iconst 4, 1) := by decide +kernel
theorem dM_putTrack_4 : decode cM_putTrack 4 = .ok (.invokevirtual 195, 3) := by decide +kernel
theorem dM_putTrack_7 : decode cM_putTrack 7 = .ok (.aload_n 0, 1) := by decide +kernel
theorem dM_putTrack_8 : decode cM_putTrack 8 = .ok (.getfield 187, 3) := by decide +kernel
theorem dM_putTrack_11 : decode cM_putTrack 11 = .ok (.istore 4, 2) := by decide +kernel
theorem dM_putTrack_13 : decode cM_putTrack 13 = .ok (.aload_n 0, 1) := by decide +kernel
theorem dM_putTrack_14 : decode cM_putTrack 14 = .ok (.iconst 0, 1) := by decide +kernel
theorem dM_putTrack_15 : decode cM_putTrack 15 = .ok (.iconst 4, 1) := by decide +kernel
theorem dM_putTrack_16 : decode cM_putTrack 16 = .ok (.invokevirtual 195, 3) := by decide +kernel
theorem dM_putTrack_19 : decode cM_putTrack 19 = .ok (.iconst 0, 1) := by decide +kernel
theorem dM_putTrack_20 : decode cM_putTrack 20 = .ok (.istore 5, 2) := by decide +kernel
theorem dM_putTrack_22 : decode cM_putTrack 22 = .ok (.iconst 0, 1) := by decide +kernel
theorem dM_putTrack_23 : decode cM_putTrack 23 = .ok (.istore 6, 2) := by decide +kernel
theorem dM_putTrack_25 : decode cM_putTrack 25 = .ok (.iconst 0, 1) := by decide +kernel
theorem dM_putTrack_26 : decode cM_putTrack 26 = .ok (.istore 7, 2) := by decide +kernel
theorem dM_putTrack_28 : decode cM_putTrack 28 = .ok (.iload 7, 2) := by decide +kernel
theorem dM_putTrack_30 : decode cM_putTrack 30 = .ok (.aload_n 0, 1) := by decide +kernel
theorem dM_putTrack_31 : decode cM_putTrack 31 = .ok (.getfield 95, 3) := by decide +kernel
theorem dM_putTrack_34 : decode cM_putTrack 34 = .ok (.if_icmp .ge 218, 3) := by decide +kernel
theorem dM_putTrack_37 : decode cM_putTrack 37 = .ok (.aload_n 0, 1) := by decide +kernel
theorem dM_putTrack_38 : decode cM_putTrack 38 = .ok (.getfield 34, 3) := by decide +kernel
theorem dM_putTrack_41 : decode cM_putTrack 41 = .ok (.iload 7, 2) := by decide +kernel
theorem dM_putTrack_43 : decode cM_putTrack 43 = .ok (.iaload, 1) := by decide +kernel
theorem dM_putTrack_44 : decode cM_putTrack 44 = .ok (.istore 8, 2) := by decide +kernel
theorem dM_putTrack_46 : decode cM_putTrack 46 = .ok (.iload_n 2, 1) := by decide +kernel
theorem dM_putTrack_47 : decode cM_putTrack 47 = .ok (.ifCond .ne 17, 3) := by decide +kernel
theorem dM_putTrack_50 : decode cM_putTrack 50 = .ok (.aload_n 0, 1) := by decide +kernel
theorem dM_putTrack_51 : decode cM_putTrack 51 = .ok (.getfield 16, 3) := by decide +kernel
theorem dM_putTrack_54 : decode cM_putTrack 54 = .ok (.iload 8, 2) := by decide +kernel
theorem dM_putTrack_56 : decode cM_putTrack 56 = .ok (.iaload, 1) := by decide +kernel
theorem dM_putTrack_57 : decode cM_putTrack 57 = .ok (.iload_n 1, 1) := by decide +kernel
theorem dM_putTrack_58 : decode cM_putTrack 58 = .ok (.if_icmp .eq 6, 3) := by decide +kernel
theorem dM_putTrack_61 : decode cM_putTrack 61 = .ok (.goto 185, 3) := by decide +kernel
theorem dM_putTrack_64 : decode cM_putTrack 64 = .ok (.aload_n 0, 1) := by decide +kernel
theorem dM_putTrack_65 : decode cM_putTrack 65 = .ok (.aload_n 0, 1) := by decide +kernel
theorem dM_putTrack_66 : decode cM_putTrack 66 = .ok (.getfield 13, 3) := by decide +kernel
theorem dM_putTrack_69 : decode cM_putTrack 69 = .ok (.iload 8, 2) := by decide +kernel
theorem dM_putTrack_71 : decode cM_putTrack 71 = .ok (.iaload, 1) := by decide +kernel
theorem dM_putTrack_72 : decode cM_putTrack 72 = .ok (.iload 5, 2) := by decide +kernel
theorem dM_putTrack_74 : decode cM_putTrack 74 = .ok (.isub, 1) := by decide +kernel
theorem dM_putTrack_75 : decode cM_putTrack 75 = .ok (.invokevirtual 197, 3) := by decide +kernel
theorem dM_putTrack_78 : decode cM_putTrack 78 = .ok (.aload_n 0, 1) := by decide +kernel
theorem dM_putTrack_79 : decode cM_putTrack 79 = .ok (.getfield 13, 3) := by decide +kernel
theorem dM_putTrack_82 : decode cM_putTrack 82 = .ok (.iload 8, 2) := by decide +kernel
theorem dM_putTrack_84 : decode cM_putTrack 84 = .ok (.iaload, 1) := by decide +kernel
theorem dM_putTrack_85 : decode cM_putTrack 85 = .ok (.istore 5, 2) := by decide +kernel
theorem dM_putTrack_87 : decode cM_putTrack 87 = .ok (.iload_n 3, 1) := by decide +kernel
theorem dM_putTrack_88 : decode cM_putTrack 88 = .ok (.ifCond .eq 15, 3) := by decide +kernel
theorem dM_putTrack_91 : decode cM_putTrack 91 = .ok (.aload_n 0, 1) := by decide +kernel
theorem dM_putTrack_92 : decode cM_putTrack 92 = .ok (.getfield 19, 3) := by decide +kernel
theorem dM_putTrack_95 : decode cM_putTrack 95 = .ok (.iload 8, 2) := by decide +kernel
theorem dM_putTrack_97 : decode cM_putTrack 97 = .ok (.iaload, 1) := by decide +kernel
theorem dM_putTrack_98 : decode cM_putTrack 98 = .ok (.iload 6, 2) := by decide +kernel
theorem dM_putTrack_100 : decode cM_putTrack 100 = .ok (.if_icmp .eq 14, 3) := by decide +kernel
theorem dM_putTrack_103 : decode cM_putTrack 103 = .ok (.aload_n 0, 1) := by decide +kernel
theorem dM_putTrack_104 : decode cM_putTrack 104 = .ok (.aload_n 0, 1) := by decide +kernel
theorem dM_putTrack_105 : decode cM_putTrack 105 = .ok (.getfield 19, 3) := by decide +kernel
theorem dM_putTrack_108 : decode cM_putTrack 108 = .ok (.iload 8, 2) := by decide +kernel
theorem dM_putTrack_110 : decode cM_putTrack 110 = .ok (.iaload, 1) := by decide +kernel
theorem dM_putTrack_111 : decode cM_putTrack 111 = .ok (.invokevirtual 190, 3) := by decide +kernel
theorem dM_putTrack_114 : decode cM_putTrack 114 = .ok (.aload_n 0, 1) := by decide +kernel
theorem dM_putTrack_115 : decode cM_putTrack 115 = .ok (.getfield 19, 3) := by decide +kernel
theorem dM_putTrack_118 : decode cM_putTrack 118 = .ok (.iload 8, 2) := by decide +kernel
theorem dM_putTrack_120 : decode cM_putTrack 120 = .ok (.iaload, 1) := by decide +kernel
theorem dM_putTrack_121 : decode cM_putTrack 121 = .ok (.sipush 240, 3) := by decide +kernel
theorem dM_putTrack_124 : decode cM_putTrack 124 = .ok (.if_icmp .ge 13, 3) := by decide +kernel
theorem dM_putTrack_127 : decode cM_putTrack 127 = .ok (.aload_n 0, 1) := by decide +kernel
theorem dM_putTrack_128 : decode cM_putTrack 128 = .ok (.getfield 19, 3) := by decide +kernel
theorem dM_putTrack_131 : decode cM_putTrack 131 = .ok (.iload 8, 2) := by decide +kernel
theorem dM_putTrack_133 : decode cM_putTrack 133 = .ok (.iaload, 1) := by decide +kernel
theorem dM_putTrack_134 : decode cM_putTrack 134 = .ok (.goto 4, 3) := by decide +kernel
theorem dM_putTrack_137 : decode cM_putTrack 137 = .ok (.iconst 0, 1) := by decide +kernel
theorem dM_putTrack_138 : decode cM_putTrack 138 = .ok (.istore 6, 2) := by decide +kernel
theorem dM_putTrack_140 : decode cM_putTrack 140 = .ok (.aload_n 0, 1) := by decide +kernel
theorem dM_putTrack_141 : decode cM_putTrack 141 = .ok (.getfield 22, 3) := by decide +kernel
theorem dM_putTrack_144 : decode cM_putTrack 144 = .ok (.iload 8, 2) := by decide +kernel
theorem dM_putTrack_146 : decode cM_putTrack 146 = .ok (.iaload, 1) := by decide +kernel
theorem dM_putTrack_147 : decode cM_putTrack 147 = .ok (.ifCond .lt 14, 3) := by decide +kernel
theorem dM_putTrack_150 : decode cM_putTrack 150 = .ok (.aload_n 0, 1) := by decide +kernel
theorem dM_putTrack_151 : decode cM_putTrack 151 = .ok (.aload_n 0, 1) := by decide +kernel
theorem dM_putTrack_152 : decode cM_putTrack 152 = .ok (.getfield 22, 3) := by decide +kernel
theorem dM_putTrack_155 : decode cM_putTrack 155 = .ok (.iload 8, 2) := by decide +kernel
theorem dM_putTrack_157 : decode cM_putTrack 157 = .ok (.iaload, 1) := by decide +kernel
theorem dM_putTrack_158 : decode cM_putTrack 158 = .ok (.invokevirtual 190, 3) := by decide +kernel
theorem dM_putTrack_161 : decode cM_putTrack 161 = .ok (.aload_n 0, 1) := by decide +kernel
theorem dM_putTrack_162 : decode cM_putTrack 162 = .ok (.getfield 25, 3) := by decide +kernel
theorem dM_putTrack_165 : decode cM_putTrack 165 = .ok (.iload 8, 2) := by decide +kernel
theorem dM_putTrack_167 : decode cM_putTrack 167 = .ok (.iaload, 1) := by decide +kernel
theorem dM_putTrack_168 : decode cM_putTrack 168 = .ok (.ifCond .lt 14, 3) := by decide +kernel
theorem dM_putTrack_171 : decode cM_putTrack 171 = .ok (.aload_n 0, 1) := by decide +kernel
theorem dM_putTrack_172 : decode cM_putTrack 172 = .ok (.aload_n 0, 1) := by decide +kernel
theorem dM_putTrack_173 : decode cM_putTrack 173 = .ok (.getfield 25, 3) := by decide +kernel
theorem dM_putTrack_176 : decode cM_putTrack 176 = .ok (.iload 8, 2) := by decide +kernel
theorem dM_putTrack_178 : decode cM_putTrack 178 = .ok (.iaload, 1) := by decide +kernel
theorem dM_putTrack_179 : decode cM_putTrack 179 = .ok (.invokevirtual 190, 3) := by decide +kernel
theorem dM_putTrack_182 : decode cM_putTrack 182 = .ok (.aload_n 0, 1) := by decide +kernel
theorem dM_putTrack_183 : decode cM_putTrack 183 = .ok (.getfield 31, 3) := by decide +kernel
theorem dM_putTrack_186 : decode cM_putTrack 186 = .ok (.iload 8, 2) := by decide +kernel
theorem dM_putTrack_188 : decode cM_putTrack 188 = .ok (.iaload, 1) := by decide +kernel
theorem dM_putTrack_189 : decode cM_putTrack 189 = .ok (.ifCond .ge 6, 3) := by decide +kernel
theorem dM_putTrack_192 : decode cM_putTrack 192 = .ok (.goto 54, 3) := by decide +kernel
theorem dM_putTrack_195 : decode cM_putTrack 195 = .ok (.aload_n 0, 1) := by decide +kernel
theorem dM_putTrack_196 : decode cM_putTrack 196 = .ok (.aload_n 0, 1) := by decide +kernel
theorem dM_putTrack_197 : decode cM_putTrack 197 = .ok (.getfield 31, 3) := by decide +kernel
theorem dM_putTrack_200 : decode cM_putTrack 200 = .ok (.iload 8, 2) := by decide +kernel
theorem dM_putTrack_202 : decode cM_putTrack 202 = .ok (.iaload, 1) := by decide +kernel
theorem dM_putTrack_203 : decode cM_putTrack 203 = .ok (.invokevirtual 197, 3) := by decide +kernel
theorem dM_putTrack_206 : decode cM_putTrack 206 = .ok (.iconst 0, 1) := by decide +kernel
theorem dM_putTrack_207 : decode cM_putTrack 207 = .ok (.istore 9, 2) := by decide +kernel
theorem dM_putTrack_209 : decode cM_putTrack 209 = .ok (.iload 9, 2) := by decide +kernel
theorem dM_putTrack_211 : decode cM_putTrack 211 = .ok (.aload_n 0, 1) := by decide +kernel
theorem dM_putTrack_212 : decode cM_putTrack 212 = .ok (.getfield 31, 3) := by decide +kernel
theorem dM_putTrack_215 : decode cM_putTrack 215 = .ok (.iload 8, 2) := by decide +kernel
theorem dM_putTrack_217 : decode cM_putTrack 217 = .ok (.iaload, 1) := by decide +kernel
theorem dM_putTrack_218 : decode cM_putTrack 218 = .ok (.if_icmp .ge 28, 3) := by decide +kernel
theorem dM_putTrack_221 : decode cM_putTrack 221 = .ok (.aload_n 0, 1) := by decide +kernel
theorem dM_putTrack_222 : decode cM_putTrack 222 = .ok (.aload_n 0, 1) := by decide +kernel
theorem dM_putTrack_223 : decode cM_putTrack 223 = .ok (.getfield 40, 3) := by decide +kernel
theorem dM_putTrack_226 : decode cM_putTrack 226 = .ok (.aload_n 0, 1) := by decide +kernel
theorem dM_putTrack_227 : decode cM_putTrack 227 = .ok (.getfield 28, 3) := by decide +kernel
theorem dM_putTrack_230 : decode cM_putTrack 230 = .ok (.iload 8, 2) := by decide +kernel
theorem dM_putTrack_232 : decode cM_putTrack 232 = .ok (.iaload, 1) := by decide +kernel
theorem dM_putTrack_233 : decode cM_putTrack 233 = .ok (.iload 9, 2) := by decide +kernel
theorem dM_putTrack_235 : decode cM_putTrack 235 = .ok (.iadd, 1) := by decide +kernel
theorem dM_putTrack_236 : decode cM_putTrack 236 = .ok (.iaload, 1) := by decide +kernel
theorem dM_putTrack_237 : decode cM_putTrack 237 = .ok (.invokevirtual 190, 3) := by decide +kernel
theorem dM_putTrack_240 : decode cM_putTrack 240 = .ok (.iinc 9 1, 3) := by decide +kernel
theorem dM_putTrack_243 : decode cM_putTrack 243 = .ok (.goto (-34), 3) := by decide +kernel
theorem dM_putTrack_246 : decode cM_putTrack 246 = .ok (.iinc 7 1, 3) := by decide +kernel
theorem dM_putTrack_249 : decode cM_putTrack 249 = .ok (.goto (-221), 3) := by decide +kernel
theorem dM_putTrack_252 : decode cM_putTrack 252 = .ok (.aload_n 0, 1) := by decide +kernel
theorem dM_putTrack_253 : decode cM_putTrack 253 = .ok (.ldc 200, 2) := by decide +kernel
theorem dM_putTrack_255 : decode cM_putTrack 255 = .ok (.iconst 4, 1) := by decide +kernel
theorem dM_putTrack_256 : decode cM_putTrack 256 = .ok (.invokevirtual 195, 3) := by decide +kernel
theorem dM_putTrack_259 : decode cM_putTrack 259 = .ok (.aload_n 0, 1) := by decide +kernel
theorem dM_putTrack_260 : decode cM_putTrack 260 = .ok (.getfield 187, 3) := by decide +kernel
theorem dM_putTrack_263 : decode cM_putTrack 263 = .ok (.iload 4, 2) := by decide +kernel
theorem dM_putTrack_265 : decode cM_putTrack 265 = .ok (.isub, 1) := by decide +kernel
theorem dM_putTrack_266 : decode cM_putTrack 266 = .ok (.iconst 4, 1) := by decide +kernel
theorem dM_putTrack_267 : decode cM_putTrack 267 = .ok (.isub, 1) := by decide +kernel
theorem dM_putTrack_268 : decode cM_putTrack 268 = .ok (.istore 7, 2) := by decide +kernel
theorem dM_putTrack_270 : decode cM_putTrack 270 = .ok (.iconst 0, 1) := by decide +kernel
theorem dM_putTrack_271 : decode cM_putTrack 271 = .ok (.istore 8, 2) := by decide +kernel
theorem dM_putTrack_273 : decode cM_putTrack 273 = .ok (.iload 8, 2) := by decide +kernel
theorem dM_putTrack_275 : decode cM_putTrack 275 = .ok (.iconst 4, 1) := by decide +kernel
theorem dM_putTrack_276 : decode cM_putTrack 276 = .ok (.if_icmp .ge 33, 3) := by decide +kernel
theorem dM_putTrack_279 : decode cM_putTrack 279 = .ok (.aload_n 0, 1) := by decide +kernel
theorem dM_putTrack_280 : decode cM_putTrack 280 = .ok (.getfield 44, 3) := by decide +kernel
theorem dM_putTrack_283 : decode cM_putTrack 283 = .ok (.iload 4, 2) := by decide +kernel
theorem dM_putTrack_285 : decode cM_putTrack 285 = .ok (.iload 8, 2) := by decide +kernel
theorem dM_putTrack_287 : decode cM_putTrack 287 = .ok (.iadd, 1) := by decide +kernel
theorem dM_putTrack_288 : decode cM_putTrack 288 = .ok (.iload 7, 2) := by decide +kernel
theorem dM_putTrack_290 : decode cM_putTrack 290 = .ok (.bipush 8, 2) := by decide +kernel
theorem dM_putTrack_292 : decode cM_putTrack 292 = .ok (.iconst 3, 1) := by decide +kernel
theorem dM_putTrack_293 : decode cM_putTrack 293 = .ok (.iload 8, 2) := by decide +kernel
theorem dM_putTrack_295 : decode cM_putTrack 295 = .ok (.isub, 1) := by decide +kernel
theorem dM_putTrack_296 : decode cM_putTrack 296 = .ok (.imul, 1) := by decide +kernel
theorem dM_putTrack_297 : decode cM_putTrack 297 = .ok (.ishr, 1) := by decide +kernel
theorem dM_putTrack_298 : decode cM_putTrack 298 = .ok (.sipush 255, 3) := by decide +kernel
theorem dM_putTrack_301 : decode cM_putTrack 301 = .ok (.iand, 1) := by decide +kernel
theorem dM_putTrack_302 : decode cM_putTrack 302 = .ok (.iastore, 1) := by decide +kernel
theorem dM_putTrack_303 : decode cM_putTrack 303 = .ok (.iinc 8 1, 3) := by decide +kernel
theorem dM_putTrack_306 : decode cM_putTrack 306 = .ok (.goto (-33), 3) := by decide +kernel
theorem dM_putTrack_309 : decode cM_putTrack 309 = .ok (.return_, 1) := by decide +kernel
def jM_putTrack_246 (K28 : (Nat → Int32) → (Nat → Nat → Int32) → Int32 → Int32 → Int32 → Int32 → Int32 → Int32 → Int32 → Option ((Nat → Int32) × (Nat → Nat → Int32))) (iv : Nat → Int32) (av : Nat → Nat → Int32) (x1 : Int32) (x2 : Int32) (x3 : Int32) (x4 : Int32) (x5 : Int32) (x6 : Int32) (x7 : Int32) : Option ((Nat → Int32) × (Nat → Nat → Int32)) := K28 iv av x1 x2 x3 x4 x5 x6 (x7 + 1)
def lM_putTrack_209 (K28 : (Nat → Int32) → (Nat → Nat → Int32) → Int32 → Int32 → Int32 → Int32 → Int32 → Int32 → Int32 → Option ((Nat → Int32) × (Nat → Nat → Int32))) : Nat → (Nat → Int32) → (Nat → Nat → Int32) → Int32 → Int32 → Int32 → Int32 → Int32 → Int32 → Int32 → Int32 → Int32 → Option ((Nat → Int32) × (Nat → Nat → Int32))
  | 0 => fun _ _ _ _ _ _ _ _ _ _ _ => none
  | k + 1 => fun iv av x1 x2 x3 x4 x5 x6 x7 x8 x9 => if x8 < 0 ∨ 1001 ≤ x8.toNatClampNeg then none else (if (av 7 x8.toNatClampNeg) ≤ x9 then (jM_putTrack_246 K28 iv av x1 x2 x3 x4 x5 x6 x7) else (if x8 < 0 ∨ 1001 ≤ x8.toNatClampNeg then none else (if ((av 6 x8.toNatClampNeg) + x9) < 0 ∨ 20100 ≤ ((av 6 x8.toNatClampNeg) + x9).toNatClampNeg then none else ((fM_put iv av (av 10 ((av 6 x8.toNatClampNeg) + x9).toNatClampNeg)).bind fun (iv5, av5) => lM_putTrack_209 K28 k iv5 av5 x1 x2 x3 x4 x5 x6 x7 x8 (x9 + 1)))))
def jM_putTrack_182 (K28 : (Nat → Int32) → (Nat → Nat → Int32) → Int32 → Int32 → Int32 → Int32 → Int32 → Int32 → Int32 → Option ((Nat → Int32) × (Nat → Nat → Int32))) (iv : Nat → Int32) (av : Nat → Nat → Int32) (x1 : Int32) (x2 : Int32) (x3 : Int32) (x4 : Int32) (x5 : Int32) (x6 : Int32) (x7 : Int32) (x8 : Int32) : Option ((Nat → Int32) × (Nat → Nat → Int32)) := if x8 < 0 ∨ 1001 ≤ x8.toNatClampNeg then none else (if 0 ≤ (av 7 x8.toNatClampNeg) then (if x8 < 0 ∨ 1001 ≤ x8.toNatClampNeg then none else ((fM_putNumber iv av (av 7 x8.toNatClampNeg)).bind fun (iv4, av4) => lM_putTrack_209 K28 FU iv4 av4 x1 x2 x3 x4 x5 x6 x7 x8 (0 : Int32))) else (jM_putTrack_246 K28 iv av x1 x2 x3 x4 x5 x6 x7))
def jM_putTrack_161 (K28 : (Nat → Int32) → (Nat → Nat → Int32) → Int32 → Int32 → Int32 → Int32 → Int32 → Int32 → Int32 → Option ((Nat → Int32) × (Nat → Nat → Int32))) (iv : Nat → Int32) (av : Nat → Nat → Int32) (x1 : Int32) (x2 : Int32) (x3 : Int32) (x4 : Int32) (x5 : Int32) (x6 : Int32) (x7 : Int32) (x8 : Int32) : Option ((Nat → Int32) × (Nat → Nat → Int32)) := if x8 < 0 ∨ 1001 ≤ x8.toNatClampNeg then none else (if (av 5 x8.toNatClampNeg) < 0 then (jM_putTrack_182 K28 iv av x1 x2 x3 x4 x5 x6 x7 x8) else (if x8 < 0 ∨ 1001 ≤ x8.toNatClampNeg then none else ((fM_put iv av (av 5 x8.toNatClampNeg)).bind fun (iv4, av4) => jM_putTrack_182 K28 iv4 av4 x1 x2 x3 x4 x5 x6 x7 x8)))
def jM_putTrack_138 (K28 : (Nat → Int32) → (Nat → Nat → Int32) → Int32 → Int32 → Int32 → Int32 → Int32 → Int32 → Int32 → Option ((Nat → Int32) × (Nat → Nat → Int32))) (iv : Nat → Int32) (av : Nat → Nat → Int32) (x1 : Int32) (x2 : Int32) (x3 : Int32) (x4 : Int32) (x5 : Int32) (x7 : Int32) (x8 : Int32) (s0 : Int32) : Option ((Nat → Int32) × (Nat → Nat → Int32)) := if x8 < 0 ∨ 1001 ≤ x8.toNatClampNeg then none else (if (av 4 x8.toNatClampNeg) < 0 then (jM_putTrack_161 K28 iv av x1 x2 x3 x4 x5 s0 x7 x8) else (if x8 < 0 ∨ 1001 ≤ x8.toNatClampNeg then none else ((fM_put iv av (av 4 x8.toNatClampNeg)).bind fun (iv4, av4) => jM_putTrack_161 K28 iv4 av4 x1 x2 x3 x4 x5 s0 x7 x8)))
def jM_putTrack_114 (K28 : (Nat → Int32) → (Nat → Nat → Int32) → Int32 → Int32 → Int32 → Int32 → Int32 → Int32 → Int32 → Option ((Nat → Int32) × (Nat → Nat → Int32))) (iv : Nat → Int32) (av : Nat → Nat → Int32) (x1 : Int32) (x2 : Int32) (x3 : Int32) (x4 : Int32) (x5 : Int32) (x7 : Int32) (x8 : Int32) : Option ((Nat → Int32) × (Nat → Nat → Int32)) := if x8 < 0 ∨ 1001 ≤ x8.toNatClampNeg then none else (if (240 : Int32) ≤ (av 3 x8.toNatClampNeg) then (jM_putTrack_138 K28 iv av x1 x2 x3 x4 x5 x7 x8 (0 : Int32)) else (if x8 < 0 ∨ 1001 ≤ x8.toNatClampNeg then none else (jM_putTrack_138 K28 iv av x1 x2 x3 x4 x5 x7 x8 (av 3 x8.toNatClampNeg))))
def jM_putTrack_103 (K28 : (Nat → Int32) → (Nat → Nat → Int32) → Int32 → Int32 → Int32 → Int32 → Int32 → Int32 → Int32 → Option ((Nat → Int32) × (Nat → Nat → Int32))) (iv : Nat → Int32) (av : Nat → Nat → Int32) (x1 : Int32) (x2 : Int32) (x3 : Int32) (x4 : Int32) (x5 : Int32) (x7 : Int32) (x8 : Int32) : Option ((Nat → Int32) × (Nat → Nat → Int32)) := if x8 < 0 ∨ 1001 ≤ x8.toNatClampNeg then none else ((fM_put iv av (av 3 x8.toNatClampNeg)).bind fun (iv2, av2) => jM_putTrack_114 K28 iv2 av2 x1 x2 x3 x4 x5 x7 x8)
def jM_putTrack_64 (K28 : (Nat → Int32) → (Nat → Nat → Int32) → Int32 → Int32 → Int32 → Int32 → Int32 → Int32 → Int32 → Option ((Nat → Int32) × (Nat → Nat → Int32))) (iv : Nat → Int32) (av : Nat → Nat → Int32) (x1 : Int32) (x2 : Int32) (x3 : Int32) (x4 : Int32) (x5 : Int32) (x6 : Int32) (x7 : Int32) (x8 : Int32) : Option ((Nat → Int32) × (Nat → Nat → Int32)) := if x8 < 0 ∨ 1001 ≤ x8.toNatClampNeg then none else ((fM_putNumber iv av ((av 1 x8.toNatClampNeg) - x5)).bind fun (iv2, av2) => if x8 < 0 ∨ 1001 ≤ x8.toNatClampNeg then none else (if x3 = 0 then (jM_putTrack_103 K28 iv2 av2 x1 x2 x3 x4 (av2 1 x8.toNatClampNeg) x7 x8) else (if x8 < 0 ∨ 1001 ≤ x8.toNatClampNeg then none else (if (av2 3 x8.toNatClampNeg) = x6 then (jM_putTrack_114 K28 iv2 av2 x1 x2 x3 x4 (av2 1 x8.toNatClampNeg) x7 x8) else (jM_putTrack_103 K28 iv2 av2 x1 x2 x3 x4 (av2 1 x8.toNatClampNeg) x7 x8)))))
def lM_putTrack_273 : Nat → (Nat → Int32) → (Nat → Nat → Int32) → Int32 → Int32 → Int32 → Option ((Nat → Int32) × (Nat → Nat → Int32))
  | 0 => fun _ _ _ _ _ => none
  | k + 1 => fun iv av x4 x7 x8 => if (4 : Int32) ≤ x8 then (some (iv, av)) else (if (x4 + x8) < 0 ∨ 32768 ≤ (x4 + x8).toNatClampNeg then none else (lM_putTrack_273 k iv (up2 av 11 (x4 + x8).toNatClampNeg ((x7 >>> (((8 : Int32) * ((3 : Int32) - x8)) &&& 31)) &&& (255 : Int32))) x4 x7 (x8 + 1)))
def lM_putTrack_28 : Nat → (Nat → Int32) → (Nat → Nat → Int32) → Int32 → Int32 → Int32 → Int32 → Int32 → Int32 → Int32 → Option ((Nat → Int32) × (Nat → Nat → Int32))
  | 0 => fun _ _ _ _ _ _ _ _ _ => none
  | k + 1 => fun iv av x1 x2 x3 x4 x5 x6 x7 => if (iv 10) ≤ x7 then ((fM_puts iv av (16723712 : Int32) (4 : Int32)).bind fun (iv2, av2) => lM_putTrack_273 FU iv2 av2 x4 (((iv2 12) - x4) - (4 : Int32)) (0 : Int32)) else (if x7 < 0 ∨ 1001 ≤ x7.toNatClampNeg then none else (if x2 = 0 then (if (av 8 x7.toNatClampNeg) < 0 ∨ 1001 ≤ (av 8 x7.toNatClampNeg).toNatClampNeg then none else (if (av 2 (av 8 x7.toNatClampNeg).toNatClampNeg) = x1 then (jM_putTrack_64 (lM_putTrack_28 k) iv av x1 x2 x3 x4 x5 x6 x7 (av 8 x7.toNatClampNeg)) else (jM_putTrack_246 (lM_putTrack_28 k) iv av x1 x2 x3 x4 x5 x6 x7))) else (jM_putTrack_64 (lM_putTrack_28 k) iv av x1 x2 x3 x4 x5 x6 x7 (av 8 x7.toNatClampNeg))))
def fM_putTrack (iv : Nat → Int32) (av : Nat → Nat → Int32) (x1 : Int32) (x2 : Int32) (x3 : Int32) : Option ((Nat → Int32) × (Nat → Nat → Int32)) := (fM_puts iv av (1297379947 : Int32) (4 : Int32)).bind fun (iv1, av1) => (fM_puts iv1 av1 (0 : Int32) (4 : Int32)).bind fun (iv2, av2) => lM_putTrack_28 FU iv2 av2 x1 x2 x3 (iv1 12) (0 : Int32) (0 : Int32) (0 : Int32)
set_option maxHeartbeats 4000000 in
set_option maxRecDepth 100000 in
theorem wM_putTrack_246 {p : Program} {l : Launch} {e : Env} {s : State} {m : MethodId} {args : Array Value} {below : List Frame} {meth : Method} {c : Code} {g : gT} {q : Nat} {ad : Nat → Nat} {X : va_W} {rv : Option Value} {iv' : Nat → Int32} {av' : Nat → Nat → Int32} (C : mCx p m c cM_putTrack 10 s args g "MidiDeskModel") (hr : meth.sig.returnType = none) (hlk : meth.locks = false) (hrv : rv = none) {K28 : (Nat → Int32) → (Nat → Nat → Int32) → Int32 → Int32 → Int32 → Int32 → Int32 → Int32 → Int32 → Option ((Nat → Int32) × (Nat → Nat → Int32))} (hK28 : ∀ (iv : Nat → Int32) (av : Nat → Nat → Int32) (x1 : Int32) (x2 : Int32) (x3 : Int32) (x4 : Int32) (x5 : Int32) (x6 : Int32) (x7 : Int32) (H : Heap) (locs : List Loc) (ls : Array Slot), lv_has ls 10 [(0, .ref q), (1, .int x1), (2, .int x2), (3, .int x3), (4, .int x4), (5, .int x5), (6, .int x6), (7, .int x7)] → mWd g (mA g q ad X s.heap.size) s.heap q ad X iv av H locs → K28 iv av x1 x2 x3 x4 x5 x6 x7 = some (iv', av') → mG p l e rM_putTrack s m args below meth c g q ad X rv iv' av' H locs 0 0 (F0 m 28 ls [])) (iv : Nat → Int32) (av : Nat → Nat → Int32) (x1 : Int32) (x2 : Int32) (x3 : Int32) (x4 : Int32) (x5 : Int32) (x6 : Int32) (x7 : Int32) (H : Heap) (locs : List Loc) (ls : Array Slot) (hl : lv_has ls 10 [(0, .ref q), (1, .int x1), (2, .int x2), (3, .int x3), (4, .int x4), (5, .int x5), (6, .int x6), (7, .int x7)]) (hw : mWd g (mA g q ad X s.heap.size) s.heap q ad X iv av H locs) (hf : jM_putTrack_246 K28 iv av x1 x2 x3 x4 x5 x6 x7 = some (iv', av')) : mG p l e rM_putTrack s m args below meth c g q ad X rv iv' av' H locs 0 0 (F0 m 246 ls []) := by
  unfold jM_putTrack_246 at hf
  refine lv_iinc (v := x7 + 1) (lv' := [(7, .int (x7 + 1)), (0, .ref q), (1, .int x1), (2, .int x2), (3, .int x3), (4, .int x4), (5, .int x5), (6, .int x6)]) C.1.1 C.1.2.1 dM_putTrack_246 hl (k := 7) rfl rfl (by decide) rfl (fun ls hl => ?_)
  refine lv_goto (tgt := 28) C.1.1 C.1.2.1 dM_putTrack_249 (by decide) ?_
  exact hK28 iv av x1 x2 x3 x4 x5 x6 (x7 + 1) _ _ ls (lv_sub hl [1, 2, 3, 4, 5, 6, 7, 0] rfl) hw hf
set_option maxHeartbeats 4000000 in
set_option maxRecDepth 100000 in
theorem wM_putTrack_209 {p : Program} {l : Launch} {e : Env} {s : State} {m : MethodId} {args : Array Value} {below : List Frame} {meth : Method} {c : Code} {g : gT} {q : Nat} {ad : Nat → Nat} {X : va_W} {rv : Option Value} {iv' : Nat → Int32} {av' : Nat → Nat → Int32} (C : mCx p m c cM_putTrack 10 s args g "MidiDeskModel") (hr : meth.sig.returnType = none) (hlk : meth.locks = false) (hrv : rv = none) {K28 : (Nat → Int32) → (Nat → Nat → Int32) → Int32 → Int32 → Int32 → Int32 → Int32 → Int32 → Int32 → Option ((Nat → Int32) × (Nat → Nat → Int32))} (hK28 : ∀ (iv : Nat → Int32) (av : Nat → Nat → Int32) (x1 : Int32) (x2 : Int32) (x3 : Int32) (x4 : Int32) (x5 : Int32) (x6 : Int32) (x7 : Int32) (H : Heap) (locs : List Loc) (ls : Array Slot), lv_has ls 10 [(0, .ref q), (1, .int x1), (2, .int x2), (3, .int x3), (4, .int x4), (5, .int x5), (6, .int x6), (7, .int x7)] → mWd g (mA g q ad X s.heap.size) s.heap q ad X iv av H locs → K28 iv av x1 x2 x3 x4 x5 x6 x7 = some (iv', av') → mG p l e rM_putTrack s m args below meth c g q ad X rv iv' av' H locs 0 0 (F0 m 28 ls [])) (k : Nat) : ∀ (iv : Nat → Int32) (av : Nat → Nat → Int32) (x1 : Int32) (x2 : Int32) (x3 : Int32) (x4 : Int32) (x5 : Int32) (x6 : Int32) (x7 : Int32) (x8 : Int32) (x9 : Int32) (H : Heap) (locs : List Loc) (ls : Array Slot), lv_has ls 10 [(0, .ref q), (1, .int x1), (2, .int x2), (3, .int x3), (4, .int x4), (5, .int x5), (6, .int x6), (7, .int x7), (8, .int x8), (9, .int x9)] → mWd g (mA g q ad X s.heap.size) s.heap q ad X iv av H locs → lM_putTrack_209 K28 k iv av x1 x2 x3 x4 x5 x6 x7 x8 x9 = some (iv', av') → mG p l e rM_putTrack s m args below meth c g q ad X rv iv' av' H locs 0 0 (F0 m 209 ls []) := by
  induction k with
  | zero => intro iv av x1 x2 x3 x4 x5 x6 x7 x8 x9 H locs ls hl hw hf; cases hf
  | succ k ih =>
    intro iv av x1 x2 x3 x4 x5 x6 x7 x8 x9 H locs ls hl hw hf
    have hf : (if x8 < 0 ∨ 1001 ≤ x8.toNatClampNeg then none else (if (av 7 x8.toNatClampNeg) ≤ x9 then (jM_putTrack_246 K28 iv av x1 x2 x3 x4 x5 x6 x7) else (if x8 < 0 ∨ 1001 ≤ x8.toNatClampNeg then none else (if ((av 6 x8.toNatClampNeg) + x9) < 0 ∨ 20100 ≤ ((av 6 x8.toNatClampNeg) + x9).toNatClampNeg then none else ((fM_put iv av (av 10 ((av 6 x8.toNatClampNeg) + x9).toNatClampNeg)).bind fun (iv5, av5) => lM_putTrack_209 K28 k iv5 av5 x1 x2 x3 x4 x5 x6 x7 x8 (x9 + 1)))))) = some (iv', av') := hf
    refine lv_iload C.1.1 C.1.2.1 dM_putTrack_209 (lv_at hl 9 rfl) ?_
    refine lv_aload_n C.1.1 C.1.2.1 dM_putTrack_211 rfl (lv_at hl 0 rfl) ?_
    refine mg_counts C hw dM_putTrack_212 ?_
    refine lv_iload C.1.1 C.1.2.1 dM_putTrack_215 (lv_at hl 8 rfl) ?_
    obtain ⟨h1, hf⟩ := ts_g hf
    refine ma_counts C hw h1 dM_putTrack_217 ?_
    refine lv_icmp_ge (tgt := 246) C.1.1 C.1.2.1 dM_putTrack_218 (by decide) (fun c2 => ?_) (fun c2 => ?_)
    · have hf := ts_t hf c2
      exact wM_putTrack_246 C hr hlk hrv hK28 iv av x1 x2 x3 x4 x5 x6 x7 _ _ ls (lv_sub hl [0, 1, 2, 3, 4, 5, 6, 7] rfl) hw hf
    · have hf := ts_f hf c2
      refine lv_aload_n C.1.1 C.1.2.1 dM_putTrack_221 rfl (lv_at hl 0 rfl) ?_
      refine lv_aload_n C.1.1 C.1.2.1 dM_putTrack_222 rfl (lv_at hl 0 rfl) ?_
      refine mg_bytes C hw dM_putTrack_223 ?_
      refine lv_aload_n C.1.1 C.1.2.1 dM_putTrack_226 rfl (lv_at hl 0 rfl) ?_
      refine mg_from C hw dM_putTrack_227 ?_
      refine lv_iload C.1.1 C.1.2.1 dM_putTrack_230 (lv_at hl 8 rfl) ?_
      obtain ⟨h3, hf⟩ := ts_g hf
      refine ma_from C hw h3 dM_putTrack_232 ?_
      refine lv_iload C.1.1 C.1.2.1 dM_putTrack_233 (lv_at hl 9 rfl) ?_
      refine lv_iadd C.1.1 C.1.2.1 dM_putTrack_235 ?_
      obtain ⟨h4, hf⟩ := ts_g hf
      refine ma_bytes C hw h4 dM_putTrack_236 ?_
      obtain ⟨⟨iv5, av5⟩, g5, hf⟩ := ts_b hf
      dsimp only at hf
      refine m_callV (rest := []) (As := [.int (av 10 ((av 6 x8.toNatClampNeg) + x9).toNatClampNeg)]) (rv := none) C hl.1 hw (cM_put_met g5) (callW_of (rm := rM_put) 1 C.1.2.2.2.2 gw_944 gw_946 gw_47 gw_55 gw_947 kM_put ⟨Nat.le_of_ble_eq_true rfl, Nat.le_of_ble_eq_true rfl⟩) rfl rfl (Nat.le_of_ble_eq_true rfl) dM_putTrack_237 ⟨Nat.le_of_ble_eq_true rfl, Nat.le_of_ble_eq_true rfl⟩ (fun H locs hw => ?_)
      refine W.eq (g2 := F0 m 240 ls []) rfl ?_
      refine lv_iinc (v := x9 + 1) (lv' := [(9, .int (x9 + 1)), (0, .ref q), (1, .int x1), (2, .int x2), (3, .int x3), (4, .int x4), (5, .int x5), (6, .int x6), (7, .int x7), (8, .int x8)]) C.1.1 C.1.2.1 dM_putTrack_240 hl (k := 9) rfl rfl (by decide) rfl (fun ls hl => ?_)
      refine lv_goto (tgt := 209) C.1.1 C.1.2.1 dM_putTrack_243 (by decide) ?_
      exact ih iv5 av5 x1 x2 x3 x4 x5 x6 x7 x8 (x9 + 1) _ _ ls (lv_sub hl [1, 2, 3, 4, 5, 6, 7, 8, 9, 0] rfl) hw hf
set_option maxHeartbeats 4000000 in
set_option maxRecDepth 100000 in
theorem wM_putTrack_182 {p : Program} {l : Launch} {e : Env} {s : State} {m : MethodId} {args : Array Value} {below : List Frame} {meth : Method} {c : Code} {g : gT} {q : Nat} {ad : Nat → Nat} {X : va_W} {rv : Option Value} {iv' : Nat → Int32} {av' : Nat → Nat → Int32} (C : mCx p m c cM_putTrack 10 s args g "MidiDeskModel") (hr : meth.sig.returnType = none) (hlk : meth.locks = false) (hrv : rv = none) {K28 : (Nat → Int32) → (Nat → Nat → Int32) → Int32 → Int32 → Int32 → Int32 → Int32 → Int32 → Int32 → Option ((Nat → Int32) × (Nat → Nat → Int32))} (hK28 : ∀ (iv : Nat → Int32) (av : Nat → Nat → Int32) (x1 : Int32) (x2 : Int32) (x3 : Int32) (x4 : Int32) (x5 : Int32) (x6 : Int32) (x7 : Int32) (H : Heap) (locs : List Loc) (ls : Array Slot), lv_has ls 10 [(0, .ref q), (1, .int x1), (2, .int x2), (3, .int x3), (4, .int x4), (5, .int x5), (6, .int x6), (7, .int x7)] → mWd g (mA g q ad X s.heap.size) s.heap q ad X iv av H locs → K28 iv av x1 x2 x3 x4 x5 x6 x7 = some (iv', av') → mG p l e rM_putTrack s m args below meth c g q ad X rv iv' av' H locs 0 0 (F0 m 28 ls [])) (iv : Nat → Int32) (av : Nat → Nat → Int32) (x1 : Int32) (x2 : Int32) (x3 : Int32) (x4 : Int32) (x5 : Int32) (x6 : Int32) (x7 : Int32) (x8 : Int32) (H : Heap) (locs : List Loc) (ls : Array Slot) (hl : lv_has ls 10 [(0, .ref q), (1, .int x1), (2, .int x2), (3, .int x3), (4, .int x4), (5, .int x5), (6, .int x6), (7, .int x7), (8, .int x8)]) (hw : mWd g (mA g q ad X s.heap.size) s.heap q ad X iv av H locs) (hf : jM_putTrack_182 K28 iv av x1 x2 x3 x4 x5 x6 x7 x8 = some (iv', av')) : mG p l e rM_putTrack s m args below meth c g q ad X rv iv' av' H locs 0 0 (F0 m 182 ls []) := by
  unfold jM_putTrack_182 at hf
  refine lv_aload_n C.1.1 C.1.2.1 dM_putTrack_182 rfl (lv_at hl 0 rfl) ?_
  refine mg_counts C hw dM_putTrack_183 ?_
  refine lv_iload C.1.1 C.1.2.1 dM_putTrack_186 (lv_at hl 8 rfl) ?_
  obtain ⟨h1, hf⟩ := ts_g hf
  refine ma_counts C hw h1 dM_putTrack_188 ?_
  refine lv_if_ge (tgt := 195) C.1.1 C.1.2.1 dM_putTrack_189 (by decide) (fun c2 => ?_) (fun c2 => ?_)
  · have hf := ts_t hf c2
    refine lv_aload_n C.1.1 C.1.2.1 dM_putTrack_195 rfl (lv_at hl 0 rfl) ?_
    refine lv_aload_n C.1.1 C.1.2.1 dM_putTrack_196 rfl (lv_at hl 0 rfl) ?_
    refine mg_counts C hw dM_putTrack_197 ?_
    refine lv_iload C.1.1 C.1.2.1 dM_putTrack_200 (lv_at hl 8 rfl) ?_
    obtain ⟨h3, hf⟩ := ts_g hf
    refine ma_counts C hw h3 dM_putTrack_202 ?_
    obtain ⟨⟨iv4, av4⟩, g4, hf⟩ := ts_b hf
    dsimp only at hf
    refine m_callV (rest := []) (As := [.int (av 7 x8.toNatClampNeg)]) (rv := none) C hl.1 hw (cM_putNumber_met g4) (callW_of (rm := rM_putNumber) 1 C.1.2.2.2.2 gw_953 gw_955 gw_49 gw_55 gw_956 kM_putNumber ⟨Nat.le_of_ble_eq_true rfl, Nat.le_of_ble_eq_true rfl⟩) rfl rfl (Nat.le_of_ble_eq_true rfl) dM_putTrack_203 ⟨Nat.le_of_ble_eq_true rfl, Nat.le_of_ble_eq_true rfl⟩ (fun H locs hw => ?_)
    refine W.eq (g2 := F0 m 206 ls []) rfl ?_
    refine lv_iconst (v := (0 : Int32)) C.1.1 C.1.2.1 dM_putTrack_206 (by decide) ?_
    refine lv_istore (lv' := [(9, .int (0 : Int32)), (0, .ref q), (1, .int x1), (2, .int x2), (3, .int x3), (4, .int x4), (5, .int x5), (6, .int x6), (7, .int x7), (8, .int x8)]) C.1.1 C.1.2.1 dM_putTrack_207 hl (by decide) rfl (fun ls hl => ?_)
    exact wM_putTrack_209 C hr hlk hrv hK28 FU iv4 av4 x1 x2 x3 x4 x5 x6 x7 x8 (0 : Int32) _ _ ls (lv_sub hl [1, 2, 3, 4, 5, 6, 7, 8, 9, 0] rfl) hw hf
  · have hf := ts_f hf c2
    refine lv_goto (tgt := 246) C.1.1 C.1.2.1 dM_putTrack_192 (by decide) ?_
    exact wM_putTrack_246 C hr hlk hrv hK28 iv av x1 x2 x3 x4 x5 x6 x7 _ _ ls (lv_sub hl [0, 1, 2, 3, 4, 5, 6, 7] rfl) hw hf
set_option maxHeartbeats 4000000 in
set_option maxRecDepth 100000 in
theorem wM_putTrack_161 {p : Program} {l : Launch} {e : Env} {s : State} {m : MethodId} {args : Array Value} {below : List Frame} {meth : Method} {c : Code} {g : gT} {q : Nat} {ad : Nat → Nat} {X : va_W} {rv : Option Value} {iv' : Nat → Int32} {av' : Nat → Nat → Int32} (C : mCx p m c cM_putTrack 10 s args g "MidiDeskModel") (hr : meth.sig.returnType = none) (hlk : meth.locks = false) (hrv : rv = none) {K28 : (Nat → Int32) → (Nat → Nat → Int32) → Int32 → Int32 → Int32 → Int32 → Int32 → Int32 → Int32 → Option ((Nat → Int32) × (Nat → Nat → Int32))} (hK28 : ∀ (iv : Nat → Int32) (av : Nat → Nat → Int32) (x1 : Int32) (x2 : Int32) (x3 : Int32) (x4 : Int32) (x5 : Int32) (x6 : Int32) (x7 : Int32) (H : Heap) (locs : List Loc) (ls : Array Slot), lv_has ls 10 [(0, .ref q), (1, .int x1), (2, .int x2), (3, .int x3), (4, .int x4), (5, .int x5), (6, .int x6), (7, .int x7)] → mWd g (mA g q ad X s.heap.size) s.heap q ad X iv av H locs → K28 iv av x1 x2 x3 x4 x5 x6 x7 = some (iv', av') → mG p l e rM_putTrack s m args below meth c g q ad X rv iv' av' H locs 0 0 (F0 m 28 ls [])) (iv : Nat → Int32) (av : Nat → Nat → Int32) (x1 : Int32) (x2 : Int32) (x3 : Int32) (x4 : Int32) (x5 : Int32) (x6 : Int32) (x7 : Int32) (x8 : Int32) (H : Heap) (locs : List Loc) (ls : Array Slot) (hl : lv_has ls 10 [(0, .ref q), (1, .int x1), (2, .int x2), (3, .int x3), (4, .int x4), (5, .int x5), (6, .int x6), (7, .int x7), (8, .int x8)]) (hw : mWd g (mA g q ad X s.heap.size) s.heap q ad X iv av H locs) (hf : jM_putTrack_161 K28 iv av x1 x2 x3 x4 x5 x6 x7 x8 = some (iv', av')) : mG p l e rM_putTrack s m args below meth c g q ad X rv iv' av' H locs 0 0 (F0 m 161 ls []) := by
  unfold jM_putTrack_161 at hf
  refine lv_aload_n C.1.1 C.1.2.1 dM_putTrack_161 rfl (lv_at hl 0 rfl) ?_
  refine mg_second C hw dM_putTrack_162 ?_
  refine lv_iload C.1.1 C.1.2.1 dM_putTrack_165 (lv_at hl 8 rfl) ?_
  obtain ⟨h1, hf⟩ := ts_g hf
  refine ma_second C hw h1 dM_putTrack_167 ?_
  refine lv_if_lt (tgt := 182) C.1.1 C.1.2.1 dM_putTrack_168 (by decide) (fun c2 => ?_) (fun c2 => ?_)
  · have hf := ts_t hf c2
    exact wM_putTrack_182 C hr hlk hrv hK28 iv av x1 x2 x3 x4 x5 x6 x7 x8 _ _ ls (lv_sub hl [0, 1, 2, 3, 4, 5, 6, 7, 8] rfl) hw hf
  · have hf := ts_f hf c2
    refine lv_aload_n C.1.1 C.1.2.1 dM_putTrack_171 rfl (lv_at hl 0 rfl) ?_
    refine lv_aload_n C.1.1 C.1.2.1 dM_putTrack_172 rfl (lv_at hl 0 rfl) ?_
    refine mg_second C hw dM_putTrack_173 ?_
    refine lv_iload C.1.1 C.1.2.1 dM_putTrack_176 (lv_at hl 8 rfl) ?_
    obtain ⟨h3, hf⟩ := ts_g hf
    refine ma_second C hw h3 dM_putTrack_178 ?_
    obtain ⟨⟨iv4, av4⟩, g4, hf⟩ := ts_b hf
    dsimp only at hf
    refine m_callV (rest := []) (As := [.int (av 5 x8.toNatClampNeg)]) (rv := none) C hl.1 hw (cM_put_met g4) (callW_of (rm := rM_put) 1 C.1.2.2.2.2 gw_944 gw_946 gw_47 gw_55 gw_947 kM_put ⟨Nat.le_of_ble_eq_true rfl, Nat.le_of_ble_eq_true rfl⟩) rfl rfl (Nat.le_of_ble_eq_true rfl) dM_putTrack_179 ⟨Nat.le_of_ble_eq_true rfl, Nat.le_of_ble_eq_true rfl⟩ (fun H locs hw => ?_)
    refine W.eq (g2 := F0 m 182 ls []) rfl ?_
    exact wM_putTrack_182 C hr hlk hrv hK28 iv4 av4 x1 x2 x3 x4 x5 x6 x7 x8 _ _ ls (lv_sub hl [0, 1, 2, 3, 4, 5, 6, 7, 8] rfl) hw hf
set_option maxHeartbeats 4000000 in
set_option maxRecDepth 100000 in
theorem wM_putTrack_138 {p : Program} {l : Launch} {e : Env} {s : State} {m : MethodId} {args : Array Value} {below : List Frame} {meth : Method} {c : Code} {g : gT} {q : Nat} {ad : Nat → Nat} {X : va_W} {rv : Option Value} {iv' : Nat → Int32} {av' : Nat → Nat → Int32} (C : mCx p m c cM_putTrack 10 s args g "MidiDeskModel") (hr : meth.sig.returnType = none) (hlk : meth.locks = false) (hrv : rv = none) {K28 : (Nat → Int32) → (Nat → Nat → Int32) → Int32 → Int32 → Int32 → Int32 → Int32 → Int32 → Int32 → Option ((Nat → Int32) × (Nat → Nat → Int32))} (hK28 : ∀ (iv : Nat → Int32) (av : Nat → Nat → Int32) (x1 : Int32) (x2 : Int32) (x3 : Int32) (x4 : Int32) (x5 : Int32) (x6 : Int32) (x7 : Int32) (H : Heap) (locs : List Loc) (ls : Array Slot), lv_has ls 10 [(0, .ref q), (1, .int x1), (2, .int x2), (3, .int x3), (4, .int x4), (5, .int x5), (6, .int x6), (7, .int x7)] → mWd g (mA g q ad X s.heap.size) s.heap q ad X iv av H locs → K28 iv av x1 x2 x3 x4 x5 x6 x7 = some (iv', av') → mG p l e rM_putTrack s m args below meth c g q ad X rv iv' av' H locs 0 0 (F0 m 28 ls [])) (iv : Nat → Int32) (av : Nat → Nat → Int32) (x1 : Int32) (x2 : Int32) (x3 : Int32) (x4 : Int32) (x5 : Int32) (x7 : Int32) (x8 : Int32) (s0 : Int32) (H : Heap) (locs : List Loc) (ls : Array Slot) (hl : lv_has ls 10 [(0, .ref q), (1, .int x1), (2, .int x2), (3, .int x3), (4, .int x4), (5, .int x5), (7, .int x7), (8, .int x8)]) (hw : mWd g (mA g q ad X s.heap.size) s.heap q ad X iv av H locs) (hf : jM_putTrack_138 K28 iv av x1 x2 x3 x4 x5 x7 x8 s0 = some (iv', av')) : mG p l e rM_putTrack s m args below meth c g q ad X rv iv' av' H locs 0 0 (F0 m 138 ls [.int s0]) := by
  unfold jM_putTrack_138 at hf
  refine lv_istore (lv' := [(6, .int s0), (0, .ref q), (1, .int x1), (2, .int x2), (3, .int x3), (4, .int x4), (5, .int x5), (7, .int x7), (8, .int x8)]) C.1.1 C.1.2.1 dM_putTrack_138 hl (by decide) rfl (fun ls hl => ?_)
  refine lv_aload_n C.1.1 C.1.2.1 dM_putTrack_140 rfl (lv_at hl 1 rfl) ?_
  refine mg_first C hw dM_putTrack_141 ?_
  refine lv_iload C.1.1 C.1.2.1 dM_putTrack_144 (lv_at hl 8 rfl) ?_
  obtain ⟨h1, hf⟩ := ts_g hf
  refine ma_first C hw h1 dM_putTrack_146 ?_
  refine lv_if_lt (tgt := 161) C.1.1 C.1.2.1 dM_putTrack_147 (by decide) (fun c2 => ?_) (fun c2 => ?_)
  · have hf := ts_t hf c2
    exact wM_putTrack_161 C hr hlk hrv hK28 iv av x1 x2 x3 x4 x5 s0 x7 x8 _ _ ls (lv_sub hl [1, 2, 3, 4, 5, 6, 0, 7, 8] rfl) hw hf
  · have hf := ts_f hf c2
    refine lv_aload_n C.1.1 C.1.2.1 dM_putTrack_150 rfl (lv_at hl 1 rfl) ?_
    refine lv_aload_n C.1.1 C.1.2.1 dM_putTrack_151 rfl (lv_at hl 1 rfl) ?_
    refine mg_first C hw dM_putTrack_152 ?_
    refine lv_iload C.1.1 C.1.2.1 dM_putTrack_155 (lv_at hl 8 rfl) ?_
    obtain ⟨h3, hf⟩ := ts_g hf
    refine ma_first C hw h3 dM_putTrack_157 ?_
    obtain ⟨⟨iv4, av4⟩, g4, hf⟩ := ts_b hf
    dsimp only at hf
    refine m_callV (rest := []) (As := [.int (av 4 x8.toNatClampNeg)]) (rv := none) C hl.1 hw (cM_put_met g4) (callW_of (rm := rM_put) 1 C.1.2.2.2.2 gw_944 gw_946 gw_47 gw_55 gw_947 kM_put ⟨Nat.le_of_ble_eq_true rfl, Nat.le_of_ble_eq_true rfl⟩) rfl rfl (Nat.le_of_ble_eq_true rfl) dM_putTrack_158 ⟨Nat.le_of_ble_eq_true rfl, Nat.le_of_ble_eq_true rfl⟩ (fun H locs hw => ?_)
    refine W.eq (g2 := F0 m 161 ls []) rfl ?_
    exact wM_putTrack_161 C hr hlk hrv hK28 iv4 av4 x1 x2 x3 x4 x5 s0 x7 x8 _ _ ls (lv_sub hl [1, 2, 3, 4, 5, 6, 0, 7, 8] rfl) hw hf
set_option maxHeartbeats 4000000 in
set_option maxRecDepth 100000 in
theorem wM_putTrack_114 {p : Program} {l : Launch} {e : Env} {s : State} {m : MethodId} {args : Array Value} {below : List Frame} {meth : Method} {c : Code} {g : gT} {q : Nat} {ad : Nat → Nat} {X : va_W} {rv : Option Value} {iv' : Nat → Int32} {av' : Nat → Nat → Int32} (C : mCx p m c cM_putTrack 10 s args g "MidiDeskModel") (hr : meth.sig.returnType = none) (hlk : meth.locks = false) (hrv : rv = none) {K28 : (Nat → Int32) → (Nat → Nat → Int32) → Int32 → Int32 → Int32 → Int32 → Int32 → Int32 → Int32 → Option ((Nat → Int32) × (Nat → Nat → Int32))} (hK28 : ∀ (iv : Nat → Int32) (av : Nat → Nat → Int32) (x1 : Int32) (x2 : Int32) (x3 : Int32) (x4 : Int32) (x5 : Int32) (x6 : Int32) (x7 : Int32) (H : Heap) (locs : List Loc) (ls : Array Slot), lv_has ls 10 [(0, .ref q), (1, .int x1), (2, .int x2), (3, .int x3), (4, .int x4), (5, .int x5), (6, .int x6), (7, .int x7)] → mWd g (mA g q ad X s.heap.size) s.heap q ad X iv av H locs → K28 iv av x1 x2 x3 x4 x5 x6 x7 = some (iv', av') → mG p l e rM_putTrack s m args below meth c g q ad X rv iv' av' H locs 0 0 (F0 m 28 ls [])) (iv : Nat → Int32) (av : Nat → Nat → Int32) (x1 : Int32) (x2 : Int32) (x3 : Int32) (x4 : Int32) (x5 : Int32) (x7 : Int32) (x8 : Int32) (H : Heap) (locs : List Loc) (ls : Array Slot) (hl : lv_has ls 10 [(0, .ref q), (1, .int x1), (2, .int x2), (3, .int x3), (4, .int x4), (5, .int x5), (7, .int x7), (8, .int x8)]) (hw : mWd g (mA g q ad X s.heap.size) s.heap q ad X iv av H locs) (hf : jM_putTrack_114 K28 iv av x1 x2 x3 x4 x5 x7 x8 = some (iv', av')) : mG p l e rM_putTrack s m args below meth c g q ad X rv iv' av' H locs 0 0 (F0 m 114 ls []) := by
  unfold jM_putTrack_114 at hf
  refine lv_aload_n C.1.1 C.1.2.1 dM_putTrack_114 rfl (lv_at hl 0 rfl) ?_
  refine mg_status C hw dM_putTrack_115 ?_
  refine lv_iload C.1.1 C.1.2.1 dM_putTrack_118 (lv_at hl 7 rfl) ?_
  obtain ⟨h1, hf⟩ := ts_g hf
  refine ma_status C hw h1 dM_putTrack_120 ?_
  refine lv_sipush (v := (240 : Int32)) C.1.1 C.1.2.1 dM_putTrack_121 (by decide) ?_
  refine lv_icmp_ge (tgt := 137) C.1.1 C.1.2.1 dM_putTrack_124 (by decide) (fun c2 => ?_) (fun c2 => ?_)
  · have hf := ts_t hf c2
    refine lv_iconst (v := (0 : Int32)) C.1.1 C.1.2.1 dM_putTrack_137 (by decide) ?_
    exact wM_putTrack_138 C hr hlk hrv hK28 iv av x1 x2 x3 x4 x5 x7 x8 (0 : Int32) _ _ ls (lv_sub hl [0, 1, 2, 3, 4, 5, 6, 7] rfl) hw hf
  · have hf := ts_f hf c2
    refine lv_aload_n C.1.1 C.1.2.1 dM_putTrack_127 rfl (lv_at hl 0 rfl) ?_
    refine mg_status C hw dM_putTrack_128 ?_
    refine lv_iload C.1.1 C.1.2.1 dM_putTrack_131 (lv_at hl 7 rfl) ?_
    obtain ⟨h3, hf⟩ := ts_g hf
    refine ma_status C hw h3 dM_putTrack_133 ?_
    refine lv_goto (tgt := 138) C.1.1 C.1.2.1 dM_putTrack_134 (by decide) ?_
    exact wM_putTrack_138 C hr hlk hrv hK28 iv av x1 x2 x3 x4 x5 x7 x8 (av 3 x8.toNatClampNeg) _ _ ls (lv_sub hl [0, 1, 2, 3, 4, 5, 6, 7] rfl) hw hf
set_option maxHeartbeats 4000000 in
set_option maxRecDepth 100000 in
theorem wM_putTrack_103 {p : Program} {l : Launch} {e : Env} {s : State} {m : MethodId} {args : Array Value} {below : List Frame} {meth : Method} {c : Code} {g : gT} {q : Nat} {ad : Nat → Nat} {X : va_W} {rv : Option Value} {iv' : Nat → Int32} {av' : Nat → Nat → Int32} (C : mCx p m c cM_putTrack 10 s args g "MidiDeskModel") (hr : meth.sig.returnType = none) (hlk : meth.locks = false) (hrv : rv = none) {K28 : (Nat → Int32) → (Nat → Nat → Int32) → Int32 → Int32 → Int32 → Int32 → Int32 → Int32 → Int32 → Option ((Nat → Int32) × (Nat → Nat → Int32))} (hK28 : ∀ (iv : Nat → Int32) (av : Nat → Nat → Int32) (x1 : Int32) (x2 : Int32) (x3 : Int32) (x4 : Int32) (x5 : Int32) (x6 : Int32) (x7 : Int32) (H : Heap) (locs : List Loc) (ls : Array Slot), lv_has ls 10 [(0, .ref q), (1, .int x1), (2, .int x2), (3, .int x3), (4, .int x4), (5, .int x5), (6, .int x6), (7, .int x7)] → mWd g (mA g q ad X s.heap.size) s.heap q ad X iv av H locs → K28 iv av x1 x2 x3 x4 x5 x6 x7 = some (iv', av') → mG p l e rM_putTrack s m args below meth c g q ad X rv iv' av' H locs 0 0 (F0 m 28 ls [])) (iv : Nat → Int32) (av : Nat → Nat → Int32) (x1 : Int32) (x2 : Int32) (x3 : Int32) (x4 : Int32) (x5 : Int32) (x7 : Int32) (x8 : Int32) (H : Heap) (locs : List Loc) (ls : Array Slot) (hl : lv_has ls 10 [(0, .ref q), (1, .int x1), (2, .int x2), (3, .int x3), (4, .int x4), (5, .int x5), (7, .int x7), (8, .int x8)]) (hw : mWd g (mA g q ad X s.heap.size) s.heap q ad X iv av H locs) (hf : jM_putTrack_103 K28 iv av x1 x2 x3 x4 x5 x7 x8 = some (iv', av')) : mG p l e rM_putTrack s m args below meth c g q ad X rv iv' av' H locs 0 0 (F0 m 103 ls []) := by
  unfold jM_putTrack_103 at hf
  refine lv_aload_n C.1.1 C.1.2.1 dM_putTrack_103 rfl (lv_at hl 0 rfl) ?_
  refine lv_aload_n C.1.1 C.1.2.1 dM_putTrack_104 rfl (lv_at hl 0 rfl) ?_
  refine mg_status C hw dM_putTrack_105 ?_
  refine lv_iload C.1.1 C.1.2.1 dM_putTrack_108 (lv_at hl 7 rfl) ?_
  obtain ⟨h1, hf⟩ := ts_g hf
  refine ma_status C hw h1 dM_putTrack_110 ?_
  obtain ⟨⟨iv2, av2⟩, g2, hf⟩ := ts_b hf
  dsimp only at hf
  refine m_callV (rest := []) (As := [.int (av 3 x8.toNatClampNeg)]) (rv := none) C hl.1 hw (cM_put_met g2) (callW_of (rm := rM_put) 1 C.1.2.2.2.2 gw_944 gw_946 gw_47 gw_55 gw_947 kM_put ⟨Nat.le_of_ble_eq_true rfl, Nat.le_of_ble_eq_true rfl⟩) rfl rfl (Nat.le_of_ble_eq_true rfl) dM_putTrack_111 ⟨Nat.le_of_ble_eq_true rfl, Nat.le_of_ble_eq_true rfl⟩ (fun H locs hw => ?_)
  refine W.eq (g2 := F0 m 114 ls []) rfl ?_
  exact wM_putTrack_114 C hr hlk hrv hK28 iv2 av2 x1 x2 x3 x4 x5 x7 x8 _ _ ls (lv_sub hl [0, 1, 2, 3, 4, 5, 6, 7] rfl) hw hf
set_option maxHeartbeats 4000000 in
set_option maxRecDepth 100000 in
theorem wM_putTrack_64 {p : Program} {l : Launch} {e : Env} {s : State} {m : MethodId} {args : Array Value} {below : List Frame} {meth : Method} {c : Code} {g : gT} {q : Nat} {ad : Nat → Nat} {X : va_W} {rv : Option Value} {iv' : Nat → Int32} {av' : Nat → Nat → Int32} (C : mCx p m c cM_putTrack 10 s args g "MidiDeskModel") (hr : meth.sig.returnType = none) (hlk : meth.locks = false) (hrv : rv = none) {K28 : (Nat → Int32) → (Nat → Nat → Int32) → Int32 → Int32 → Int32 → Int32 → Int32 → Int32 → Int32 → Option ((Nat → Int32) × (Nat → Nat → Int32))} (hK28 : ∀ (iv : Nat → Int32) (av : Nat → Nat → Int32) (x1 : Int32) (x2 : Int32) (x3 : Int32) (x4 : Int32) (x5 : Int32) (x6 : Int32) (x7 : Int32) (H : Heap) (locs : List Loc) (ls : Array Slot), lv_has ls 10 [(0, .ref q), (1, .int x1), (2, .int x2), (3, .int x3), (4, .int x4), (5, .int x5), (6, .int x6), (7, .int x7)] → mWd g (mA g q ad X s.heap.size) s.heap q ad X iv av H locs → K28 iv av x1 x2 x3 x4 x5 x6 x7 = some (iv', av') → mG p l e rM_putTrack s m args below meth c g q ad X rv iv' av' H locs 0 0 (F0 m 28 ls [])) (iv : Nat → Int32) (av : Nat → Nat → Int32) (x1 : Int32) (x2 : Int32) (x3 : Int32) (x4 : Int32) (x5 : Int32) (x6 : Int32) (x7 : Int32) (x8 : Int32) (H : Heap) (locs : List Loc) (ls : Array Slot) (hl : lv_has ls 10 [(0, .ref q), (1, .int x1), (2, .int x2), (3, .int x3), (4, .int x4), (5, .int x5), (6, .int x6), (7, .int x7), (8, .int x8)]) (hw : mWd g (mA g q ad X s.heap.size) s.heap q ad X iv av H locs) (hf : jM_putTrack_64 K28 iv av x1 x2 x3 x4 x5 x6 x7 x8 = some (iv', av')) : mG p l e rM_putTrack s m args below meth c g q ad X rv iv' av' H locs 0 0 (F0 m 64 ls []) := by
  unfold jM_putTrack_64 at hf
  refine lv_aload_n C.1.1 C.1.2.1 dM_putTrack_64 rfl (lv_at hl 0 rfl) ?_
  refine lv_aload_n C.1.1 C.1.2.1 dM_putTrack_65 rfl (lv_at hl 0 rfl) ?_
  refine mg_ticks C hw dM_putTrack_66 ?_
  refine lv_iload C.1.1 C.1.2.1 dM_putTrack_69 (lv_at hl 8 rfl) ?_
  obtain ⟨h1, hf⟩ := ts_g hf
  refine ma_ticks C hw h1 dM_putTrack_71 ?_
  refine lv_iload C.1.1 C.1.2.1 dM_putTrack_72 (lv_at hl 5 rfl) ?_
  refine lv_isub C.1.1 C.1.2.1 dM_putTrack_74 ?_
  obtain ⟨⟨iv2, av2⟩, g2, hf⟩ := ts_b hf
  dsimp only at hf
  refine m_callV (rest := []) (As := [.int ((av 1 x8.toNatClampNeg) - x5)]) (rv := none) C hl.1 hw (cM_putNumber_met g2) (callW_of (rm := rM_putNumber) 1 C.1.2.2.2.2 gw_953 gw_955 gw_49 gw_55 gw_956 kM_putNumber ⟨Nat.le_of_ble_eq_true rfl, Nat.le_of_ble_eq_true rfl⟩) rfl rfl (Nat.le_of_ble_eq_true rfl) dM_putTrack_75 ⟨Nat.le_of_ble_eq_true rfl, Nat.le_of_ble_eq_true rfl⟩ (fun H locs hw => ?_)
  refine W.eq (g2 := F0 m 78 ls []) rfl ?_
  refine lv_aload_n C.1.1 C.1.2.1 dM_putTrack_78 rfl (lv_at hl 0 rfl) ?_
  refine mg_ticks C hw dM_putTrack_79 ?_
  refine lv_iload C.1.1 C.1.2.1 dM_putTrack_82 (lv_at hl 8 rfl) ?_
  obtain ⟨h3, hf⟩ := ts_g hf
  refine ma_ticks C hw h3 dM_putTrack_84 ?_
  refine lv_istore (lv' := [(5, .int (av2 1 x8.toNatClampNeg)), (0, .ref q), (1, .int x1), (2, .int x2), (3, .int x3), (4, .int x4), (6, .int x6), (7, .int x7), (8, .int x8)]) C.1.1 C.1.2.1 dM_putTrack_85 hl (by decide) rfl (fun ls hl => ?_)
  refine lv_iload_n C.1.1 C.1.2.1 dM_putTrack_87 rfl (lv_at hl 4 rfl) ?_
  refine lv_if_eq (tgt := 103) C.1.1 C.1.2.1 dM_putTrack_88 (by decide) (fun c4 => ?_) (fun c4 => ?_)
  · have hf := ts_t hf c4
    exact wM_putTrack_103 C hr hlk hrv hK28 iv2 av2 x1 x2 x3 x4 (av2 1 x8.toNatClampNeg) x7 x8 _ _ ls (lv_sub hl [1, 2, 3, 4, 5, 0, 7, 8] rfl) hw hf
  · have hf := ts_f hf c4
    refine lv_aload_n C.1.1 C.1.2.1 dM_putTrack_91 rfl (lv_at hl 1 rfl) ?_
    refine mg_status C hw dM_putTrack_92 ?_
    refine lv_iload C.1.1 C.1.2.1 dM_putTrack_95 (lv_at hl 8 rfl) ?_
    obtain ⟨h5, hf⟩ := ts_g hf
    refine ma_status C hw h5 dM_putTrack_97 ?_
    refine lv_iload C.1.1 C.1.2.1 dM_putTrack_98 (lv_at hl 6 rfl) ?_
    refine lv_icmp_eq (tgt := 114) C.1.1 C.1.2.1 dM_putTrack_100 (by decide) (fun c6 => ?_) (fun c6 => ?_)
    · have hf := ts_t hf c6
      exact wM_putTrack_114 C hr hlk hrv hK28 iv2 av2 x1 x2 x3 x4 (av2 1 x8.toNatClampNeg) x7 x8 _ _ ls (lv_sub hl [1, 2, 3, 4, 5, 0, 7, 8] rfl) hw hf
    · have hf := ts_f hf c6
      exact wM_putTrack_103 C hr hlk hrv hK28 iv2 av2 x1 x2 x3 x4 (av2 1 x8.toNatClampNeg) x7 x8 _ _ ls (lv_sub hl [1, 2, 3, 4, 5, 0, 7, 8] rfl) hw hf
set_option maxHeartbeats 4000000 in
set_option maxRecDepth 100000 in
theorem wM_putTrack_273 {p : Program} {l : Launch} {e : Env} {s : State} {m : MethodId} {args : Array Value} {below : List Frame} {meth : Method} {c : Code} {g : gT} {q : Nat} {ad : Nat → Nat} {X : va_W} {rv : Option Value} {iv' : Nat → Int32} {av' : Nat → Nat → Int32} (C : mCx p m c cM_putTrack 10 s args g "MidiDeskModel") (hr : meth.sig.returnType = none) (hlk : meth.locks = false) (hrv : rv = none) (k : Nat) : ∀ (iv : Nat → Int32) (av : Nat → Nat → Int32) (x4 : Int32) (x7 : Int32) (x8 : Int32) (H : Heap) (locs : List Loc) (ls : Array Slot), lv_has ls 10 [(0, .ref q), (4, .int x4), (7, .int x7), (8, .int x8)] → mWd g (mA g q ad X s.heap.size) s.heap q ad X iv av H locs → lM_putTrack_273 k iv av x4 x7 x8 = some (iv', av') → mG p l e rM_putTrack s m args below meth c g q ad X rv iv' av' H locs 0 0 (F0 m 273 ls []) := by
  induction k with
  | zero => intro iv av x4 x7 x8 H locs ls hl hw hf; cases hf
  | succ k ih =>
    intro iv av x4 x7 x8 H locs ls hl hw hf
    have hf : (if (4 : Int32) ≤ x8 then (some (iv, av)) else (if (x4 + x8) < 0 ∨ 32768 ≤ (x4 + x8).toNatClampNeg then none else (lM_putTrack_273 k iv (up2 av 11 (x4 + x8).toNatClampNeg ((x7 >>> (((8 : Int32) * ((3 : Int32) - x8)) &&& 31)) &&& (255 : Int32))) x4 x7 (x8 + 1)))) = some (iv', av') := hf
    refine lv_iload C.1.1 C.1.2.1 dM_putTrack_273 (lv_at hl 3 rfl) ?_
    refine lv_iconst (v := (4 : Int32)) C.1.1 C.1.2.1 dM_putTrack_275 (by decide) ?_
    refine lv_icmp_ge (tgt := 309) C.1.1 C.1.2.1 dM_putTrack_276 (by decide) (fun c1 => ?_) (fun c1 => ?_)
    · have hf := ts_t hf c1
      exact m_retv C hr hlk hrv hw hf ⟨Nat.le_of_ble_eq_true rfl, Nat.le_of_ble_eq_true rfl⟩ dM_putTrack_309
    · have hf := ts_f hf c1
      refine lv_aload_n C.1.1 C.1.2.1 dM_putTrack_279 rfl (lv_at hl 0 rfl) ?_
      refine mg_written C hw dM_putTrack_280 ?_
      refine lv_iload C.1.1 C.1.2.1 dM_putTrack_283 (lv_at hl 1 rfl) ?_
      refine lv_iload C.1.1 C.1.2.1 dM_putTrack_285 (lv_at hl 3 rfl) ?_
      refine lv_iadd C.1.1 C.1.2.1 dM_putTrack_287 ?_
      refine lv_iload C.1.1 C.1.2.1 dM_putTrack_288 (lv_at hl 2 rfl) ?_
      refine lv_bipush (v := (8 : Int32)) C.1.1 C.1.2.1 dM_putTrack_290 (by decide) ?_
      refine lv_iconst (v := (3 : Int32)) C.1.1 C.1.2.1 dM_putTrack_292 (by decide) ?_
      refine lv_iload C.1.1 C.1.2.1 dM_putTrack_293 (lv_at hl 3 rfl) ?_
      refine lv_isub C.1.1 C.1.2.1 dM_putTrack_295 ?_
      refine lv_imul C.1.1 C.1.2.1 dM_putTrack_296 ?_
      refine lv_ishr C.1.1 C.1.2.1 dM_putTrack_297 ?_
      refine lv_sipush (v := (255 : Int32)) C.1.1 C.1.2.1 dM_putTrack_298 (by decide) ?_
      refine lv_iand C.1.1 C.1.2.1 dM_putTrack_301 ?_
      obtain ⟨h2, hf⟩ := ts_g hf
      refine ms_written C hw h2 dM_putTrack_302 (fun H locs hw => ?_)
      refine lv_iinc (v := x8 + 1) (lv' := [(8, .int (x8 + 1)), (0, .ref q), (4, .int x4), (7, .int x7)]) C.1.1 C.1.2.1 dM_putTrack_303 hl (k := 3) rfl rfl (by decide) rfl (fun ls hl => ?_)
      refine lv_goto (tgt := 273) C.1.1 C.1.2.1 dM_putTrack_306 (by decide) ?_
      exact ih iv (up2 av 11 (x4 + x8).toNatClampNeg ((x7 >>> (((8 : Int32) * ((3 : Int32) - x8)) &&& 31)) &&& (255 : Int32))) x4 x7 (x8 + 1) _ _ ls (lv_sub hl [1, 2, 3, 0] rfl) hw hf
set_option maxHeartbeats 4000000 in
set_option maxRecDepth 100000 in
theorem wM_putTrack_28 {p : Program} {l : Launch} {e : Env} {s : State} {m : MethodId} {args : Array Value} {below : List Frame} {meth : Method} {c : Code} {g : gT} {q : Nat} {ad : Nat → Nat} {X : va_W} {rv : Option Value} {iv' : Nat → Int32} {av' : Nat → Nat → Int32} (C : mCx p m c cM_putTrack 10 s args g "MidiDeskModel") (hr : meth.sig.returnType = none) (hlk : meth.locks = false) (hrv : rv = none) (k : Nat) : ∀ (iv : Nat → Int32) (av : Nat → Nat → Int32) (x1 : Int32) (x2 : Int32) (x3 : Int32) (x4 : Int32) (x5 : Int32) (x6 : Int32) (x7 : Int32) (H : Heap) (locs : List Loc) (ls : Array Slot), lv_has ls 10 [(0, .ref q), (1, .int x1), (2, .int x2), (3, .int x3), (4, .int x4), (5, .int x5), (6, .int x6), (7, .int x7)] → mWd g (mA g q ad X s.heap.size) s.heap q ad X iv av H locs → lM_putTrack_28 k iv av x1 x2 x3 x4 x5 x6 x7 = some (iv', av') → mG p l e rM_putTrack s m args below meth c g q ad X rv iv' av' H locs 0 0 (F0 m 28 ls []) := by
  induction k with
  | zero => intro iv av x1 x2 x3 x4 x5 x6 x7 H locs ls hl hw hf; cases hf
  | succ k ih =>
    intro iv av x1 x2 x3 x4 x5 x6 x7 H locs ls hl hw hf
    have hf : (if (iv 10) ≤ x7 then ((fM_puts iv av (16723712 : Int32) (4 : Int32)).bind fun (iv2, av2) => lM_putTrack_273 FU iv2 av2 x4 (((iv2 12) - x4) - (4 : Int32)) (0 : Int32)) else (if x7 < 0 ∨ 1001 ≤ x7.toNatClampNeg then none else (if x2 = 0 then (if (av 8 x7.toNatClampNeg) < 0 ∨ 1001 ≤ (av 8 x7.toNatClampNeg).toNatClampNeg then none else (if (av 2 (av 8 x7.toNatClampNeg).toNatClampNeg) = x1 then (jM_putTrack_64 (lM_putTrack_28 k) iv av x1 x2 x3 x4 x5 x6 x7 (av 8 x7.toNatClampNeg)) else (jM_putTrack_246 (lM_putTrack_28 k) iv av x1 x2 x3 x4 x5 x6 x7))) else (jM_putTrack_64 (lM_putTrack_28 k) iv av x1 x2 x3 x4 x5 x6 x7 (av 8 x7.toNatClampNeg))))) = some (iv', av') := hf
    refine lv_iload C.1.1 C.1.2.1 dM_putTrack_28 (lv_at hl 7 rfl) ?_
    refine lv_aload_n C.1.1 C.1.2.1 dM_putTrack_30 rfl (lv_at hl 0 rfl) ?_
    refine mg_events C hw dM_putTrack_31 ?_
    refine lv_icmp_ge (tgt := 252) C.1.1 C.1.2.1 dM_putTrack_34 (by decide) (fun c1 => ?_) (fun c1 => ?_)
    · have hf := ts_t hf c1
      refine lv_aload_n C.1.1 C.1.2.1 dM_putTrack_252 rfl (lv_at hl 0 rfl) ?_
      refine lv_ldc C.1.1 C.1.2.1 C.1.2.2.2.1 (C.1.2.2.2.2 _ gw_958) dM_putTrack_253 ?_
      refine lv_iconst (v := (4 : Int32)) C.1.1 C.1.2.1 dM_putTrack_255 (by decide) ?_
      obtain ⟨⟨iv2, av2⟩, g2, hf⟩ := ts_b hf
      dsimp only at hf
      refine m_callV (rest := []) (As := [.int (16723712 : Int32), .int (4 : Int32)]) (rv := none) C hl.1 hw (cM_puts_met g2) (callW_of (rm := rM_puts) 2 C.1.2.2.2.2 gw_940 gw_942 gw_46 gw_55 gw_943 kM_puts ⟨Nat.le_of_ble_eq_true rfl, Nat.le_of_ble_eq_true rfl⟩) rfl rfl (Nat.le_of_ble_eq_true rfl) dM_putTrack_256 ⟨Nat.le_of_ble_eq_true rfl, Nat.le_of_ble_eq_true rfl⟩ (fun H locs hw => ?_)
      refine W.eq (g2 := F0 m 259 ls []) rfl ?_
      refine lv_aload_n C.1.1 C.1.2.1 dM_putTrack_259 rfl (lv_at hl 0 rfl) ?_
      refine mg_writtenSize C hw dM_putTrack_260 ?_
      refine lv_iload C.1.1 C.1.2.1 dM_putTrack_263 (lv_at hl 4 rfl) ?_
      refine lv_isub C.1.1 C.1.2.1 dM_putTrack_265 ?_
      refine lv_iconst (v := (4 : Int32)) C.1.1 C.1.2.1 dM_putTrack_266 (by decide) ?_
      refine lv_isub C.1.1 C.1.2.1 dM_putTrack_267 ?_
      refine lv_istore (lv' := [(7, .int (((iv2 12) - x4) - (4 : Int32))), (0, .ref q), (1, .int x1), (2, .int x2), (3, .int x3), (4, .int x4), (5, .int x5), (6, .int x6)]) C.1.1 C.1.2.1 dM_putTrack_268 hl (by decide) rfl (fun ls hl => ?_)
      refine lv_iconst (v := (0 : Int32)) C.1.1 C.1.2.1 dM_putTrack_270 (by decide) ?_
      refine lv_istore (lv' := [(8, .int (0 : Int32)), (7, .int (((iv2 12) - x4) - (4 : Int32))), (0, .ref q), (1, .int x1), (2, .int x2), (3, .int x3), (4, .int x4), (5, .int x5), (6, .int x6)]) C.1.1 C.1.2.1 dM_putTrack_271 hl (by decide) rfl (fun ls hl => ?_)
      exact wM_putTrack_273 C hr hlk hrv FU iv2 av2 x4 (((iv2 12) - x4) - (4 : Int32)) (0 : Int32) _ _ ls (lv_sub hl [2, 6, 1, 0] rfl) hw hf
    · have hf := ts_f hf c1
      refine lv_aload_n C.1.1 C.1.2.1 dM_putTrack_37 rfl (lv_at hl 0 rfl) ?_
      refine mg_order C hw dM_putTrack_38 ?_
      refine lv_iload C.1.1 C.1.2.1 dM_putTrack_41 (lv_at hl 7 rfl) ?_
      obtain ⟨h3, hf⟩ := ts_g hf
      refine ma_order C hw h3 dM_putTrack_43 ?_
      refine lv_istore (lv' := [(8, .int (av 8 x7.toNatClampNeg)), (0, .ref q), (1, .int x1), (2, .int x2), (3, .int x3), (4, .int x4), (5, .int x5), (6, .int x6), (7, .int x7)]) C.1.1 C.1.2.1 dM_putTrack_44 hl (by decide) rfl (fun ls hl => ?_)
      refine lv_iload_n C.1.1 C.1.2.1 dM_putTrack_46 rfl (lv_at hl 3 rfl) ?_
      refine lv_if_ne (tgt := 64) C.1.1 C.1.2.1 dM_putTrack_47 (by decide) (fun c4 => ?_) (fun c4 => ?_)
      · have hf := ts_f hf c4
        exact wM_putTrack_64 C hr hlk hrv ih iv av x1 x2 x3 x4 x5 x6 x7 (av 8 x7.toNatClampNeg) _ _ ls (lv_sub hl [1, 2, 3, 4, 5, 6, 7, 8, 0] rfl) hw hf
      · have hf := ts_t hf c4
        refine lv_aload_n C.1.1 C.1.2.1 dM_putTrack_50 rfl (lv_at hl 1 rfl) ?_
        refine mg_trackOf C hw dM_putTrack_51 ?_
        refine lv_iload C.1.1 C.1.2.1 dM_putTrack_54 (lv_at hl 0 rfl) ?_
        obtain ⟨h5, hf⟩ := ts_g hf
        refine ma_trackOf C hw h5 dM_putTrack_56 ?_
        refine lv_iload_n C.1.1 C.1.2.1 dM_putTrack_57 rfl (lv_at hl 2 rfl) ?_
        refine lv_icmp_eq (tgt := 64) C.1.1 C.1.2.1 dM_putTrack_58 (by decide) (fun c6 => ?_) (fun c6 => ?_)
        · have hf := ts_t hf c6
          exact wM_putTrack_64 C hr hlk hrv ih iv av x1 x2 x3 x4 x5 x6 x7 (av 8 x7.toNatClampNeg) _ _ ls (lv_sub hl [1, 2, 3, 4, 5, 6, 7, 8, 0] rfl) hw hf
        · have hf := ts_f hf c6
          refine lv_goto (tgt := 246) C.1.1 C.1.2.1 dM_putTrack_61 (by decide) ?_
          exact wM_putTrack_246 C hr hlk hrv ih iv av x1 x2 x3 x4 x5 x6 x7 _ _ ls (lv_sub hl [1, 2, 3, 4, 5, 6, 7, 8] rfl) hw hf
set_option maxHeartbeats 4000000 in
set_option maxRecDepth 100000 in
theorem cM_putTrack_met {l : Launch} {g : gT} {q : Nat} {ad : Nat → Nat} {X : va_W} {iv iv' : Nat → Int32} {av av' : Nat → Nat → Int32} {x1 : Int32} {x2 : Int32} {x3 : Int32} (hf : fM_putTrack iv av x1 x2 x3 = some (iv', av')) : mMet l yM_putTrack cM_putTrack 10 none rM_putTrack g q ad X iv av [.ref q, .int x1, .int x2, .int x3] none iv' av' := by
  refine m_entry (by decide) (Nat.le_of_ble_eq_true rfl) ?_
  intro p e s m args below meth c ls C hr hlk hnm hl hw
  have hrv : (none : Option Value) = none := rfl
  have C : mCx p m c cM_putTrack 10 s args g "MidiDeskModel" := C
  have hl : lv_has ls 10 [(0, .ref q), (1, .int x1), (2, .int x2), (3, .int x3)] := hl
  unfold fM_putTrack at hf
  refine lv_aload_n C.1.1 C.1.2.1 dM_putTrack_0 rfl (lv_at hl 0 rfl) ?_
  refine lv_ldc C.1.1 C.1.2.1 C.1.2.2.2.1 (C.1.2.2.2.2 _ gw_952) dM_putTrack_1 ?_
  refine lv_iconst (v := (4 : Int32)) C.1.1 C.1.2.1 dM_putTrack_3 (by decide) ?_
  obtain ⟨⟨iv1, av1⟩, g1, hf⟩ := ts_b hf
  dsimp only at hf
  refine m_callV (rest := []) (As := [.int (1297379947 : Int32), .int (4 : Int32)]) (rv := none) C hl.1 hw (cM_puts_met g1) (callW_of (rm := rM_puts) 2 C.1.2.2.2.2 gw_940 gw_942 gw_46 gw_55 gw_943 kM_puts ⟨Nat.le_of_ble_eq_true rfl, Nat.le_of_ble_eq_true rfl⟩) rfl rfl (Nat.le_of_ble_eq_true rfl) dM_putTrack_4 ⟨Nat.le_of_ble_eq_true rfl, Nat.le_of_ble_eq_true rfl⟩ (fun H locs hw => ?_)
  refine W.eq (g2 := F0 m 7 ls []) rfl ?_
  refine lv_aload_n C.1.1 C.1.2.1 dM_putTrack_7 rfl (lv_at hl 0 rfl) ?_
  refine mg_writtenSize C hw dM_putTrack_8 ?_
  refine lv_istore (lv' := [(4, .int (iv1 12)), (0, .ref q), (1, .int x1), (2, .int x2), (3, .int x3)]) C.1.1 C.1.2.1 dM_putTrack_11 hl (by decide) rfl (fun ls hl => ?_)
  refine lv_aload_n C.1.1 C.1.2.1 dM_putTrack_13 rfl (lv_at hl 1 rfl) ?_
  refine lv_iconst (v := (0 : Int32)) C.1.1 C.1.2.1 dM_putTrack_14 (by decide) ?_
  refine lv_iconst (v := (4 : Int32)) C.1.1 C.1.2.1 dM_putTrack_15 (by decide) ?_
  obtain ⟨⟨iv2, av2⟩, g2, hf⟩ := ts_b hf
  dsimp only at hf
  refine m_callV (rest := []) (As := [.int (0 : Int32), .int (4 : Int32)]) (rv := none) C hl.1 hw (cM_puts_met g2) (callW_of (rm := rM_puts) 2 C.1.2.2.2.2 gw_940 gw_942 gw_46 gw_55 gw_943 kM_puts ⟨Nat.le_of_ble_eq_true rfl, Nat.le_of_ble_eq_true rfl⟩) rfl rfl (Nat.le_of_ble_eq_true rfl) dM_putTrack_16 ⟨Nat.le_of_ble_eq_true rfl, Nat.le_of_ble_eq_true rfl⟩ (fun H locs hw => ?_)
  refine W.eq (g2 := F0 m 19 ls []) rfl ?_
  refine lv_iconst (v := (0 : Int32)) C.1.1 C.1.2.1 dM_putTrack_19 (by decide) ?_
  refine lv_istore (lv' := [(5, .int (0 : Int32)), (4, .int (iv1 12)), (0, .ref q), (1, .int x1), (2, .int x2), (3, .int x3)]) C.1.1 C.1.2.1 dM_putTrack_20 hl (by decide) rfl (fun ls hl => ?_)
  refine lv_iconst (v := (0 : Int32)) C.1.1 C.1.2.1 dM_putTrack_22 (by decide) ?_
  refine lv_istore (lv' := [(6, .int (0 : Int32)), (5, .int (0 : Int32)), (4, .int (iv1 12)), (0, .ref q), (1, .int x1), (2, .int x2), (3, .int x3)]) C.1.1 C.1.2.1 dM_putTrack_23 hl (by decide) rfl (fun ls hl => ?_)
  refine lv_iconst (v := (0 : Int32)) C.1.1 C.1.2.1 dM_putTrack_25 (by decide) ?_
  refine lv_istore (lv' := [(7, .int (0 : Int32)), (6, .int (0 : Int32)), (5, .int (0 : Int32)), (4, .int (iv1 12)), (0, .ref q), (1, .int x1), (2, .int x2), (3, .int x3)]) C.1.1 C.1.2.1 dM_putTrack_26 hl (by decide) rfl (fun ls hl => ?_)
  exact wM_putTrack_28 C hr hlk hrv FU iv2 av2 x1 x2 x3 (iv1 12) (0 : Int32) (0 : Int32) (0 : Int32) _ _ ls (lv_sub hl [4, 5, 6, 7, 3, 2, 1, 0] rfl) hw hf
