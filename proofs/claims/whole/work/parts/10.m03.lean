abbrev cM_track : ByteArray := prog_8_method_11_code
abbrev yM_track : MethodName := ⟨"MidiDeskModel", "track", "(I)V"⟩
theorem kM_track : yM_track.cls ≠ "java/lang/invoke/MethodHandle" ∧ yM_track.cls ≠ "java/lang/invoke/VarHandle" ∧ (parseMethodDescriptor yM_track.desc).map (fun d => d.parameters.length) = some 1 := by decide +kernel
abbrev rM_track : Room := { frames := 5, cells := 0, slots := 0, locals := 120 }
theorem dM_track_0 : decode cM_track 0 = .ok (.iconst 0, 1) := by decide +kernel
theorem dM_track_1 : decode cM_track 1 = .ok (.istore_n 2, 1) := by decide +kernel
theorem dM_track_2 : decode cM_track 2 = .ok (.lconst 0, 1) := by decide +kernel
theorem dM_track_3 : decode cM_track 3 = .ok (.lstore_n 3, 1) := by decide +kernel
theorem dM_track_4 : decode cM_track 4 = .ok (.iconst 1, 1) := by decide +kernel
theorem dM_track_5 : decode cM_track 5 = .ok (.istore 5, 2) := by decide +kernel
theorem dM_track_7 : decode cM_track 7 = .ok (.iload 5, 2) := by decide +kernel
theorem dM_track_9 : decode cM_track 9 = .ok (.ifCond .eq 170, 3) := by decide +kernel
theorem dM_track_12 : decode cM_track 12 = .ok (.aload_n 0, 1) := by decide +kernel
theorem dM_track_13 : decode cM_track 13 = .ok (.getfield 56, 3) := by decide +kernel
theorem dM_track_16 : decode cM_track 16 = .ok (.ifCond .ne 163, 3) := by decide +kernel
theorem dM_track_19 : decode cM_track 19 = .ok (.aload_n 0, 1) := by decide +kernel
theorem dM_track_20 : decode cM_track 20 = .ok (.getfield 62, 3) := by decide +kernel
theorem dM_track_23 : decode cM_track 23 = .ok (.istore 6, 2) := by decide +kernel
theorem dM_track_25 : decode cM_track 25 = .ok (.lload_n 3, 1) := by decide +kernel
theorem dM_track_26 : decode cM_track 26 = .ok (.aload_n 0, 1) := by decide +kernel
theorem dM_track_27 : decode cM_track 27 = .ok (.invokevirtual 117, 3) := by decide +kernel
theorem dM_track_30 : decode cM_track 30 = .ok (.i2l, 1) := by decide +kernel
theorem dM_track_31 : decode cM_track 31 = .ok (.ladd, 1) := by decide +kernel
theorem dM_track_32 : decode cM_track 32 = .ok (.lstore_n 3, 1) := by decide +kernel
theorem dM_track_33 : decode cM_track 33 = .ok (.lload_n 3, 1) := by decide +kernel
theorem dM_track_34 : decode cM_track 34 = .ok (.ldc2_w 121, 3) := by decide +kernel
theorem dM_track_37 : decode cM_track 37 = .ok (.lcmp, 1) := by decide +kernel
theorem dM_track_38 : decode cM_track 38 = .ok (.ifCond .le 11, 3) := by decide +kernel
theorem dM_track_41 : decode cM_track 41 = .ok (.aload_n 0, 1) := by decide +kernel
theorem dM_track_42 : decode cM_track 42 = .ok (.bipush 11, 2) := by decide +kernel
theorem dM_track_44 : decode cM_track 44 = .ok (.iload 6, 2) := by decide +kernel
theorem dM_track_46 : decode cM_track 46 = .ok (.invokevirtual 68, 3) := by decide +kernel
theorem dM_track_49 : decode cM_track 49 = .ok (.aload_n 0, 1) := by decide +kernel
theorem dM_track_50 : decode cM_track 50 = .ok (.getfield 62, 3) := by decide +kernel
theorem dM_track_53 : decode cM_track 53 = .ok (.istore 6, 2) := by decide +kernel
theorem dM_track_55 : decode cM_track 55 = .ok (.aload_n 0, 1) := by decide +kernel
theorem dM_track_56 : decode cM_track 56 = .ok (.iconst 1, 1) := by decide +kernel
theorem dM_track_57 : decode cM_track 57 = .ok (.invokevirtual 74, 3) := by decide +kernel
theorem dM_track_60 : decode cM_track 60 = .ok (.l2i, 1) := by decide +kernel
theorem dM_track_61 : decode cM_track 61 = .ok (.istore 7, 2) := by decide +kernel
theorem dM_track_63 : decode cM_track 63 = .ok (.aload_n 0, 1) := by decide +kernel
theorem dM_track_64 : decode cM_track 64 = .ok (.getfield 56, 3) := by decide +kernel
theorem dM_track_67 : decode cM_track 67 = .ok (.ifCond .le 6, 3) := by decide +kernel
theorem dM_track_70 : decode cM_track 70 = .ok (.goto (-63), 3) := by decide +kernel
theorem dM_track_73 : decode cM_track 73 = .ok (.iload 7, 2) := by decide +kernel
theorem dM_track_75 : decode cM_track 75 = .ok (.sipush 128, 3) := by decide +kernel
theorem dM_track_78 : decode cM_track 78 = .ok (.if_icmp .ge 7, 3) := by decide +kernel
theorem dM_track_81 : decode cM_track 81 = .ok (.iload_n 2, 1) := by decide +kernel
theorem dM_track_82 : decode cM_track 82 = .ok (.ifCond .eq 35, 3) := by decide +kernel
theorem dM_track_85 : decode cM_track 85 = .ok (.iload 7, 2) := by decide +kernel
theorem dM_track_87 : decode cM_track 87 = .ok (.sipush 240, 3) := by decide +kernel
theorem dM_track_90 : decode cM_track 90 = .ok (.if_icmp .le 11, 3) := by decide +kernel
theorem dM_track_93 : decode cM_track 93 = .ok (.iload 7, 2) := by decide +kernel
theorem dM_track_95 : decode cM_track 95 = .ok (.sipush 247, 3) := by decide +kernel
theorem dM_track_98 : decode cM_track 98 = .ok (.if_icmp .lt 19, 3) := by decide +kernel
theorem dM_track_101 : decode cM_track 101 = .ok (.iload 7, 2) := by decide +kernel
theorem dM_track_103 : decode cM_track 103 = .ok (.sipush 247, 3) := by decide +kernel
theorem dM_track_106 : decode cM_track 106 = .ok (.if_icmp .le 18, 3) := by decide +kernel
theorem dM_track_109 : decode cM_track 109 = .ok (.iload 7, 2) := by decide +kernel
theorem dM_track_111 : decode cM_track 111 = .ok (.sipush 255, 3) := by decide +kernel
theorem dM_track_114 : decode cM_track 114 = .ok (.if_icmp .ge 10, 3) := by decide +kernel
theorem dM_track_117 : decode cM_track 117 = .ok (.aload_n 0, 1) := by decide +kernel
theorem dM_track_118 : decode cM_track 118 = .ok (.iconst 5, 1) := by decide +kernel
theorem dM_track_119 : decode cM_track 119 = .ok (.iload 6, 2) := by decide +kernel
theorem dM_track_121 : decode cM_track 121 = .ok (.invokevirtual 68, 3) := by decide +kernel
theorem dM_track_124 : decode cM_track 124 = .ok (.iload 7, 2) := by decide +kernel
theorem dM_track_126 : decode cM_track 126 = .ok (.sipush 128, 3) := by decide +kernel
theorem dM_track_129 : decode cM_track 129 = .ok (.if_icmp .ge 12, 3) := by decide +kernel
theorem dM_track_132 : decode cM_track 132 = .ok (.aload_n 0, 1) := by decide +kernel
theorem dM_track_133 : decode cM_track 133 = .ok (.iload 6, 2) := by decide +kernel
theorem dM_track_135 : decode cM_track 135 = .ok (.putfield 62, 3) := by decide +kernel
theorem dM_track_138 : decode cM_track 138 = .ok (.iload_n 2, 1) := by decide +kernel
theorem dM_track_139 : decode cM_track 139 = .ok (.istore 7, 2) := by decide +kernel
theorem dM_track_141 : decode cM_track 141 = .ok (.iload 7, 2) := by decide +kernel
theorem dM_track_143 : decode cM_track 143 = .ok (.sipush 240, 3) := by decide +kernel
theorem dM_track_146 : decode cM_track 146 = .ok (.if_icmp .ge 8, 3) := by decide +kernel
theorem dM_track_149 : decode cM_track 149 = .ok (.iload 7, 2) := by decide +kernel
theorem dM_track_151 : decode cM_track 151 = .ok (.goto 4, 3) := by decide +kernel
theorem dM_track_154 : decode cM_track 154 = .ok (.iconst 0, 1) := by decide +kernel
theorem dM_track_155 : decode cM_track 155 = .ok (.istore_n 2, 1) := by decide +kernel
theorem dM_track_156 : decode cM_track 156 = .ok (.aload_n 0, 1) := by decide +kernel
theorem dM_track_157 : decode cM_track 157 = .ok (.getfield 56, 3) := by decide +kernel
theorem dM_track_160 : decode cM_track 160 = .ok (.ifCond .ne 16, 3) := by decide +kernel
theorem dM_track_163 : decode cM_track 163 = .ok (.aload_n 0, 1) := by decide +kernel
theorem dM_track_164 : decode cM_track 164 = .ok (.iload_n 1, 1) := by decide +kernel
theorem dM_track_165 : decode cM_track 165 = .ok (.lload_n 3, 1) := by decide +kernel
theorem dM_track_166 : decode cM_track 166 = .ok (.l2i, 1) := by decide +kernel
theorem dM_track_167 : decode cM_track 167 = .ok (.iload 7, 2) := by decide +kernel
theorem dM_track_169 : decode cM_track 169 = .ok (.iload 6, 2) := by decide +kernel
theorem dM_track_171 : decode cM_track 171 = .ok (.invokevirtual 123, 3) := by decide +kernel
theorem dM_track_174 : decode cM_track 174 = .ok (.istore 5, 2) := by decide +kernel
theorem dM_track_176 : decode cM_track 176 = .ok (.goto (-169), 3) := by decide +kernel
theorem dM_track_179 : decode cM_track 179 = .ok (.return_, 1) := by decide +kernel
def jM_track_176 (K7 : (Nat → Int32) → (Nat → Nat → Int32) → Int32 → Int32 → Int64 → Int32 → Option ((Nat → Int32) × (Nat → Nat → Int32))) (iv : Nat → Int32) (av : Nat → Nat → Int32) (x1 : Int32) (x2 : Int32) (y3 : Int64) (x5 : Int32) : Option ((Nat → Int32) × (Nat → Nat → Int32)) := K7 iv av x1 x2 y3 x5
def jM_track_155 (K7 : (Nat → Int32) → (Nat → Nat → Int32) → Int32 → Int32 → Int64 → Int32 → Option ((Nat → Int32) × (Nat → Nat → Int32))) (iv : Nat → Int32) (av : Nat → Nat → Int32) (x1 : Int32) (y3 : Int64) (x5 : Int32) (x6 : Int32) (x7 : Int32) (s0 : Int32) : Option ((Nat → Int32) × (Nat → Nat → Int32)) := if (iv 4) = 0 then ((fM_eventIn iv av x1 y3.toInt32 x7 x6).bind fun (r2, iv2, av2) => jM_track_176 K7 iv2 av2 x1 s0 y3 r2) else (jM_track_176 K7 iv av x1 s0 y3 x5)
def jM_track_141 (K7 : (Nat → Int32) → (Nat → Nat → Int32) → Int32 → Int32 → Int64 → Int32 → Option ((Nat → Int32) × (Nat → Nat → Int32))) (iv : Nat → Int32) (av : Nat → Nat → Int32) (x1 : Int32) (y3 : Int64) (x5 : Int32) (x6 : Int32) (x7 : Int32) : Option ((Nat → Int32) × (Nat → Nat → Int32)) := if (240 : Int32) ≤ x7 then (jM_track_155 K7 iv av x1 y3 x5 x6 x7 (0 : Int32)) else (jM_track_155 K7 iv av x1 y3 x5 x6 x7 x7)
def jM_track_124 (K7 : (Nat → Int32) → (Nat → Nat → Int32) → Int32 → Int32 → Int64 → Int32 → Option ((Nat → Int32) × (Nat → Nat → Int32))) (iv : Nat → Int32) (av : Nat → Nat → Int32) (x1 : Int32) (x2 : Int32) (y3 : Int64) (x5 : Int32) (x6 : Int32) (x7 : Int32) : Option ((Nat → Int32) × (Nat → Nat → Int32)) := if (128 : Int32) ≤ x7 then (jM_track_141 K7 iv av x1 y3 x5 x6 x7) else (jM_track_141 K7 (upd iv 2 x6) av x1 y3 x5 x6 x2)
def jM_track_117 (K7 : (Nat → Int32) → (Nat → Nat → Int32) → Int32 → Int32 → Int64 → Int32 → Option ((Nat → Int32) × (Nat → Nat → Int32))) (iv : Nat → Int32) (av : Nat → Nat → Int32) (x1 : Int32) (x2 : Int32) (y3 : Int64) (x5 : Int32) (x6 : Int32) (x7 : Int32) : Option ((Nat → Int32) × (Nat → Nat → Int32)) := (fM_fail iv av (5 : Int32) x6).bind fun (iv1, av1) => jM_track_124 K7 iv1 av1 x1 x2 y3 x5 x6 x7
def jM_track_101 (K7 : (Nat → Int32) → (Nat → Nat → Int32) → Int32 → Int32 → Int64 → Int32 → Option ((Nat → Int32) × (Nat → Nat → Int32))) (iv : Nat → Int32) (av : Nat → Nat → Int32) (x1 : Int32) (x2 : Int32) (y3 : Int64) (x5 : Int32) (x6 : Int32) (x7 : Int32) : Option ((Nat → Int32) × (Nat → Nat → Int32)) := if x7 ≤ (247 : Int32) then (jM_track_124 K7 iv av x1 x2 y3 x5 x6 x7) else (if (255 : Int32) ≤ x7 then (jM_track_124 K7 iv av x1 x2 y3 x5 x6 x7) else (jM_track_117 K7 iv av x1 x2 y3 x5 x6 x7))
def jM_track_85 (K7 : (Nat → Int32) → (Nat → Nat → Int32) → Int32 → Int32 → Int64 → Int32 → Option ((Nat → Int32) × (Nat → Nat → Int32))) (iv : Nat → Int32) (av : Nat → Nat → Int32) (x1 : Int32) (x2 : Int32) (y3 : Int64) (x5 : Int32) (x6 : Int32) (x7 : Int32) : Option ((Nat → Int32) × (Nat → Nat → Int32)) := if x7 ≤ (240 : Int32) then (jM_track_101 K7 iv av x1 x2 y3 x5 x6 x7) else (if x7 < (247 : Int32) then (jM_track_117 K7 iv av x1 x2 y3 x5 x6 x7) else (jM_track_101 K7 iv av x1 x2 y3 x5 x6 x7))
def jM_track_49 (K7 : (Nat → Int32) → (Nat → Nat → Int32) → Int32 → Int32 → Int64 → Int32 → Option ((Nat → Int32) × (Nat → Nat → Int32))) (iv : Nat → Int32) (av : Nat → Nat → Int32) (x1 : Int32) (x2 : Int32) (y3 : Int64) (x5 : Int32) : Option ((Nat → Int32) × (Nat → Nat → Int32)) := (fM_taken iv av (1 : Int32)).bind fun (r1, iv1, av1) => if (iv1 4) ≤ 0 then (if (128 : Int32) ≤ r1.toInt32 then (jM_track_85 K7 iv1 av1 x1 x2 y3 x5 (iv 2) r1.toInt32) else (if x2 = 0 then (jM_track_117 K7 iv1 av1 x1 x2 y3 x5 (iv 2) r1.toInt32) else (jM_track_85 K7 iv1 av1 x1 x2 y3 x5 (iv 2) r1.toInt32))) else (K7 iv1 av1 x1 x2 y3 x5)
def lM_track_7 : Nat → (Nat → Int32) → (Nat → Nat → Int32) → Int32 → Int32 → Int64 → Int32 → Option ((Nat → Int32) × (Nat → Nat → Int32))
  | 0 => fun _ _ _ _ _ _ => none
  | k + 1 => fun iv av x1 x2 y3 x5 => if x5 = 0 then (some (iv, av)) else (if (iv 4) = 0 then ((fM_number iv av).bind fun (r3, iv3, av3) => if (lg_cmp (y3 + r3.toInt64) (268435455 : Int64)) ≤ 0 then (jM_track_49 (lM_track_7 k) iv3 av3 x1 x2 (y3 + r3.toInt64) x5) else ((fM_fail iv3 av3 (11 : Int32) (iv 2)).bind fun (iv5, av5) => jM_track_49 (lM_track_7 k) iv5 av5 x1 x2 (y3 + r3.toInt64) x5)) else (some (iv, av)))
def fM_track (iv : Nat → Int32) (av : Nat → Nat → Int32) (x1 : Int32) : Option ((Nat → Int32) × (Nat → Nat → Int32)) := lM_track_7 FU iv av x1 (0 : Int32) (0 : Int64) (1 : Int32)
set_option maxHeartbeats 4000000 in
set_option maxRecDepth 100000 in
theorem wM_track_176 {p : Program} {l : Launch} {e : Env} {s : State} {m : MethodId} {args : Array Value} {below : List Frame} {meth : Method} {c : Code} {g : gT} {q : Nat} {ad : Nat → Nat} {X : va_W} {rv : Option Value} {iv' : Nat → Int32} {av' : Nat → Nat → Int32} (C : mCx p m c cM_track 8 s args g "MidiDeskModel") (hr : meth.sig.returnType = none) (hlk : meth.locks = false) (hrv : rv = none) {K7 : (Nat → Int32) → (Nat → Nat → Int32) → Int32 → Int32 → Int64 → Int32 → Option ((Nat → Int32) × (Nat → Nat → Int32))} (hK7 : ∀ (iv : Nat → Int32) (av : Nat → Nat → Int32) (x1 : Int32) (x2 : Int32) (y3 : Int64) (x5 : Int32) (H : Heap) (locs : List Loc) (ls : Array Slot), lv_has ls 8 [(0, .ref q), (1, .int x1), (2, .int x2), (3, .long y3), (5, .int x5)] → mWd g (mA g q ad X s.heap.size) s.heap q ad X iv av H locs → K7 iv av x1 x2 y3 x5 = some (iv', av') → mG p l e rM_track s m args below meth c g q ad X rv iv' av' H locs 0 0 (F0 m 7 ls [])) (iv : Nat → Int32) (av : Nat → Nat → Int32) (x1 : Int32) (x2 : Int32) (y3 : Int64) (x5 : Int32) (H : Heap) (locs : List Loc) (ls : Array Slot) (hl : lv_has ls 8 [(0, .ref q), (1, .int x1), (2, .int x2), (3, .long y3), (5, .int x5)]) (hw : mWd g (mA g q ad X s.heap.size) s.heap q ad X iv av H locs) (hf : jM_track_176 K7 iv av x1 x2 y3 x5 = some (iv', av')) : mG p l e rM_track s m args below meth c g q ad X rv iv' av' H locs 0 0 (F0 m 176 ls []) := by
  unfold jM_track_176 at hf
  refine lv_goto (tgt := 7) C.1.1 C.1.2.1 dM_track_176 (by decide) ?_
  exact hK7 iv av x1 x2 y3 x5 _ _ ls (lv_sub hl [0, 1, 2, 3, 4] rfl) hw hf
set_option maxHeartbeats 4000000 in
set_option maxRecDepth 100000 in
theorem wM_track_155 {p : Program} {l : Launch} {e : Env} {s : State} {m : MethodId} {args : Array Value} {below : List Frame} {meth : Method} {c : Code} {g : gT} {q : Nat} {ad : Nat → Nat} {X : va_W} {rv : Option Value} {iv' : Nat → Int32} {av' : Nat → Nat → Int32} (C : mCx p m c cM_track 8 s args g "MidiDeskModel") (hr : meth.sig.returnType = none) (hlk : meth.locks = false) (hrv : rv = none) {K7 : (Nat → Int32) → (Nat → Nat → Int32) → Int32 → Int32 → Int64 → Int32 → Option ((Nat → Int32) × (Nat → Nat → Int32))} (hK7 : ∀ (iv : Nat → Int32) (av : Nat → Nat → Int32) (x1 : Int32) (x2 : Int32) (y3 : Int64) (x5 : Int32) (H : Heap) (locs : List Loc) (ls : Array Slot), lv_has ls 8 [(0, .ref q), (1, .int x1), (2, .int x2), (3, .long y3), (5, .int x5)] → mWd g (mA g q ad X s.heap.size) s.heap q ad X iv av H locs → K7 iv av x1 x2 y3 x5 = some (iv', av') → mG p l e rM_track s m args below meth c g q ad X rv iv' av' H locs 0 0 (F0 m 7 ls [])) (iv : Nat → Int32) (av : Nat → Nat → Int32) (x1 : Int32) (y3 : Int64) (x5 : Int32) (x6 : Int32) (x7 : Int32) (s0 : Int32) (H : Heap) (locs : List Loc) (ls : Array Slot) (hl : lv_has ls 8 [(0, .ref q), (1, .int x1), (3, .long y3), (5, .int x5), (6, .int x6), (7, .int x7)]) (hw : mWd g (mA g q ad X s.heap.size) s.heap q ad X iv av H locs) (hf : jM_track_155 K7 iv av x1 y3 x5 x6 x7 s0 = some (iv', av')) : mG p l e rM_track s m args below meth c g q ad X rv iv' av' H locs 0 0 (F0 m 155 ls [.int s0]) := by
  unfold jM_track_155 at hf
  refine lv_istore_n (lv' := [(2, .int s0), (0, .ref q), (1, .int x1), (3, .long y3), (5, .int x5), (6, .int x6), (7, .int x7)]) C.1.1 C.1.2.1 dM_track_155 rfl hl (by decide) rfl (fun ls hl => ?_)
  refine lv_aload_n C.1.1 C.1.2.1 dM_track_156 rfl (lv_at hl 1 rfl) ?_
  refine mg_fault C hw dM_track_157 ?_
  refine lv_if_ne (tgt := 176) C.1.1 C.1.2.1 dM_track_160 (by decide) (fun c1 => ?_) (fun c1 => ?_)
  · have hf := ts_f hf c1
    exact wM_track_176 C hr hlk hrv hK7 iv av x1 s0 y3 x5 _ _ ls (lv_sub hl [1, 2, 0, 3, 4] rfl) hw hf
  · have hf := ts_t hf c1
    refine lv_aload_n C.1.1 C.1.2.1 dM_track_163 rfl (lv_at hl 1 rfl) ?_
    refine lv_iload_n C.1.1 C.1.2.1 dM_track_164 rfl (lv_at hl 2 rfl) ?_
    refine lv_lload_n C.1.1 C.1.2.1 dM_track_165 rfl (lv_at hl 3 rfl) ?_
    refine lv_l2i C.1.1 C.1.2.1 dM_track_166 rfl ?_
    refine lv_iload C.1.1 C.1.2.1 dM_track_167 (lv_at hl 6 rfl) ?_
    refine lv_iload C.1.1 C.1.2.1 dM_track_169 (lv_at hl 5 rfl) ?_
    obtain ⟨⟨r2, iv2, av2⟩, g2, hf⟩ := ts_b hf
    dsimp only at hf
    refine m_callV (rest := []) (As := [.int x1, .int y3.toInt32, .int x7, .int x6]) (rv := (some (.int r2))) C hl.1 hw (cM_eventIn_met g2) (callW_of (rm := rM_eventIn) 4 C.1.2.2.2.2 gw_832 gw_834 gw_31 gw_55 gw_835 kM_eventIn ⟨Nat.le_of_ble_eq_true rfl, Nat.le_of_ble_eq_true rfl⟩) rfl rfl (Nat.le_of_ble_eq_true rfl) dM_track_171 ⟨Nat.le_of_ble_eq_true rfl, Nat.le_of_ble_eq_true rfl⟩ (fun H locs hw => ?_)
    refine W.eq (g2 := F0 m 174 ls [.int r2]) rfl ?_
    refine lv_istore (lv' := [(5, .int r2), (2, .int s0), (0, .ref q), (1, .int x1), (3, .long y3), (6, .int x6), (7, .int x7)]) C.1.1 C.1.2.1 dM_track_174 hl (by decide) rfl (fun ls hl => ?_)
    exact wM_track_176 C hr hlk hrv hK7 iv2 av2 x1 s0 y3 r2 _ _ ls (lv_sub hl [2, 3, 1, 4, 0] rfl) hw hf
set_option maxHeartbeats 4000000 in
set_option maxRecDepth 100000 in
theorem wM_track_141 {p : Program} {l : Launch} {e : Env} {s : State} {m : MethodId} {args : Array Value} {below : List Frame} {meth : Method} {c : Code} {g : gT} {q : Nat} {ad : Nat → Nat} {X : va_W} {rv : Option Value} {iv' : Nat → Int32} {av' : Nat → Nat → Int32} (C : mCx p m c cM_track 8 s args g "MidiDeskModel") (hr : meth.sig.returnType = none) (hlk : meth.locks = false) (hrv : rv = none) {K7 : (Nat → Int32) → (Nat → Nat → Int32) → Int32 → Int32 → Int64 → Int32 → Option ((Nat → Int32) × (Nat → Nat → Int32))} (hK7 : ∀ (iv : Nat → Int32) (av : Nat → Nat → Int32) (x1 : Int32) (x2 : Int32) (y3 : Int64) (x5 : Int32) (H : Heap) (locs : List Loc) (ls : Array Slot), lv_has ls 8 [(0, .ref q), (1, .int x1), (2, .int x2), (3, .long y3), (5, .int x5)] → mWd g (mA g q ad X s.heap.size) s.heap q ad X iv av H locs → K7 iv av x1 x2 y3 x5 = some (iv', av') → mG p l e rM_track s m args below meth c g q ad X rv iv' av' H locs 0 0 (F0 m 7 ls [])) (iv : Nat → Int32) (av : Nat → Nat → Int32) (x1 : Int32) (y3 : Int64) (x5 : Int32) (x6 : Int32) (x7 : Int32) (H : Heap) (locs : List Loc) (ls : Array Slot) (hl : lv_has ls 8 [(0, .ref q), (1, .int x1), (3, .long y3), (5, .int x5), (6, .int x6), (7, .int x7)]) (hw : mWd g (mA g q ad X s.heap.size) s.heap q ad X iv av H locs) (hf : jM_track_141 K7 iv av x1 y3 x5 x6 x7 = some (iv', av')) : mG p l e rM_track s m args below meth c g q ad X rv iv' av' H locs 0 0 (F0 m 141 ls []) := by
  unfold jM_track_141 at hf
  refine lv_iload C.1.1 C.1.2.1 dM_track_141 (lv_at hl 5 rfl) ?_
  refine lv_sipush (v := (240 : Int32)) C.1.1 C.1.2.1 dM_track_143 (by decide) ?_
  refine lv_icmp_ge (tgt := 154) C.1.1 C.1.2.1 dM_track_146 (by decide) (fun c1 => ?_) (fun c1 => ?_)
  · have hf := ts_t hf c1
    refine lv_iconst (v := (0 : Int32)) C.1.1 C.1.2.1 dM_track_154 (by decide) ?_
    exact wM_track_155 C hr hlk hrv hK7 iv av x1 y3 x5 x6 x7 (0 : Int32) _ _ ls (lv_sub hl [0, 1, 2, 3, 4, 5] rfl) hw hf
  · have hf := ts_f hf c1
    refine lv_iload C.1.1 C.1.2.1 dM_track_149 (lv_at hl 5 rfl) ?_
    refine lv_goto (tgt := 155) C.1.1 C.1.2.1 dM_track_151 (by decide) ?_
    exact wM_track_155 C hr hlk hrv hK7 iv av x1 y3 x5 x6 x7 x7 _ _ ls (lv_sub hl [0, 1, 2, 3, 4, 5] rfl) hw hf
set_option maxHeartbeats 4000000 in
set_option maxRecDepth 100000 in
theorem wM_track_124 {p : Program} {l : Launch} {e : Env} {s : State} {m : MethodId} {args : Array Value} {below : List Frame} {meth : Method} {c : Code} {g : gT} {q : Nat} {ad : Nat → Nat} {X : va_W} {rv : Option Value} {iv' : Nat → Int32} {av' : Nat → Nat → Int32} (C : mCx p m c cM_track 8 s args g "MidiDeskModel") (hr : meth.sig.returnType = none) (hlk : meth.locks = false) (hrv : rv = none) {K7 : (Nat → Int32) → (Nat → Nat → Int32) → Int32 → Int32 → Int64 → Int32 → Option ((Nat → Int32) × (Nat → Nat → Int32))} (hK7 : ∀ (iv : Nat → Int32) (av : Nat → Nat → Int32) (x1 : Int32) (x2 : Int32) (y3 : Int64) (x5 : Int32) (H : Heap) (locs : List Loc) (ls : Array Slot), lv_has ls 8 [(0, .ref q), (1, .int x1), (2, .int x2), (3, .long y3), (5, .int x5)] → mWd g (mA g q ad X s.heap.size) s.heap q ad X iv av H locs → K7 iv av x1 x2 y3 x5 = some (iv', av') → mG p l e rM_track s m args below meth c g q ad X rv iv' av' H locs 0 0 (F0 m 7 ls [])) (iv : Nat → Int32) (av : Nat → Nat → Int32) (x1 : Int32) (x2 : Int32) (y3 : Int64) (x5 : Int32) (x6 : Int32) (x7 : Int32) (H : Heap) (locs : List Loc) (ls : Array Slot) (hl : lv_has ls 8 [(0, .ref q), (1, .int x1), (2, .int x2), (3, .long y3), (5, .int x5), (6, .int x6), (7, .int x7)]) (hw : mWd g (mA g q ad X s.heap.size) s.heap q ad X iv av H locs) (hf : jM_track_124 K7 iv av x1 x2 y3 x5 x6 x7 = some (iv', av')) : mG p l e rM_track s m args below meth c g q ad X rv iv' av' H locs 0 0 (F0 m 124 ls []) := by
  unfold jM_track_124 at hf
  refine lv_iload C.1.1 C.1.2.1 dM_track_124 (lv_at hl 6 rfl) ?_
  refine lv_sipush (v := (128 : Int32)) C.1.1 C.1.2.1 dM_track_126 (by decide) ?_
  refine lv_icmp_ge (tgt := 141) C.1.1 C.1.2.1 dM_track_129 (by decide) (fun c1 => ?_) (fun c1 => ?_)
  · have hf := ts_t hf c1
    exact wM_track_141 C hr hlk hrv hK7 iv av x1 y3 x5 x6 x7 _ _ ls (lv_sub hl [0, 1, 3, 4, 5, 6] rfl) hw hf
  · have hf := ts_f hf c1
    refine lv_aload_n C.1.1 C.1.2.1 dM_track_132 rfl (lv_at hl 0 rfl) ?_
    refine lv_iload C.1.1 C.1.2.1 dM_track_133 (lv_at hl 5 rfl) ?_
    refine mp_at C hw dM_track_135 (fun H locs hw => ?_)
    refine lv_iload_n C.1.1 C.1.2.1 dM_track_138 rfl (lv_at hl 2 rfl) ?_
    refine lv_istore (lv' := [(7, .int x2), (0, .ref q), (1, .int x1), (2, .int x2), (3, .long y3), (5, .int x5), (6, .int x6)]) C.1.1 C.1.2.1 dM_track_139 hl (by decide) rfl (fun ls hl => ?_)
    exact wM_track_141 C hr hlk hrv hK7 (upd iv 2 x6) av x1 y3 x5 x6 x2 _ _ ls (lv_sub hl [1, 2, 4, 5, 6, 0] rfl) hw hf
set_option maxHeartbeats 4000000 in
set_option maxRecDepth 100000 in
theorem wM_track_117 {p : Program} {l : Launch} {e : Env} {s : State} {m : MethodId} {args : Array Value} {below : List Frame} {meth : Method} {c : Code} {g : gT} {q : Nat} {ad : Nat → Nat} {X : va_W} {rv : Option Value} {iv' : Nat → Int32} {av' : Nat → Nat → Int32} (C : mCx p m c cM_track 8 s args g "MidiDeskModel") (hr : meth.sig.returnType = none) (hlk : meth.locks = false) (hrv : rv = none) {K7 : (Nat → Int32) → (Nat → Nat → Int32) → Int32 → Int32 → Int64 → Int32 → Option ((Nat → Int32) × (Nat → Nat → Int32))} (hK7 : ∀ (iv : Nat → Int32) (av : Nat → Nat → Int32) (x1 : Int32) (x2 : Int32) (y3 : Int64) (x5 : Int32) (H : Heap) (locs : List Loc) (ls : Array Slot), lv_has ls 8 [(0, .ref q), (1, .int x1), (2, .int x2), (3, .long y3), (5, .int x5)] → mWd g (mA g q ad X s.heap.size) s.heap q ad X iv av H locs → K7 iv av x1 x2 y3 x5 = some (iv', av') → mG p l e rM_track s m args below meth c g q ad X rv iv' av' H locs 0 0 (F0 m 7 ls [])) (iv : Nat → Int32) (av : Nat → Nat → Int32) (x1 : Int32) (x2 : Int32) (y3 : Int64) (x5 : Int32) (x6 : Int32) (x7 : Int32) (H : Heap) (locs : List Loc) (ls : Array Slot) (hl : lv_has ls 8 [(0, .ref q), (1, .int x1), (2, .int x2), (3, .long y3), (5, .int x5), (6, .int x6), (7, .int x7)]) (hw : mWd g (mA g q ad X s.heap.size) s.heap q ad X iv av H locs) (hf : jM_track_117 K7 iv av x1 x2 y3 x5 x6 x7 = some (iv', av')) : mG p l e rM_track s m args below meth c g q ad X rv iv' av' H locs 0 0 (F0 m 117 ls []) := by
  unfold jM_track_117 at hf
  refine lv_aload_n C.1.1 C.1.2.1 dM_track_117 rfl (lv_at hl 0 rfl) ?_
  refine lv_iconst (v := (5 : Int32)) C.1.1 C.1.2.1 dM_track_118 (by decide) ?_
  refine lv_iload C.1.1 C.1.2.1 dM_track_119 (lv_at hl 5 rfl) ?_
  obtain ⟨⟨iv1, av1⟩, g1, hf⟩ := ts_b hf
  dsimp only at hf
  refine m_callV (rest := []) (As := [.int (5 : Int32), .int x6]) (rv := none) C hl.1 hw (cM_fail_met g1) (callW_of (rm := rM_fail) 2 C.1.2.2.2.2 gw_812 gw_814 gw_28 gw_55 gw_815 kM_fail ⟨Nat.le_of_ble_eq_true rfl, Nat.le_of_ble_eq_true rfl⟩) rfl rfl (Nat.le_of_ble_eq_true rfl) dM_track_121 ⟨Nat.le_of_ble_eq_true rfl, Nat.le_of_ble_eq_true rfl⟩ (fun H locs hw => ?_)
  refine W.eq (g2 := F0 m 124 ls []) rfl ?_
  exact wM_track_124 C hr hlk hrv hK7 iv1 av1 x1 x2 y3 x5 x6 x7 _ _ ls (lv_sub hl [0, 1, 2, 3, 4, 5, 6] rfl) hw hf
set_option maxHeartbeats 4000000 in
set_option maxRecDepth 100000 in
theorem wM_track_101 {p : Program} {l : Launch} {e : Env} {s : State} {m : MethodId} {args : Array Value} {below : List Frame} {meth : Method} {c : Code} {g : gT} {q : Nat} {ad : Nat → Nat} {X : va_W} {rv : Option Value} {iv' : Nat → Int32} {av' : Nat → Nat → Int32} (C : mCx p m c cM_track 8 s args g "MidiDeskModel") (hr : meth.sig.returnType = none) (hlk : meth.locks = false) (hrv : rv = none) {K7 : (Nat → Int32) → (Nat → Nat → Int32) → Int32 → Int32 → Int64 → Int32 → Option ((Nat → Int32) × (Nat → Nat → Int32))} (hK7 : ∀ (iv : Nat → Int32) (av : Nat → Nat → Int32) (x1 : Int32) (x2 : Int32) (y3 : Int64) (x5 : Int32) (H : Heap) (locs : List Loc) (ls : Array Slot), lv_has ls 8 [(0, .ref q), (1, .int x1), (2, .int x2), (3, .long y3), (5, .int x5)] → mWd g (mA g q ad X s.heap.size) s.heap q ad X iv av H locs → K7 iv av x1 x2 y3 x5 = some (iv', av') → mG p l e rM_track s m args below meth c g q ad X rv iv' av' H locs 0 0 (F0 m 7 ls [])) (iv : Nat → Int32) (av : Nat → Nat → Int32) (x1 : Int32) (x2 : Int32) (y3 : Int64) (x5 : Int32) (x6 : Int32) (x7 : Int32) (H : Heap) (locs : List Loc) (ls : Array Slot) (hl : lv_has ls 8 [(0, .ref q), (1, .int x1), (2, .int x2), (3, .long y3), (5, .int x5), (6, .int x6), (7, .int x7)]) (hw : mWd g (mA g q ad X s.heap.size) s.heap q ad X iv av H locs) (hf : jM_track_101 K7 iv av x1 x2 y3 x5 x6 x7 = some (iv', av')) : mG p l e rM_track s m args below meth c g q ad X rv iv' av' H locs 0 0 (F0 m 101 ls []) := by
  unfold jM_track_101 at hf
  refine lv_iload C.1.1 C.1.2.1 dM_track_101 (lv_at hl 6 rfl) ?_
  refine lv_sipush (v := (247 : Int32)) C.1.1 C.1.2.1 dM_track_103 (by decide) ?_
  refine lv_icmp_le (tgt := 124) C.1.1 C.1.2.1 dM_track_106 (by decide) (fun c1 => ?_) (fun c1 => ?_)
  · have hf := ts_t hf c1
    exact wM_track_124 C hr hlk hrv hK7 iv av x1 x2 y3 x5 x6 x7 _ _ ls (lv_sub hl [0, 1, 2, 3, 4, 5, 6] rfl) hw hf
  · have hf := ts_f hf c1
    refine lv_iload C.1.1 C.1.2.1 dM_track_109 (lv_at hl 6 rfl) ?_
    refine lv_sipush (v := (255 : Int32)) C.1.1 C.1.2.1 dM_track_111 (by decide) ?_
    refine lv_icmp_ge (tgt := 124) C.1.1 C.1.2.1 dM_track_114 (by decide) (fun c2 => ?_) (fun c2 => ?_)
    · have hf := ts_t hf c2
      exact wM_track_124 C hr hlk hrv hK7 iv av x1 x2 y3 x5 x6 x7 _ _ ls (lv_sub hl [0, 1, 2, 3, 4, 5, 6] rfl) hw hf
    · have hf := ts_f hf c2
      exact wM_track_117 C hr hlk hrv hK7 iv av x1 x2 y3 x5 x6 x7 _ _ ls (lv_sub hl [0, 1, 2, 3, 4, 5, 6] rfl) hw hf
set_option maxHeartbeats 4000000 in
set_option maxRecDepth 100000 in
theorem wM_track_85 {p : Program} {l : Launch} {e : Env} {s : State} {m : MethodId} {args : Array Value} {below : List Frame} {meth : Method} {c : Code} {g : gT} {q : Nat} {ad : Nat → Nat} {X : va_W} {rv : Option Value} {iv' : Nat → Int32} {av' : Nat → Nat → Int32} (C : mCx p m c cM_track 8 s args g "MidiDeskModel") (hr : meth.sig.returnType = none) (hlk : meth.locks = false) (hrv : rv = none) {K7 : (Nat → Int32) → (Nat → Nat → Int32) → Int32 → Int32 → Int64 → Int32 → Option ((Nat → Int32) × (Nat → Nat → Int32))} (hK7 : ∀ (iv : Nat → Int32) (av : Nat → Nat → Int32) (x1 : Int32) (x2 : Int32) (y3 : Int64) (x5 : Int32) (H : Heap) (locs : List Loc) (ls : Array Slot), lv_has ls 8 [(0, .ref q), (1, .int x1), (2, .int x2), (3, .long y3), (5, .int x5)] → mWd g (mA g q ad X s.heap.size) s.heap q ad X iv av H locs → K7 iv av x1 x2 y3 x5 = some (iv', av') → mG p l e rM_track s m args below meth c g q ad X rv iv' av' H locs 0 0 (F0 m 7 ls [])) (iv : Nat → Int32) (av : Nat → Nat → Int32) (x1 : Int32) (x2 : Int32) (y3 : Int64) (x5 : Int32) (x6 : Int32) (x7 : Int32) (H : Heap) (locs : List Loc) (ls : Array Slot) (hl : lv_has ls 8 [(0, .ref q), (1, .int x1), (2, .int x2), (3, .long y3), (5, .int x5), (6, .int x6), (7, .int x7)]) (hw : mWd g (mA g q ad X s.heap.size) s.heap q ad X iv av H locs) (hf : jM_track_85 K7 iv av x1 x2 y3 x5 x6 x7 = some (iv', av')) : mG p l e rM_track s m args below meth c g q ad X rv iv' av' H locs 0 0 (F0 m 85 ls []) := by
  unfold jM_track_85 at hf
  refine lv_iload C.1.1 C.1.2.1 dM_track_85 (lv_at hl 6 rfl) ?_
  refine lv_sipush (v := (240 : Int32)) C.1.1 C.1.2.1 dM_track_87 (by decide) ?_
  refine lv_icmp_le (tgt := 101) C.1.1 C.1.2.1 dM_track_90 (by decide) (fun c1 => ?_) (fun c1 => ?_)
  · have hf := ts_t hf c1
    exact wM_track_101 C hr hlk hrv hK7 iv av x1 x2 y3 x5 x6 x7 _ _ ls (lv_sub hl [0, 1, 2, 3, 4, 5, 6] rfl) hw hf
  · have hf := ts_f hf c1
    refine lv_iload C.1.1 C.1.2.1 dM_track_93 (lv_at hl 6 rfl) ?_
    refine lv_sipush (v := (247 : Int32)) C.1.1 C.1.2.1 dM_track_95 (by decide) ?_
    refine lv_icmp_lt (tgt := 117) C.1.1 C.1.2.1 dM_track_98 (by decide) (fun c2 => ?_) (fun c2 => ?_)
    · have hf := ts_t hf c2
      exact wM_track_117 C hr hlk hrv hK7 iv av x1 x2 y3 x5 x6 x7 _ _ ls (lv_sub hl [0, 1, 2, 3, 4, 5, 6] rfl) hw hf
    · have hf := ts_f hf c2
      exact wM_track_101 C hr hlk hrv hK7 iv av x1 x2 y3 x5 x6 x7 _ _ ls (lv_sub hl [0, 1, 2, 3, 4, 5, 6] rfl) hw hf
set_option maxHeartbeats 4000000 in
set_option maxRecDepth 100000 in
theorem wM_track_49 {p : Program} {l : Launch} {e : Env} {s : State} {m : MethodId} {args : Array Value} {below : List Frame} {meth : Method} {c : Code} {g : gT} {q : Nat} {ad : Nat → Nat} {X : va_W} {rv : Option Value} {iv' : Nat → Int32} {av' : Nat → Nat → Int32} (C : mCx p m c cM_track 8 s args g "MidiDeskModel") (hr : meth.sig.returnType = none) (hlk : meth.locks = false) (hrv : rv = none) {K7 : (Nat → Int32) → (Nat → Nat → Int32) → Int32 → Int32 → Int64 → Int32 → Option ((Nat → Int32) × (Nat → Nat → Int32))} (hK7 : ∀ (iv : Nat → Int32) (av : Nat → Nat → Int32) (x1 : Int32) (x2 : Int32) (y3 : Int64) (x5 : Int32) (H : Heap) (locs : List Loc) (ls : Array Slot), lv_has ls 8 [(0, .ref q), (1, .int x1), (2, .int x2), (3, .long y3), (5, .int x5)] → mWd g (mA g q ad X s.heap.size) s.heap q ad X iv av H locs → K7 iv av x1 x2 y3 x5 = some (iv', av') → mG p l e rM_track s m args below meth c g q ad X rv iv' av' H locs 0 0 (F0 m 7 ls [])) (iv : Nat → Int32) (av : Nat → Nat → Int32) (x1 : Int32) (x2 : Int32) (y3 : Int64) (x5 : Int32) (H : Heap) (locs : List Loc) (ls : Array Slot) (hl : lv_has ls 8 [(0, .ref q), (1, .int x1), (2, .int x2), (3, .long y3), (5, .int x5)]) (hw : mWd g (mA g q ad X s.heap.size) s.heap q ad X iv av H locs) (hf : jM_track_49 K7 iv av x1 x2 y3 x5 = some (iv', av')) : mG p l e rM_track s m args below meth c g q ad X rv iv' av' H locs 0 0 (F0 m 49 ls []) := by
  unfold jM_track_49 at hf
  refine lv_aload_n C.1.1 C.1.2.1 dM_track_49 rfl (lv_at hl 0 rfl) ?_
  refine mg_at C hw dM_track_50 ?_
  refine lv_istore (lv' := [(6, .int (iv 2)), (0, .ref q), (1, .int x1), (2, .int x2), (3, .long y3), (5, .int x5)]) C.1.1 C.1.2.1 dM_track_53 hl (by decide) rfl (fun ls hl => ?_)
  refine lv_aload_n C.1.1 C.1.2.1 dM_track_55 rfl (lv_at hl 1 rfl) ?_
  refine lv_iconst (v := (1 : Int32)) C.1.1 C.1.2.1 dM_track_56 (by decide) ?_
  obtain ⟨⟨r1, iv1, av1⟩, g1, hf⟩ := ts_b hf
  dsimp only at hf
  refine m_callV (rest := []) (As := [.int (1 : Int32)]) (rv := (some (.long r1))) C hl.1 hw (cM_taken_met g1) (callW_of (rm := rM_taken) 1 C.1.2.2.2.2 gw_808 gw_810 gw_27 gw_55 gw_811 kM_taken ⟨Nat.le_of_ble_eq_true rfl, Nat.le_of_ble_eq_true rfl⟩) rfl rfl (Nat.le_of_ble_eq_true rfl) dM_track_57 ⟨Nat.le_of_ble_eq_true rfl, Nat.le_of_ble_eq_true rfl⟩ (fun H locs hw => ?_)
  refine W.eq (g2 := F0 m 60 ls [.long r1]) rfl ?_
  refine lv_l2i C.1.1 C.1.2.1 dM_track_60 rfl ?_
  refine lv_istore (lv' := [(7, .int r1.toInt32), (6, .int (iv 2)), (0, .ref q), (1, .int x1), (2, .int x2), (3, .long y3), (5, .int x5)]) C.1.1 C.1.2.1 dM_track_61 hl (by decide) rfl (fun ls hl => ?_)
  refine lv_aload_n C.1.1 C.1.2.1 dM_track_63 rfl (lv_at hl 2 rfl) ?_
  refine mg_fault C hw dM_track_64 ?_
  refine lv_if_le (tgt := 73) C.1.1 C.1.2.1 dM_track_67 (by decide) (fun c2 => ?_) (fun c2 => ?_)
  · have hf := ts_t hf c2
    refine lv_iload C.1.1 C.1.2.1 dM_track_73 (lv_at hl 0 rfl) ?_
    refine lv_sipush (v := (128 : Int32)) C.1.1 C.1.2.1 dM_track_75 (by decide) ?_
    refine lv_icmp_ge (tgt := 85) C.1.1 C.1.2.1 dM_track_78 (by decide) (fun c3 => ?_) (fun c3 => ?_)
    · have hf := ts_t hf c3
      exact wM_track_85 C hr hlk hrv hK7 iv1 av1 x1 x2 y3 x5 (iv 2) r1.toInt32 _ _ ls (lv_sub hl [2, 3, 4, 5, 6, 1, 0] rfl) hw hf
    · have hf := ts_f hf c3
      refine lv_iload_n C.1.1 C.1.2.1 dM_track_81 rfl (lv_at hl 4 rfl) ?_
      refine lv_if_eq (tgt := 117) C.1.1 C.1.2.1 dM_track_82 (by decide) (fun c4 => ?_) (fun c4 => ?_)
      · have hf := ts_t hf c4
        exact wM_track_117 C hr hlk hrv hK7 iv1 av1 x1 x2 y3 x5 (iv 2) r1.toInt32 _ _ ls (lv_sub hl [2, 3, 4, 5, 6, 1, 0] rfl) hw hf
      · have hf := ts_f hf c4
        exact wM_track_85 C hr hlk hrv hK7 iv1 av1 x1 x2 y3 x5 (iv 2) r1.toInt32 _ _ ls (lv_sub hl [2, 3, 4, 5, 6, 1, 0] rfl) hw hf
  · have hf := ts_f hf c2
    refine lv_goto (tgt := 7) C.1.1 C.1.2.1 dM_track_70 (by decide) ?_
    exact hK7 iv1 av1 x1 x2 y3 x5 _ _ ls (lv_sub hl [2, 3, 4, 5, 6] rfl) hw hf
set_option maxHeartbeats 4000000 in
set_option maxRecDepth 100000 in
theorem wM_track_7 {p : Program} {l : Launch} {e : Env} {s : State} {m : MethodId} {args : Array Value} {below : List Frame} {meth : Method} {c : Code} {g : gT} {q : Nat} {ad : Nat → Nat} {X : va_W} {rv : Option Value} {iv' : Nat → Int32} {av' : Nat → Nat → Int32} (C : mCx p m c cM_track 8 s args g "MidiDeskModel") (hr : meth.sig.returnType = none) (hlk : meth.locks = false) (hrv : rv = none) (k : Nat) : ∀ (iv : Nat → Int32) (av : Nat → Nat → Int32) (x1 : Int32) (x2 : Int32) (y3 : Int64) (x5 : Int32) (H : Heap) (locs : List Loc) (ls : Array Slot), lv_has ls 8 [(0, .ref q), (1, .int x1), (2, .int x2), (3, .long y3), (5, .int x5)] → mWd g (mA g q ad X s.heap.size) s.heap q ad X iv av H locs → lM_track_7 k iv av x1 x2 y3 x5 = some (iv', av') → mG p l e rM_track s m args below meth c g q ad X rv iv' av' H locs 0 0 (F0 m 7 ls []) := by
  induction k with
  | zero => intro iv av x1 x2 y3 x5 H locs ls hl hw hf; cases hf
  | succ k ih =>
    intro iv av x1 x2 y3 x5 H locs ls hl hw hf
    have hf : (if x5 = 0 then (some (iv, av)) else (if (iv 4) = 0 then ((fM_number iv av).bind fun (r3, iv3, av3) => if (lg_cmp (y3 + r3.toInt64) (268435455 : Int64)) ≤ 0 then (jM_track_49 (lM_track_7 k) iv3 av3 x1 x2 (y3 + r3.toInt64) x5) else ((fM_fail iv3 av3 (11 : Int32) (iv 2)).bind fun (iv5, av5) => jM_track_49 (lM_track_7 k) iv5 av5 x1 x2 (y3 + r3.toInt64) x5)) else (some (iv, av)))) = some (iv', av') := hf
    refine lv_iload C.1.1 C.1.2.1 dM_track_7 (lv_at hl 4 rfl) ?_
    refine lv_if_eq (tgt := 179) C.1.1 C.1.2.1 dM_track_9 (by decide) (fun c1 => ?_) (fun c1 => ?_)
    · have hf := ts_t hf c1
      exact m_retv C hr hlk hrv hw hf ⟨Nat.le_of_ble_eq_true rfl, Nat.le_of_ble_eq_true rfl⟩ dM_track_179
    · have hf := ts_f hf c1
      refine lv_aload_n C.1.1 C.1.2.1 dM_track_12 rfl (lv_at hl 0 rfl) ?_
      refine mg_fault C hw dM_track_13 ?_
      refine lv_if_ne (tgt := 179) C.1.1 C.1.2.1 dM_track_16 (by decide) (fun c2 => ?_) (fun c2 => ?_)
      · have hf := ts_f hf c2
        exact m_retv C hr hlk hrv hw hf ⟨Nat.le_of_ble_eq_true rfl, Nat.le_of_ble_eq_true rfl⟩ dM_track_179
      · have hf := ts_t hf c2
        refine lv_aload_n C.1.1 C.1.2.1 dM_track_19 rfl (lv_at hl 0 rfl) ?_
        refine mg_at C hw dM_track_20 ?_
        refine lv_istore (lv' := [(6, .int (iv 2)), (0, .ref q), (1, .int x1), (2, .int x2), (3, .long y3), (5, .int x5)]) C.1.1 C.1.2.1 dM_track_23 hl (by decide) rfl (fun ls hl => ?_)
        refine lv_lload_n C.1.1 C.1.2.1 dM_track_25 rfl (lv_at hl 4 rfl) ?_
        refine lv_aload_n C.1.1 C.1.2.1 dM_track_26 rfl (lv_at hl 1 rfl) ?_
        obtain ⟨⟨r3, iv3, av3⟩, g3, hf⟩ := ts_b hf
        dsimp only at hf
        refine m_callV (rest := [.long y3]) (As := []) (rv := (some (.int r3))) C hl.1 hw (cM_number_met g3) (callW_of (rm := rM_number) 0 C.1.2.2.2.2 gw_827 gw_829 gw_30 gw_55 gw_830 kM_number ⟨Nat.le_of_ble_eq_true rfl, Nat.le_of_ble_eq_true rfl⟩) rfl rfl (Nat.le_of_ble_eq_true rfl) dM_track_27 ⟨Nat.le_of_ble_eq_true rfl, Nat.le_of_ble_eq_true rfl⟩ (fun H locs hw => ?_)
        refine W.eq (g2 := F0 m 30 ls [.int r3, .long y3]) rfl ?_
        refine lv_i2l C.1.1 C.1.2.1 dM_track_30 rfl ?_
        refine lv_ladd C.1.1 C.1.2.1 dM_track_31 ?_
        refine lv_lstore_n (lv' := [(3, .long (y3 + r3.toInt64)), (6, .int (iv 2)), (0, .ref q), (1, .int x1), (2, .int x2), (5, .int x5)]) C.1.1 C.1.2.1 dM_track_32 rfl hl (by decide) rfl (fun ls hl => ?_)
        refine lv_lload_n C.1.1 C.1.2.1 dM_track_33 rfl (lv_at hl 0 rfl) ?_
        refine lv_ldc2 C.1.1 C.1.2.1 C.1.2.2.2.1 (C.1.2.2.2.2 _ gw_831) dM_track_34 ?_
        refine W.lcmp C.1.1 C.1.2.1 dM_track_37 ?_
        refine lv_if_le (tgt := 49) C.1.1 C.1.2.1 dM_track_38 (by decide) (fun c4 => ?_) (fun c4 => ?_)
        · have hf := ts_t hf c4
          exact wM_track_49 C hr hlk hrv ih iv3 av3 x1 x2 (y3 + r3.toInt64) x5 _ _ ls (lv_sub hl [2, 3, 4, 0, 5] rfl) hw hf
        · have hf := ts_f hf c4
          refine lv_aload_n C.1.1 C.1.2.1 dM_track_41 rfl (lv_at hl 2 rfl) ?_
          refine lv_bipush (v := (11 : Int32)) C.1.1 C.1.2.1 dM_track_42 (by decide) ?_
          refine lv_iload C.1.1 C.1.2.1 dM_track_44 (lv_at hl 1 rfl) ?_
          obtain ⟨⟨iv5, av5⟩, g5, hf⟩ := ts_b hf
          dsimp only at hf
          refine m_callV (rest := []) (As := [.int (11 : Int32), .int (iv 2)]) (rv := none) C hl.1 hw (cM_fail_met g5) (callW_of (rm := rM_fail) 2 C.1.2.2.2.2 gw_812 gw_814 gw_28 gw_55 gw_815 kM_fail ⟨Nat.le_of_ble_eq_true rfl, Nat.le_of_ble_eq_true rfl⟩) rfl rfl (Nat.le_of_ble_eq_true rfl) dM_track_46 ⟨Nat.le_of_ble_eq_true rfl, Nat.le_of_ble_eq_true rfl⟩ (fun H locs hw => ?_)
          refine W.eq (g2 := F0 m 49 ls []) rfl ?_
          exact wM_track_49 C hr hlk hrv ih iv5 av5 x1 x2 (y3 + r3.toInt64) x5 _ _ ls (lv_sub hl [2, 3, 4, 0, 5] rfl) hw hf
set_option maxHeartbeats 4000000 in
set_option maxRecDepth 100000 in
theorem cM_track_met {l : Launch} {g : gT} {q : Nat} {ad : Nat → Nat} {X : va_W} {iv iv' : Nat → Int32} {av av' : Nat → Nat → Int32} {x1 : Int32} (hf : fM_track iv av x1 = some (iv', av')) : mMet l yM_track cM_track 8 none rM_track g q ad X iv av [.ref q, .int x1] none iv' av' := by
  refine m_entry (by decide) (Nat.le_of_ble_eq_true rfl) ?_
  intro p e s m args below meth c ls C hr hlk hnm hl hw
  have hrv : (none : Option Value) = none := rfl
  have C : mCx p m c cM_track 8 s args g "MidiDeskModel" := C
  have hl : lv_has ls 8 [(0, .ref q), (1, .int x1)] := hl
  unfold fM_track at hf
  refine lv_iconst (v := (0 : Int32)) C.1.1 C.1.2.1 dM_track_0 (by decide) ?_
  refine lv_istore_n (lv' := [(2, .int (0 : Int32)), (0, .ref q), (1, .int x1)]) C.1.1 C.1.2.1 dM_track_1 rfl hl (by decide) rfl (fun ls hl => ?_)
  refine lv_lconst (v := 0) C.1.1 C.1.2.1 dM_track_2 (by decide) ?_
  refine lv_lstore_n (lv' := [(3, .long (0 : Int64)), (2, .int (0 : Int32)), (0, .ref q), (1, .int x1)]) C.1.1 C.1.2.1 dM_track_3 rfl hl (by decide) rfl (fun ls hl => ?_)
  refine lv_iconst (v := (1 : Int32)) C.1.1 C.1.2.1 dM_track_4 (by decide) ?_
  refine lv_istore (lv' := [(5, .int (1 : Int32)), (3, .long (0 : Int64)), (2, .int (0 : Int32)), (0, .ref q), (1, .int x1)]) C.1.1 C.1.2.1 dM_track_5 hl (by decide) rfl (fun ls hl => ?_)
  exact wM_track_7 C hr hlk hrv FU iv av x1 (0 : Int32) (0 : Int64) (1 : Int32) _ _ ls (lv_sub hl [3, 4, 2, 1, 0] rfl) hw hf
abbrev cM_isBefore : ByteArray := prog_8_method_18_code
abbrev yM_isBefore : MethodName := ⟨"MidiDeskModel", "isBefore", "(II)Z"⟩
theorem kM_isBefore : yM_isBefore.cls ≠ "java/lang/invoke/MethodHandle" ∧ yM_isBefore.cls ≠ "java/lang/invoke/VarHandle" ∧ (parseMethodDescriptor yM_isBefore.desc).map (fun d => d.parameters.length) = some 2 := by decide +kernel
abbrev rM_isBefore : Room := { frames := 0, cells := 0, slots := 0, locals := 0 }
theorem dM_isBefore_0 : decode cM_isBefore 0 = .ok (.aload_n 0, 1) := by decide +kernel
theorem dM_isBefore_1 : decode cM_isBefore 1 = .ok (.getfield 13, 3) := by decide +kernel
theorem dM_isBefore_4 : decode cM_isBefore 4 = .ok (.iload_n 1, 1) := by decide +kernel
theorem dM_isBefore_5 : decode cM_isBefore 5 = .ok (.iaload, 1) := by decide +kernel
theorem dM_isBefore_6 : decode cM_isBefore 6 = .ok (.aload_n 0, 1) := by decide +kernel
theorem dM_isBefore_7 : decode cM_isBefore 7 = .ok (.getfield 13, 3) := by decide +kernel
theorem dM_isBefore_10 : decode cM_isBefore 10 = .ok (.iload_n 2, 1) := by decide +kernel
theorem dM_isBefore_11 : decode cM_isBefore 11 = .ok (.iaload, 1) := by decide +kernel
theorem dM_isBefore_12 : decode cM_isBefore 12 = .ok (.if_icmp .lt 33, 3) := by decide +kernel
theorem dM_isBefore_15 : decode cM_isBefore 15 = .ok (.aload_n 0, 1) := by decide +kernel
theorem dM_isBefore_16 : decode cM_isBefore 16 = .ok (.getfield 13, 3) := by decide +kernel
theorem dM_isBefore_19 : decode cM_isBefore 19 = .ok (.iload_n 1, 1) := by decide +kernel
theorem dM_isBefore_20 : decode cM_isBefore 20 = .ok (.iaload, 1) := by decide +kernel
theorem dM_isBefore_21 : decode cM_isBefore 21 = .ok (.aload_n 0, 1) := by decide +kernel
theorem dM_isBefore_22 : decode cM_isBefore 22 = .ok (.getfield 13, 3) := by decide +kernel
theorem dM_isBefore_25 : decode cM_isBefore 25 = .ok (.iload_n 2, 1) := by decide +kernel
theorem dM_isBefore_26 : decode cM_isBefore 26 = .ok (.iaload, 1) := by decide +kernel
theorem dM_isBefore_27 : decode cM_isBefore 27 = .ok (.if_icmp .ne 22, 3) := by decide +kernel
theorem dM_isBefore_30 : decode cM_isBefore 30 = .ok (.aload_n 0, 1) := by decide +kernel
theorem dM_isBefore_31 : decode cM_isBefore 31 = .ok (.getfield 16, 3) := by decide +kernel
theorem dM_isBefore_34 : decode cM_isBefore 34 = .ok (.iload_n 1, 1) := by decide +kernel
theorem dM_isBefore_35 : decode cM_isBefore 35 = .ok (.iaload, 1) := by decide +kernel
theorem dM_isBefore_36 : decode cM_isBefore 36 = .ok (.aload_n 0, 1) := by decide +kernel
theorem dM_isBefore_37 : decode cM_isBefore 37 = .ok (.getfield 16, 3) := by decide +kernel
theorem dM_isBefore_40 : decode cM_isBefore 40 = .ok (.iload_n 2, 1) := by decide +kernel
theorem dM_isBefore_41 : decode cM_isBefore 41 = .ok (.iaload, 1) := by decide +kernel
theorem dM_isBefore_42 : decode cM_isBefore 42 = .ok (.if_icmp .ge 7, 3) := by decide +kernel
theorem dM_isBefore_45 : decode cM_isBefore 45 = .ok (.iconst 1, 1) := by decide +kernel
theorem dM_isBefore_46 : decode cM_isBefore 46 = .ok (.goto 4, 3) := by decide +kernel
theorem dM_isBefore_49 : decode cM_isBefore 49 = .ok (.iconst 0, 1) := by decide +kernel
theorem dM_isBefore_50 : decode cM_isBefore 50 = .ok (.ireturn, 1) := by decide +kernel
def fM_isBefore (iv : Nat → Int32) (av : Nat → Nat → Int32) (x1 : Int32) (x2 : Int32) : Option (Int32 × (Nat → Int32) × (Nat → Nat → Int32)) := if x1 < 0 ∨ 1001 ≤ x1.toNatClampNeg then none else (if x2 < 0 ∨ 1001 ≤ x2.toNatClampNeg then none else (if (av 1 x1.toNatClampNeg) < (av 1 x2.toNatClampNeg) then (some ((1 : Int32), iv, av)) else (if x1 < 0 ∨ 1001 ≤ x1.toNatClampNeg then none else (if x2 < 0 ∨ 1001 ≤ x2.toNatClampNeg then none else (if (av 1 x1.toNatClampNeg) = (av 1 x2.toNatClampNeg) then (if x1 < 0 ∨ 1001 ≤ x1.toNatClampNeg then none else (if x2 < 0 ∨ 1001 ≤ x2.toNatClampNeg then none else (if (av 2 x2.toNatClampNeg) ≤ (av 2 x1.toNatClampNeg) then (some ((0 : Int32), iv, av)) else (some ((1 : Int32), iv, av))))) else (some ((0 : Int32), iv, av)))))))
set_option maxHeartbeats 4000000 in
set_option maxRecDepth 100000 in
theorem cM_isBefore_met {l : Launch} {g : gT} {q : Nat} {ad : Nat → Nat} {X : va_W} {iv iv' : Nat → Int32} {av av' : Nat → Nat → Int32} {x1 : Int32} {x2 : Int32} {r' : Int32} (hf : fM_isBefore iv av x1 x2 = some (r', iv', av')) : mMet l yM_isBefore cM_isBefore 3 (some .boolean) rM_isBefore g q ad X iv av [.ref q, .int x1, .int x2] (some (.int r')) iv' av' := by
  refine m_entry (by decide) (Nat.le_of_ble_eq_true rfl) ?_
  intro p e s m args below meth c ls C hr hlk hnm hl hw
  have hrv : ((some (.int r')) : Option Value) = (some (.int r')) := rfl
  have C : mCx p m c cM_isBefore 3 s args g "MidiDeskModel" := C
  have hl : lv_has ls 3 [(0, .ref q), (1, .int x1), (2, .int x2)] := hl
  unfold fM_isBefore at hf
  refine lv_aload_n C.1.1 C.1.2.1 dM_isBefore_0 rfl (lv_at hl 0 rfl) ?_
  refine mg_ticks C hw dM_isBefore_1 ?_
  refine lv_iload_n C.1.1 C.1.2.1 dM_isBefore_4 rfl (lv_at hl 1 rfl) ?_
  obtain ⟨h1, hf⟩ := ts_g hf
  refine ma_ticks C hw h1 dM_isBefore_5 ?_
  refine lv_aload_n C.1.1 C.1.2.1 dM_isBefore_6 rfl (lv_at hl 0 rfl) ?_
  refine mg_ticks C hw dM_isBefore_7 ?_
  refine lv_iload_n C.1.1 C.1.2.1 dM_isBefore_10 rfl (lv_at hl 2 rfl) ?_
  obtain ⟨h2, hf⟩ := ts_g hf
  refine ma_ticks C hw h2 dM_isBefore_11 ?_
  refine lv_icmp_lt (tgt := 45) C.1.1 C.1.2.1 dM_isBefore_12 (by decide) (fun c3 => ?_) (fun c3 => ?_)
  · have hf := ts_t hf c3
    refine lv_iconst (v := (1 : Int32)) C.1.1 C.1.2.1 dM_isBefore_45 (by decide) ?_
    refine lv_goto (tgt := 50) C.1.1 C.1.2.1 dM_isBefore_46 (by decide) ?_
    exact m_retz C hr hlk hrv hw (Or.inr rfl) hf ⟨Nat.le_of_ble_eq_true rfl, Nat.le_of_ble_eq_true rfl⟩ dM_isBefore_50
  · have hf := ts_f hf c3
    refine lv_aload_n C.1.1 C.1.2.1 dM_isBefore_15 rfl (lv_at hl 0 rfl) ?_
    refine mg_ticks C hw dM_isBefore_16 ?_
    refine lv_iload_n C.1.1 C.1.2.1 dM_isBefore_19 rfl (lv_at hl 1 rfl) ?_
    obtain ⟨h4, hf⟩ := ts_g hf
    refine ma_ticks C hw h4 dM_isBefore_20 ?_
    refine lv_aload_n C.1.1 C.1.2.1 dM_isBefore_21 rfl (lv_at hl 0 rfl) ?_
    refine mg_ticks C hw dM_isBefore_22 ?_
    refine lv_iload_n C.1.1 C.1.2.1 dM_isBefore_25 rfl (lv_at hl 2 rfl) ?_
    obtain ⟨h5, hf⟩ := ts_g hf
    refine ma_ticks C hw h5 dM_isBefore_26 ?_
    refine lv_icmp_ne (tgt := 49) C.1.1 C.1.2.1 dM_isBefore_27 (by decide) (fun c6 => ?_) (fun c6 => ?_)
    · have hf := ts_f hf c6
      refine lv_iconst (v := (0 : Int32)) C.1.1 C.1.2.1 dM_isBefore_49 (by decide) ?_
      exact m_retz C hr hlk hrv hw (Or.inl rfl) hf ⟨Nat.le_of_ble_eq_true rfl, Nat.le_of_ble_eq_true rfl⟩ dM_isBefore_50
    · have hf := ts_t hf c6
      refine lv_aload_n C.1.1 C.1.2.1 dM_isBefore_30 rfl (lv_at hl 0 rfl) ?_
      refine mg_trackOf C hw dM_isBefore_31 ?_
      refine lv_iload_n C.1.1 C.1.2.1 dM_isBefore_34 rfl (lv_at hl 1 rfl) ?_
      obtain ⟨h7, hf⟩ := ts_g hf
      refine ma_trackOf C hw h7 dM_isBefore_35 ?_
      refine lv_aload_n C.1.1 C.1.2.1 dM_isBefore_36 rfl (lv_at hl 0 rfl) ?_
      refine mg_trackOf C hw dM_isBefore_37 ?_
      refine lv_iload_n C.1.1 C.1.2.1 dM_isBefore_40 rfl (lv_at hl 2 rfl) ?_
      obtain ⟨h8, hf⟩ := ts_g hf
      refine ma_trackOf C hw h8 dM_isBefore_41 ?_
      refine lv_icmp_ge (tgt := 49) C.1.1 C.1.2.1 dM_isBefore_42 (by decide) (fun c9 => ?_) (fun c9 => ?_)
      · have hf := ts_t hf c9
        refine lv_iconst (v := (0 : Int32)) C.1.1 C.1.2.1 dM_isBefore_49 (by decide) ?_
        exact m_retz C hr hlk hrv hw (Or.inl rfl) hf ⟨Nat.le_of_ble_eq_true rfl, Nat.le_of_ble_eq_true rfl⟩ dM_isBefore_50
      · have hf := ts_f hf c9
        refine lv_iconst (v := (1 : Int32)) C.1.1 C.1.2.1 dM_isBefore_45 (by decide) ?_
        refine lv_goto (tgt := 50) C.1.1 C.1.2.1 dM_isBefore_46 (by decide) ?_
        exact m_retz C hr hlk hrv hw (Or.inr rfl) hf ⟨Nat.le_of_ble_eq_true rfl, Nat.le_of_ble_eq_true rfl⟩ dM_isBefore_50
abbrev cM_again : ByteArray := prog_8_method_19_code
abbrev yM_again : MethodName := ⟨"MidiDeskModel", "again", "()V"⟩
theorem kM_again : yM_again.cls ≠ "java/lang/invoke/MethodHandle" ∧ yM_again.cls ≠ "java/lang/invoke/VarHandle" ∧ (parseMethodDescriptor yM_again.desc).map (fun d => d.parameters.length) = some 0 := by decide +kernel
abbrev rM_again : Room := { frames := 1, cells := 0, slots := 0, locals := 22 }
theorem dM_again_0 : decode cM_again 0 = .ok (.iconst 1, 1) := by decide +kernel
theorem dM_again_1 : decode cM_again 1 = .ok (.istore_n 1, 1) := by decide +kernel
theorem dM_again_2 : decode cM_again 2 = .ok (.iload_n 1, 1) := by decide +kernel
theorem dM_again_3 : decode cM_again 3 = .ok (.aload_n 0, 1) := by decide +kernel
theorem dM_again_4 : decode cM_again 4 = .ok (.getfield 95, 3) := by decide +kernel
theorem dM_again_7 : decode cM_again 7 = .ok (.if_icmp .ge 65, 3) := by decide +kernel
theorem dM_again_10 : decode cM_again 10 = .ok (.aload_n 0, 1) := by decide +kernel
theorem dM_again_11 : decode cM_again 11 = .ok (.getfield 34, 3) := by decide +kernel
theorem dM_again_14 : decode cM_again 14 = .ok (.iload_n 1, 1) := by decide +kernel
theorem dM_again_15 : decode cM_again 15 = .ok (.iaload, 1) := by decide +kernel
theorem dM_again_16 : decode cM_again 16 = .ok (.istore_n 2, 1) := by decide +kernel
theorem dM_again_17 : decode cM_again 17 = .ok (.iload_n 1, 1) := by decide +kernel
theorem dM_again_18 : decode cM_again 18 = .ok (.istore_n 3, 1) := by decide +kernel
theorem dM_again_19 : decode cM_again 19 = .ok (.iload_n 3, 1) := by decide +kernel
theorem dM_again_20 : decode cM_again 20 = .ok (.ifCond .le 39, 3) := by decide +kernel
theorem dM_again_23 : decode cM_again 23 = .ok (.aload_n 0, 1) := by decide +kernel
theorem dM_again_24 : decode cM_again 24 = .ok (.iload_n 2, 1) := by decide +kernel
theorem dM_again_25 : decode cM_again 25 = .ok (.aload_n 0, 1) := by decide +kernel
theorem dM_again_26 : decode cM_again 26 = .ok (.getfield 34, 3) := by decide +kernel
theorem dM_again_29 : decode cM_again 29 = .ok (.iload_n 3, 1) := by decide +kernel
theorem dM_again_30 : decode cM_again 30 = .ok (.iconst 1, 1) := by decide +kernel
theorem dM_again_31 : decode cM_again 31 = .ok (.isub, 1) := by decide +kernel
theorem dM_again_32 : decode cM_again 32 = .ok (.iaload, 1) := by decide +kernel
theorem dM_again_33 : decode cM_again 33 = .ok (.invokevirtual 140, 3) := by decide +kernel
theorem dM_again_36 : decode cM_again 36 = .ok (.ifCond .eq 23, 3) := by decide +kernel
theorem dM_again_39 : decode cM_again 39 = .ok (.aload_n 0, 1) := by decide +kernel
theorem dM_again_40 : decode cM_again 40 = .ok (.getfield 34, 3) := by decide +kernel
theorem dM_again_43 : decode cM_again 43 = .ok (.iload_n 3, 1) := by decide +kernel
theorem dM_again_44 : decode cM_again 44 = .ok (.aload_n 0, 1) := by decide +kernel
theorem dM_again_45 : decode cM_again 45 = .ok (.getfield 34, 3) := by decide +kernel
theorem dM_again_48 : decode cM_again 48 = .ok (.iload_n 3, 1) := by decide +kernel
theorem dM_again_49 : decode cM_again 49 = .ok (.iconst 1, 1) := by decide +kernel
theorem dM_again_50 : decode cM_again 50 = .ok (.isub, 1) := by decide +kernel
theorem dM_again_51 : decode cM_again 51 = .ok (.iaload, 1) := by decide +kernel
theorem dM_again_52 : decode cM_again 52 = .ok (.iastore, 1) := by decide +kernel
theorem dM_again_53 : decode cM_again 53 = .ok (.iinc 3 (-1), 3) := by decide +kernel
theorem dM_again_56 : decode cM_again 56 = .ok (.goto (-37), 3) := by decide +kernel
theorem dM_again_59 : decode cM_again 59 = .ok (.aload_n 0, 1) := by decide +kernel
theorem dM_again_60 : decode cM_again 60 = .ok (.getfield 34, 3) := by decide +kernel
theorem dM_again_63 : decode cM_again 63 = .ok (.iload_n 3, 1) := by decide +kernel
theorem dM_again_64 : decode cM_again 64 = .ok (.iload_n 2, 1) := by decide +kernel
theorem dM_again_65 : decode cM_again 65 = .ok (.iastore, 1) := by decide +kernel
theorem dM_again_66 : decode cM_again 66 = .ok (.iinc 1 1, 3) := by decide +kernel
theorem dM_again_69 : decode cM_again 69 = .ok (.goto (-67), 3) := by decide +kernel
theorem dM_again_72 : decode cM_again 72 = .ok (.return_, 1) := by decide +kernel
def jM_again_59 (K2 : (Nat → Int32) → (Nat → Nat → Int32) → Int32 → Option ((Nat → Int32) × (Nat → Nat → Int32))) (iv : Nat → Int32) (av : Nat → Nat → Int32) (x1 : Int32) (x2 : Int32) (x3 : Int32) : Option ((Nat → Int32) × (Nat → Nat → Int32)) := if x3 < 0 ∨ 1001 ≤ x3.toNatClampNeg then none else (K2 iv (up2 av 8 x3.toNatClampNeg x2) (x1 + 1))
def lM_again_19 (K2 : (Nat → Int32) → (Nat → Nat → Int32) → Int32 → Option ((Nat → Int32) × (Nat → Nat → Int32))) : Nat → (Nat → Int32) → (Nat → Nat → Int32) → Int32 → Int32 → Int32 → Option ((Nat → Int32) × (Nat → Nat → Int32))
  | 0 => fun _ _ _ _ _ => none
  | k + 1 => fun iv av x1 x2 x3 => if x3 ≤ 0 then (jM_again_59 K2 iv av x1 x2 x3) else (if (x3 - (1 : Int32)) < 0 ∨ 1001 ≤ (x3 - (1 : Int32)).toNatClampNeg then none else ((fM_isBefore iv av x2 (av 8 (x3 - (1 : Int32)).toNatClampNeg)).bind fun (r3, iv3, av3) => if r3 = 0 then (jM_again_59 K2 iv3 av3 x1 x2 x3) else (if (x3 - (1 : Int32)) < 0 ∨ 1001 ≤ (x3 - (1 : Int32)).toNatClampNeg then none else (if x3 < 0 ∨ 1001 ≤ x3.toNatClampNeg then none else (lM_again_19 K2 k iv3 (up2 av3 8 x3.toNatClampNeg (av3 8 (x3 - (1 : Int32)).toNatClampNeg)) x1 x2 (x3 + (-1)))))))
def lM_again_2 : Nat → (Nat → Int32) → (Nat → Nat → Int32) → Int32 → Option ((Nat → Int32) × (Nat → Nat → Int32))
  | 0 => fun _ _ _ => none
  | k + 1 => fun iv av x1 => if (iv 10) ≤ x1 then (some (iv, av)) else (if x1 < 0 ∨ 1001 ≤ x1.toNatClampNeg then none else (lM_again_19 (lM_again_2 k) FU iv av x1 (av 8 x1.toNatClampNeg) x1))
def fM_again (iv : Nat → Int32) (av : Nat → Nat → Int32) : Option ((Nat → Int32) × (Nat → Nat → Int32)) := lM_again_2 FU iv av (1 : Int32)
set_option maxHeartbeats 4000000 in
set_option maxRecDepth 100000 in
theorem wM_again_59 {p : Program} {l : Launch} {e : Env} {s : State} {m : MethodId} {args : Array Value} {below : List Frame} {meth : Method} {c : Code} {g : gT} {q : Nat} {ad : Nat → Nat} {X : va_W} {rv : Option Value} {iv' : Nat → Int32} {av' : Nat → Nat → Int32} (C : mCx p m c cM_again 4 s args g "MidiDeskModel") (hr : meth.sig.returnType = none) (hlk : meth.locks = false) (hrv : rv = none) {K2 : (Nat → Int32) → (Nat → Nat → Int32) → Int32 → Option ((Nat → Int32) × (Nat → Nat → Int32))} (hK2 : ∀ (iv : Nat → Int32) (av : Nat → Nat → Int32) (x1 : Int32) (H : Heap) (locs : List Loc) (ls : Array Slot), lv_has ls 4 [(0, .ref q), (1, .int x1)] → mWd g (mA g q ad X s.heap.size) s.heap q ad X iv av H locs → K2 iv av x1 = some (iv', av') → mG p l e rM_again s m args below meth c g q ad X rv iv' av' H locs 0 0 (F0 m 2 ls [])) (iv : Nat → Int32) (av : Nat → Nat → Int32) (x1 : Int32) (x2 : Int32) (x3 : Int32) (H : Heap) (locs : List Loc) (ls : Array Slot) (hl : lv_has ls 4 [(0, .ref q), (1, .int x1), (2, .int x2), (3, .int x3)]) (hw : mWd g (mA g q ad X s.heap.size) s.heap q ad X iv av H locs) (hf : jM_again_59 K2 iv av x1 x2 x3 = some (iv', av')) : mG p l e rM_again s m args below meth c g q ad X rv iv' av' H locs 0 0 (F0 m 59 ls []) := by
  unfold jM_again_59 at hf
  refine lv_aload_n C.1.1 C.1.2.1 dM_again_59 rfl (lv_at hl 0 rfl) ?_
  refine mg_order C hw dM_again_60 ?_
  refine lv_iload_n C.1.1 C.1.2.1 dM_again_63 rfl (lv_at hl 3 rfl) ?_
  refine lv_iload_n C.1.1 C.1.2.1 dM_again_64 rfl (lv_at hl 2 rfl) ?_
  obtain ⟨h1, hf⟩ := ts_g hf
  refine ms_order C hw h1 dM_again_65 (fun H locs hw => ?_)
  refine lv_iinc (v := x1 + 1) (lv' := [(1, .int (x1 + 1)), (0, .ref q), (2, .int x2), (3, .int x3)]) C.1.1 C.1.2.1 dM_again_66 hl (k := 1) rfl rfl (by decide) rfl (fun ls hl => ?_)
  refine lv_goto (tgt := 2) C.1.1 C.1.2.1 dM_again_69 (by decide) ?_
  exact hK2 iv (up2 av 8 x3.toNatClampNeg x2) (x1 + 1) _ _ ls (lv_sub hl [1, 0] rfl) hw hf
set_option maxHeartbeats 4000000 in
set_option maxRecDepth 100000 in
theorem wM_again_19 {p : Program} {l : Launch} {e : Env} {s : State} {m : MethodId} {args : Array Value} {below : List Frame} {meth : Method} {c : Code} {g : gT} {q : Nat} {ad : Nat → Nat} {X : va_W} {rv : Option Value} {iv' : Nat → Int32} {av' : Nat → Nat → Int32} (C : mCx p m c cM_again 4 s args g "MidiDeskModel") (hr : meth.sig.returnType = none) (hlk : meth.locks = false) (hrv : rv = none) {K2 : (Nat → Int32) → (Nat → Nat → Int32) → Int32 → Option ((Nat → Int32) × (Nat → Nat → Int32))} (hK2 : ∀ (iv : Nat → Int32) (av : Nat → Nat → Int32) (x1 : Int32) (H : Heap) (locs : List Loc) (ls : Array Slot), lv_has ls 4 [(0, .ref q), (1, .int x1)] → mWd g (mA g q ad X s.heap.size) s.heap q ad X iv av H locs → K2 iv av x1 = some (iv', av') → mG p l e rM_again s m args below meth c g q ad X rv iv' av' H locs 0 0 (F0 m 2 ls [])) (k : Nat) : ∀ (iv : Nat → Int32) (av : Nat → Nat → Int32) (x1 : Int32) (x2 : Int32) (x3 : Int32) (H : Heap) (locs : List Loc) (ls : Array Slot), lv_has ls 4 [(0, .ref q), (1, .int x1), (2, .int x2), (3, .int x3)] → mWd g (mA g q ad X s.heap.size) s.heap q ad X iv av H locs → lM_again_19 K2 k iv av x1 x2 x3 = some (iv', av') → mG p l e rM_again s m args below meth c g q ad X rv iv' av' H locs 0 0 (F0 m 19 ls []) := by
  induction k with
  | zero => intro iv av x1 x2 x3 H locs ls hl hw hf; cases hf
  | succ k ih =>
    intro iv av x1 x2 x3 H locs ls hl hw hf
    have hf : (if x3 ≤ 0 then (jM_again_59 K2 iv av x1 x2 x3) else (if (x3 - (1 : Int32)) < 0 ∨ 1001 ≤ (x3 - (1 : Int32)).toNatClampNeg then none else ((fM_isBefore iv av x2 (av 8 (x3 - (1 : Int32)).toNatClampNeg)).bind fun (r3, iv3, av3) => if r3 = 0 then (jM_again_59 K2 iv3 av3 x1 x2 x3) else (if (x3 - (1 : Int32)) < 0 ∨ 1001 ≤ (x3 - (1 : Int32)).toNatClampNeg then none else (if x3 < 0 ∨ 1001 ≤ x3.toNatClampNeg then none else (lM_again_19 K2 k iv3 (up2 av3 8 x3.toNatClampNeg (av3 8 (x3 - (1 : Int32)).toNatClampNeg)) x1 x2 (x3 + (-1)))))))) = some (iv', av') := hf
    refine lv_iload_n C.1.1 C.1.2.1 dM_again_19 rfl (lv_at hl 3 rfl) ?_
    refine lv_if_le (tgt := 59) C.1.1 C.1.2.1 dM_again_20 (by decide) (fun c1 => ?_) (fun c1 => ?_)
    · have hf := ts_t hf c1
      exact wM_again_59 C hr hlk hrv hK2 iv av x1 x2 x3 _ _ ls (lv_sub hl [0, 1, 2, 3] rfl) hw hf
    · have hf := ts_f hf c1
      refine lv_aload_n C.1.1 C.1.2.1 dM_again_23 rfl (lv_at hl 0 rfl) ?_
      refine lv_iload_n C.1.1 C.1.2.1 dM_again_24 rfl (lv_at hl 2 rfl) ?_
      refine lv_aload_n C.1.1 C.1.2.1 dM_again_25 rfl (lv_at hl 0 rfl) ?_
      refine mg_order C hw dM_again_26 ?_
      refine lv_iload_n C.1.1 C.1.2.1 dM_again_29 rfl (lv_at hl 3 rfl) ?_
      refine lv_iconst (v := (1 : Int32)) C.1.1 C.1.2.1 dM_again_30 (by decide) ?_
      refine lv_isub C.1.1 C.1.2.1 dM_again_31 ?_
      obtain ⟨h2, hf⟩ := ts_g hf
      refine ma_order C hw h2 dM_again_32 ?_
      obtain ⟨⟨r3, iv3, av3⟩, g3, hf⟩ := ts_b hf
      dsimp only at hf
      refine m_callV (rest := []) (As := [.int x2, .int (av 8 (x3 - (1 : Int32)).toNatClampNeg)]) (rv := (some (.int r3))) C hl.1 hw (cM_isBefore_met g3) (callW_of (rm := rM_isBefore) 2 C.1.2.2.2.2 gw_856 gw_858 gw_37 gw_55 gw_859 kM_isBefore ⟨Nat.le_of_ble_eq_true rfl, Nat.le_of_ble_eq_true rfl⟩) rfl rfl (Nat.le_of_ble_eq_true rfl) dM_again_33 ⟨Nat.le_of_ble_eq_true rfl, Nat.le_of_ble_eq_true rfl⟩ (fun H locs hw => ?_)
      refine W.eq (g2 := F0 m 36 ls [.int r3]) rfl ?_
      refine lv_if_eq (tgt := 59) C.1.1 C.1.2.1 dM_again_36 (by decide) (fun c4 => ?_) (fun c4 => ?_)
      · have hf := ts_t hf c4
        exact wM_again_59 C hr hlk hrv hK2 iv3 av3 x1 x2 x3 _ _ ls (lv_sub hl [0, 1, 2, 3] rfl) hw hf
      · have hf := ts_f hf c4
        refine lv_aload_n C.1.1 C.1.2.1 dM_again_39 rfl (lv_at hl 0 rfl) ?_
        refine mg_order C hw dM_again_40 ?_
        refine lv_iload_n C.1.1 C.1.2.1 dM_again_43 rfl (lv_at hl 3 rfl) ?_
        refine lv_aload_n C.1.1 C.1.2.1 dM_again_44 rfl (lv_at hl 0 rfl) ?_
        refine mg_order C hw dM_again_45 ?_
        refine lv_iload_n C.1.1 C.1.2.1 dM_again_48 rfl (lv_at hl 3 rfl) ?_
        refine lv_iconst (v := (1 : Int32)) C.1.1 C.1.2.1 dM_again_49 (by decide) ?_
        refine lv_isub C.1.1 C.1.2.1 dM_again_50 ?_
        obtain ⟨h5, hf⟩ := ts_g hf
        refine ma_order C hw h5 dM_again_51 ?_
        obtain ⟨h6, hf⟩ := ts_g hf
        refine ms_order C hw h6 dM_again_52 (fun H locs hw => ?_)
        refine lv_iinc (v := x3 + (-1)) (lv' := [(3, .int (x3 + (-1))), (0, .ref q), (1, .int x1), (2, .int x2)]) C.1.1 C.1.2.1 dM_again_53 hl (k := 3) rfl rfl (by decide) rfl (fun ls hl => ?_)
        refine lv_goto (tgt := 19) C.1.1 C.1.2.1 dM_again_56 (by decide) ?_
        exact ih iv3 (up2 av3 8 x3.toNatClampNeg (av3 8 (x3 - (1 : Int32)).toNatClampNeg)) x1 x2 (x3 + (-1)) _ _ ls (lv_sub hl [1, 2, 3, 0] rfl) hw hf
set_option maxHeartbeats 4000000 in
set_option maxRecDepth 100000 in
theorem wM_again_2 {p : Program} {l : Launch} {e : Env} {s : State} {m : MethodId} {args : Array Value} {below : List Frame} {meth : Method} {c : Code} {g : gT} {q : Nat} {ad : Nat → Nat} {X : va_W} {rv : Option Value} {iv' : Nat → Int32} {av' : Nat → Nat → Int32} (C : mCx p m c cM_again 4 s args g "MidiDeskModel") (hr : meth.sig.returnType = none) (hlk : meth.locks = false) (hrv : rv = none) (k : Nat) : ∀ (iv : Nat → Int32) (av : Nat → Nat → Int32) (x1 : Int32) (H : Heap) (locs : List Loc) (ls : Array Slot), lv_has ls 4 [(0, .ref q), (1, .int x1)] → mWd g (mA g q ad X s.heap.size) s.heap q ad X iv av H locs → lM_again_2 k iv av x1 = some (iv', av') → mG p l e rM_again s m args below meth c g q ad X rv iv' av' H locs 0 0 (F0 m 2 ls []) := by
  induction k with
  | zero => intro iv av x1 H locs ls hl hw hf; cases hf
  | succ k ih =>
    intro iv av x1 H locs ls hl hw hf
    have hf : (if (iv 10) ≤ x1 then (some (iv, av)) else (if x1 < 0 ∨ 1001 ≤ x1.toNatClampNeg then none else (lM_again_19 (lM_again_2 k) FU iv av x1 (av 8 x1.toNatClampNeg) x1))) = some (iv', av') := hf
    refine lv_iload_n C.1.1 C.1.2.1 dM_again_2 rfl (lv_at hl 1 rfl) ?_
    refine lv_aload_n C.1.1 C.1.2.1 dM_again_3 rfl (lv_at hl 0 rfl) ?_
    refine mg_events C hw dM_again_4 ?_
    refine lv_icmp_ge (tgt := 72) C.1.1 C.1.2.1 dM_again_7 (by decide) (fun c1 => ?_) (fun c1 => ?_)
    · have hf := ts_t hf c1
      exact m_retv C hr hlk hrv hw hf ⟨Nat.le_of_ble_eq_true rfl, Nat.le_of_ble_eq_true rfl⟩ dM_again_72
    · have hf := ts_f hf c1
      refine lv_aload_n C.1.1 C.1.2.1 dM_again_10 rfl (lv_at hl 0 rfl) ?_
      refine mg_order C hw dM_again_11 ?_
      refine lv_iload_n C.1.1 C.1.2.1 dM_again_14 rfl (lv_at hl 1 rfl) ?_
      obtain ⟨h2, hf⟩ := ts_g hf
      refine ma_order C hw h2 dM_again_15 ?_
      refine lv_istore_n (lv' := [(2, .int (av 8 x1.toNatClampNeg)), (0, .ref q), (1, .int x1)]) C.1.1 C.1.2.1 dM_again_16 rfl hl (by decide) rfl (fun ls hl => ?_)
      refine lv_iload_n C.1.1 C.1.2.1 dM_again_17 rfl (lv_at hl 2 rfl) ?_
      refine lv_istore_n (lv' := [(3, .int x1), (2, .int (av 8 x1.toNatClampNeg)), (0, .ref q), (1, .int x1)]) C.1.1 C.1.2.1 dM_again_18 rfl hl (by decide) rfl (fun ls hl => ?_)
      exact wM_again_19 C hr hlk hrv ih FU iv av x1 (av 8 x1.toNatClampNeg) x1 _ _ ls (lv_sub hl [2, 3, 1, 0] rfl) hw hf
set_option maxHeartbeats 4000000 in
set_option maxRecDepth 100000 in
theorem cM_again_met {l : Launch} {g : gT} {q : Nat} {ad : Nat → Nat} {X : va_W} {iv iv' : Nat → Int32} {av av' : Nat → Nat → Int32} (hf : fM_again iv av = some (iv', av')) : mMet l yM_again cM_again 4 none rM_again g q ad X iv av [.ref q] none iv' av' := by
  refine m_entry (by decide) (Nat.le_of_ble_eq_true rfl) ?_
  intro p e s m args below meth c ls C hr hlk hnm hl hw
  have hrv : (none : Option Value) = none := rfl
  have C : mCx p m c cM_again 4 s args g "MidiDeskModel" := C
  have hl : lv_has ls 4 [(0, .ref q)] := hl
  unfold fM_again at hf
  refine lv_iconst (v := (1 : Int32)) C.1.1 C.1.2.1 dM_again_0 (by decide) ?_
  refine lv_istore_n (lv' := [(1, .int (1 : Int32)), (0, .ref q)]) C.1.1 C.1.2.1 dM_again_1 rfl hl (by decide) rfl (fun ls hl => ?_)
  exact wM_again_2 C hr hlk hrv FU iv av (1 : Int32) _ _ ls (lv_sub hl [1, 0] rfl) hw hf
abbrev cM_sort : ByteArray := prog_8_method_17_code
abbrev yM_sort : MethodName := ⟨"MidiDeskModel", "sort", "()V"⟩
theorem kM_sort : yM_sort.cls ≠ "java/lang/invoke/MethodHandle" ∧ yM_sort.cls ≠ "java/lang/invoke/VarHandle" ∧ (parseMethodDescriptor yM_sort.desc).map (fun d => d.parameters.length) = some 0 := by decide +kernel
abbrev rM_sort : Room := { frames := 2, cells := 0, slots := 0, locals := 45 }
theorem dM_sort_0 : decode cM_sort 0 = .ok (.iconst 0, 1) := by decide +kernel
theorem dM_sort_1 : decode cM_sort 1 = .ok (.istore_n 1, 1) := by decide +kernel
theorem dM_sort_2 : decode cM_sort 2 = .ok (.iload_n 1, 1) := by decide +kernel
theorem dM_sort_3 : decode cM_sort 3 = .ok (.aload_n 0, 1) := by decide +kernel
theorem dM_sort_4 : decode cM_sort 4 = .ok (.getfield 95, 3) := by decide +kernel
theorem dM_sort_7 : decode cM_sort 7 = .ok (.if_icmp .ge 16, 3) := by decide +kernel
theorem dM_sort_10 : decode cM_sort 10 = .ok (.aload_n 0, 1) := by decide +kernel
theorem dM_sort_11 : decode cM_sort 11 = .ok (.getfield 34, 3) := by decide +kernel
theorem dM_sort_14 : decode cM_sort 14 = .ok (.iload_n 1, 1) := by decide +kernel
theorem dM_sort_15 : decode cM_sort 15 = .ok (.iload_n 1, 1) := by decide +kernel
theorem dM_sort_16 : decode cM_sort 16 = .ok (.iastore, 1) := by decide +kernel
theorem dM_sort_17 : decode cM_sort 17 = .ok (.iinc 1 1, 3) := by decide +kernel
theorem dM_sort_20 : decode cM_sort 20 = .ok (.goto (-18), 3) := by decide +kernel
theorem dM_sort_23 : decode cM_sort 23 = .ok (.aload_n 0, 1) := by decide +kernel
theorem dM_sort_24 : decode cM_sort 24 = .ok (.invokevirtual 137, 3) := by decide +kernel
theorem dM_sort_27 : decode cM_sort 27 = .ok (.return_, 1) := by decide +kernel
def lM_sort_2 : Nat → (Nat → Int32) → (Nat → Nat → Int32) → Int32 → Option ((Nat → Int32) × (Nat → Nat → Int32))
  | 0 => fun _ _ _ => none
  | k + 1 => fun iv av x1 => if (iv 10) ≤ x1 then ((fM_again iv av).bind fun (iv2, av2) => some (iv2, av2)) else (if x1 < 0 ∨ 1001 ≤ x1.toNatClampNeg then none else (lM_sort_2 k iv (up2 av 8 x1.toNatClampNeg x1) (x1 + 1)))
def fM_sort (iv : Nat → Int32) (av : Nat → Nat → Int32) : Option ((Nat → Int32) × (Nat → Nat → Int32)) := lM_sort_2 FU iv av (0 : Int32)
set_option maxHeartbeats 4000000 in
set_option maxRecDepth 100000 in
theorem wM_sort_2 {p : Program} {l : Launch} {e : Env} {s : State} {m : MethodId} {args : Array Value} {below : List Frame} {meth : Method} {c : Code} {g : gT} {q : Nat} {ad : Nat → Nat} {X : va_W} {rv : Option Value} {iv' : Nat → Int32} {av' : Nat → Nat → Int32} (C : mCx p m c cM_sort 2 s args g "MidiDeskModel") (hr : meth.sig.returnType = none) (hlk : meth.locks = false) (hrv : rv = none) (k : Nat) : ∀ (iv : Nat → Int32) (av : Nat → Nat → Int32) (x1 : Int32) (H : Heap) (locs : List Loc) (ls : Array Slot), lv_has ls 2 [(0, .ref q), (1, .int x1)] → mWd g (mA g q ad X s.heap.size) s.heap q ad X iv av H locs → lM_sort_2 k iv av x1 = some (iv', av') → mG p l e rM_sort s m args below meth c g q ad X rv iv' av' H locs 0 0 (F0 m 2 ls []) := by
  induction k with
  | zero => intro iv av x1 H locs ls hl hw hf; cases hf
  | succ k ih =>
    intro iv av x1 H locs ls hl hw hf
    have hf : (if (iv 10) ≤ x1 then ((fM_again iv av).bind fun (iv2, av2) => some (iv2, av2)) else (if x1 < 0 ∨ 1001 ≤ x1.toNatClampNeg then none else (lM_sort_2 k iv (up2 av 8 x1.toNatClampNeg x1) (x1 + 1)))) = some (iv', av') := hf
    refine lv_iload_n C.1.1 C.1.2.1 dM_sort_2 rfl (lv_at hl 1 rfl) ?_
    refine lv_aload_n C.1.1 C.1.2.1 dM_sort_3 rfl (lv_at hl 0 rfl) ?_
    refine mg_events C hw dM_sort_4 ?_
    refine lv_icmp_ge (tgt := 23) C.1.1 C.1.2.1 dM_sort_7 (by decide) (fun c1 => ?_) (fun c1 => ?_)
    · have hf := ts_t hf c1
      refine lv_aload_n C.1.1 C.1.2.1 dM_sort_23 rfl (lv_at hl 0 rfl) ?_
      obtain ⟨⟨iv2, av2⟩, g2, hf⟩ := ts_b hf
      dsimp only at hf
      refine m_callV (rest := []) (As := []) (rv := none) C hl.1 hw (cM_again_met g2) (callW_of (rm := rM_again) 0 C.1.2.2.2.2 gw_852 gw_854 gw_36 gw_55 gw_855 kM_again ⟨Nat.le_of_ble_eq_true rfl, Nat.le_of_ble_eq_true rfl⟩) rfl rfl (Nat.le_of_ble_eq_true rfl) dM_sort_24 ⟨Nat.le_of_ble_eq_true rfl, Nat.le_of_ble_eq_true rfl⟩ (fun H locs hw => ?_)
      refine W.eq (g2 := F0 m 27 ls []) rfl ?_
      exact m_retv C hr hlk hrv hw hf ⟨Nat.le_of_ble_eq_true rfl, Nat.le_of_ble_eq_true rfl⟩ dM_sort_27
    · have hf := ts_f hf c1
      refine lv_aload_n C.1.1 C.1.2.1 dM_sort_10 rfl (lv_at hl 0 rfl) ?_
      refine mg_order C hw dM_sort_11 ?_
      refine lv_iload_n C.1.1 C.1.2.1 dM_sort_14 rfl (lv_at hl 1 rfl) ?_
      refine lv_iload_n C.1.1 C.1.2.1 dM_sort_15 rfl (lv_at hl 1 rfl) ?_
      obtain ⟨h3, hf⟩ := ts_g hf
      refine ms_order C hw h3 dM_sort_16 (fun H locs hw => ?_)
      refine lv_iinc (v := x1 + 1) (lv' := [(1, .int (x1 + 1)), (0, .ref q)]) C.1.1 C.1.2.1 dM_sort_17 hl (k := 1) rfl rfl (by decide) rfl (fun ls hl => ?_)
      refine lv_goto (tgt := 2) C.1.1 C.1.2.1 dM_sort_20 (by decide) ?_
      exact ih iv (up2 av 8 x1.toNatClampNeg x1) (x1 + 1) _ _ ls (lv_sub hl [1, 0] rfl) hw hf
set_option maxHeartbeats 4000000 in
set_option maxRecDepth 100000 in
theorem cM_sort_met {l : Launch} {g : gT} {q : Nat} {ad : Nat → Nat} {X : va_W} {iv iv' : Nat → Int32} {av av' : Nat → Nat → Int32} (hf : fM_sort iv av = some (iv', av')) : mMet l yM_sort cM_sort 2 none rM_sort g q ad X iv av [.ref q] none iv' av' := by
  refine m_entry (by decide) (Nat.le_of_ble_eq_true rfl) ?_
  intro p e s m args below meth c ls C hr hlk hnm hl hw
  have hrv : (none : Option Value) = none := rfl
  have C : mCx p m c cM_sort 2 s args g "MidiDeskModel" := C
  have hl : lv_has ls 2 [(0, .ref q)] := hl
  unfold fM_sort at hf
  refine lv_iconst (v := (0 : Int32)) C.1.1 C.1.2.1 dM_sort_0 (by decide) ?_
  refine lv_istore_n (lv' := [(1, .int (0 : Int32)), (0, .ref q)]) C.1.1 C.1.2.1 dM_sort_1 rfl hl (by decide) rfl (fun ls hl => ?_)
  exact wM_sort_2 C hr hlk hrv FU iv av (0 : Int32) _ _ ls (lv_sub hl [1, 0] rfl) hw hf
abbrev cM_read : ByteArray := prog_8_method_10_code
abbrev yM_read : MethodName := ⟨"MidiDeskModel", "read", "()I"⟩
theorem kM_read : yM_read.cls ≠ "java/lang/invoke/MethodHandle" ∧ yM_read.cls ≠ "java/lang/invoke/VarHandle" ∧ (parseMethodDescriptor yM_read.desc).map (fun d => d.parameters.length) = some 0 := by decide +kernel
abbrev rM_read : Room := { frames := 6, cells := 0, slots := 0, locals := 147 }
theorem dM_read_0 : decode cM_read 0 = .ok (.aload_n 0, 1) := by decide +kernel
theorem dM_read_1 : decode cM_read 1 = .ok (.iconst 0, 1) := by decide +kernel
theorem dM_read_2 : decode cM_read 2 = .ok (.putfield 47, 3) := by decide +kernel
theorem dM_read_5 : decode cM_read 5 = .ok (.aload_n 0, 1) := by decide +kernel
theorem dM_read_6 : decode cM_read 6 = .ok (.iconst 0, 1) := by decide +kernel
theorem dM_read_7 : decode cM_read 7 = .ok (.putfield 62, 3) := by decide +kernel
theorem dM_read_10 : decode cM_read 10 = .ok (.aload_n 0, 1) := by decide +kernel
theorem dM_read_11 : decode cM_read 11 = .ok (.aload_n 0, 1) := by decide +kernel
theorem dM_read_12 : decode cM_read 12 = .ok (.getfield 51, 3) := by decide +kernel
theorem dM_read_15 : decode cM_read 15 = .ok (.putfield 65, 3) := by decide +kernel
theorem dM_read_18 : decode cM_read 18 = .ok (.aload_n 0, 1) := by decide +kernel
theorem dM_read_19 : decode cM_read 19 = .ok (.iconst 0, 1) := by decide +kernel
theorem dM_read_20 : decode cM_read 20 = .ok (.putfield 56, 3) := by decide +kernel
theorem dM_read_23 : decode cM_read 23 = .ok (.aload_n 0, 1) := by decide +kernel
theorem dM_read_24 : decode cM_read 24 = .ok (.iconst 0, 1) := by decide +kernel
theorem dM_read_25 : decode cM_read 25 = .ok (.putfield 59, 3) := by decide +kernel
theorem dM_read_28 : decode cM_read 28 = .ok (.aload_n 0, 1) := by decide +kernel
theorem dM_read_29 : decode cM_read 29 = .ok (.iconst 0, 1) := by decide +kernel
theorem dM_read_30 : decode cM_read 30 = .ok (.putfield 95, 3) := by decide +kernel
theorem dM_read_33 : decode cM_read 33 = .ok (.aload_n 0, 1) := by decide +kernel
theorem dM_read_34 : decode cM_read 34 = .ok (.iconst 0, 1) := by decide +kernel
theorem dM_read_35 : decode cM_read 35 = .ok (.putfield 98, 3) := by decide +kernel
theorem dM_read_38 : decode cM_read 38 = .ok (.aload_n 0, 1) := by decide +kernel
theorem dM_read_39 : decode cM_read 39 = .ok (.invokevirtual 101, 3) := by decide +kernel
theorem dM_read_42 : decode cM_read 42 = .ok (.iconst 0, 1) := by decide +kernel
theorem dM_read_43 : decode cM_read 43 = .ok (.istore_n 1, 1) := by decide +kernel
theorem dM_read_44 : decode cM_read 44 = .ok (.aload_n 0, 1) := by decide +kernel
theorem dM_read_45 : decode cM_read 45 = .ok (.getfield 56, 3) := by decide +kernel
theorem dM_read_48 : decode cM_read 48 = .ok (.ifCond .ne 165, 3) := by decide +kernel
theorem dM_read_51 : decode cM_read 51 = .ok (.aload_n 0, 1) := by decide +kernel
theorem dM_read_52 : decode cM_read 52 = .ok (.getfield 62, 3) := by decide +kernel
theorem dM_read_55 : decode cM_read 55 = .ok (.aload_n 0, 1) := by decide +kernel
theorem dM_read_56 : decode cM_read 56 = .ok (.getfield 51, 3) := by decide +kernel
theorem dM_read_59 : decode cM_read 59 = .ok (.if_icmp .ge 154, 3) := by decide +kernel
theorem dM_read_62 : decode cM_read 62 = .ok (.aload_n 0, 1) := by decide +kernel
theorem dM_read_63 : decode cM_read 63 = .ok (.aload_n 0, 1) := by decide +kernel
theorem dM_read_64 : decode cM_read 64 = .ok (.getfield 51, 3) := by decide +kernel
theorem dM_read_67 : decode cM_read 67 = .ok (.putfield 65, 3) := by decide +kernel
theorem dM_read_70 : decode cM_read 70 = .ok (.aload_n 0, 1) := by decide +kernel
theorem dM_read_71 : decode cM_read 71 = .ok (.getfield 62, 3) := by decide +kernel
theorem dM_read_74 : decode cM_read 74 = .ok (.istore_n 2, 1) := by decide +kernel
theorem dM_read_75 : decode cM_read 75 = .ok (.aload_n 0, 1) := by decide +kernel
theorem dM_read_76 : decode cM_read 76 = .ok (.iconst 4, 1) := by decide +kernel
theorem dM_read_77 : decode cM_read 77 = .ok (.invokevirtual 74, 3) := by decide +kernel
theorem dM_read_80 : decode cM_read 80 = .ok (.ldc2_w 104, 3) := by decide +kernel
theorem dM_read_83 : decode cM_read 83 = .ok (.lcmp, 1) := by decide +kernel
theorem dM_read_84 : decode cM_read 84 = .ok (.ifCond .ne 7, 3) := by decide +kernel
theorem dM_read_87 : decode cM_read 87 = .ok (.iconst 1, 1) := by decide +kernel
theorem dM_read_88 : decode cM_read 88 = .ok (.goto 4, 3) := by decide +kernel
theorem dM_read_91 : decode cM_read 91 = .ok (.iconst 0, 1) := by decide +kernel
theorem dM_read_92 : decode cM_read 92 = .ok (.istore_n 3, 1) := by decide +kernel
theorem dM_read_93 : decode cM_read 93 = .ok (.aload_n 0, 1) := by decide +kernel
theorem dM_read_94 : decode cM_read 94 = .ok (.getfield 56, 3) := by decide +kernel
theorem dM_read_97 : decode cM_read 97 = .ok (.ifCond .ne 22, 3) := by decide +kernel
theorem dM_read_100 : decode cM_read 100 = .ok (.iload_n 3, 1) := by decide +kernel
theorem dM_read_101 : decode cM_read 101 = .ok (.ifCond .eq 18, 3) := by decide +kernel
theorem dM_read_104 : decode cM_read 104 = .ok (.iload_n 1, 1) := by decide +kernel
theorem dM_read_105 : decode cM_read 105 = .ok (.aload_n 0, 1) := by decide +kernel
theorem dM_read_106 : decode cM_read 106 = .ok (.getfield 85, 3) := by decide +kernel
theorem dM_read_109 : decode cM_read 109 = .ok (.if_icmp .ne 10, 3) := by decide +kernel
theorem dM_read_112 : decode cM_read 112 = .ok (.aload_n 0, 1) := by decide +kernel
theorem dM_read_113 : decode cM_read 113 = .ok (.bipush 10, 2) := by decide +kernel
theorem dM_read_115 : decode cM_read 115 = .ok (.iload_n 2, 1) := by decide +kernel
theorem dM_read_116 : decode cM_read 116 = .ok (.invokevirtual 68, 3) := by decide +kernel
theorem dM_read_119 : decode cM_read 119 = .ok (.aload_n 0, 1) := by decide +kernel
theorem dM_read_120 : decode cM_read 120 = .ok (.iconst 4, 1) := by decide +kernel
theorem dM_read_121 : decode cM_read 121 = .ok (.invokevirtual 74, 3) := by decide +kernel
theorem dM_read_124 : decode cM_read 124 = .ok (.lstore 4, 2) := by decide +kernel
theorem dM_read_126 : decode cM_read 126 = .ok (.aload_n 0, 1) := by decide +kernel
theorem dM_read_127 : decode cM_read 127 = .ok (.getfield 56, 3) := by decide +kernel
theorem dM_read_130 : decode cM_read 130 = .ok (.ifCond .ne 29, 3) := by decide +kernel
theorem dM_read_133 : decode cM_read 133 = .ok (.aload_n 0, 1) := by decide +kernel
theorem dM_read_134 : decode cM_read 134 = .ok (.getfield 62, 3) := by decide +kernel
theorem dM_read_137 : decode cM_read 137 = .ok (.i2l, 1) := by decide +kernel
theorem dM_read_138 : decode cM_read 138 = .ok (.lload 4, 2) := by decide +kernel
theorem dM_read_140 : decode cM_read 140 = .ok (.ladd, 1) := by decide +kernel
theorem dM_read_141 : decode cM_read 141 = .ok (.aload_n 0, 1) := by decide +kernel
theorem dM_read_142 : decode cM_read 142 = .ok (.getfield 51, 3) := by decide +kernel
theorem dM_read_145 : decode cM_read 145 = .ok (.i2l, 1) := by decide +kernel
theorem dM_read_146 : decode cM_read 146 = .ok (.lcmp, 1) := by decide +kernel
theorem dM_read_147 : decode cM_read 147 = .ok (.ifCond .le 12, 3) := by decide +kernel
theorem dM_read_150 : decode cM_read 150 = .ok (.aload_n 0, 1) := by decide +kernel
theorem dM_read_151 : decode cM_read 151 = .ok (.iconst 1, 1) := by decide +kernel
theorem dM_read_152 : decode cM_read 152 = .ok (.aload_n 0, 1) := by decide +kernel
theorem dM_read_153 : decode cM_read 153 = .ok (.getfield 51, 3) := by decide +kernel
theorem dM_read_156 : decode cM_read 156 = .ok (.invokevirtual 68, 3) := by decide +kernel
theorem dM_read_159 : decode cM_read 159 = .ok (.aload_n 0, 1) := by decide +kernel
theorem dM_read_160 : decode cM_read 160 = .ok (.getfield 56, 3) := by decide +kernel
theorem dM_read_163 : decode cM_read 163 = .ok (.ifCond .le 6, 3) := by decide +kernel
theorem dM_read_166 : decode cM_read 166 = .ok (.goto (-122), 3) := by decide +kernel
theorem dM_read_169 : decode cM_read 169 = .ok (.aload_n 0, 1) := by decide +kernel
theorem dM_read_170 : decode cM_read 170 = .ok (.aload_n 0, 1) := by decide +kernel
theorem dM_read_171 : decode cM_read 171 = .ok (.getfield 62, 3) := by decide +kernel
theorem dM_read_174 : decode cM_read 174 = .ok (.lload 4, 2) := by decide +kernel
theorem dM_read_176 : decode cM_read 176 = .ok (.l2i, 1) := by decide +kernel
theorem dM_read_177 : decode cM_read 177 = .ok (.iadd, 1) := by decide +kernel
theorem dM_read_178 : decode cM_read 178 = .ok (.putfield 65, 3) := by decide +kernel
theorem dM_read_181 : decode cM_read 181 = .ok (.iload_n 3, 1) := by decide +kernel
theorem dM_read_182 : decode cM_read 182 = .ok (.ifCond .eq 8, 3) := by decide +kernel
theorem dM_read_185 : decode cM_read 185 = .ok (.aload_n 0, 1) := by decide +kernel
theorem dM_read_186 : decode cM_read 186 = .ok (.iload_n 1, 1) := by decide +kernel
theorem dM_read_187 : decode cM_read 187 = .ok (.invokevirtual 106, 3) := by decide +kernel
theorem dM_read_190 : decode cM_read 190 = .ok (.aload_n 0, 1) := by decide +kernel
theorem dM_read_191 : decode cM_read 191 = .ok (.aload_n 0, 1) := by decide +kernel
theorem dM_read_192 : decode cM_read 192 = .ok (.getfield 65, 3) := by decide +kernel
theorem dM_read_195 : decode cM_read 195 = .ok (.putfield 62, 3) := by decide +kernel
theorem dM_read_198 : decode cM_read 198 = .ok (.iload_n 3, 1) := by decide +kernel
theorem dM_read_199 : decode cM_read 199 = .ok (.ifCond .eq 9, 3) := by decide +kernel
theorem dM_read_202 : decode cM_read 202 = .ok (.iload_n 1, 1) := by decide +kernel
theorem dM_read_203 : decode cM_read 203 = .ok (.iconst 1, 1) := by decide +kernel
theorem dM_read_204 : decode cM_read 204 = .ok (.iadd, 1) := by decide +kernel
theorem dM_read_205 : decode cM_read 205 = .ok (.goto 4, 3) := by decide +kernel
theorem dM_read_208 : decode cM_read 208 = .ok (.iload_n 1, 1) := by decide +kernel
theorem dM_read_209 : decode cM_read 209 = .ok (.istore_n 1, 1) := by decide +kernel
theorem dM_read_210 : decode cM_read 210 = .ok (.goto (-166), 3) := by decide +kernel
theorem dM_read_213 : decode cM_read 213 = .ok (.iload_n 1, 1) := by decide +kernel
theorem dM_read_214 : decode cM_read 214 = .ok (.aload_n 0, 1) := by decide +kernel
theorem dM_read_215 : decode cM_read 215 = .ok (.getfield 85, 3) := by decide +kernel
theorem dM_read_218 : decode cM_read 218 = .ok (.if_icmp .ge 13, 3) := by decide +kernel
theorem dM_read_221 : decode cM_read 221 = .ok (.aload_n 0, 1) := by decide +kernel
theorem dM_read_222 : decode cM_read 222 = .ok (.bipush 10, 2) := by decide +kernel
theorem dM_read_224 : decode cM_read 224 = .ok (.aload_n 0, 1) := by decide +kernel
theorem dM_read_225 : decode cM_read 225 = .ok (.getfield 51, 3) := by decide +kernel
theorem dM_read_228 : decode cM_read 228 = .ok (.invokevirtual 68, 3) := by decide +kernel
theorem dM_read_231 : decode cM_read 231 = .ok (.aload_n 0, 1) := by decide +kernel
theorem dM_read_232 : decode cM_read 232 = .ok (.aload_n 0, 1) := by decide +kernel
theorem dM_read_233 : decode cM_read 233 = .ok (.getfield 56, 3) := by decide +kernel
theorem dM_read_236 : decode cM_read 236 = .ok (.ifCond .ne 7, 3) := by decide +kernel
theorem dM_read_239 : decode cM_read 239 = .ok (.iconst 1, 1) := by decide +kernel
theorem dM_read_240 : decode cM_read 240 = .ok (.goto 4, 3) := by decide +kernel
theorem dM_read_243 : decode cM_read 243 = .ok (.iconst 0, 1) := by decide +kernel
theorem dM_read_244 : decode cM_read 244 = .ok (.putfield 110, 3) := by decide +kernel
theorem dM_read_247 : decode cM_read 247 = .ok (.aload_n 0, 1) := by decide +kernel
theorem dM_read_248 : decode cM_read 248 = .ok (.iconst 0, 1) := by decide +kernel
theorem dM_read_249 : decode cM_read 249 = .ok (.putfield 51, 3) := by decide +kernel
theorem dM_read_252 : decode cM_read 252 = .ok (.aload_n 0, 1) := by decide +kernel
theorem dM_read_253 : decode cM_read 253 = .ok (.getfield 110, 3) := by decide +kernel
theorem dM_read_256 : decode cM_read 256 = .ok (.ifCond .eq 10, 3) := by decide +kernel
theorem dM_read_259 : decode cM_read 259 = .ok (.aload_n 0, 1) := by decide +kernel
theorem dM_read_260 : decode cM_read 260 = .ok (.invokevirtual 114, 3) := by decide +kernel
theorem dM_read_263 : decode cM_read 263 = .ok (.goto 8, 3) := by decide +kernel
theorem dM_read_266 : decode cM_read 266 = .ok (.aload_n 0, 1) := by decide +kernel
theorem dM_read_267 : decode cM_read 267 = .ok (.iconst 0, 1) := by decide +kernel
theorem dM_read_268 : decode cM_read 268 = .ok (.putfield 95, 3) := by decide +kernel
theorem dM_read_271 : decode cM_read 271 = .ok (.aload_n 0, 1) := by decide +kernel
theorem dM_read_272 : decode cM_read 272 = .ok (.getfield 56, 3) := by decide +kernel
theorem dM_read_275 : decode cM_read 275 = .ok (.bipush 16, 2) := by decide +kernel
theorem dM_read_277 : decode cM_read 277 = .ok (.aload_n 0, 1) := by decide +kernel
theorem dM_read_278 : decode cM_read 278 = .ok (.getfield 59, 3) := by decide +kernel
theorem dM_read_281 : decode cM_read 281 = .ok (.imul, 1) := by decide +kernel
theorem dM_read_282 : decode cM_read 282 = .ok (.iadd, 1) := by decide +kernel
theorem dM_read_283 : decode cM_read 283 = .ok (.ireturn, 1) := by decide +kernel
def jM_read_209 (K44 : (Nat → Int32) → (Nat → Nat → Int32) → Int32 → Option (Int32 × (Nat → Int32) × (Nat → Nat → Int32))) (iv : Nat → Int32) (av : Nat → Nat → Int32) (s0 : Int32) : Option (Int32 × (Nat → Int32) × (Nat → Nat → Int32)) := K44 iv av s0
def jM_read_190 (K44 : (Nat → Int32) → (Nat → Nat → Int32) → Int32 → Option (Int32 × (Nat → Int32) × (Nat → Nat → Int32))) (iv : Nat → Int32) (av : Nat → Nat → Int32) (x1 : Int32) (x3 : Int32) : Option (Int32 × (Nat → Int32) × (Nat → Nat → Int32)) := if x3 = 0 then (jM_read_209 K44 (upd iv 2 (iv 3)) av x1) else (jM_read_209 K44 (upd iv 2 (iv 3)) av (x1 + (1 : Int32)))
def jM_read_159 (K44 : (Nat → Int32) → (Nat → Nat → Int32) → Int32 → Option (Int32 × (Nat → Int32) × (Nat → Nat → Int32))) (iv : Nat → Int32) (av : Nat → Nat → Int32) (x1 : Int32) (x3 : Int32) (y4 : Int64) : Option (Int32 × (Nat → Int32) × (Nat → Nat → Int32)) := if (iv 4) ≤ 0 then (if x3 = 0 then (jM_read_190 K44 (upd iv 3 ((iv 2) + y4.toInt32)) av x1 x3) else ((fM_track (upd iv 3 ((iv 2) + y4.toInt32)) av x1).bind fun (iv3, av3) => jM_read_190 K44 iv3 av3 x1 x3)) else (K44 iv av x1)
def jM_read_119 (K44 : (Nat → Int32) → (Nat → Nat → Int32) → Int32 → Option (Int32 × (Nat → Int32) × (Nat → Nat → Int32))) (iv : Nat → Int32) (av : Nat → Nat → Int32) (x1 : Int32) (x3 : Int32) : Option (Int32 × (Nat → Int32) × (Nat → Nat → Int32)) := (fM_taken iv av (4 : Int32)).bind fun (r1, iv1, av1) => if (iv1 4) = 0 then (if (lg_cmp (((iv1 2).toInt64) + r1) ((iv1 1).toInt64)) ≤ 0 then (jM_read_159 K44 iv1 av1 x1 x3 r1) else ((fM_fail iv1 av1 (1 : Int32) (iv1 1)).bind fun (iv4, av4) => jM_read_159 K44 iv4 av4 x1 x3 r1)) else (jM_read_159 K44 iv1 av1 x1 x3 r1)
def jM_read_92 (K44 : (Nat → Int32) → (Nat → Nat → Int32) → Int32 → Option (Int32 × (Nat → Int32) × (Nat → Nat → Int32))) (iv : Nat → Int32) (av : Nat → Nat → Int32) (x1 : Int32) (x2 : Int32) (s0 : Int32) : Option (Int32 × (Nat → Int32) × (Nat → Nat → Int32)) := if (iv 4) = 0 then (if s0 = 0 then (jM_read_119 K44 iv av x1 s0) else (if x1 = (iv 8) then ((fM_fail iv av (10 : Int32) x2).bind fun (iv4, av4) => jM_read_119 K44 iv4 av4 x1 s0) else (jM_read_119 K44 iv av x1 s0))) else (jM_read_119 K44 iv av x1 s0)
def jM_read_271 (iv : Nat → Int32) (av : Nat → Nat → Int32) : Option (Int32 × (Nat → Int32) × (Nat → Nat → Int32)) := some ((iv 4) + ((16 : Int32) * (iv 5)), iv, av)
def jM_read_244 (iv : Nat → Int32) (av : Nat → Nat → Int32) (s1 : Int32) : Option (Int32 × (Nat → Int32) × (Nat → Nat → Int32)) := if ¬ (s1 = 0 ∨ s1 = 1) then none else (if ((upd (upd iv 6 s1) 1 (0 : Int32)) 6) = 0 then (jM_read_271 (upd (upd (upd iv 6 s1) 1 (0 : Int32)) 10 (0 : Int32)) av) else ((fM_sort (upd (upd iv 6 s1) 1 (0 : Int32)) av).bind fun (iv3, av3) => jM_read_271 iv3 av3))
def jM_read_231 (iv : Nat → Int32) (av : Nat → Nat → Int32) : Option (Int32 × (Nat → Int32) × (Nat → Nat → Int32)) := if (iv 4) = 0 then (jM_read_244 iv av (1 : Int32)) else (jM_read_244 iv av (0 : Int32))
def jM_read_213 (iv : Nat → Int32) (av : Nat → Nat → Int32) (x1 : Int32) : Option (Int32 × (Nat → Int32) × (Nat → Nat → Int32)) := if (iv 8) ≤ x1 then (jM_read_231 iv av) else ((fM_fail iv av (10 : Int32) (iv 1)).bind fun (iv2, av2) => jM_read_231 iv2 av2)
def lM_read_44 : Nat → (Nat → Int32) → (Nat → Nat → Int32) → Int32 → Option (Int32 × (Nat → Int32) × (Nat → Nat → Int32))
  | 0 => fun _ _ _ => none
  | k + 1 => fun iv av x1 => if (iv 4) = 0 then (if (iv 1) ≤ (iv 2) then (jM_read_213 iv av x1) else ((fM_taken (upd iv 3 (iv 1)) av (4 : Int32)).bind fun (r3, iv3, av3) => if (lg_cmp r3 (1297379947 : Int64)) = 0 then (jM_read_92 (lM_read_44 k) iv3 av3 x1 ((upd iv 3 (iv 1)) 2) (1 : Int32)) else (jM_read_92 (lM_read_44 k) iv3 av3 x1 ((upd iv 3 (iv 1)) 2) (0 : Int32)))) else (jM_read_213 iv av x1)
def fM_read (iv : Nat → Int32) (av : Nat → Nat → Int32) : Option (Int32 × (Nat → Int32) × (Nat → Nat → Int32)) := (fM_head (upd (upd (upd (upd (upd (upd (upd iv 0 (0 : Int32)) 2 (0 : Int32)) 3 ((upd (upd iv 0 (0 : Int32)) 2 (0 : Int32)) 1)) 4 (0 : Int32)) 5 (0 : Int32)) 10 (0 : Int32)) 11 (0 : Int32)) av).bind fun (iv1, av1) => lM_read_44 FU iv1 av1 (0 : Int32)
set_option maxHeartbeats 4000000 in
set_option maxRecDepth 100000 in
theorem wM_read_209 {p : Program} {l : Launch} {e : Env} {s : State} {m : MethodId} {args : Array Value} {below : List Frame} {meth : Method} {c : Code} {g : gT} {q : Nat} {ad : Nat → Nat} {X : va_W} {rv : Option Value} {iv' : Nat → Int32} {av' : Nat → Nat → Int32} {r' : Int32} (C : mCx p m c cM_read 6 s args g "MidiDeskModel") (hr : meth.sig.returnType = (some .int)) (hlk : meth.locks = false) (hrv : rv = some (.int r')) {K44 : (Nat → Int32) → (Nat → Nat → Int32) → Int32 → Option (Int32 × (Nat → Int32) × (Nat → Nat → Int32))} (hK44 : ∀ (iv : Nat → Int32) (av : Nat → Nat → Int32) (x1 : Int32) (H : Heap) (locs : List Loc) (ls : Array Slot), lv_has ls 6 [(0, .ref q), (1, .int x1)] → mWd g (mA g q ad X s.heap.size) s.heap q ad X iv av H locs → K44 iv av x1 = some (r', iv', av') → mG p l e rM_read s m args below meth c g q ad X rv iv' av' H locs 0 0 (F0 m 44 ls [])) (iv : Nat → Int32) (av : Nat → Nat → Int32) (s0 : Int32) (H : Heap) (locs : List Loc) (ls : Array Slot) (hl : lv_has ls 6 [(0, .ref q)]) (hw : mWd g (mA g q ad X s.heap.size) s.heap q ad X iv av H locs) (hf : jM_read_209 K44 iv av s0 = some (r', iv', av')) : mG p l e rM_read s m args below meth c g q ad X rv iv' av' H locs 0 0 (F0 m 209 ls [.int s0]) := by
  unfold jM_read_209 at hf
  refine lv_istore_n (lv' := [(1, .int s0), (0, .ref q)]) C.1.1 C.1.2.1 dM_read_209 rfl hl (by decide) rfl (fun ls hl => ?_)
  refine lv_goto (tgt := 44) C.1.1 C.1.2.1 dM_read_210 (by decide) ?_
  exact hK44 iv av s0 _ _ ls (lv_sub hl [1, 0] rfl) hw hf
set_option maxHeartbeats 4000000 in
set_option maxRecDepth 100000 in
theorem wM_read_190 {p : Program} {l : Launch} {e : Env} {s : State} {m : MethodId} {args : Array Value} {below : List Frame} {meth : Method} {c : Code} {g : gT} {q : Nat} {ad : Nat → Nat} {X : va_W} {rv : Option Value} {iv' : Nat → Int32} {av' : Nat → Nat → Int32} {r' : Int32} (C : mCx p m c cM_read 6 s args g "MidiDeskModel") (hr : meth.sig.returnType = (some .int)) (hlk : meth.locks = false) (hrv : rv = some (.int r')) {K44 : (Nat → Int32) → (Nat → Nat → Int32) → Int32 → Option (Int32 × (Nat → Int32) × (Nat → Nat → Int32))} (hK44 : ∀ (iv : Nat → Int32) (av : Nat → Nat → Int32) (x1 : Int32) (H : Heap) (locs : List Loc) (ls : Array Slot), lv_has ls 6 [(0, .ref q), (1, .int x1)] → mWd g (mA g q ad X s.heap.size) s.heap q ad X iv av H locs → K44 iv av x1 = some (r', iv', av') → mG p l e rM_read s m args below meth c g q ad X rv iv' av' H locs 0 0 (F0 m 44 ls [])) (iv : Nat → Int32) (av : Nat → Nat → Int32) (x1 : Int32) (x3 : Int32) (H : Heap) (locs : List Loc) (ls : Array Slot) (hl : lv_has ls 6 [(0, .ref q), (1, .int x1), (3, .int x3)]) (hw : mWd g (mA g q ad X s.heap.size) s.heap q ad X iv av H locs) (hf : jM_read_190 K44 iv av x1 x3 = some (r', iv', av')) : mG p l e rM_read s m args below meth c g q ad X rv iv' av' H locs 0 0 (F0 m 190 ls []) := by
  unfold jM_read_190 at hf
  refine lv_aload_n C.1.1 C.1.2.1 dM_read_190 rfl (lv_at hl 0 rfl) ?_
  refine lv_aload_n C.1.1 C.1.2.1 dM_read_191 rfl (lv_at hl 0 rfl) ?_
  refine mg_end C hw dM_read_192 ?_
  refine mp_at C hw dM_read_195 (fun H locs hw => ?_)
  refine lv_iload_n C.1.1 C.1.2.1 dM_read_198 rfl (lv_at hl 2 rfl) ?_
  refine lv_if_eq (tgt := 208) C.1.1 C.1.2.1 dM_read_199 (by decide) (fun c1 => ?_) (fun c1 => ?_)
  · have hf := ts_t hf c1
    refine lv_iload_n C.1.1 C.1.2.1 dM_read_208 rfl (lv_at hl 1 rfl) ?_
    exact wM_read_209 C hr hlk hrv hK44 (upd iv 2 (iv 3)) av x1 _ _ ls (lv_sub hl [0] rfl) hw hf
  · have hf := ts_f hf c1
    refine lv_iload_n C.1.1 C.1.2.1 dM_read_202 rfl (lv_at hl 1 rfl) ?_
    refine lv_iconst (v := (1 : Int32)) C.1.1 C.1.2.1 dM_read_203 (by decide) ?_
    refine lv_iadd C.1.1 C.1.2.1 dM_read_204 ?_
    refine lv_goto (tgt := 209) C.1.1 C.1.2.1 dM_read_205 (by decide) ?_
    exact wM_read_209 C hr hlk hrv hK44 (upd iv 2 (iv 3)) av (x1 + (1 : Int32)) _ _ ls (lv_sub hl [0] rfl) hw hf
set_option maxHeartbeats 4000000 in
set_option maxRecDepth 100000 in
theorem wM_read_159 {p : Program} {l : Launch} {e : Env} {s : State} {m : MethodId} {args : Array Value} {below : List Frame} {meth : Method} {c : Code} {g : gT} {q : Nat} {ad : Nat → Nat} {X : va_W} {rv : Option Value} {iv' : Nat → Int32} {av' : Nat → Nat → Int32} {r' : Int32} (C : mCx p m c cM_read 6 s args g "MidiDeskModel") (hr : meth.sig.returnType = (some .int)) (hlk : meth.locks = false) (hrv : rv = some (.int r')) {K44 : (Nat → Int32) → (Nat → Nat → Int32) → Int32 → Option (Int32 × (Nat → Int32) × (Nat → Nat → Int32))} (hK44 : ∀ (iv : Nat → Int32) (av : Nat → Nat → Int32) (x1 : Int32) (H : Heap) (locs : List Loc) (ls : Array Slot), lv_has ls 6 [(0, .ref q), (1, .int x1)] → mWd g (mA g q ad X s.heap.size) s.heap q ad X iv av H locs → K44 iv av x1 = some (r', iv', av') → mG p l e rM_read s m args below meth c g q ad X rv iv' av' H locs 0 0 (F0 m 44 ls [])) (iv : Nat → Int32) (av : Nat → Nat → Int32) (x1 : Int32) (x3 : Int32) (y4 : Int64) (H : Heap) (locs : List Loc) (ls : Array Slot) (hl : lv_has ls 6 [(0, .ref q), (1, .int x1), (3, .int x3), (4, .long y4)]) (hw : mWd g (mA g q ad X s.heap.size) s.heap q ad X iv av H locs) (hf : jM_read_159 K44 iv av x1 x3 y4 = some (r', iv', av')) : mG p l e rM_read s m args below meth c g q ad X rv iv' av' H locs 0 0 (F0 m 159 ls []) := by
  unfold jM_read_159 at hf
  refine lv_aload_n C.1.1 C.1.2.1 dM_read_159 rfl (lv_at hl 0 rfl) ?_
  refine mg_fault C hw dM_read_160 ?_
  refine lv_if_le (tgt := 169) C.1.1 C.1.2.1 dM_read_163 (by decide) (fun c1 => ?_) (fun c1 => ?_)
  · have hf := ts_t hf c1
    refine lv_aload_n C.1.1 C.1.2.1 dM_read_169 rfl (lv_at hl 0 rfl) ?_
    refine lv_aload_n C.1.1 C.1.2.1 dM_read_170 rfl (lv_at hl 0 rfl) ?_
    refine mg_at C hw dM_read_171 ?_
    refine lv_lload C.1.1 C.1.2.1 dM_read_174 (lv_at hl 3 rfl) ?_
    refine lv_l2i C.1.1 C.1.2.1 dM_read_176 rfl ?_
    refine lv_iadd C.1.1 C.1.2.1 dM_read_177 ?_
    refine mp_end C hw dM_read_178 (fun H locs hw => ?_)
    refine lv_iload_n C.1.1 C.1.2.1 dM_read_181 rfl (lv_at hl 2 rfl) ?_
    refine lv_if_eq (tgt := 190) C.1.1 C.1.2.1 dM_read_182 (by decide) (fun c2 => ?_) (fun c2 => ?_)
    · have hf := ts_t hf c2
      exact wM_read_190 C hr hlk hrv hK44 (upd iv 3 ((iv 2) + y4.toInt32)) av x1 x3 _ _ ls (lv_sub hl [0, 1, 2] rfl) hw hf
    · have hf := ts_f hf c2
      refine lv_aload_n C.1.1 C.1.2.1 dM_read_185 rfl (lv_at hl 0 rfl) ?_
      refine lv_iload_n C.1.1 C.1.2.1 dM_read_186 rfl (lv_at hl 1 rfl) ?_
      obtain ⟨⟨iv3, av3⟩, g3, hf⟩ := ts_b hf
      dsimp only at hf
      refine m_callV (rest := []) (As := [.int x1]) (rv := none) C hl.1 hw (cM_track_met g3) (callW_of (rm := rM_track) 1 C.1.2.2.2.2 gw_823 gw_825 gw_29 gw_55 gw_826 kM_track ⟨Nat.le_of_ble_eq_true rfl, Nat.le_of_ble_eq_true rfl⟩) rfl rfl (Nat.le_of_ble_eq_true rfl) dM_read_187 ⟨Nat.le_of_ble_eq_true rfl, Nat.le_of_ble_eq_true rfl⟩ (fun H locs hw => ?_)
      refine W.eq (g2 := F0 m 190 ls []) rfl ?_
      exact wM_read_190 C hr hlk hrv hK44 iv3 av3 x1 x3 _ _ ls (lv_sub hl [0, 1, 2] rfl) hw hf
  · have hf := ts_f hf c1
    refine lv_goto (tgt := 44) C.1.1 C.1.2.1 dM_read_166 (by decide) ?_
    exact hK44 iv av x1 _ _ ls (lv_sub hl [0, 1] rfl) hw hf
set_option maxHeartbeats 4000000 in
set_option maxRecDepth 100000 in
theorem wM_read_119 {p : Program} {l : Launch} {e : Env} {s : State} {m : MethodId} {args : Array Value} {below : List Frame} {meth : Method} {c : Code} {g : gT} {q : Nat} {ad : Nat → Nat} {X : va_W} {rv : Option Value} {iv' : Nat → Int32} {av' : Nat → Nat → Int32} {r' : Int32} (C : mCx p m c cM_read 6 s args g "MidiDeskModel") (hr : meth.sig.returnType = (some .int)) (hlk : meth.locks = false) (hrv : rv = some (.int r')) {K44 : (Nat → Int32) → (Nat → Nat → Int32) → Int32 → Option (Int32 × (Nat → Int32) × (Nat → Nat → Int32))} (hK44 : ∀ (iv : Nat → Int32) (av : Nat → Nat → Int32) (x1 : Int32) (H : Heap) (locs : List Loc) (ls : Array Slot), lv_has ls 6 [(0, .ref q), (1, .int x1)] → mWd g (mA g q ad X s.heap.size) s.heap q ad X iv av H locs → K44 iv av x1 = some (r', iv', av') → mG p l e rM_read s m args below meth c g q ad X rv iv' av' H locs 0 0 (F0 m 44 ls [])) (iv : Nat → Int32) (av : Nat → Nat → Int32) (x1 : Int32) (x3 : Int32) (H : Heap) (locs : List Loc) (ls : Array Slot) (hl : lv_has ls 6 [(0, .ref q), (1, .int x1), (3, .int x3)]) (hw : mWd g (mA g q ad X s.heap.size) s.heap q ad X iv av H locs) (hf : jM_read_119 K44 iv av x1 x3 = some (r', iv', av')) : mG p l e rM_read s m args below meth c g q ad X rv iv' av' H locs 0 0 (F0 m 119 ls []) := by
  unfold jM_read_119 at hf
  refine lv_aload_n C.1.1 C.1.2.1 dM_read_119 rfl (lv_at hl 0 rfl) ?_
  refine lv_iconst (v := (4 : Int32)) C.1.1 C.1.2.1 dM_read_120 (by decide) ?_
  obtain ⟨⟨r1, iv1, av1⟩, g1, hf⟩ := ts_b hf
  dsimp only at hf
  refine m_callV (rest := []) (As := [.int (4 : Int32)]) (rv := (some (.long r1))) C hl.1 hw (cM_taken_met g1) (callW_of (rm := rM_taken) 1 C.1.2.2.2.2 gw_808 gw_810 gw_27 gw_55 gw_811 kM_taken ⟨Nat.le_of_ble_eq_true rfl, Nat.le_of_ble_eq_true rfl⟩) rfl rfl (Nat.le_of_ble_eq_true rfl) dM_read_121 ⟨Nat.le_of_ble_eq_true rfl, Nat.le_of_ble_eq_true rfl⟩ (fun H locs hw => ?_)
  refine W.eq (g2 := F0 m 124 ls [.long r1]) rfl ?_
  refine lv_lstore (lv' := [(4, .long r1), (0, .ref q), (1, .int x1), (3, .int x3)]) C.1.1 C.1.2.1 dM_read_124 hl (by decide) rfl (fun ls hl => ?_)
  refine lv_aload_n C.1.1 C.1.2.1 dM_read_126 rfl (lv_at hl 1 rfl) ?_
  refine mg_fault C hw dM_read_127 ?_
  refine lv_if_ne (tgt := 159) C.1.1 C.1.2.1 dM_read_130 (by decide) (fun c2 => ?_) (fun c2 => ?_)
  · have hf := ts_f hf c2
    exact wM_read_159 C hr hlk hrv hK44 iv1 av1 x1 x3 r1 _ _ ls (lv_sub hl [1, 2, 3, 0] rfl) hw hf
  · have hf := ts_t hf c2
    refine lv_aload_n C.1.1 C.1.2.1 dM_read_133 rfl (lv_at hl 1 rfl) ?_
    refine mg_at C hw dM_read_134 ?_
    refine lv_i2l C.1.1 C.1.2.1 dM_read_137 rfl ?_
    refine lv_lload C.1.1 C.1.2.1 dM_read_138 (lv_at hl 0 rfl) ?_
    refine lv_ladd C.1.1 C.1.2.1 dM_read_140 ?_
    refine lv_aload_n C.1.1 C.1.2.1 dM_read_141 rfl (lv_at hl 1 rfl) ?_
    refine mg_size C hw dM_read_142 ?_
    refine lv_i2l C.1.1 C.1.2.1 dM_read_145 rfl ?_
    refine W.lcmp C.1.1 C.1.2.1 dM_read_146 ?_
    refine lv_if_le (tgt := 159) C.1.1 C.1.2.1 dM_read_147 (by decide) (fun c3 => ?_) (fun c3 => ?_)
    · have hf := ts_t hf c3
      exact wM_read_159 C hr hlk hrv hK44 iv1 av1 x1 x3 r1 _ _ ls (lv_sub hl [1, 2, 3, 0] rfl) hw hf
    · have hf := ts_f hf c3
      refine lv_aload_n C.1.1 C.1.2.1 dM_read_150 rfl (lv_at hl 1 rfl) ?_
      refine lv_iconst (v := (1 : Int32)) C.1.1 C.1.2.1 dM_read_151 (by decide) ?_
      refine lv_aload_n C.1.1 C.1.2.1 dM_read_152 rfl (lv_at hl 1 rfl) ?_
      refine mg_size C hw dM_read_153 ?_
      obtain ⟨⟨iv4, av4⟩, g4, hf⟩ := ts_b hf
      dsimp only at hf
      refine m_callV (rest := []) (As := [.int (1 : Int32), .int (iv1 1)]) (rv := none) C hl.1 hw (cM_fail_met g4) (callW_of (rm := rM_fail) 2 C.1.2.2.2.2 gw_812 gw_814 gw_28 gw_55 gw_815 kM_fail ⟨Nat.le_of_ble_eq_true rfl, Nat.le_of_ble_eq_true rfl⟩) rfl rfl (Nat.le_of_ble_eq_true rfl) dM_read_156 ⟨Nat.le_of_ble_eq_true rfl, Nat.le_of_ble_eq_true rfl⟩ (fun H locs hw => ?_)
      refine W.eq (g2 := F0 m 159 ls []) rfl ?_
      exact wM_read_159 C hr hlk hrv hK44 iv4 av4 x1 x3 r1 _ _ ls (lv_sub hl [1, 2, 3, 0] rfl) hw hf
set_option maxHeartbeats 4000000 in
set_option maxRecDepth 100000 in
theorem wM_read_92 {p : Program} {l : Launch} {e : Env} {s : State} {m : MethodId} {args : Array Value} {below : List Frame} {meth : Method} {c : Code} {g : gT} {q : Nat} {ad : Nat → Nat} {X : va_W} {rv : Option Value} {iv' : Nat → Int32} {av' : Nat → Nat → Int32} {r' : Int32} (C : mCx p m c cM_read 6 s args g "MidiDeskModel") (hr : meth.sig.returnType = (some .int)) (hlk : meth.locks = false) (hrv : rv = some (.int r')) {K44 : (Nat → Int32) → (Nat → Nat → Int32) → Int32 → Option (Int32 × (Nat → Int32) × (Nat → Nat → Int32))} (hK44 : ∀ (iv : Nat → Int32) (av : Nat → Nat → Int32) (x1 : Int32) (H : Heap) (locs : List Loc) (ls : Array Slot), lv_has ls 6 [(0, .ref q), (1, .int x1)] → mWd g (mA g q ad X s.heap.size) s.heap q ad X iv av H locs → K44 iv av x1 = some (r', iv', av') → mG p l e rM_read s m args below meth c g q ad X rv iv' av' H locs 0 0 (F0 m 44 ls [])) (iv : Nat → Int32) (av : Nat → Nat → Int32) (x1 : Int32) (x2 : Int32) (s0 : Int32) (H : Heap) (locs : List Loc) (ls : Array Slot) (hl : lv_has ls 6 [(0, .ref q), (1, .int x1), (2, .int x2)]) (hw : mWd g (mA g q ad X s.heap.size) s.heap q ad X iv av H locs) (hf : jM_read_92 K44 iv av x1 x2 s0 = some (r', iv', av')) : mG p l e rM_read s m args below meth c g q ad X rv iv' av' H locs 0 0 (F0 m 92 ls [.int s0]) := by
  unfold jM_read_92 at hf
  refine lv_istore_n (lv' := [(3, .int s0), (0, .ref q), (1, .int x1), (2, .int x2)]) C.1.1 C.1.2.1 dM_read_92 rfl hl (by decide) rfl (fun ls hl => ?_)
  refine lv_aload_n C.1.1 C.1.2.1 dM_read_93 rfl (lv_at hl 1 rfl) ?_
  refine mg_fault C hw dM_read_94 ?_
  refine lv_if_ne (tgt := 119) C.1.1 C.1.2.1 dM_read_97 (by decide) (fun c1 => ?_) (fun c1 => ?_)
  · have hf := ts_f hf c1
    exact wM_read_119 C hr hlk hrv hK44 iv av x1 s0 _ _ ls (lv_sub hl [1, 2, 0] rfl) hw hf
  · have hf := ts_t hf c1
    refine lv_iload_n C.1.1 C.1.2.1 dM_read_100 rfl (lv_at hl 0 rfl) ?_
    refine lv_if_eq (tgt := 119) C.1.1 C.1.2.1 dM_read_101 (by decide) (fun c2 => ?_) (fun c2 => ?_)
    · have hf := ts_t hf c2
      exact wM_read_119 C hr hlk hrv hK44 iv av x1 s0 _ _ ls (lv_sub hl [1, 2, 0] rfl) hw hf
    · have hf := ts_f hf c2
      refine lv_iload_n C.1.1 C.1.2.1 dM_read_104 rfl (lv_at hl 2 rfl) ?_
      refine lv_aload_n C.1.1 C.1.2.1 dM_read_105 rfl (lv_at hl 1 rfl) ?_
      refine mg_tracks C hw dM_read_106 ?_
      refine lv_icmp_ne (tgt := 119) C.1.1 C.1.2.1 dM_read_109 (by decide) (fun c3 => ?_) (fun c3 => ?_)
      · have hf := ts_f hf c3
        exact wM_read_119 C hr hlk hrv hK44 iv av x1 s0 _ _ ls (lv_sub hl [1, 2, 0] rfl) hw hf
      · have hf := ts_t hf c3
        refine lv_aload_n C.1.1 C.1.2.1 dM_read_112 rfl (lv_at hl 1 rfl) ?_
        refine lv_bipush (v := (10 : Int32)) C.1.1 C.1.2.1 dM_read_113 (by decide) ?_
        refine lv_iload_n C.1.1 C.1.2.1 dM_read_115 rfl (lv_at hl 3 rfl) ?_
        obtain ⟨⟨iv4, av4⟩, g4, hf⟩ := ts_b hf
        dsimp only at hf
        refine m_callV (rest := []) (As := [.int (10 : Int32), .int x2]) (rv := none) C hl.1 hw (cM_fail_met g4) (callW_of (rm := rM_fail) 2 C.1.2.2.2.2 gw_812 gw_814 gw_28 gw_55 gw_815 kM_fail ⟨Nat.le_of_ble_eq_true rfl, Nat.le_of_ble_eq_true rfl⟩) rfl rfl (Nat.le_of_ble_eq_true rfl) dM_read_116 ⟨Nat.le_of_ble_eq_true rfl, Nat.le_of_ble_eq_true rfl⟩ (fun H locs hw => ?_)
        refine W.eq (g2 := F0 m 119 ls []) rfl ?_
        exact wM_read_119 C hr hlk hrv hK44 iv4 av4 x1 s0 _ _ ls (lv_sub hl [1, 2, 0] rfl) hw hf
set_option maxHeartbeats 4000000 in
set_option maxRecDepth 100000 in
theorem wM_read_271 {p : Program} {l : Launch} {e : Env} {s : State} {m : MethodId} {args : Array Value} {below : List Frame} {meth : Method} {c : Code} {g : gT} {q : Nat} {ad : Nat → Nat} {X : va_W} {rv : Option Value} {iv' : Nat → Int32} {av' : Nat → Nat → Int32} {r' : Int32} (C : mCx p m c cM_read 6 s args g "MidiDeskModel") (hr : meth.sig.returnType = (some .int)) (hlk : meth.locks = false) (hrv : rv = some (.int r')) (iv : Nat → Int32) (av : Nat → Nat → Int32) (H : Heap) (locs : List Loc) (ls : Array Slot) (hl : lv_has ls 6 [(0, .ref q)]) (hw : mWd g (mA g q ad X s.heap.size) s.heap q ad X iv av H locs) (hf : jM_read_271 iv av = some (r', iv', av')) : mG p l e rM_read s m args below meth c g q ad X rv iv' av' H locs 0 0 (F0 m 271 ls []) := by
  unfold jM_read_271 at hf
  refine lv_aload_n C.1.1 C.1.2.1 dM_read_271 rfl (lv_at hl 0 rfl) ?_
  refine mg_fault C hw dM_read_272 ?_
  refine lv_bipush (v := (16 : Int32)) C.1.1 C.1.2.1 dM_read_275 (by decide) ?_
  refine lv_aload_n C.1.1 C.1.2.1 dM_read_277 rfl (lv_at hl 0 rfl) ?_
  refine mg_place C hw dM_read_278 ?_
  refine lv_imul C.1.1 C.1.2.1 dM_read_281 ?_
  refine lv_iadd C.1.1 C.1.2.1 dM_read_282 ?_
  exact m_reti C hr hlk hrv hw hf ⟨Nat.le_of_ble_eq_true rfl, Nat.le_of_ble_eq_true rfl⟩ dM_read_283
set_option maxHeartbeats 4000000 in
set_option maxRecDepth 100000 in
theorem wM_read_244 {p : Program} {l : Launch} {e : Env} {s : State} {m : MethodId} {args : Array Value} {below : List Frame} {meth : Method} {c : Code} {g : gT} {q : Nat} {ad : Nat → Nat} {X : va_W} {rv : Option Value} {iv' : Nat → Int32} {av' : Nat → Nat → Int32} {r' : Int32} (C : mCx p m c cM_read 6 s args g "MidiDeskModel") (hr : meth.sig.returnType = (some .int)) (hlk : meth.locks = false) (hrv : rv = some (.int r')) (iv : Nat → Int32) (av : Nat → Nat → Int32) (s1 : Int32) (H : Heap) (locs : List Loc) (ls : Array Slot) (hl : lv_has ls 6 [(0, .ref q)]) (hw : mWd g (mA g q ad X s.heap.size) s.heap q ad X iv av H locs) (hf : jM_read_244 iv av s1 = some (r', iv', av')) : mG p l e rM_read s m args below meth c g q ad X rv iv' av' H locs 0 0 (F0 m 244 ls [.int s1, .ref q]) := by
  unfold jM_read_244 at hf
  obtain ⟨h1, hf⟩ := ts_g hf
  refine mp_there C hw (Decidable.not_not.mp h1) dM_read_244 (fun H locs hw => ?_)
  refine lv_aload_n C.1.1 C.1.2.1 dM_read_247 rfl (lv_at hl 0 rfl) ?_
  refine lv_iconst (v := (0 : Int32)) C.1.1 C.1.2.1 dM_read_248 (by decide) ?_
  refine mp_size C hw dM_read_249 (fun H locs hw => ?_)
  refine lv_aload_n C.1.1 C.1.2.1 dM_read_252 rfl (lv_at hl 0 rfl) ?_
  refine mg_there C hw dM_read_253 ?_
  refine lv_if_eq (tgt := 266) C.1.1 C.1.2.1 dM_read_256 (by decide) (fun c2 => ?_) (fun c2 => ?_)
  · have hf := ts_t hf c2
    refine lv_aload_n C.1.1 C.1.2.1 dM_read_266 rfl (lv_at hl 0 rfl) ?_
    refine lv_iconst (v := (0 : Int32)) C.1.1 C.1.2.1 dM_read_267 (by decide) ?_
    refine mp_events C hw dM_read_268 (fun H locs hw => ?_)
    exact wM_read_271 C hr hlk hrv (upd (upd (upd iv 6 s1) 1 (0 : Int32)) 10 (0 : Int32)) av _ _ ls (lv_sub hl [0] rfl) hw hf
  · have hf := ts_f hf c2
    refine lv_aload_n C.1.1 C.1.2.1 dM_read_259 rfl (lv_at hl 0 rfl) ?_
    obtain ⟨⟨iv3, av3⟩, g3, hf⟩ := ts_b hf
    dsimp only at hf
    refine m_callV (rest := []) (As := []) (rv := none) C hl.1 hw (cM_sort_met g3) (callW_of (rm := rM_sort) 0 C.1.2.2.2.2 gw_848 gw_850 gw_35 gw_55 gw_851 kM_sort ⟨Nat.le_of_ble_eq_true rfl, Nat.le_of_ble_eq_true rfl⟩) rfl rfl (Nat.le_of_ble_eq_true rfl) dM_read_260 ⟨Nat.le_of_ble_eq_true rfl, Nat.le_of_ble_eq_true rfl⟩ (fun H locs hw => ?_)
    refine W.eq (g2 := F0 m 263 ls []) rfl ?_
    refine lv_goto (tgt := 271) C.1.1 C.1.2.1 dM_read_263 (by decide) ?_
    exact wM_read_271 C hr hlk hrv iv3 av3 _ _ ls (lv_sub hl [0] rfl) hw hf
set_option maxHeartbeats 4000000 in
set_option maxRecDepth 100000 in
theorem wM_read_231 {p : Program} {l : Launch} {e : Env} {s : State} {m : MethodId} {args : Array Value} {below : List Frame} {meth : Method} {c : Code} {g : gT} {q : Nat} {ad : Nat → Nat} {X : va_W} {rv : Option Value} {iv' : Nat → Int32} {av' : Nat → Nat → Int32} {r' : Int32} (C : mCx p m c cM_read 6 s args g "MidiDeskModel") (hr : meth.sig.returnType = (some .int)) (hlk : meth.locks = false) (hrv : rv = some (.int r')) (iv : Nat → Int32) (av : Nat → Nat → Int32) (H : Heap) (locs : List Loc) (ls : Array Slot) (hl : lv_has ls 6 [(0, .ref q)]) (hw : mWd g (mA g q ad X s.heap.size) s.heap q ad X iv av H locs) (hf : jM_read_231 iv av = some (r', iv', av')) : mG p l e rM_read s m args below meth c g q ad X rv iv' av' H locs 0 0 (F0 m 231 ls []) := by
  unfold jM_read_231 at hf
  refine lv_aload_n C.1.1 C.1.2.1 dM_read_231 rfl (lv_at hl 0 rfl) ?_
  refine lv_aload_n C.1.1 C.1.2.1 dM_read_232 rfl (lv_at hl 0 rfl) ?_
  refine mg_fault C hw dM_read_233 ?_
  refine lv_if_ne (tgt := 243) C.1.1 C.1.2.1 dM_read_236 (by decide) (fun c1 => ?_) (fun c1 => ?_)
  · have hf := ts_f hf c1
    refine lv_iconst (v := (0 : Int32)) C.1.1 C.1.2.1 dM_read_243 (by decide) ?_
    exact wM_read_244 C hr hlk hrv iv av (0 : Int32) _ _ ls (lv_sub hl [0] rfl) hw hf
  · have hf := ts_t hf c1
    refine lv_iconst (v := (1 : Int32)) C.1.1 C.1.2.1 dM_read_239 (by decide) ?_
    refine lv_goto (tgt := 244) C.1.1 C.1.2.1 dM_read_240 (by decide) ?_
    exact wM_read_244 C hr hlk hrv iv av (1 : Int32) _ _ ls (lv_sub hl [0] rfl) hw hf
set_option maxHeartbeats 4000000 in
set_option maxRecDepth 100000 in
theorem wM_read_213 {p : Program} {l : Launch} {e : Env} {s : State} {m : MethodId} {args : Array Value} {below : List Frame} {meth : Method} {c : Code} {g : gT} {q : Nat} {ad : Nat → Nat} {X : va_W} {rv : Option Value} {iv' : Nat → Int32} {av' : Nat → Nat → Int32} {r' : Int32} (C : mCx p m c cM_read 6 s args g "MidiDeskModel") (hr : meth.sig.returnType = (some .int)) (hlk : meth.locks = false) (hrv : rv = some (.int r')) (iv : Nat → Int32) (av : Nat → Nat → Int32) (x1 : Int32) (H : Heap) (locs : List Loc) (ls : Array Slot) (hl : lv_has ls 6 [(0, .ref q), (1, .int x1)]) (hw : mWd g (mA g q ad X s.heap.size) s.heap q ad X iv av H locs) (hf : jM_read_213 iv av x1 = some (r', iv', av')) : mG p l e rM_read s m args below meth c g q ad X rv iv' av' H locs 0 0 (F0 m 213 ls []) := by
  unfold jM_read_213 at hf
  refine lv_iload_n C.1.1 C.1.2.1 dM_read_213 rfl (lv_at hl 1 rfl) ?_
  refine lv_aload_n C.1.1 C.1.2.1 dM_read_214 rfl (lv_at hl 0 rfl) ?_
  refine mg_tracks C hw dM_read_215 ?_
  refine lv_icmp_ge (tgt := 231) C.1.1 C.1.2.1 dM_read_218 (by decide) (fun c1 => ?_) (fun c1 => ?_)
  · have hf := ts_t hf c1
    exact wM_read_231 C hr hlk hrv iv av _ _ ls (lv_sub hl [0] rfl) hw hf
  · have hf := ts_f hf c1
    refine lv_aload_n C.1.1 C.1.2.1 dM_read_221 rfl (lv_at hl 0 rfl) ?_
    refine lv_bipush (v := (10 : Int32)) C.1.1 C.1.2.1 dM_read_222 (by decide) ?_
    refine lv_aload_n C.1.1 C.1.2.1 dM_read_224 rfl (lv_at hl 0 rfl) ?_
    refine mg_size C hw dM_read_225 ?_
    obtain ⟨⟨iv2, av2⟩, g2, hf⟩ := ts_b hf
    dsimp only at hf
    refine m_callV (rest := []) (As := [.int (10 : Int32), .int (iv 1)]) (rv := none) C hl.1 hw (cM_fail_met g2) (callW_of (rm := rM_fail) 2 C.1.2.2.2.2 gw_812 gw_814 gw_28 gw_55 gw_815 kM_fail ⟨Nat.le_of_ble_eq_true rfl, Nat.le_of_ble_eq_true rfl⟩) rfl rfl (Nat.le_of_ble_eq_true rfl) dM_read_228 ⟨Nat.le_of_ble_eq_true rfl, Nat.le_of_ble_eq_true rfl⟩ (fun H locs hw => ?_)
    refine W.eq (g2 := F0 m 231 ls []) rfl ?_
    exact wM_read_231 C hr hlk hrv iv2 av2 _ _ ls (lv_sub hl [0] rfl) hw hf
set_option maxHeartbeats 4000000 in
set_option maxRecDepth 100000 in
theorem wM_read_44 {p : Program} {l : Launch} {e : Env} {s : State} {m : MethodId} {args : Array Value} {below : List Frame} {meth : Method} {c : Code} {g : gT} {q : Nat} {ad : Nat → Nat} {X : va_W} {rv : Option Value} {iv' : Nat → Int32} {av' : Nat → Nat → Int32} {r' : Int32} (C : mCx p m c cM_read 6 s args g "MidiDeskModel") (hr : meth.sig.returnType = (some .int)) (hlk : meth.locks = false) (hrv : rv = some (.int r')) (k : Nat) : ∀ (iv : Nat → Int32) (av : Nat → Nat → Int32) (x1 : Int32) (H : Heap) (locs : List Loc) (ls : Array Slot), lv_has ls 6 [(0, .ref q), (1, .int x1)] → mWd g (mA g q ad X s.heap.size) s.heap q ad X iv av H locs → lM_read_44 k iv av x1 = some (r', iv', av') → mG p l e rM_read s m args below meth c g q ad X rv iv' av' H locs 0 0 (F0 m 44 ls []) := by
  induction k with
  | zero => intro iv av x1 H locs ls hl hw hf; cases hf
  | succ k ih =>
    intro iv av x1 H locs ls hl hw hf
    have hf : (if (iv 4) = 0 then (if (iv 1) ≤ (iv 2) then (jM_read_213 iv av x1) else ((fM_taken (upd iv 3 (iv 1)) av (4 : Int32)).bind fun (r3, iv3, av3) => if (lg_cmp r3 (1297379947 : Int64)) = 0 then (jM_read_92 (lM_read_44 k) iv3 av3 x1 ((upd iv 3 (iv 1)) 2) (1 : Int32)) else (jM_read_92 (lM_read_44 k) iv3 av3 x1 ((upd iv 3 (iv 1)) 2) (0 : Int32)))) else (jM_read_213 iv av x1)) = some (r', iv', av') := hf
    refine lv_aload_n C.1.1 C.1.2.1 dM_read_44 rfl (lv_at hl 0 rfl) ?_
    refine mg_fault C hw dM_read_45 ?_
    refine lv_if_ne (tgt := 213) C.1.1 C.1.2.1 dM_read_48 (by decide) (fun c1 => ?_) (fun c1 => ?_)
    · have hf := ts_f hf c1
      exact wM_read_213 C hr hlk hrv iv av x1 _ _ ls (lv_sub hl [0, 1] rfl) hw hf
    · have hf := ts_t hf c1
      refine lv_aload_n C.1.1 C.1.2.1 dM_read_51 rfl (lv_at hl 0 rfl) ?_
      refine mg_at C hw dM_read_52 ?_
      refine lv_aload_n C.1.1 C.1.2.1 dM_read_55 rfl (lv_at hl 0 rfl) ?_
      refine mg_size C hw dM_read_56 ?_
      refine lv_icmp_ge (tgt := 213) C.1.1 C.1.2.1 dM_read_59 (by decide) (fun c2 => ?_) (fun c2 => ?_)
      · have hf := ts_t hf c2
        exact wM_read_213 C hr hlk hrv iv av x1 _ _ ls (lv_sub hl [0, 1] rfl) hw hf
      · have hf := ts_f hf c2
        refine lv_aload_n C.1.1 C.1.2.1 dM_read_62 rfl (lv_at hl 0 rfl) ?_
        refine lv_aload_n C.1.1 C.1.2.1 dM_read_63 rfl (lv_at hl 0 rfl) ?_
        refine mg_size C hw dM_read_64 ?_
        refine mp_end C hw dM_read_67 (fun H locs hw => ?_)
        refine lv_aload_n C.1.1 C.1.2.1 dM_read_70 rfl (lv_at hl 0 rfl) ?_
        refine mg_at C hw dM_read_71 ?_
        refine lv_istore_n (lv' := [(2, .int ((upd iv 3 (iv 1)) 2)), (0, .ref q), (1, .int x1)]) C.1.1 C.1.2.1 dM_read_74 rfl hl (by decide) rfl (fun ls hl => ?_)
        refine lv_aload_n C.1.1 C.1.2.1 dM_read_75 rfl (lv_at hl 1 rfl) ?_
        refine lv_iconst (v := (4 : Int32)) C.1.1 C.1.2.1 dM_read_76 (by decide) ?_
        obtain ⟨⟨r3, iv3, av3⟩, g3, hf⟩ := ts_b hf
        dsimp only at hf
        refine m_callV (rest := []) (As := [.int (4 : Int32)]) (rv := (some (.long r3))) C hl.1 hw (cM_taken_met g3) (callW_of (rm := rM_taken) 1 C.1.2.2.2.2 gw_808 gw_810 gw_27 gw_55 gw_811 kM_taken ⟨Nat.le_of_ble_eq_true rfl, Nat.le_of_ble_eq_true rfl⟩) rfl rfl (Nat.le_of_ble_eq_true rfl) dM_read_77 ⟨Nat.le_of_ble_eq_true rfl, Nat.le_of_ble_eq_true rfl⟩ (fun H locs hw => ?_)
        refine W.eq (g2 := F0 m 80 ls [.long r3]) rfl ?_
        refine lv_ldc2 C.1.1 C.1.2.1 C.1.2.2.2.1 (C.1.2.2.2.2 _ gw_822) dM_read_80 ?_
        refine W.lcmp C.1.1 C.1.2.1 dM_read_83 ?_
        refine lv_if_ne (tgt := 91) C.1.1 C.1.2.1 dM_read_84 (by decide) (fun c4 => ?_) (fun c4 => ?_)
        · have hf := ts_f hf c4
          refine lv_iconst (v := (0 : Int32)) C.1.1 C.1.2.1 dM_read_91 (by decide) ?_
          exact wM_read_92 C hr hlk hrv ih iv3 av3 x1 ((upd iv 3 (iv 1)) 2) (0 : Int32) _ _ ls (lv_sub hl [1, 2, 0] rfl) hw hf
        · have hf := ts_t hf c4
          refine lv_iconst (v := (1 : Int32)) C.1.1 C.1.2.1 dM_read_87 (by decide) ?_
          refine lv_goto (tgt := 92) C.1.1 C.1.2.1 dM_read_88 (by decide) ?_
          exact wM_read_92 C hr hlk hrv ih iv3 av3 x1 ((upd iv 3 (iv 1)) 2) (1 : Int32) _ _ ls (lv_sub hl [1, 2, 0] rfl) hw hf
set_option maxHeartbeats 4000000 in
set_option maxRecDepth 100000 in
theorem cM_read_met {l : Launch} {g : gT} {q : Nat} {ad : Nat → Nat} {X : va_W} {iv iv' : Nat → Int32} {av av' : Nat → Nat → Int32} {r' : Int32} (hf : fM_read iv av = some (r', iv', av')) : mMet l yM_read cM_read 6 (some .int) rM_read g q ad X iv av [.ref q] (some (.int r')) iv' av' := by
  refine m_entry (by decide) (Nat.le_of_ble_eq_true rfl) ?_
  intro p e s m args below meth c ls C hr hlk hnm hl hw
  have hrv : ((some (.int r')) : Option Value) = (some (.int r')) := rfl
  have C : mCx p m c cM_read 6 s args g "MidiDeskModel" := C
  have hl : lv_has ls 6 [(0, .ref q)] := hl
  unfold fM_read at hf
  refine lv_aload_n C.1.1 C.1.2.1 dM_read_0 rfl (lv_at hl 0 rfl) ?_
  refine lv_iconst (v := (0 : Int32)) C.1.1 C.1.2.1 dM_read_1 (by decide) ?_
  refine mp_thrown C hw dM_read_2 (fun H locs hw => ?_)
  refine lv_aload_n C.1.1 C.1.2.1 dM_read_5 rfl (lv_at hl 0 rfl) ?_
  refine lv_iconst (v := (0 : Int32)) C.1.1 C.1.2.1 dM_read_6 (by decide) ?_
  refine mp_at C hw dM_read_7 (fun H locs hw => ?_)
  refine lv_aload_n C.1.1 C.1.2.1 dM_read_10 rfl (lv_at hl 0 rfl) ?_
  refine lv_aload_n C.1.1 C.1.2.1 dM_read_11 rfl (lv_at hl 0 rfl) ?_
  refine mg_size C hw dM_read_12 ?_
  refine mp_end C hw dM_read_15 (fun H locs hw => ?_)
  refine lv_aload_n C.1.1 C.1.2.1 dM_read_18 rfl (lv_at hl 0 rfl) ?_
  refine lv_iconst (v := (0 : Int32)) C.1.1 C.1.2.1 dM_read_19 (by decide) ?_
  refine mp_fault C hw dM_read_20 (fun H locs hw => ?_)
  refine lv_aload_n C.1.1 C.1.2.1 dM_read_23 rfl (lv_at hl 0 rfl) ?_
  refine lv_iconst (v := (0 : Int32)) C.1.1 C.1.2.1 dM_read_24 (by decide) ?_
  refine mp_place C hw dM_read_25 (fun H locs hw => ?_)
  refine lv_aload_n C.1.1 C.1.2.1 dM_read_28 rfl (lv_at hl 0 rfl) ?_
  refine lv_iconst (v := (0 : Int32)) C.1.1 C.1.2.1 dM_read_29 (by decide) ?_
  refine mp_events C hw dM_read_30 (fun H locs hw => ?_)
  refine lv_aload_n C.1.1 C.1.2.1 dM_read_33 rfl (lv_at hl 0 rfl) ?_
  refine lv_iconst (v := (0 : Int32)) C.1.1 C.1.2.1 dM_read_34 (by decide) ?_
  refine mp_many C hw dM_read_35 (fun H locs hw => ?_)
  refine lv_aload_n C.1.1 C.1.2.1 dM_read_38 rfl (lv_at hl 0 rfl) ?_
  obtain ⟨⟨iv1, av1⟩, g1, hf⟩ := ts_b hf
  dsimp only at hf
  refine m_callV (rest := []) (As := []) (rv := none) C hl.1 hw (cM_head_met g1) (callW_of (rm := rM_head) 0 C.1.2.2.2.2 gw_804 gw_806 gw_26 gw_55 gw_807 kM_head ⟨Nat.le_of_ble_eq_true rfl, Nat.le_of_ble_eq_true rfl⟩) rfl rfl (Nat.le_of_ble_eq_true rfl) dM_read_39 ⟨Nat.le_of_ble_eq_true rfl, Nat.le_of_ble_eq_true rfl⟩ (fun H locs hw => ?_)
  refine W.eq (g2 := F0 m 42 ls []) rfl ?_
  refine lv_iconst (v := (0 : Int32)) C.1.1 C.1.2.1 dM_read_42 (by decide) ?_
  refine lv_istore_n (lv' := [(1, .int (0 : Int32)), (0, .ref q)]) C.1.1 C.1.2.1 dM_read_43 rfl hl (by decide) rfl (fun ls hl => ?_)
  exact wM_read_44 C hr hlk hrv FU iv1 av1 (0 : Int32) _ _ ls (lv_sub hl [1, 0] rfl) hw hf
