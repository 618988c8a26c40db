abbrev cM_write : ByteArray := prog_8_method_39_code
abbrev yM_write : MethodName := ⟨"MidiDeskModel", "write", "(IZ)I"⟩
theorem kM_write : yM_write.cls ≠ "java/lang/invoke/MethodHandle" ∧ yM_write.cls ≠ "java/lang/invoke/VarHandle" ∧ (parseMethodDescriptor yM_write.desc).map (fun d => d.parameters.length) = some 2 := by decide +kernel
abbrev rM_write : Room := { frames := 3, cells := 0, slots := 0, locals := 73 }
theorem dM_write_0 : decode cM_write 0 = .ok (.aload_n 0, 1) := by decide +kernel
theorem dM_write_1 : decode cM_write 1 = .ok (.aload_n 0, 1) := by decide +kernel
theorem dM_write_2 : decode cM_write 2 = .ok (.getfield 110, 3) := by decide +kernel
theorem dM_write_5 : decode cM_write 5 = .ok (.ifCond .ne 7, 3) := by decide +kernel
theorem dM_write_8 : decode cM_write 8 = .ok (.iconst 1, 1) := by decide +kernel
theorem dM_write_9 : decode cM_write 9 = .ok (.goto 4, 3) := by decide +kernel
theorem dM_write_12 : decode cM_write 12 = .ok (.iconst 0, 1) := by decide +kernel
theorem dM_write_13 : decode cM_write 13 = .ok (.iload_n 1, 1) := by decide +kernel
theorem dM_write_14 : decode cM_write 14 = .ok (.ifCond .lt 8, 3) := by decide +kernel
theorem dM_write_17 : decode cM_write 17 = .ok (.iload_n 1, 1) := by decide +kernel
theorem dM_write_18 : decode cM_write 18 = .ok (.iconst 2, 1) := by decide +kernel
theorem dM_write_19 : decode cM_write 19 = .ok (.if_icmp .le 7, 3) := by decide +kernel
theorem dM_write_22 : decode cM_write 22 = .ok (.iconst 1, 1) := by decide +kernel
theorem dM_write_23 : decode cM_write 23 = .ok (.goto 4, 3) := by decide +kernel
theorem dM_write_26 : decode cM_write 26 = .ok (.iconst 0, 1) := by decide +kernel
theorem dM_write_27 : decode cM_write 27 = .ok (.invokevirtual 158, 3) := by decide +kernel
theorem dM_write_30 : decode cM_write 30 = .ok (.ifCond .eq 5, 3) := by decide +kernel
theorem dM_write_33 : decode cM_write 33 = .ok (.iconst 0, 1) := by decide +kernel
theorem dM_write_34 : decode cM_write 34 = .ok (.ireturn, 1) := by decide +kernel
theorem dM_write_35 : decode cM_write 35 = .ok (.aload_n 0, 1) := by decide +kernel
theorem dM_write_36 : decode cM_write 36 = .ok (.iconst 0, 1) := by decide +kernel
theorem dM_write_37 : decode cM_write 37 = .ok (.putfield 187, 3) := by decide +kernel
theorem dM_write_40 : decode cM_write 40 = .ok (.aload_n 0, 1) := by decide +kernel
theorem dM_write_41 : decode cM_write 41 = .ok (.ldc 201, 2) := by decide +kernel
theorem dM_write_43 : decode cM_write 43 = .ok (.iconst 4, 1) := by decide +kernel
theorem dM_write_44 : decode cM_write 44 = .ok (.invokevirtual 195, 3) := by decide +kernel
theorem dM_write_47 : decode cM_write 47 = .ok (.aload_n 0, 1) := by decide +kernel
theorem dM_write_48 : decode cM_write 48 = .ok (.bipush 6, 2) := by decide +kernel
theorem dM_write_50 : decode cM_write 50 = .ok (.iconst 4, 1) := by decide +kernel
theorem dM_write_51 : decode cM_write 51 = .ok (.invokevirtual 195, 3) := by decide +kernel
theorem dM_write_54 : decode cM_write 54 = .ok (.aload_n 0, 1) := by decide +kernel
theorem dM_write_55 : decode cM_write 55 = .ok (.iload_n 1, 1) := by decide +kernel
theorem dM_write_56 : decode cM_write 56 = .ok (.iconst 2, 1) := by decide +kernel
theorem dM_write_57 : decode cM_write 57 = .ok (.invokevirtual 195, 3) := by decide +kernel
theorem dM_write_60 : decode cM_write 60 = .ok (.aload_n 0, 1) := by decide +kernel
theorem dM_write_61 : decode cM_write 61 = .ok (.iload_n 1, 1) := by decide +kernel
theorem dM_write_62 : decode cM_write 62 = .ok (.ifCond .ne 7, 3) := by decide +kernel
theorem dM_write_65 : decode cM_write 65 = .ok (.iconst 1, 1) := by decide +kernel
theorem dM_write_66 : decode cM_write 66 = .ok (.goto 7, 3) := by decide +kernel
theorem dM_write_69 : decode cM_write 69 = .ok (.aload_n 0, 1) := by decide +kernel
theorem dM_write_70 : decode cM_write 70 = .ok (.getfield 85, 3) := by decide +kernel
theorem dM_write_73 : decode cM_write 73 = .ok (.iconst 2, 1) := by decide +kernel
theorem dM_write_74 : decode cM_write 74 = .ok (.invokevirtual 195, 3) := by decide +kernel
theorem dM_write_77 : decode cM_write 77 = .ok (.aload_n 0, 1) := by decide +kernel
theorem dM_write_78 : decode cM_write 78 = .ok (.aload_n 0, 1) := by decide +kernel
theorem dM_write_79 : decode cM_write 79 = .ok (.getfield 88, 3) := by decide +kernel
theorem dM_write_82 : decode cM_write 82 = .ok (.iconst 2, 1) := by decide +kernel
theorem dM_write_83 : decode cM_write 83 = .ok (.invokevirtual 195, 3) := by decide +kernel
theorem dM_write_86 : decode cM_write 86 = .ok (.iconst 0, 1) := by decide +kernel
theorem dM_write_87 : decode cM_write 87 = .ok (.istore_n 3, 1) := by decide +kernel
theorem dM_write_88 : decode cM_write 88 = .ok (.iload_n 3, 1) := by decide +kernel
theorem dM_write_89 : decode cM_write 89 = .ok (.iload_n 1, 1) := by decide +kernel
theorem dM_write_90 : decode cM_write 90 = .ok (.ifCond .ne 7, 3) := by decide +kernel
theorem dM_write_93 : decode cM_write 93 = .ok (.iconst 1, 1) := by decide +kernel
theorem dM_write_94 : decode cM_write 94 = .ok (.goto 7, 3) := by decide +kernel
theorem dM_write_97 : decode cM_write 97 = .ok (.aload_n 0, 1) := by decide +kernel
theorem dM_write_98 : decode cM_write 98 = .ok (.getfield 85, 3) := by decide +kernel
theorem dM_write_101 : decode cM_write 101 = .ok (.if_icmp .ge 24, 3) := by decide +kernel
theorem dM_write_104 : decode cM_write 104 = .ok (.aload_n 0, 1) := by decide +kernel
theorem dM_write_105 : decode cM_write 105 = .ok (.iload_n 3, 1) := by decide +kernel
theorem dM_write_106 : decode cM_write 106 = .ok (.iload_n 1, 1) := by decide +kernel
theorem dM_write_107 : decode cM_write 107 = .ok (.ifCond .ne 7, 3) := by decide +kernel
theorem dM_write_110 : decode cM_write 110 = .ok (.iconst 1, 1) := by decide +kernel
theorem dM_write_111 : decode cM_write 111 = .ok (.goto 4, 3) := by decide +kernel
theorem dM_write_114 : decode cM_write 114 = .ok (.iconst 0, 1) := by decide +kernel
theorem dM_write_115 : decode cM_write 115 = .ok (.iload_n 2, 1) := by decide +kernel
theorem dM_write_116 : decode cM_write 116 = .ok (.invokevirtual 202, 3) := by decide +kernel
theorem dM_write_119 : decode cM_write 119 = .ok (.iinc 3 1, 3) := by decide +kernel
theorem dM_write_122 : decode cM_write 122 = .ok (.goto (-34), 3) := by decide +kernel
theorem dM_write_125 : decode cM_write 125 = .ok (.aload_n 0, 1) := by decide +kernel
theorem dM_write_126 : decode cM_write 126 = .ok (.getfield 187, 3) := by decide +kernel
theorem dM_write_129 : decode cM_write 129 = .ok (.ireturn, 1) := by decide +kernel
def jM_write_115 (K88 : (Nat → Int32) → (Nat → Nat → Int32) → Int32 → Int32 → Int32 → Option (Int32 × (Nat → Int32) × (Nat → Nat → Int32))) (iv : Nat → Int32) (av : Nat → Nat → Int32) (x1 : Int32) (x2 : Int32) (x3 : Int32) (s1 : Int32) (s2 : Int32) : Option (Int32 × (Nat → Int32) × (Nat → Nat → Int32)) := (fM_putTrack iv av s1 s2 x2).bind fun (iv1, av1) => K88 iv1 av1 x1 x2 (x3 + 1)
def jM_write_101 (K88 : (Nat → Int32) → (Nat → Nat → Int32) → Int32 → Int32 → Int32 → Option (Int32 × (Nat → Int32) × (Nat → Nat → Int32))) (iv : Nat → Int32) (av : Nat → Nat → Int32) (x1 : Int32) (x2 : Int32) (x3 : Int32) (s0 : Int32) (s1 : Int32) : Option (Int32 × (Nat → Int32) × (Nat → Nat → Int32)) := if s1 ≤ s0 then (some (iv 12, iv, av)) else (if x1 = 0 then (jM_write_115 K88 iv av x1 x2 x3 x3 (1 : Int32)) else (jM_write_115 K88 iv av x1 x2 x3 x3 (0 : Int32)))
def lM_write_88 : Nat → (Nat → Int32) → (Nat → Nat → Int32) → Int32 → Int32 → Int32 → Option (Int32 × (Nat → Int32) × (Nat → Nat → Int32))
  | 0 => fun _ _ _ _ _ => none
  | k + 1 => fun iv av x1 x2 x3 => if x1 = 0 then (jM_write_101 (lM_write_88 k) iv av x1 x2 x3 x3 (1 : Int32)) else (jM_write_101 (lM_write_88 k) iv av x1 x2 x3 x3 (iv 8))
def jM_write_73 (iv : Nat → Int32) (av : Nat → Nat → Int32) (x1 : Int32) (x2 : Int32) (s1 : Int32) : Option (Int32 × (Nat → Int32) × (Nat → Nat → Int32)) := (fM_puts iv av s1 (2 : Int32)).bind fun (iv1, av1) => (fM_puts iv1 av1 (iv1 9) (2 : Int32)).bind fun (iv2, av2) => lM_write_88 FU iv2 av2 x1 x2 (0 : Int32)
def jM_write_27 (iv : Nat → Int32) (av : Nat → Nat → Int32) (x1 : Int32) (x2 : Int32) (s1 : Int32) (s2 : Int32) : Option (Int32 × (Nat → Int32) × (Nat → Nat → Int32)) := (fM_fails iv av s1 s2).bind fun (r1, iv1, av1) => if r1 = 0 then ((fM_puts (upd iv1 12 (0 : Int32)) av1 (1297377380 : Int32) (4 : Int32)).bind fun (iv3, av3) => (fM_puts iv3 av3 (6 : Int32) (4 : Int32)).bind fun (iv4, av4) => (fM_puts iv4 av4 x1 (2 : Int32)).bind fun (iv5, av5) => if x1 = 0 then (jM_write_73 iv5 av5 x1 x2 (1 : Int32)) else (jM_write_73 iv5 av5 x1 x2 (iv5 8))) else (some ((0 : Int32), iv1, av1))
def jM_write_22 (iv : Nat → Int32) (av : Nat → Nat → Int32) (x1 : Int32) (x2 : Int32) (s1 : Int32) : Option (Int32 × (Nat → Int32) × (Nat → Nat → Int32)) := jM_write_27 iv av x1 x2 s1 (1 : Int32)
def jM_write_13 (iv : Nat → Int32) (av : Nat → Nat → Int32) (x1 : Int32) (x2 : Int32) (s1 : Int32) : Option (Int32 × (Nat → Int32) × (Nat → Nat → Int32)) := if x1 < 0 then (jM_write_22 iv av x1 x2 s1) else (if x1 ≤ (2 : Int32) then (jM_write_27 iv av x1 x2 s1 (0 : Int32)) else (jM_write_22 iv av x1 x2 s1))
def fM_write (iv : Nat → Int32) (av : Nat → Nat → Int32) (x1 : Int32) (x2 : Int32) : Option (Int32 × (Nat → Int32) × (Nat → Nat → Int32)) := if (iv 6) = 0 then (jM_write_13 iv av x1 x2 (1 : Int32)) else (jM_write_13 iv av x1 x2 (0 : Int32))
set_option maxHeartbeats 4000000 in
set_option maxRecDepth 100000 in
theorem wM_write_115 {p : Program} {l : Launch} {e : Env} {s : State} {m : MethodId} {args : Array Value} {below : List Frame} {meth : Method} {c : Code} {g : gT} {q : Nat} {ad : Nat → Nat} {X : va_W} {rv : Option Value} {iv' : Nat → Int32} {av' : Nat → Nat → Int32} {r' : Int32} (C : mCx p m c cM_write 4 s args g "MidiDeskModel") (hr : meth.sig.returnType = (some .int)) (hlk : meth.locks = false) (hrv : rv = some (.int r')) {K88 : (Nat → Int32) → (Nat → Nat → Int32) → Int32 → Int32 → Int32 → Option (Int32 × (Nat → Int32) × (Nat → Nat → Int32))} (hK88 : ∀ (iv : Nat → Int32) (av : Nat → Nat → Int32) (x1 : Int32) (x2 : Int32) (x3 : Int32) (H : Heap) (locs : List Loc) (ls : Array Slot), lv_has ls 4 [(0, .ref q), (1, .int x1), (2, .int x2), (3, .int x3)] → mWd g (mA g q ad X s.heap.size) s.heap q ad X iv av H locs → K88 iv av x1 x2 x3 = some (r', iv', av') → mG p l e rM_write s m args below meth c g q ad X rv iv' av' H locs 0 0 (F0 m 88 ls [])) (iv : Nat → Int32) (av : Nat → Nat → Int32) (x1 : Int32) (x2 : Int32) (x3 : Int32) (s1 : Int32) (s2 : Int32) (H : Heap) (locs : List Loc) (ls : Array Slot) (hl : lv_has ls 4 [(0, .ref q), (1, .int x1), (2, .int x2), (3, .int x3)]) (hw : mWd g (mA g q ad X s.heap.size) s.heap q ad X iv av H locs) (hf : jM_write_115 K88 iv av x1 x2 x3 s1 s2 = some (r', iv', av')) : mG p l e rM_write s m args below meth c g q ad X rv iv' av' H locs 0 0 (F0 m 115 ls [.int s2, .int s1, .ref q]) := by
  unfold jM_write_115 at hf
  refine lv_iload_n C.1.1 C.1.2.1 dM_write_115 rfl (lv_at hl 2 rfl) ?_
  obtain ⟨⟨iv1, av1⟩, g1, hf⟩ := ts_b hf
  dsimp only at hf
  refine m_callV (rest := []) (As := [.int s1, .int s2, .int x2]) (rv := none) C hl.1 hw (cM_putTrack_met g1) (callW_of (rm := rM_putTrack) 3 C.1.2.2.2.2 gw_948 gw_950 gw_48 gw_55 gw_951 kM_putTrack ⟨Nat.le_of_ble_eq_true rfl, Nat.le_of_ble_eq_true rfl⟩) rfl rfl (Nat.le_of_ble_eq_true rfl) dM_write_116 ⟨Nat.le_of_ble_eq_true rfl, Nat.le_of_ble_eq_true rfl⟩ (fun H locs hw => ?_)
  refine W.eq (g2 := F0 m 119 ls []) rfl ?_
  refine lv_iinc (v := x3 + 1) (lv' := [(3, .int (x3 + 1)), (0, .ref q), (1, .int x1), (2, .int x2)]) C.1.1 C.1.2.1 dM_write_119 hl (k := 3) rfl rfl (by decide) rfl (fun ls hl => ?_)
  refine lv_goto (tgt := 88) C.1.1 C.1.2.1 dM_write_122 (by decide) ?_
  exact hK88 iv1 av1 x1 x2 (x3 + 1) _ _ ls (lv_sub hl [1, 2, 3, 0] rfl) hw hf
set_option maxHeartbeats 4000000 in
set_option maxRecDepth 100000 in
theorem wM_write_101 {p : Program} {l : Launch} {e : Env} {s : State} {m : MethodId} {args : Array Value} {below : List Frame} {meth : Method} {c : Code} {g : gT} {q : Nat} {ad : Nat → Nat} {X : va_W} {rv : Option Value} {iv' : Nat → Int32} {av' : Nat → Nat → Int32} {r' : Int32} (C : mCx p m c cM_write 4 s args g "MidiDeskModel") (hr : meth.sig.returnType = (some .int)) (hlk : meth.locks = false) (hrv : rv = some (.int r')) {K88 : (Nat → Int32) → (Nat → Nat → Int32) → Int32 → Int32 → Int32 → Option (Int32 × (Nat → Int32) × (Nat → Nat → Int32))} (hK88 : ∀ (iv : Nat → Int32) (av : Nat → Nat → Int32) (x1 : Int32) (x2 : Int32) (x3 : Int32) (H : Heap) (locs : List Loc) (ls : Array Slot), lv_has ls 4 [(0, .ref q), (1, .int x1), (2, .int x2), (3, .int x3)] → mWd g (mA g q ad X s.heap.size) s.heap q ad X iv av H locs → K88 iv av x1 x2 x3 = some (r', iv', av') → mG p l e rM_write s m args below meth c g q ad X rv iv' av' H locs 0 0 (F0 m 88 ls [])) (iv : Nat → Int32) (av : Nat → Nat → Int32) (x1 : Int32) (x2 : Int32) (x3 : Int32) (s0 : Int32) (s1 : Int32) (H : Heap) (locs : List Loc) (ls : Array Slot) (hl : lv_has ls 4 [(0, .ref q), (1, .int x1), (2, .int x2), (3, .int x3)]) (hw : mWd g (mA g q ad X s.heap.size) s.heap q ad X iv av H locs) (hf : jM_write_101 K88 iv av x1 x2 x3 s0 s1 = some (r', iv', av')) : mG p l e rM_write s m args below meth c g q ad X rv iv' av' H locs 0 0 (F0 m 101 ls [.int s1, .int s0]) := by
  unfold jM_write_101 at hf
  refine lv_icmp_ge (tgt := 125) C.1.1 C.1.2.1 dM_write_101 (by decide) (fun c1 => ?_) (fun c1 => ?_)
  · have hf := ts_t hf c1
    refine lv_aload_n C.1.1 C.1.2.1 dM_write_125 rfl (lv_at hl 0 rfl) ?_
    refine mg_writtenSize C hw dM_write_126 ?_
    exact m_reti C hr hlk hrv hw hf ⟨Nat.le_of_ble_eq_true rfl, Nat.le_of_ble_eq_true rfl⟩ dM_write_129
  · have hf := ts_f hf c1
    refine lv_aload_n C.1.1 C.1.2.1 dM_write_104 rfl (lv_at hl 0 rfl) ?_
    refine lv_iload_n C.1.1 C.1.2.1 dM_write_105 rfl (lv_at hl 3 rfl) ?_
    refine lv_iload_n C.1.1 C.1.2.1 dM_write_106 rfl (lv_at hl 1 rfl) ?_
    refine lv_if_ne (tgt := 114) C.1.1 C.1.2.1 dM_write_107 (by decide) (fun c2 => ?_) (fun c2 => ?_)
    · have hf := ts_f hf c2
      refine lv_iconst (v := (0 : Int32)) C.1.1 C.1.2.1 dM_write_114 (by decide) ?_
      exact wM_write_115 C hr hlk hrv hK88 iv av x1 x2 x3 x3 (0 : Int32) _ _ ls (lv_sub hl [0, 1, 2, 3] rfl) hw hf
    · have hf := ts_t hf c2
      refine lv_iconst (v := (1 : Int32)) C.1.1 C.1.2.1 dM_write_110 (by decide) ?_
      refine lv_goto (tgt := 115) C.1.1 C.1.2.1 dM_write_111 (by decide) ?_
      exact wM_write_115 C hr hlk hrv hK88 iv av x1 x2 x3 x3 (1 : Int32) _ _ ls (lv_sub hl [0, 1, 2, 3] rfl) hw hf
set_option maxHeartbeats 4000000 in
set_option maxRecDepth 100000 in
theorem wM_write_88 {p : Program} {l : Launch} {e : Env} {s : State} {m : MethodId} {args : Array Value} {below : List Frame} {meth : Method} {c : Code} {g : gT} {q : Nat} {ad : Nat → Nat} {X : va_W} {rv : Option Value} {iv' : Nat → Int32} {av' : Nat → Nat → Int32} {r' : Int32} (C : mCx p m c cM_write 4 s args g "MidiDeskModel") (hr : meth.sig.returnType = (some .int)) (hlk : meth.locks = false) (hrv : rv = some (.int r')) (k : Nat) : ∀ (iv : Nat → Int32) (av : Nat → Nat → Int32) (x1 : Int32) (x2 : Int32) (x3 : Int32) (H : Heap) (locs : List Loc) (ls : Array Slot), lv_has ls 4 [(0, .ref q), (1, .int x1), (2, .int x2), (3, .int x3)] → mWd g (mA g q ad X s.heap.size) s.heap q ad X iv av H locs → lM_write_88 k iv av x1 x2 x3 = some (r', iv', av') → mG p l e rM_write s m args below meth c g q ad X rv iv' av' H locs 0 0 (F0 m 88 ls []) := by
  induction k with
  | zero => intro iv av x1 x2 x3 H locs ls hl hw hf; cases hf
  | succ k ih =>
    intro iv av x1 x2 x3 H locs ls hl hw hf
    have hf : (if x1 = 0 then (jM_write_101 (lM_write_88 k) iv av x1 x2 x3 x3 (1 : Int32)) else (jM_write_101 (lM_write_88 k) iv av x1 x2 x3 x3 (iv 8))) = some (r', iv', av') := hf
    refine lv_iload_n C.1.1 C.1.2.1 dM_write_88 rfl (lv_at hl 3 rfl) ?_
    refine lv_iload_n C.1.1 C.1.2.1 dM_write_89 rfl (lv_at hl 1 rfl) ?_
    refine lv_if_ne (tgt := 97) C.1.1 C.1.2.1 dM_write_90 (by decide) (fun c1 => ?_) (fun c1 => ?_)
    · have hf := ts_f hf c1
      refine lv_aload_n C.1.1 C.1.2.1 dM_write_97 rfl (lv_at hl 0 rfl) ?_
      refine mg_tracks C hw dM_write_98 ?_
      exact wM_write_101 C hr hlk hrv ih iv av x1 x2 x3 x3 (iv 8) _ _ ls (lv_sub hl [0, 1, 2, 3] rfl) hw hf
    · have hf := ts_t hf c1
      refine lv_iconst (v := (1 : Int32)) C.1.1 C.1.2.1 dM_write_93 (by decide) ?_
      refine lv_goto (tgt := 101) C.1.1 C.1.2.1 dM_write_94 (by decide) ?_
      exact wM_write_101 C hr hlk hrv ih iv av x1 x2 x3 x3 (1 : Int32) _ _ ls (lv_sub hl [0, 1, 2, 3] rfl) hw hf
set_option maxHeartbeats 4000000 in
set_option maxRecDepth 100000 in
theorem wM_write_73 {p : Program} {l : Launch} {e : Env} {s : State} {m : MethodId} {args : Array Value} {below : List Frame} {meth : Method} {c : Code} {g : gT} {q : Nat} {ad : Nat → Nat} {X : va_W} {rv : Option Value} {iv' : Nat → Int32} {av' : Nat → Nat → Int32} {r' : Int32} (C : mCx p m c cM_write 4 s args g "MidiDeskModel") (hr : meth.sig.returnType = (some .int)) (hlk : meth.locks = false) (hrv : rv = some (.int r')) (iv : Nat → Int32) (av : Nat → Nat → Int32) (x1 : Int32) (x2 : Int32) (s1 : Int32) (H : Heap) (locs : List Loc) (ls : Array Slot) (hl : lv_has ls 4 [(0, .ref q), (1, .int x1), (2, .int x2)]) (hw : mWd g (mA g q ad X s.heap.size) s.heap q ad X iv av H locs) (hf : jM_write_73 iv av x1 x2 s1 = some (r', iv', av')) : mG p l e rM_write s m args below meth c g q ad X rv iv' av' H locs 0 0 (F0 m 73 ls [.int s1, .ref q]) := by
  unfold jM_write_73 at hf
  refine lv_iconst (v := (2 : Int32)) C.1.1 C.1.2.1 dM_write_73 (by decide) ?_
  obtain ⟨⟨iv1, av1⟩, g1, hf⟩ := ts_b hf
  dsimp only at hf
  refine m_callV (rest := []) (As := [.int s1, .int (2 : Int32)]) (rv := none) C hl.1 hw (cM_puts_met g1) (callW_of (rm := rM_puts) 2 C.1.2.2.2.2 gw_940 gw_942 gw_46 gw_55 gw_943 kM_puts ⟨Nat.le_of_ble_eq_true rfl, Nat.le_of_ble_eq_true rfl⟩) rfl rfl (Nat.le_of_ble_eq_true rfl) dM_write_74 ⟨Nat.le_of_ble_eq_true rfl, Nat.le_of_ble_eq_true rfl⟩ (fun H locs hw => ?_)
  refine W.eq (g2 := F0 m 77 ls []) rfl ?_
  refine lv_aload_n C.1.1 C.1.2.1 dM_write_77 rfl (lv_at hl 0 rfl) ?_
  refine lv_aload_n C.1.1 C.1.2.1 dM_write_78 rfl (lv_at hl 0 rfl) ?_
  refine mg_division C hw dM_write_79 ?_
  refine lv_iconst (v := (2 : Int32)) C.1.1 C.1.2.1 dM_write_82 (by decide) ?_
  obtain ⟨⟨iv2, av2⟩, g2, hf⟩ := ts_b hf
  dsimp only at hf
  refine m_callV (rest := []) (As := [.int (iv1 9), .int (2 : Int32)]) (rv := none) C hl.1 hw (cM_puts_met g2) (callW_of (rm := rM_puts) 2 C.1.2.2.2.2 gw_940 gw_942 gw_46 gw_55 gw_943 kM_puts ⟨Nat.le_of_ble_eq_true rfl, Nat.le_of_ble_eq_true rfl⟩) rfl rfl (Nat.le_of_ble_eq_true rfl) dM_write_83 ⟨Nat.le_of_ble_eq_true rfl, Nat.le_of_ble_eq_true rfl⟩ (fun H locs hw => ?_)
  refine W.eq (g2 := F0 m 86 ls []) rfl ?_
  refine lv_iconst (v := (0 : Int32)) C.1.1 C.1.2.1 dM_write_86 (by decide) ?_
  refine lv_istore_n (lv' := [(3, .int (0 : Int32)), (0, .ref q), (1, .int x1), (2, .int x2)]) C.1.1 C.1.2.1 dM_write_87 rfl hl (by decide) rfl (fun ls hl => ?_)
  exact wM_write_88 C hr hlk hrv FU iv2 av2 x1 x2 (0 : Int32) _ _ ls (lv_sub hl [1, 2, 3, 0] rfl) hw hf
set_option maxHeartbeats 4000000 in
set_option maxRecDepth 100000 in
theorem wM_write_27 {p : Program} {l : Launch} {e : Env} {s : State} {m : MethodId} {args : Array Value} {below : List Frame} {meth : Method} {c : Code} {g : gT} {q : Nat} {ad : Nat → Nat} {X : va_W} {rv : Option Value} {iv' : Nat → Int32} {av' : Nat → Nat → Int32} {r' : Int32} (C : mCx p m c cM_write 4 s args g "MidiDeskModel") (hr : meth.sig.returnType = (some .int)) (hlk : meth.locks = false) (hrv : rv = some (.int r')) (iv : Nat → Int32) (av : Nat → Nat → Int32) (x1 : Int32) (x2 : Int32) (s1 : Int32) (s2 : Int32) (H : Heap) (locs : List Loc) (ls : Array Slot) (hl : lv_has ls 4 [(0, .ref q), (1, .int x1), (2, .int x2)]) (hw : mWd g (mA g q ad X s.heap.size) s.heap q ad X iv av H locs) (hf : jM_write_27 iv av x1 x2 s1 s2 = some (r', iv', av')) : mG p l e rM_write s m args below meth c g q ad X rv iv' av' H locs 0 0 (F0 m 27 ls [.int s2, .int s1, .ref q]) := by
  unfold jM_write_27 at hf
  obtain ⟨⟨r1, iv1, av1⟩, g1, hf⟩ := ts_b hf
  dsimp only at hf
  refine m_callV (rest := []) (As := [.int s1, .int s2]) (rv := (some (.int r1))) C hl.1 hw (cM_fails_met g1) (callW_of (rm := rM_fails) 2 C.1.2.2.2.2 gw_877 gw_879 gw_39 gw_55 gw_880 kM_fails ⟨Nat.le_of_ble_eq_true rfl, Nat.le_of_ble_eq_true rfl⟩) rfl rfl (Nat.le_of_ble_eq_true rfl) dM_write_27 ⟨Nat.le_of_ble_eq_true rfl, Nat.le_of_ble_eq_true rfl⟩ (fun H locs hw => ?_)
  refine W.eq (g2 := F0 m 30 ls [.int r1]) rfl ?_
  refine lv_if_eq (tgt := 35) C.1.1 C.1.2.1 dM_write_30 (by decide) (fun c2 => ?_) (fun c2 => ?_)
  · have hf := ts_t hf c2
    refine lv_aload_n C.1.1 C.1.2.1 dM_write_35 rfl (lv_at hl 0 rfl) ?_
    refine lv_iconst (v := (0 : Int32)) C.1.1 C.1.2.1 dM_write_36 (by decide) ?_
    refine mp_writtenSize C hw dM_write_37 (fun H locs hw => ?_)
    refine lv_aload_n C.1.1 C.1.2.1 dM_write_40 rfl (lv_at hl 0 rfl) ?_
    refine lv_ldc C.1.1 C.1.2.1 C.1.2.2.2.1 (C.1.2.2.2.2 _ gw_939) dM_write_41 ?_
    refine lv_iconst (v := (4 : Int32)) C.1.1 C.1.2.1 dM_write_43 (by decide) ?_
    obtain ⟨⟨iv3, av3⟩, g3, hf⟩ := ts_b hf
    dsimp only at hf
    refine m_callV (rest := []) (As := [.int (1297377380 : Int32), .int (4 : Int32)]) (rv := none) C hl.1 hw (cM_puts_met g3) (callW_of (rm := rM_puts) 2 C.1.2.2.2.2 gw_940 gw_942 gw_46 gw_55 gw_943 kM_puts ⟨Nat.le_of_ble_eq_true rfl, Nat.le_of_ble_eq_true rfl⟩) rfl rfl (Nat.le_of_ble_eq_true rfl) dM_write_44 ⟨Nat.le_of_ble_eq_true rfl, Nat.le_of_ble_eq_true rfl⟩ (fun H locs hw => ?_)
    refine W.eq (g2 := F0 m 47 ls []) rfl ?_
    refine lv_aload_n C.1.1 C.1.2.1 dM_write_47 rfl (lv_at hl 0 rfl) ?_
    refine lv_bipush (v := (6 : Int32)) C.1.1 C.1.2.1 dM_write_48 (by decide) ?_
    refine lv_iconst (v := (4 : Int32)) C.1.1 C.1.2.1 dM_write_50 (by decide) ?_
    obtain ⟨⟨iv4, av4⟩, g4, hf⟩ := ts_b hf
    dsimp only at hf
    refine m_callV (rest := []) (As := [.int (6 : Int32), .int (4 : Int32)]) (rv := none) C hl.1 hw (cM_puts_met g4) (callW_of (rm := rM_puts) 2 C.1.2.2.2.2 gw_940 gw_942 gw_46 gw_55 gw_943 kM_puts ⟨Nat.le_of_ble_eq_true rfl, Nat.le_of_ble_eq_true rfl⟩) rfl rfl (Nat.le_of_ble_eq_true rfl) dM_write_51 ⟨Nat.le_of_ble_eq_true rfl, Nat.le_of_ble_eq_true rfl⟩ (fun H locs hw => ?_)
    refine W.eq (g2 := F0 m 54 ls []) rfl ?_
    refine lv_aload_n C.1.1 C.1.2.1 dM_write_54 rfl (lv_at hl 0 rfl) ?_
    refine lv_iload_n C.1.1 C.1.2.1 dM_write_55 rfl (lv_at hl 1 rfl) ?_
    refine lv_iconst (v := (2 : Int32)) C.1.1 C.1.2.1 dM_write_56 (by decide) ?_
    obtain ⟨⟨iv5, av5⟩, g5, hf⟩ := ts_b hf
    dsimp only at hf
    refine m_callV (rest := []) (As := [.int x1, .int (2 : Int32)]) (rv := none) C hl.1 hw (cM_puts_met g5) (callW_of (rm := rM_puts) 2 C.1.2.2.2.2 gw_940 gw_942 gw_46 gw_55 gw_943 kM_puts ⟨Nat.le_of_ble_eq_true rfl, Nat.le_of_ble_eq_true rfl⟩) rfl rfl (Nat.le_of_ble_eq_true rfl) dM_write_57 ⟨Nat.le_of_ble_eq_true rfl, Nat.le_of_ble_eq_true rfl⟩ (fun H locs hw => ?_)
    refine W.eq (g2 := F0 m 60 ls []) rfl ?_
    refine lv_aload_n C.1.1 C.1.2.1 dM_write_60 rfl (lv_at hl 0 rfl) ?_
    refine lv_iload_n C.1.1 C.1.2.1 dM_write_61 rfl (lv_at hl 1 rfl) ?_
    refine lv_if_ne (tgt := 69) C.1.1 C.1.2.1 dM_write_62 (by decide) (fun c6 => ?_) (fun c6 => ?_)
    · have hf := ts_f hf c6
      refine lv_aload_n C.1.1 C.1.2.1 dM_write_69 rfl (lv_at hl 0 rfl) ?_
      refine mg_tracks C hw dM_write_70 ?_
      exact wM_write_73 C hr hlk hrv iv5 av5 x1 x2 (iv5 8) _ _ ls (lv_sub hl [0, 1, 2] rfl) hw hf
    · have hf := ts_t hf c6
      refine lv_iconst (v := (1 : Int32)) C.1.1 C.1.2.1 dM_write_65 (by decide) ?_
      refine lv_goto (tgt := 73) C.1.1 C.1.2.1 dM_write_66 (by decide) ?_
      exact wM_write_73 C hr hlk hrv iv5 av5 x1 x2 (1 : Int32) _ _ ls (lv_sub hl [0, 1, 2] rfl) hw hf
  · have hf := ts_f hf c2
    refine lv_iconst (v := (0 : Int32)) C.1.1 C.1.2.1 dM_write_33 (by decide) ?_
    exact m_reti C hr hlk hrv hw hf ⟨Nat.le_of_ble_eq_true rfl, Nat.le_of_ble_eq_true rfl⟩ dM_write_34
set_option maxHeartbeats 4000000 in
set_option maxRecDepth 100000 in
theorem wM_write_22 {p : Program} {l : Launch} {e : Env} {s : State} {m : MethodId} {args : Array Value} {below : List Frame} {meth : Method} {c : Code} {g : gT} {q : Nat} {ad : Nat → Nat} {X : va_W} {rv : Option Value} {iv' : Nat → Int32} {av' : Nat → Nat → Int32} {r' : Int32} (C : mCx p m c cM_write 4 s args g "MidiDeskModel") (hr : meth.sig.returnType = (some .int)) (hlk : meth.locks = false) (hrv : rv = some (.int r')) (iv : Nat → Int32) (av : Nat → Nat → Int32) (x1 : Int32) (x2 : Int32) (s1 : Int32) (H : Heap) (locs : List Loc) (ls : Array Slot) (hl : lv_has ls 4 [(0, .ref q), (1, .int x1), (2, .int x2)]) (hw : mWd g (mA g q ad X s.heap.size) s.heap q ad X iv av H locs) (hf : jM_write_22 iv av x1 x2 s1 = some (r', iv', av')) : mG p l e rM_write s m args below meth c g q ad X rv iv' av' H locs 0 0 (F0 m 22 ls [.int s1, .ref q]) := by
  unfold jM_write_22 at hf
  refine lv_iconst (v := (1 : Int32)) C.1.1 C.1.2.1 dM_write_22 (by decide) ?_
  refine lv_goto (tgt := 27) C.1.1 C.1.2.1 dM_write_23 (by decide) ?_
  exact wM_write_27 C hr hlk hrv iv av x1 x2 s1 (1 : Int32) _ _ ls (lv_sub hl [0, 1, 2] rfl) hw hf
set_option maxHeartbeats 4000000 in
set_option maxRecDepth 100000 in
theorem wM_write_13 {p : Program} {l : Launch} {e : Env} {s : State} {m : MethodId} {args : Array Value} {below : List Frame} {meth : Method} {c : Code} {g : gT} {q : Nat} {ad : Nat → Nat} {X : va_W} {rv : Option Value} {iv' : Nat → Int32} {av' : Nat → Nat → Int32} {r' : Int32} (C : mCx p m c cM_write 4 s args g "MidiDeskModel") (hr : meth.sig.returnType = (some .int)) (hlk : meth.locks = false) (hrv : rv = some (.int r')) (iv : Nat → Int32) (av : Nat → Nat → Int32) (x1 : Int32) (x2 : Int32) (s1 : Int32) (H : Heap) (locs : List Loc) (ls : Array Slot) (hl : lv_has ls 4 [(0, .ref q), (1, .int x1), (2, .int x2)]) (hw : mWd g (mA g q ad X s.heap.size) s.heap q ad X iv av H locs) (hf : jM_write_13 iv av x1 x2 s1 = some (r', iv', av')) : mG p l e rM_write s m args below meth c g q ad X rv iv' av' H locs 0 0 (F0 m 13 ls [.int s1, .ref q]) := by
  unfold jM_write_13 at hf
  refine lv_iload_n C.1.1 C.1.2.1 dM_write_13 rfl (lv_at hl 1 rfl) ?_
  refine lv_if_lt (tgt := 22) C.1.1 C.1.2.1 dM_write_14 (by decide) (fun c1 => ?_) (fun c1 => ?_)
  · have hf := ts_t hf c1
    exact wM_write_22 C hr hlk hrv iv av x1 x2 s1 _ _ ls (lv_sub hl [0, 1, 2] rfl) hw hf
  · have hf := ts_f hf c1
    refine lv_iload_n C.1.1 C.1.2.1 dM_write_17 rfl (lv_at hl 1 rfl) ?_
    refine lv_iconst (v := (2 : Int32)) C.1.1 C.1.2.1 dM_write_18 (by decide) ?_
    refine lv_icmp_le (tgt := 26) C.1.1 C.1.2.1 dM_write_19 (by decide) (fun c2 => ?_) (fun c2 => ?_)
    · have hf := ts_t hf c2
      refine lv_iconst (v := (0 : Int32)) C.1.1 C.1.2.1 dM_write_26 (by decide) ?_
      exact wM_write_27 C hr hlk hrv iv av x1 x2 s1 (0 : Int32) _ _ ls (lv_sub hl [0, 1, 2] rfl) hw hf
    · have hf := ts_f hf c2
      exact wM_write_22 C hr hlk hrv iv av x1 x2 s1 _ _ ls (lv_sub hl [0, 1, 2] rfl) hw hf
set_option maxHeartbeats 4000000 in
set_option maxRecDepth 100000 in
theorem cM_write_met {l : Launch} {g : gT} {q : Nat} {ad : Nat → Nat} {X : va_W} {iv iv' : Nat → Int32} {av av' : Nat → Nat → Int32} {x1 : Int32} {x2 : Int32} {r' : Int32} (hf : fM_write iv av x1 x2 = some (r', iv', av')) : mMet l yM_write cM_write 4 (some .int) rM_write g q ad X iv av [.ref q, .int x1, .int x2] (some (.int r')) iv' av' := by
  refine m_entry (by decide) (Nat.le_of_ble_eq_true rfl) ?_
  intro p e s m args below meth c ls C hr hlk hnm hl hw
  have hrv : ((some (.int r')) : Option Value) = (some (.int r')) := rfl
  have C : mCx p m c cM_write 4 s args g "MidiDeskModel" := C
  have hl : lv_has ls 4 [(0, .ref q), (1, .int x1), (2, .int x2)] := hl
  unfold fM_write at hf
  refine lv_aload_n C.1.1 C.1.2.1 dM_write_0 rfl (lv_at hl 0 rfl) ?_
  refine lv_aload_n C.1.1 C.1.2.1 dM_write_1 rfl (lv_at hl 0 rfl) ?_
  refine mg_there C hw dM_write_2 ?_
  refine lv_if_ne (tgt := 12) C.1.1 C.1.2.1 dM_write_5 (by decide) (fun c1 => ?_) (fun c1 => ?_)
  · have hf := ts_f hf c1
    refine lv_iconst (v := (0 : Int32)) C.1.1 C.1.2.1 dM_write_12 (by decide) ?_
    exact wM_write_13 C hr hlk hrv iv av x1 x2 (0 : Int32) _ _ ls (lv_sub hl [0, 1, 2] rfl) hw hf
  · have hf := ts_t hf c1
    refine lv_iconst (v := (1 : Int32)) C.1.1 C.1.2.1 dM_write_8 (by decide) ?_
    refine lv_goto (tgt := 13) C.1.1 C.1.2.1 dM_write_9 (by decide) ?_
    exact wM_write_13 C hr hlk hrv iv av x1 x2 (1 : Int32) _ _ ls (lv_sub hl [0, 1, 2] rfl) hw hf
abbrev cM_written : ByteArray := prog_8_method_40_code
abbrev yM_written : MethodName := ⟨"MidiDeskModel", "written", "(I)I"⟩
theorem kM_written : yM_written.cls ≠ "java/lang/invoke/MethodHandle" ∧ yM_written.cls ≠ "java/lang/invoke/VarHandle" ∧ (parseMethodDescriptor yM_written.desc).map (fun d => d.parameters.length) = some 1 := by decide +kernel
abbrev rM_written : Room := { frames := 0, cells := 0, slots := 0, locals := 0 }
theorem dM_written_0 : decode cM_written 0 = .ok (.aload_n 0, 1) := by decide +kernel
theorem dM_written_1 : decode cM_written 1 = .ok (.iconst 0, 1) := by decide +kernel
theorem dM_written_2 : decode cM_written 2 = .ok (.putfield 47, 3) := by decide +kernel
theorem dM_written_5 : decode cM_written 5 = .ok (.iload_n 1, 1) := by decide +kernel
theorem dM_written_6 : decode cM_written 6 = .ok (.ifCond .lt 20, 3) := by decide +kernel
theorem dM_written_9 : decode cM_written 9 = .ok (.iload_n 1, 1) := by decide +kernel
theorem dM_written_10 : decode cM_written 10 = .ok (.aload_n 0, 1) := by decide +kernel
theorem dM_written_11 : decode cM_written 11 = .ok (.getfield 187, 3) := by decide +kernel
theorem dM_written_14 : decode cM_written 14 = .ok (.if_icmp .ge 12, 3) := by decide +kernel
theorem dM_written_17 : decode cM_written 17 = .ok (.aload_n 0, 1) := by decide +kernel
theorem dM_written_18 : decode cM_written 18 = .ok (.getfield 44, 3) := by decide +kernel
theorem dM_written_21 : decode cM_written 21 = .ok (.iload_n 1, 1) := by decide +kernel
theorem dM_written_22 : decode cM_written 22 = .ok (.iaload, 1) := by decide +kernel
theorem dM_written_23 : decode cM_written 23 = .ok (.goto 4, 3) := by decide +kernel
theorem dM_written_26 : decode cM_written 26 = .ok (.iconst (-1), 1) := by decide +kernel
theorem dM_written_27 : decode cM_written 27 = .ok (.ireturn, 1) := by decide +kernel
def fM_written (iv : Nat → Int32) (av : Nat → Nat → Int32) (x1 : Int32) : Option (Int32 × (Nat → Int32) × (Nat → Nat → Int32)) := if x1 < 0 then (some ((-1 : Int32), upd iv 0 (0 : Int32), av)) else (if ((upd iv 0 (0 : Int32)) 12) ≤ x1 then (some ((-1 : Int32), upd iv 0 (0 : Int32), av)) else (if x1 < 0 ∨ 32768 ≤ x1.toNatClampNeg then none else (some (av 11 x1.toNatClampNeg, upd iv 0 (0 : Int32), av))))
set_option maxHeartbeats 4000000 in
set_option maxRecDepth 100000 in
theorem cM_written_met {l : Launch} {g : gT} {q : Nat} {ad : Nat → Nat} {X : va_W} {iv iv' : Nat → Int32} {av av' : Nat → Nat → Int32} {x1 : Int32} {r' : Int32} (hf : fM_written iv av x1 = some (r', iv', av')) : mMet l yM_written cM_written 2 (some .int) rM_written g q ad X iv av [.ref q, .int x1] (some (.int r')) iv' av' := by
  refine m_entry (by decide) (Nat.le_of_ble_eq_true rfl) ?_
  intro p e s m args below meth c ls C hr hlk hnm hl hw
  have hrv : ((some (.int r')) : Option Value) = (some (.int r')) := rfl
  have C : mCx p m c cM_written 2 s args g "MidiDeskModel" := C
  have hl : lv_has ls 2 [(0, .ref q), (1, .int x1)] := hl
  unfold fM_written at hf
  refine lv_aload_n C.1.1 C.1.2.1 dM_written_0 rfl (lv_at hl 0 rfl) ?_
  refine lv_iconst (v := (0 : Int32)) C.1.1 C.1.2.1 dM_written_1 (by decide) ?_
  refine mp_thrown C hw dM_written_2 (fun H locs hw => ?_)
  refine lv_iload_n C.1.1 C.1.2.1 dM_written_5 rfl (lv_at hl 1 rfl) ?_
  refine lv_if_lt (tgt := 26) C.1.1 C.1.2.1 dM_written_6 (by decide) (fun c1 => ?_) (fun c1 => ?_)
  · have hf := ts_t hf c1
    refine lv_iconst (v := (-1 : Int32)) C.1.1 C.1.2.1 dM_written_26 (by decide) ?_
    exact m_reti C hr hlk hrv hw hf ⟨Nat.le_of_ble_eq_true rfl, Nat.le_of_ble_eq_true rfl⟩ dM_written_27
  · have hf := ts_f hf c1
    refine lv_iload_n C.1.1 C.1.2.1 dM_written_9 rfl (lv_at hl 1 rfl) ?_
    refine lv_aload_n C.1.1 C.1.2.1 dM_written_10 rfl (lv_at hl 0 rfl) ?_
    refine mg_writtenSize C hw dM_written_11 ?_
    refine lv_icmp_ge (tgt := 26) C.1.1 C.1.2.1 dM_written_14 (by decide) (fun c2 => ?_) (fun c2 => ?_)
    · have hf := ts_t hf c2
      refine lv_iconst (v := (-1 : Int32)) C.1.1 C.1.2.1 dM_written_26 (by decide) ?_
      exact m_reti C hr hlk hrv hw hf ⟨Nat.le_of_ble_eq_true rfl, Nat.le_of_ble_eq_true rfl⟩ dM_written_27
    · have hf := ts_f hf c2
      refine lv_aload_n C.1.1 C.1.2.1 dM_written_17 rfl (lv_at hl 0 rfl) ?_
      refine mg_written C hw dM_written_18 ?_
      refine lv_iload_n C.1.1 C.1.2.1 dM_written_21 rfl (lv_at hl 1 rfl) ?_
      obtain ⟨h3, hf⟩ := ts_g hf
      refine ma_written C hw h3 dM_written_22 ?_
      refine lv_goto (tgt := 27) C.1.1 C.1.2.1 dM_written_23 (by decide) ?_
      exact m_reti C hr hlk hrv hw hf ⟨Nat.le_of_ble_eq_true rfl, Nat.le_of_ble_eq_true rfl⟩ dM_written_27
abbrev cM_back : ByteArray := prog_8_method_41_code
abbrev yM_back : MethodName := ⟨"MidiDeskModel", "back", "()I"⟩
theorem kM_back : yM_back.cls ≠ "java/lang/invoke/MethodHandle" ∧ yM_back.cls ≠ "java/lang/invoke/VarHandle" ∧ (parseMethodDescriptor yM_back.desc).map (fun d => d.parameters.length) = some 0 := by decide +kernel
abbrev rM_back : Room := { frames := 0, cells := 0, slots := 0, locals := 0 }
theorem dM_back_0 : decode cM_back 0 = .ok (.aload_n 0, 1) := by decide +kernel
theorem dM_back_1 : decode cM_back 1 = .ok (.iconst 0, 1) := by decide +kernel
theorem dM_back_2 : decode cM_back 2 = .ok (.putfield 47, 3) := by decide +kernel
theorem dM_back_5 : decode cM_back 5 = .ok (.aload_n 0, 1) := by decide +kernel
theorem dM_back_6 : decode cM_back 6 = .ok (.getfield 187, 3) := by decide +kernel
theorem dM_back_9 : decode cM_back 9 = .ok (.ifCond .eq 13, 3) := by decide +kernel
theorem dM_back_12 : decode cM_back 12 = .ok (.aload_n 0, 1) := by decide +kernel
theorem dM_back_13 : decode cM_back 13 = .ok (.getfield 187, 3) := by decide +kernel
theorem dM_back_16 : decode cM_back 16 = .ok (.sipush 12000, 3) := by decide +kernel
theorem dM_back_19 : decode cM_back 19 = .ok (.if_icmp .le 5, 3) := by decide +kernel
theorem dM_back_22 : decode cM_back 22 = .ok (.iconst (-1), 1) := by decide +kernel
theorem dM_back_23 : decode cM_back 23 = .ok (.ireturn, 1) := by decide +kernel
theorem dM_back_24 : decode cM_back 24 = .ok (.iconst 0, 1) := by decide +kernel
theorem dM_back_25 : decode cM_back 25 = .ok (.istore_n 1, 1) := by decide +kernel
theorem dM_back_26 : decode cM_back 26 = .ok (.iload_n 1, 1) := by decide +kernel
theorem dM_back_27 : decode cM_back 27 = .ok (.aload_n 0, 1) := by decide +kernel
theorem dM_back_28 : decode cM_back 28 = .ok (.getfield 187, 3) := by decide +kernel
theorem dM_back_31 : decode cM_back 31 = .ok (.if_icmp .ge 21, 3) := by decide +kernel
theorem dM_back_34 : decode cM_back 34 = .ok (.aload_n 0, 1) := by decide +kernel
theorem dM_back_35 : decode cM_back 35 = .ok (.getfield 7, 3) := by decide +kernel
theorem dM_back_38 : decode cM_back 38 = .ok (.iload_n 1, 1) := by decide +kernel
theorem dM_back_39 : decode cM_back 39 = .ok (.aload_n 0, 1) := by decide +kernel
theorem dM_back_40 : decode cM_back 40 = .ok (.getfield 44, 3) := by decide +kernel
theorem dM_back_43 : decode cM_back 43 = .ok (.iload_n 1, 1) := by decide +kernel
theorem dM_back_44 : decode cM_back 44 = .ok (.iaload, 1) := by decide +kernel
theorem dM_back_45 : decode cM_back 45 = .ok (.iastore, 1) := by decide +kernel
theorem dM_back_46 : decode cM_back 46 = .ok (.iinc 1 1, 3) := by decide +kernel
theorem dM_back_49 : decode cM_back 49 = .ok (.goto (-23), 3) := by decide +kernel
theorem dM_back_52 : decode cM_back 52 = .ok (.aload_n 0, 1) := by decide +kernel
theorem dM_back_53 : decode cM_back 53 = .ok (.aload_n 0, 1) := by decide +kernel
theorem dM_back_54 : decode cM_back 54 = .ok (.getfield 187, 3) := by decide +kernel
theorem dM_back_57 : decode cM_back 57 = .ok (.putfield 51, 3) := by decide +kernel
theorem dM_back_60 : decode cM_back 60 = .ok (.aload_n 0, 1) := by decide +kernel
theorem dM_back_61 : decode cM_back 61 = .ok (.getfield 51, 3) := by decide +kernel
theorem dM_back_64 : decode cM_back 64 = .ok (.ireturn, 1) := by decide +kernel
def lM_back_26 : Nat → (Nat → Int32) → (Nat → Nat → Int32) → Int32 → Option (Int32 × (Nat → Int32) × (Nat → Nat → Int32))
  | 0 => fun _ _ _ => none
  | k + 1 => fun iv av x1 => if (iv 12) ≤ x1 then (some ((upd iv 1 (iv 12)) 1, upd iv 1 (iv 12), av)) else (if x1 < 0 ∨ 32768 ≤ x1.toNatClampNeg then none else (if x1 < 0 ∨ 12000 ≤ x1.toNatClampNeg then none else (lM_back_26 k iv (up2 av 0 x1.toNatClampNeg (av 11 x1.toNatClampNeg)) (x1 + 1))))
def fM_back (iv : Nat → Int32) (av : Nat → Nat → Int32) : Option (Int32 × (Nat → Int32) × (Nat → Nat → Int32)) := if ((upd iv 0 (0 : Int32)) 12) = 0 then (some ((-1 : Int32), upd iv 0 (0 : Int32), av)) else (if ((upd iv 0 (0 : Int32)) 12) ≤ (12000 : Int32) then (lM_back_26 FU (upd iv 0 (0 : Int32)) av (0 : Int32)) else (some ((-1 : Int32), upd iv 0 (0 : Int32), av)))
set_option maxHeartbeats 4000000 in
set_option maxRecDepth 100000 in
theorem wM_back_26 {p : Program} {l : Launch} {e : Env} {s : State} {m : MethodId} {args : Array Value} {below : List Frame} {meth : Method} {c : Code} {g : gT} {q : Nat} {ad : Nat → Nat} {X : va_W} {rv : Option Value} {iv' : Nat → Int32} {av' : Nat → Nat → Int32} {r' : Int32} (C : mCx p m c cM_back 2 s args g "MidiDeskModel") (hr : meth.sig.returnType = (some .int)) (hlk : meth.locks = false) (hrv : rv = some (.int r')) (k : Nat) : ∀ (iv : Nat → Int32) (av : Nat → Nat → Int32) (x1 : Int32) (H : Heap) (locs : List Loc) (ls : Array Slot), lv_has ls 2 [(0, .ref q), (1, .int x1)] → mWd g (mA g q ad X s.heap.size) s.heap q ad X iv av H locs → lM_back_26 k iv av x1 = some (r', iv', av') → mG p l e rM_back s m args below meth c g q ad X rv iv' av' H locs 0 0 (F0 m 26 ls []) := by
  induction k with
  | zero => intro iv av x1 H locs ls hl hw hf; cases hf
  | succ k ih =>
    intro iv av x1 H locs ls hl hw hf
    have hf : (if (iv 12) ≤ x1 then (some ((upd iv 1 (iv 12)) 1, upd iv 1 (iv 12), av)) else (if x1 < 0 ∨ 32768 ≤ x1.toNatClampNeg then none else (if x1 < 0 ∨ 12000 ≤ x1.toNatClampNeg then none else (lM_back_26 k iv (up2 av 0 x1.toNatClampNeg (av 11 x1.toNatClampNeg)) (x1 + 1))))) = some (r', iv', av') := hf
    refine lv_iload_n C.1.1 C.1.2.1 dM_back_26 rfl (lv_at hl 1 rfl) ?_
    refine lv_aload_n C.1.1 C.1.2.1 dM_back_27 rfl (lv_at hl 0 rfl) ?_
    refine mg_writtenSize C hw dM_back_28 ?_
    refine lv_icmp_ge (tgt := 52) C.1.1 C.1.2.1 dM_back_31 (by decide) (fun c1 => ?_) (fun c1 => ?_)
    · have hf := ts_t hf c1
      refine lv_aload_n C.1.1 C.1.2.1 dM_back_52 rfl (lv_at hl 0 rfl) ?_
      refine lv_aload_n C.1.1 C.1.2.1 dM_back_53 rfl (lv_at hl 0 rfl) ?_
      refine mg_writtenSize C hw dM_back_54 ?_
      refine mp_size C hw dM_back_57 (fun H locs hw => ?_)
      refine lv_aload_n C.1.1 C.1.2.1 dM_back_60 rfl (lv_at hl 0 rfl) ?_
      refine mg_size C hw dM_back_61 ?_
      exact m_reti C hr hlk hrv hw hf ⟨Nat.le_of_ble_eq_true rfl, Nat.le_of_ble_eq_true rfl⟩ dM_back_64
    · have hf := ts_f hf c1
      refine lv_aload_n C.1.1 C.1.2.1 dM_back_34 rfl (lv_at hl 0 rfl) ?_
      refine mg_input C hw dM_back_35 ?_
      refine lv_iload_n C.1.1 C.1.2.1 dM_back_38 rfl (lv_at hl 1 rfl) ?_
      refine lv_aload_n C.1.1 C.1.2.1 dM_back_39 rfl (lv_at hl 0 rfl) ?_
      refine mg_written C hw dM_back_40 ?_
      refine lv_iload_n C.1.1 C.1.2.1 dM_back_43 rfl (lv_at hl 1 rfl) ?_
      obtain ⟨h2, hf⟩ := ts_g hf
      refine ma_written C hw h2 dM_back_44 ?_
      obtain ⟨h3, hf⟩ := ts_g hf
      refine ms_input C hw h3 dM_back_45 (fun H locs hw => ?_)
      refine lv_iinc (v := x1 + 1) (lv' := [(1, .int (x1 + 1)), (0, .ref q)]) C.1.1 C.1.2.1 dM_back_46 hl (k := 1) rfl rfl (by decide) rfl (fun ls hl => ?_)
      refine lv_goto (tgt := 26) C.1.1 C.1.2.1 dM_back_49 (by decide) ?_
      exact ih iv (up2 av 0 x1.toNatClampNeg (av 11 x1.toNatClampNeg)) (x1 + 1) _ _ ls (lv_sub hl [1, 0] rfl) hw hf
set_option maxHeartbeats 4000000 in
set_option maxRecDepth 100000 in
theorem cM_back_met {l : Launch} {g : gT} {q : Nat} {ad : Nat → Nat} {X : va_W} {iv iv' : Nat → Int32} {av av' : Nat → Nat → Int32} {r' : Int32} (hf : fM_back iv av = some (r', iv', av')) : mMet l yM_back cM_back 2 (some .int) rM_back g q ad X iv av [.ref q] (some (.int r')) iv' av' := by
  refine m_entry (by decide) (Nat.le_of_ble_eq_true rfl) ?_
  intro p e s m args below meth c ls C hr hlk hnm hl hw
  have hrv : ((some (.int r')) : Option Value) = (some (.int r')) := rfl
  have C : mCx p m c cM_back 2 s args g "MidiDeskModel" := C
  have hl : lv_has ls 2 [(0, .ref q)] := hl
  unfold fM_back at hf
  refine lv_aload_n C.1.1 C.1.2.1 dM_back_0 rfl (lv_at hl 0 rfl) ?_
  refine lv_iconst (v := (0 : Int32)) C.1.1 C.1.2.1 dM_back_1 (by decide) ?_
  refine mp_thrown C hw dM_back_2 (fun H locs hw => ?_)
  refine lv_aload_n C.1.1 C.1.2.1 dM_back_5 rfl (lv_at hl 0 rfl) ?_
  refine mg_writtenSize C hw dM_back_6 ?_
  refine lv_if_eq (tgt := 22) C.1.1 C.1.2.1 dM_back_9 (by decide) (fun c1 => ?_) (fun c1 => ?_)
  · have hf := ts_t hf c1
    refine lv_iconst (v := (-1 : Int32)) C.1.1 C.1.2.1 dM_back_22 (by decide) ?_
    exact m_reti C hr hlk hrv hw hf ⟨Nat.le_of_ble_eq_true rfl, Nat.le_of_ble_eq_true rfl⟩ dM_back_23
  · have hf := ts_f hf c1
    refine lv_aload_n C.1.1 C.1.2.1 dM_back_12 rfl (lv_at hl 0 rfl) ?_
    refine mg_writtenSize C hw dM_back_13 ?_
    refine lv_sipush (v := (12000 : Int32)) C.1.1 C.1.2.1 dM_back_16 (by decide) ?_
    refine lv_icmp_le (tgt := 24) C.1.1 C.1.2.1 dM_back_19 (by decide) (fun c2 => ?_) (fun c2 => ?_)
    · have hf := ts_t hf c2
      refine lv_iconst (v := (0 : Int32)) C.1.1 C.1.2.1 dM_back_24 (by decide) ?_
      refine lv_istore_n (lv' := [(1, .int (0 : Int32)), (0, .ref q)]) C.1.1 C.1.2.1 dM_back_25 rfl hl (by decide) rfl (fun ls hl => ?_)
      exact wM_back_26 C hr hlk hrv FU (upd iv 0 (0 : Int32)) av (0 : Int32) _ _ ls (lv_sub hl [1, 0] rfl) hw hf
    · have hf := ts_f hf c2
      refine lv_iconst (v := (-1 : Int32)) C.1.1 C.1.2.1 dM_back_22 (by decide) ?_
      exact m_reti C hr hlk hrv hw hf ⟨Nat.le_of_ble_eq_true rfl, Nat.le_of_ble_eq_true rfl⟩ dM_back_23
abbrev cM_counted : ByteArray := prog_8_method_42_code
abbrev yM_counted : MethodName := ⟨"MidiDeskModel", "counted", "(Z)I"⟩
theorem kM_counted : yM_counted.cls ≠ "java/lang/invoke/MethodHandle" ∧ yM_counted.cls ≠ "java/lang/invoke/VarHandle" ∧ (parseMethodDescriptor yM_counted.desc).map (fun d => d.parameters.length) = some 1 := by decide +kernel
abbrev rM_counted : Room := { frames := 1, cells := 0, slots := 0, locals := 21 }
theorem dM_counted_0 : decode cM_counted 0 = .ok (.iconst 0, 1) := by decide +kernel
theorem dM_counted_1 : decode cM_counted 1 = .ok (.istore_n 2, 1) := by decide +kernel
theorem dM_counted_2 : decode cM_counted 2 = .ok (.iconst 0, 1) := by decide +kernel
theorem dM_counted_3 : decode cM_counted 3 = .ok (.istore_n 3, 1) := by decide +kernel
theorem dM_counted_4 : decode cM_counted 4 = .ok (.iload_n 3, 1) := by decide +kernel
theorem dM_counted_5 : decode cM_counted 5 = .ok (.aload_n 0, 1) := by decide +kernel
theorem dM_counted_6 : decode cM_counted 6 = .ok (.getfield 95, 3) := by decide +kernel
theorem dM_counted_9 : decode cM_counted 9 = .ok (.if_icmp .ge 40, 3) := by decide +kernel
theorem dM_counted_12 : decode cM_counted 12 = .ok (.iload_n 2, 1) := by decide +kernel
theorem dM_counted_13 : decode cM_counted 13 = .ok (.iload_n 1, 1) := by decide +kernel
theorem dM_counted_14 : decode cM_counted 14 = .ok (.ifCond .eq 14, 3) := by decide +kernel
theorem dM_counted_17 : decode cM_counted 17 = .ok (.aload_n 0, 1) := by decide +kernel
theorem dM_counted_18 : decode cM_counted 18 = .ok (.iload_n 3, 1) := by decide +kernel
theorem dM_counted_19 : decode cM_counted 19 = .ok (.invokevirtual 154, 3) := by decide +kernel
theorem dM_counted_22 : decode cM_counted 22 = .ok (.ifCond .eq 18, 3) := by decide +kernel
theorem dM_counted_25 : decode cM_counted 25 = .ok (.goto 11, 3) := by decide +kernel
theorem dM_counted_28 : decode cM_counted 28 = .ok (.aload_n 0, 1) := by decide +kernel
theorem dM_counted_29 : decode cM_counted 29 = .ok (.iload_n 3, 1) := by decide +kernel
theorem dM_counted_30 : decode cM_counted 30 = .ok (.invokevirtual 169, 3) := by decide +kernel
theorem dM_counted_33 : decode cM_counted 33 = .ok (.ifCond .eq 7, 3) := by decide +kernel
theorem dM_counted_36 : decode cM_counted 36 = .ok (.iconst 1, 1) := by decide +kernel
theorem dM_counted_37 : decode cM_counted 37 = .ok (.goto 4, 3) := by decide +kernel
theorem dM_counted_40 : decode cM_counted 40 = .ok (.iconst 0, 1) := by decide +kernel
theorem dM_counted_41 : decode cM_counted 41 = .ok (.iadd, 1) := by decide +kernel
theorem dM_counted_42 : decode cM_counted 42 = .ok (.istore_n 2, 1) := by decide +kernel
theorem dM_counted_43 : decode cM_counted 43 = .ok (.iinc 3 1, 3) := by decide +kernel
theorem dM_counted_46 : decode cM_counted 46 = .ok (.goto (-42), 3) := by decide +kernel
theorem dM_counted_49 : decode cM_counted 49 = .ok (.iload_n 2, 1) := by decide +kernel
theorem dM_counted_50 : decode cM_counted 50 = .ok (.ireturn, 1) := by decide +kernel
def jM_counted_41 (K4 : (Nat → Int32) → (Nat → Nat → Int32) → Int32 → Int32 → Int32 → Option (Int32 × (Nat → Int32) × (Nat → Nat → Int32))) (iv : Nat → Int32) (av : Nat → Nat → Int32) (x1 : Int32) (x3 : Int32) (s0 : Int32) (s1 : Int32) : Option (Int32 × (Nat → Int32) × (Nat → Nat → Int32)) := K4 iv av x1 (s0 + s1) (x3 + 1)
def jM_counted_40 (K4 : (Nat → Int32) → (Nat → Nat → Int32) → Int32 → Int32 → Int32 → Option (Int32 × (Nat → Int32) × (Nat → Nat → Int32))) (iv : Nat → Int32) (av : Nat → Nat → Int32) (x1 : Int32) (x3 : Int32) (s0 : Int32) : Option (Int32 × (Nat → Int32) × (Nat → Nat → Int32)) := jM_counted_41 K4 iv av x1 x3 s0 (0 : Int32)
def jM_counted_36 (K4 : (Nat → Int32) → (Nat → Nat → Int32) → Int32 → Int32 → Int32 → Option (Int32 × (Nat → Int32) × (Nat → Nat → Int32))) (iv : Nat → Int32) (av : Nat → Nat → Int32) (x1 : Int32) (x3 : Int32) (s0 : Int32) : Option (Int32 × (Nat → Int32) × (Nat → Nat → Int32)) := jM_counted_41 K4 iv av x1 x3 s0 (1 : Int32)
def lM_counted_4 : Nat → (Nat → Int32) → (Nat → Nat → Int32) → Int32 → Int32 → Int32 → Option (Int32 × (Nat → Int32) × (Nat → Nat → Int32))
  | 0 => fun _ _ _ _ _ => none
  | k + 1 => fun iv av x1 x2 x3 => if (iv 10) ≤ x3 then (some (x2, iv, av)) else (if x1 = 0 then ((fM_begins iv av x3).bind fun (r3, iv3, av3) => if r3 = 0 then (jM_counted_40 (lM_counted_4 k) iv3 av3 x1 x3 x2) else (jM_counted_36 (lM_counted_4 k) iv3 av3 x1 x3 x2)) else ((fM_isTempo iv av x3).bind fun (r5, iv5, av5) => if r5 = 0 then (jM_counted_40 (lM_counted_4 k) iv5 av5 x1 x3 x2) else (jM_counted_36 (lM_counted_4 k) iv5 av5 x1 x3 x2)))
def fM_counted (iv : Nat → Int32) (av : Nat → Nat → Int32) (x1 : Int32) : Option (Int32 × (Nat → Int32) × (Nat → Nat → Int32)) := lM_counted_4 FU iv av x1 (0 : Int32) (0 : Int32)
set_option maxHeartbeats 4000000 in
set_option maxRecDepth 100000 in
theorem wM_counted_41 {p : Program} {l : Launch} {e : Env} {s : State} {m : MethodId} {args : Array Value} {below : List Frame} {meth : Method} {c : Code} {g : gT} {q : Nat} {ad : Nat → Nat} {X : va_W} {rv : Option Value} {iv' : Nat → Int32} {av' : Nat → Nat → Int32} {r' : Int32} (C : mCx p m c cM_counted 4 s args g "MidiDeskModel") (hr : meth.sig.returnType = (some .int)) (hlk : meth.locks = false) (hrv : rv = some (.int r')) {K4 : (Nat → Int32) → (Nat → Nat → Int32) → Int32 → Int32 → Int32 → Option (Int32 × (Nat → Int32) × (Nat → Nat → Int32))} (hK4 : ∀ (iv : Nat → Int32) (av : Nat → Nat → Int32) (x1 : Int32) (x2 : Int32) (x3 : Int32) (H : Heap) (locs : List Loc) (ls : Array Slot), lv_has ls 4 [(0, .ref q), (1, .int x1), (2, .int x2), (3, .int x3)] → mWd g (mA g q ad X s.heap.size) s.heap q ad X iv av H locs → K4 iv av x1 x2 x3 = some (r', iv', av') → mG p l e rM_counted s m args below meth c g q ad X rv iv' av' H locs 0 0 (F0 m 4 ls [])) (iv : Nat → Int32) (av : Nat → Nat → Int32) (x1 : Int32) (x3 : Int32) (s0 : Int32) (s1 : Int32) (H : Heap) (locs : List Loc) (ls : Array Slot) (hl : lv_has ls 4 [(0, .ref q), (1, .int x1), (3, .int x3)]) (hw : mWd g (mA g q ad X s.heap.size) s.heap q ad X iv av H locs) (hf : jM_counted_41 K4 iv av x1 x3 s0 s1 = some (r', iv', av')) : mG p l e rM_counted s m args below meth c g q ad X rv iv' av' H locs 0 0 (F0 m 41 ls [.int s1, .int s0]) := by
  unfold jM_counted_41 at hf
  refine lv_iadd C.1.1 C.1.2.1 dM_counted_41 ?_
  refine lv_istore_n (lv' := [(2, .int (s0 + s1)), (0, .ref q), (1, .int x1), (3, .int x3)]) C.1.1 C.1.2.1 dM_counted_42 rfl hl (by decide) rfl (fun ls hl => ?_)
  refine lv_iinc (v := x3 + 1) (lv' := [(3, .int (x3 + 1)), (2, .int (s0 + s1)), (0, .ref q), (1, .int x1)]) C.1.1 C.1.2.1 dM_counted_43 hl (k := 3) rfl rfl (by decide) rfl (fun ls hl => ?_)
  refine lv_goto (tgt := 4) C.1.1 C.1.2.1 dM_counted_46 (by decide) ?_
  exact hK4 iv av x1 (s0 + s1) (x3 + 1) _ _ ls (lv_sub hl [2, 3, 1, 0] rfl) hw hf
set_option maxHeartbeats 4000000 in
set_option maxRecDepth 100000 in
theorem wM_counted_40 {p : Program} {l : Launch} {e : Env} {s : State} {m : MethodId} {args : Array Value} {below : List Frame} {meth : Method} {c : Code} {g : gT} {q : Nat} {ad : Nat → Nat} {X : va_W} {rv : Option Value} {iv' : Nat → Int32} {av' : Nat → Nat → Int32} {r' : Int32} (C : mCx p m c cM_counted 4 s args g "MidiDeskModel") (hr : meth.sig.returnType = (some .int)) (hlk : meth.locks = false) (hrv : rv = some (.int r')) {K4 : (Nat → Int32) → (Nat → Nat → Int32) → Int32 → Int32 → Int32 → Option (Int32 × (Nat → Int32) × (Nat → Nat → Int32))} (hK4 : ∀ (iv : Nat → Int32) (av : Nat → Nat → Int32) (x1 : Int32) (x2 : Int32) (x3 : Int32) (H : Heap) (locs : List Loc) (ls : Array Slot), lv_has ls 4 [(0, .ref q), (1, .int x1), (2, .int x2), (3, .int x3)] → mWd g (mA g q ad X s.heap.size) s.heap q ad X iv av H locs → K4 iv av x1 x2 x3 = some (r', iv', av') → mG p l e rM_counted s m args below meth c g q ad X rv iv' av' H locs 0 0 (F0 m 4 ls [])) (iv : Nat → Int32) (av : Nat → Nat → Int32) (x1 : Int32) (x3 : Int32) (s0 : Int32) (H : Heap) (locs : List Loc) (ls : Array Slot) (hl : lv_has ls 4 [(0, .ref q), (1, .int x1), (3, .int x3)]) (hw : mWd g (mA g q ad X s.heap.size) s.heap q ad X iv av H locs) (hf : jM_counted_40 K4 iv av x1 x3 s0 = some (r', iv', av')) : mG p l e rM_counted s m args below meth c g q ad X rv iv' av' H locs 0 0 (F0 m 40 ls [.int s0]) := by
  unfold jM_counted_40 at hf
  refine lv_iconst (v := (0 : Int32)) C.1.1 C.1.2.1 dM_counted_40 (by decide) ?_
  exact wM_counted_41 C hr hlk hrv hK4 iv av x1 x3 s0 (0 : Int32) _ _ ls (lv_sub hl [0, 1, 2] rfl) hw hf
set_option maxHeartbeats 4000000 in
set_option maxRecDepth 100000 in
theorem wM_counted_36 {p : Program} {l : Launch} {e : Env} {s : State} {m : MethodId} {args : Array Value} {below : List Frame} {meth : Method} {c : Code} {g : gT} {q : Nat} {ad : Nat → Nat} {X : va_W} {rv : Option Value} {iv' : Nat → Int32} {av' : Nat → Nat → Int32} {r' : Int32} (C : mCx p m c cM_counted 4 s args g "MidiDeskModel") (hr : meth.sig.returnType = (some .int)) (hlk : meth.locks = false) (hrv : rv = some (.int r')) {K4 : (Nat → Int32) → (Nat → Nat → Int32) → Int32 → Int32 → Int32 → Option (Int32 × (Nat → Int32) × (Nat → Nat → Int32))} (hK4 : ∀ (iv : Nat → Int32) (av : Nat → Nat → Int32) (x1 : Int32) (x2 : Int32) (x3 : Int32) (H : Heap) (locs : List Loc) (ls : Array Slot), lv_has ls 4 [(0, .ref q), (1, .int x1), (2, .int x2), (3, .int x3)] → mWd g (mA g q ad X s.heap.size) s.heap q ad X iv av H locs → K4 iv av x1 x2 x3 = some (r', iv', av') → mG p l e rM_counted s m args below meth c g q ad X rv iv' av' H locs 0 0 (F0 m 4 ls [])) (iv : Nat → Int32) (av : Nat → Nat → Int32) (x1 : Int32) (x3 : Int32) (s0 : Int32) (H : Heap) (locs : List Loc) (ls : Array Slot) (hl : lv_has ls 4 [(0, .ref q), (1, .int x1), (3, .int x3)]) (hw : mWd g (mA g q ad X s.heap.size) s.heap q ad X iv av H locs) (hf : jM_counted_36 K4 iv av x1 x3 s0 = some (r', iv', av')) : mG p l e rM_counted s m args below meth c g q ad X rv iv' av' H locs 0 0 (F0 m 36 ls [.int s0]) := by
  unfold jM_counted_36 at hf
  refine lv_iconst (v := (1 : Int32)) C.1.1 C.1.2.1 dM_counted_36 (by decide) ?_
  refine lv_goto (tgt := 41) C.1.1 C.1.2.1 dM_counted_37 (by decide) ?_
  exact wM_counted_41 C hr hlk hrv hK4 iv av x1 x3 s0 (1 : Int32) _ _ ls (lv_sub hl [0, 1, 2] rfl) hw hf
set_option maxHeartbeats 4000000 in
set_option maxRecDepth 100000 in
theorem wM_counted_4 {p : Program} {l : Launch} {e : Env} {s : State} {m : MethodId} {args : Array Value} {below : List Frame} {meth : Method} {c : Code} {g : gT} {q : Nat} {ad : Nat → Nat} {X : va_W} {rv : Option Value} {iv' : Nat → Int32} {av' : Nat → Nat → Int32} {r' : Int32} (C : mCx p m c cM_counted 4 s args g "MidiDeskModel") (hr : meth.sig.returnType = (some .int)) (hlk : meth.locks = false) (hrv : rv = some (.int r')) (k : Nat) : ∀ (iv : Nat → Int32) (av : Nat → Nat → Int32) (x1 : Int32) (x2 : Int32) (x3 : Int32) (H : Heap) (locs : List Loc) (ls : Array Slot), lv_has ls 4 [(0, .ref q), (1, .int x1), (2, .int x2), (3, .int x3)] → mWd g (mA g q ad X s.heap.size) s.heap q ad X iv av H locs → lM_counted_4 k iv av x1 x2 x3 = some (r', iv', av') → mG p l e rM_counted s m args below meth c g q ad X rv iv' av' H locs 0 0 (F0 m 4 ls []) := by
  induction k with
  | zero => intro iv av x1 x2 x3 H locs ls hl hw hf; cases hf
  | succ k ih =>
    intro iv av x1 x2 x3 H locs ls hl hw hf
    have hf : (if (iv 10) ≤ x3 then (some (x2, iv, av)) else (if x1 = 0 then ((fM_begins iv av x3).bind fun (r3, iv3, av3) => if r3 = 0 then (jM_counted_40 (lM_counted_4 k) iv3 av3 x1 x3 x2) else (jM_counted_36 (lM_counted_4 k) iv3 av3 x1 x3 x2)) else ((fM_isTempo iv av x3).bind fun (r5, iv5, av5) => if r5 = 0 then (jM_counted_40 (lM_counted_4 k) iv5 av5 x1 x3 x2) else (jM_counted_36 (lM_counted_4 k) iv5 av5 x1 x3 x2)))) = some (r', iv', av') := hf
    refine lv_iload_n C.1.1 C.1.2.1 dM_counted_4 rfl (lv_at hl 3 rfl) ?_
    refine lv_aload_n C.1.1 C.1.2.1 dM_counted_5 rfl (lv_at hl 0 rfl) ?_
    refine mg_events C hw dM_counted_6 ?_
    refine lv_icmp_ge (tgt := 49) C.1.1 C.1.2.1 dM_counted_9 (by decide) (fun c1 => ?_) (fun c1 => ?_)
    · have hf := ts_t hf c1
      refine lv_iload_n C.1.1 C.1.2.1 dM_counted_49 rfl (lv_at hl 2 rfl) ?_
      exact m_reti C hr hlk hrv hw hf ⟨Nat.le_of_ble_eq_true rfl, Nat.le_of_ble_eq_true rfl⟩ dM_counted_50
    · have hf := ts_f hf c1
      refine lv_iload_n C.1.1 C.1.2.1 dM_counted_12 rfl (lv_at hl 2 rfl) ?_
      refine lv_iload_n C.1.1 C.1.2.1 dM_counted_13 rfl (lv_at hl 1 rfl) ?_
      refine lv_if_eq (tgt := 28) C.1.1 C.1.2.1 dM_counted_14 (by decide) (fun c2 => ?_) (fun c2 => ?_)
      · have hf := ts_t hf c2
        refine lv_aload_n C.1.1 C.1.2.1 dM_counted_28 rfl (lv_at hl 0 rfl) ?_
        refine lv_iload_n C.1.1 C.1.2.1 dM_counted_29 rfl (lv_at hl 3 rfl) ?_
        obtain ⟨⟨r3, iv3, av3⟩, g3, hf⟩ := ts_b hf
        dsimp only at hf
        refine m_callV (rest := [.int x2]) (As := [.int x3]) (rv := (some (.int r3))) C hl.1 hw (cM_begins_met g3) (callW_of (rm := rM_begins) 1 C.1.2.2.2.2 gw_905 gw_907 gw_43 gw_55 gw_908 kM_begins ⟨Nat.le_of_ble_eq_true rfl, Nat.le_of_ble_eq_true rfl⟩) rfl rfl (Nat.le_of_ble_eq_true rfl) dM_counted_30 ⟨Nat.le_of_ble_eq_true rfl, Nat.le_of_ble_eq_true rfl⟩ (fun H locs hw => ?_)
        refine W.eq (g2 := F0 m 33 ls [.int r3, .int x2]) rfl ?_
        refine lv_if_eq (tgt := 40) C.1.1 C.1.2.1 dM_counted_33 (by decide) (fun c4 => ?_) (fun c4 => ?_)
        · have hf := ts_t hf c4
          exact wM_counted_40 C hr hlk hrv ih iv3 av3 x1 x3 x2 _ _ ls (lv_sub hl [0, 1, 3] rfl) hw hf
        · have hf := ts_f hf c4
          exact wM_counted_36 C hr hlk hrv ih iv3 av3 x1 x3 x2 _ _ ls (lv_sub hl [0, 1, 3] rfl) hw hf
      · have hf := ts_f hf c2
        refine lv_aload_n C.1.1 C.1.2.1 dM_counted_17 rfl (lv_at hl 0 rfl) ?_
        refine lv_iload_n C.1.1 C.1.2.1 dM_counted_18 rfl (lv_at hl 3 rfl) ?_
        obtain ⟨⟨r5, iv5, av5⟩, g5, hf⟩ := ts_b hf
        dsimp only at hf
        refine m_callV (rest := [.int x2]) (As := [.int x3]) (rv := (some (.int r5))) C hl.1 hw (cM_isTempo_met g5) (callW_of (rm := rM_isTempo) 1 C.1.2.2.2.2 gw_888 gw_890 gw_41 gw_55 gw_891 kM_isTempo ⟨Nat.le_of_ble_eq_true rfl, Nat.le_of_ble_eq_true rfl⟩) rfl rfl (Nat.le_of_ble_eq_true rfl) dM_counted_19 ⟨Nat.le_of_ble_eq_true rfl, Nat.le_of_ble_eq_true rfl⟩ (fun H locs hw => ?_)
        refine W.eq (g2 := F0 m 22 ls [.int r5, .int x2]) rfl ?_
        refine lv_if_eq (tgt := 40) C.1.1 C.1.2.1 dM_counted_22 (by decide) (fun c6 => ?_) (fun c6 => ?_)
        · have hf := ts_t hf c6
          exact wM_counted_40 C hr hlk hrv ih iv5 av5 x1 x3 x2 _ _ ls (lv_sub hl [0, 1, 3] rfl) hw hf
        · have hf := ts_f hf c6
          refine lv_goto (tgt := 36) C.1.1 C.1.2.1 dM_counted_25 (by decide) ?_
          exact wM_counted_36 C hr hlk hrv ih iv5 av5 x1 x3 x2 _ _ ls (lv_sub hl [0, 1, 3] rfl) hw hf
set_option maxHeartbeats 4000000 in
set_option maxRecDepth 100000 in
theorem cM_counted_met {l : Launch} {g : gT} {q : Nat} {ad : Nat → Nat} {X : va_W} {iv iv' : Nat → Int32} {av av' : Nat → Nat → Int32} {x1 : Int32} {r' : Int32} (hf : fM_counted iv av x1 = some (r', iv', av')) : mMet l yM_counted cM_counted 4 (some .int) rM_counted g q ad X iv av [.ref q, .int x1] (some (.int r')) iv' av' := by
  refine m_entry (by decide) (Nat.le_of_ble_eq_true rfl) ?_
  intro p e s m args below meth c ls C hr hlk hnm hl hw
  have hrv : ((some (.int r')) : Option Value) = (some (.int r')) := rfl
  have C : mCx p m c cM_counted 4 s args g "MidiDeskModel" := C
  have hl : lv_has ls 4 [(0, .ref q), (1, .int x1)] := hl
  unfold fM_counted at hf
  refine lv_iconst (v := (0 : Int32)) C.1.1 C.1.2.1 dM_counted_0 (by decide) ?_
  refine lv_istore_n (lv' := [(2, .int (0 : Int32)), (0, .ref q), (1, .int x1)]) C.1.1 C.1.2.1 dM_counted_1 rfl hl (by decide) rfl (fun ls hl => ?_)
  refine lv_iconst (v := (0 : Int32)) C.1.1 C.1.2.1 dM_counted_2 (by decide) ?_
  refine lv_istore_n (lv' := [(3, .int (0 : Int32)), (2, .int (0 : Int32)), (0, .ref q), (1, .int x1)]) C.1.1 C.1.2.1 dM_counted_3 rfl hl (by decide) rfl (fun ls hl => ?_)
  exact wM_counted_4 C hr hlk hrv FU iv av x1 (0 : Int32) (0 : Int32) _ _ ls (lv_sub hl [2, 3, 1, 0] rfl) hw hf
abbrev cM_count : ByteArray := prog_8_method_43_code
abbrev yM_count : MethodName := ⟨"MidiDeskModel", "count", "(I)I"⟩
theorem kM_count : yM_count.cls ≠ "java/lang/invoke/MethodHandle" ∧ yM_count.cls ≠ "java/lang/invoke/VarHandle" ∧ (parseMethodDescriptor yM_count.desc).map (fun d => d.parameters.length) = some 1 := by decide +kernel
abbrev rM_count : Room := { frames := 2, cells := 0, slots := 0, locals := 44 }
theorem dM_count_0 : decode cM_count 0 = .ok (.aload_n 0, 1) := by decide +kernel
theorem dM_count_1 : decode cM_count 1 = .ok (.iconst 0, 1) := by decide +kernel
theorem dM_count_2 : decode cM_count 2 = .ok (.putfield 47, 3) := by decide +kernel
theorem dM_count_5 : decode cM_count 5 = .ok (.iload_n 1, 1) := by decide +kernel
theorem dM_count_6 : decode cM_count 6 = .ok (.iconst 1, 1) := by decide +kernel
theorem dM_count_7 : decode cM_count 7 = .ok (.if_icmp .le 8, 3) := by decide +kernel
theorem dM_count_10 : decode cM_count 10 = .ok (.iload_n 1, 1) := by decide +kernel
theorem dM_count_11 : decode cM_count 11 = .ok (.iconst 5, 1) := by decide +kernel
theorem dM_count_12 : decode cM_count 12 = .ok (.if_icmp .lt 9, 3) := by decide +kernel
theorem dM_count_15 : decode cM_count 15 = .ok (.iload_n 1, 1) := by decide +kernel
theorem dM_count_16 : decode cM_count 16 = .ok (.bipush 9, 2) := by decide +kernel
theorem dM_count_18 : decode cM_count 18 = .ok (.if_icmp .ne 56, 3) := by decide +kernel
theorem dM_count_21 : decode cM_count 21 = .ok (.aload_n 0, 1) := by decide +kernel
theorem dM_count_22 : decode cM_count 22 = .ok (.getfield 110, 3) := by decide +kernel
theorem dM_count_25 : decode cM_count 25 = .ok (.ifCond .ne 7, 3) := by decide +kernel
theorem dM_count_28 : decode cM_count 28 = .ok (.iconst (-1), 1) := by decide +kernel
theorem dM_count_29 : decode cM_count 29 = .ok (.goto 44, 3) := by decide +kernel
theorem dM_count_32 : decode cM_count 32 = .ok (.iload_n 1, 1) := by decide +kernel
theorem dM_count_33 : decode cM_count 33 = .ok (.iconst 2, 1) := by decide +kernel
theorem dM_count_34 : decode cM_count 34 = .ok (.if_icmp .ne 10, 3) := by decide +kernel
theorem dM_count_37 : decode cM_count 37 = .ok (.aload_n 0, 1) := by decide +kernel
theorem dM_count_38 : decode cM_count 38 = .ok (.getfield 82, 3) := by decide +kernel
theorem dM_count_41 : decode cM_count 41 = .ok (.goto 32, 3) := by decide +kernel
theorem dM_count_44 : decode cM_count 44 = .ok (.iload_n 1, 1) := by decide +kernel
theorem dM_count_45 : decode cM_count 45 = .ok (.iconst 3, 1) := by decide +kernel
theorem dM_count_46 : decode cM_count 46 = .ok (.if_icmp .ne 10, 3) := by decide +kernel
theorem dM_count_49 : decode cM_count 49 = .ok (.aload_n 0, 1) := by decide +kernel
theorem dM_count_50 : decode cM_count 50 = .ok (.getfield 85, 3) := by decide +kernel
theorem dM_count_53 : decode cM_count 53 = .ok (.goto 20, 3) := by decide +kernel
theorem dM_count_56 : decode cM_count 56 = .ok (.iload_n 1, 1) := by decide +kernel
theorem dM_count_57 : decode cM_count 57 = .ok (.iconst 4, 1) := by decide +kernel
theorem dM_count_58 : decode cM_count 58 = .ok (.if_icmp .ne 10, 3) := by decide +kernel
theorem dM_count_61 : decode cM_count 61 = .ok (.aload_n 0, 1) := by decide +kernel
theorem dM_count_62 : decode cM_count 62 = .ok (.getfield 88, 3) := by decide +kernel
theorem dM_count_65 : decode cM_count 65 = .ok (.goto 8, 3) := by decide +kernel
theorem dM_count_68 : decode cM_count 68 = .ok (.aload_n 0, 1) := by decide +kernel
theorem dM_count_69 : decode cM_count 69 = .ok (.invokevirtual 165, 3) := by decide +kernel
theorem dM_count_72 : decode cM_count 72 = .ok (.l2i, 1) := by decide +kernel
theorem dM_count_73 : decode cM_count 73 = .ok (.ireturn, 1) := by decide +kernel
theorem dM_count_74 : decode cM_count 74 = .ok (.iload_n 1, 1) := by decide +kernel
theorem dM_count_75 : decode cM_count 75 = .ok (.tableswitch 137 0 8 #[49, 54, 137, 137, 137, 70, 105, 105, 132], 49) := by decide +kernel
theorem dM_count_124 : decode cM_count 124 = .ok (.aload_n 0, 1) := by decide +kernel
theorem dM_count_125 : decode cM_count 125 = .ok (.getfield 51, 3) := by decide +kernel
theorem dM_count_128 : decode cM_count 128 = .ok (.ireturn, 1) := by decide +kernel
theorem dM_count_129 : decode cM_count 129 = .ok (.aload_n 0, 1) := by decide +kernel
theorem dM_count_130 : decode cM_count 130 = .ok (.getfield 110, 3) := by decide +kernel
theorem dM_count_133 : decode cM_count 133 = .ok (.ifCond .eq 10, 3) := by decide +kernel
theorem dM_count_136 : decode cM_count 136 = .ok (.aload_n 0, 1) := by decide +kernel
theorem dM_count_137 : decode cM_count 137 = .ok (.getfield 95, 3) := by decide +kernel
theorem dM_count_140 : decode cM_count 140 = .ok (.goto 4, 3) := by decide +kernel
theorem dM_count_143 : decode cM_count 143 = .ok (.iconst 0, 1) := by decide +kernel
theorem dM_count_144 : decode cM_count 144 = .ok (.ireturn, 1) := by decide +kernel
theorem dM_count_145 : decode cM_count 145 = .ok (.aload_n 0, 1) := by decide +kernel
theorem dM_count_146 : decode cM_count 146 = .ok (.getfield 110, 3) := by decide +kernel
theorem dM_count_149 : decode cM_count 149 = .ok (.ifCond .eq 29, 3) := by decide +kernel
theorem dM_count_152 : decode cM_count 152 = .ok (.aload_n 0, 1) := by decide +kernel
theorem dM_count_153 : decode cM_count 153 = .ok (.getfield 95, 3) := by decide +kernel
theorem dM_count_156 : decode cM_count 156 = .ok (.ifCond .le 22, 3) := by decide +kernel
theorem dM_count_159 : decode cM_count 159 = .ok (.aload_n 0, 1) := by decide +kernel
theorem dM_count_160 : decode cM_count 160 = .ok (.getfield 13, 3) := by decide +kernel
theorem dM_count_163 : decode cM_count 163 = .ok (.aload_n 0, 1) := by decide +kernel
theorem dM_count_164 : decode cM_count 164 = .ok (.getfield 34, 3) := by decide +kernel
theorem dM_count_167 : decode cM_count 167 = .ok (.aload_n 0, 1) := by decide +kernel
theorem dM_count_168 : decode cM_count 168 = .ok (.getfield 95, 3) := by decide +kernel
theorem dM_count_171 : decode cM_count 171 = .ok (.iconst 1, 1) := by decide +kernel
theorem dM_count_172 : decode cM_count 172 = .ok (.isub, 1) := by decide +kernel
theorem dM_count_173 : decode cM_count 173 = .ok (.iaload, 1) := by decide +kernel
theorem dM_count_174 : decode cM_count 174 = .ok (.iaload, 1) := by decide +kernel
theorem dM_count_175 : decode cM_count 175 = .ok (.goto 4, 3) := by decide +kernel
theorem dM_count_178 : decode cM_count 178 = .ok (.iconst 0, 1) := by decide +kernel
theorem dM_count_179 : decode cM_count 179 = .ok (.ireturn, 1) := by decide +kernel
theorem dM_count_180 : decode cM_count 180 = .ok (.aload_n 0, 1) := by decide +kernel
theorem dM_count_181 : decode cM_count 181 = .ok (.getfield 110, 3) := by decide +kernel
theorem dM_count_184 : decode cM_count 184 = .ok (.ifCond .eq 21, 3) := by decide +kernel
theorem dM_count_187 : decode cM_count 187 = .ok (.aload_n 0, 1) := by decide +kernel
theorem dM_count_188 : decode cM_count 188 = .ok (.iload_n 1, 1) := by decide +kernel
theorem dM_count_189 : decode cM_count 189 = .ok (.bipush 6, 2) := by decide +kernel
theorem dM_count_191 : decode cM_count 191 = .ok (.if_icmp .ne 7, 3) := by decide +kernel
theorem dM_count_194 : decode cM_count 194 = .ok (.iconst 1, 1) := by decide +kernel
theorem dM_count_195 : decode cM_count 195 = .ok (.goto 4, 3) := by decide +kernel
theorem dM_count_198 : decode cM_count 198 = .ok (.iconst 0, 1) := by decide +kernel
theorem dM_count_199 : decode cM_count 199 = .ok (.invokevirtual 206, 3) := by decide +kernel
theorem dM_count_202 : decode cM_count 202 = .ok (.goto 4, 3) := by decide +kernel
theorem dM_count_205 : decode cM_count 205 = .ok (.iconst 0, 1) := by decide +kernel
theorem dM_count_206 : decode cM_count 206 = .ok (.ireturn, 1) := by decide +kernel
theorem dM_count_207 : decode cM_count 207 = .ok (.aload_n 0, 1) := by decide +kernel
theorem dM_count_208 : decode cM_count 208 = .ok (.getfield 187, 3) := by decide +kernel
theorem dM_count_211 : decode cM_count 211 = .ok (.ireturn, 1) := by decide +kernel
theorem dM_count_212 : decode cM_count 212 = .ok (.iconst (-1), 1) := by decide +kernel
theorem dM_count_213 : decode cM_count 213 = .ok (.ireturn, 1) := by decide +kernel
def jM_count_21 (iv : Nat → Int32) (av : Nat → Nat → Int32) (x1 : Int32) : Option (Int32 × (Nat → Int32) × (Nat → Nat → Int32)) := if (iv 6) = 0 then (some ((-1 : Int32), iv, av)) else (if x1 = (2 : Int32) then (some (iv 7, iv, av)) else (if x1 = (3 : Int32) then (some (iv 8, iv, av)) else (if x1 = (4 : Int32) then (some (iv 9, iv, av)) else ((fM_parts iv av).bind fun (r5, iv5, av5) => some (r5.toInt32, iv5, av5)))))
def jM_count_15 (iv : Nat → Int32) (av : Nat → Nat → Int32) (x1 : Int32) : Option (Int32 × (Nat → Int32) × (Nat → Nat → Int32)) := if x1 = (9 : Int32) then (jM_count_21 iv av x1) else (if x1 = 0 then (some (iv 1, iv, av)) else (if x1 = 1 then (if (iv 6) = 0 then (some ((0 : Int32), iv, av)) else (some (iv 10, iv, av))) else (if x1 = 5 then (if (iv 6) = 0 then (some ((0 : Int32), iv, av)) else (if (iv 10) ≤ 0 then (some ((0 : Int32), iv, av)) else (if ((iv 10) - (1 : Int32)) < 0 ∨ 1001 ≤ ((iv 10) - (1 : Int32)).toNatClampNeg then none else (if (av 8 ((iv 10) - (1 : Int32)).toNatClampNeg) < 0 ∨ 1001 ≤ (av 8 ((iv 10) - (1 : Int32)).toNatClampNeg).toNatClampNeg then none else (some (av 1 (av 8 ((iv 10) - (1 : Int32)).toNatClampNeg).toNatClampNeg, iv, av)))))) else (if x1 = 6 then (if (iv 6) = 0 then (some ((0 : Int32), iv, av)) else (if x1 = (6 : Int32) then ((fM_counted iv av (1 : Int32)).bind fun (r14, iv14, av14) => some (r14, iv14, av14)) else ((fM_counted iv av (0 : Int32)).bind fun (r13, iv13, av13) => some (r13, iv13, av13)))) else (if x1 = 7 then (if (iv 6) = 0 then (some ((0 : Int32), iv, av)) else (if x1 = (6 : Int32) then ((fM_counted iv av (1 : Int32)).bind fun (r19, iv19, av19) => some (r19, iv19, av19)) else ((fM_counted iv av (0 : Int32)).bind fun (r18, iv18, av18) => some (r18, iv18, av18)))) else (if x1 = 8 then (some (iv 12, iv, av)) else (some ((-1 : Int32), iv, av))))))))
def fM_count (iv : Nat → Int32) (av : Nat → Nat → Int32) (x1 : Int32) : Option (Int32 × (Nat → Int32) × (Nat → Nat → Int32)) := if x1 ≤ (1 : Int32) then (jM_count_15 (upd iv 0 (0 : Int32)) av x1) else (if x1 < (5 : Int32) then (jM_count_21 (upd iv 0 (0 : Int32)) av x1) else (jM_count_15 (upd iv 0 (0 : Int32)) av x1))
set_option maxHeartbeats 4000000 in
set_option maxRecDepth 100000 in
theorem wM_count_21 {p : Program} {l : Launch} {e : Env} {s : State} {m : MethodId} {args : Array Value} {below : List Frame} {meth : Method} {c : Code} {g : gT} {q : Nat} {ad : Nat → Nat} {X : va_W} {rv : Option Value} {iv' : Nat → Int32} {av' : Nat → Nat → Int32} {r' : Int32} (C : mCx p m c cM_count 2 s args g "MidiDeskModel") (hr : meth.sig.returnType = (some .int)) (hlk : meth.locks = false) (hrv : rv = some (.int r')) (iv : Nat → Int32) (av : Nat → Nat → Int32) (x1 : Int32) (H : Heap) (locs : List Loc) (ls : Array Slot) (hl : lv_has ls 2 [(0, .ref q), (1, .int x1)]) (hw : mWd g (mA g q ad X s.heap.size) s.heap q ad X iv av H locs) (hf : jM_count_21 iv av x1 = some (r', iv', av')) : mG p l e rM_count s m args below meth c g q ad X rv iv' av' H locs 0 0 (F0 m 21 ls []) := by
  unfold jM_count_21 at hf
  refine lv_aload_n C.1.1 C.1.2.1 dM_count_21 rfl (lv_at hl 0 rfl) ?_
  refine mg_there C hw dM_count_22 ?_
  refine lv_if_ne (tgt := 32) C.1.1 C.1.2.1 dM_count_25 (by decide) (fun c1 => ?_) (fun c1 => ?_)
  · have hf := ts_f hf c1
    refine lv_iload_n C.1.1 C.1.2.1 dM_count_32 rfl (lv_at hl 1 rfl) ?_
    refine lv_iconst (v := (2 : Int32)) C.1.1 C.1.2.1 dM_count_33 (by decide) ?_
    refine lv_icmp_ne (tgt := 44) C.1.1 C.1.2.1 dM_count_34 (by decide) (fun c2 => ?_) (fun c2 => ?_)
    · have hf := ts_f hf c2
      refine lv_iload_n C.1.1 C.1.2.1 dM_count_44 rfl (lv_at hl 1 rfl) ?_
      refine lv_iconst (v := (3 : Int32)) C.1.1 C.1.2.1 dM_count_45 (by decide) ?_
      refine lv_icmp_ne (tgt := 56) C.1.1 C.1.2.1 dM_count_46 (by decide) (fun c3 => ?_) (fun c3 => ?_)
      · have hf := ts_f hf c3
        refine lv_iload_n C.1.1 C.1.2.1 dM_count_56 rfl (lv_at hl 1 rfl) ?_
        refine lv_iconst (v := (4 : Int32)) C.1.1 C.1.2.1 dM_count_57 (by decide) ?_
        refine lv_icmp_ne (tgt := 68) C.1.1 C.1.2.1 dM_count_58 (by decide) (fun c4 => ?_) (fun c4 => ?_)
        · have hf := ts_f hf c4
          refine lv_aload_n C.1.1 C.1.2.1 dM_count_68 rfl (lv_at hl 0 rfl) ?_
          obtain ⟨⟨r5, iv5, av5⟩, g5, hf⟩ := ts_b hf
          dsimp only at hf
          refine m_callV (rest := []) (As := []) (rv := (some (.long r5))) C hl.1 hw (cM_parts_met g5) (callW_of (rm := rM_parts) 0 C.1.2.2.2.2 gw_892 gw_894 gw_42 gw_55 gw_895 kM_parts ⟨Nat.le_of_ble_eq_true rfl, Nat.le_of_ble_eq_true rfl⟩) rfl rfl (Nat.le_of_ble_eq_true rfl) dM_count_69 ⟨Nat.le_of_ble_eq_true rfl, Nat.le_of_ble_eq_true rfl⟩ (fun H locs hw => ?_)
          refine W.eq (g2 := F0 m 72 ls [.long r5]) rfl ?_
          refine lv_l2i C.1.1 C.1.2.1 dM_count_72 rfl ?_
          exact m_reti C hr hlk hrv hw hf ⟨Nat.le_of_ble_eq_true rfl, Nat.le_of_ble_eq_true rfl⟩ dM_count_73
        · have hf := ts_t hf c4
          refine lv_aload_n C.1.1 C.1.2.1 dM_count_61 rfl (lv_at hl 0 rfl) ?_
          refine mg_division C hw dM_count_62 ?_
          refine lv_goto (tgt := 73) C.1.1 C.1.2.1 dM_count_65 (by decide) ?_
          exact m_reti C hr hlk hrv hw hf ⟨Nat.le_of_ble_eq_true rfl, Nat.le_of_ble_eq_true rfl⟩ dM_count_73
      · have hf := ts_t hf c3
        refine lv_aload_n C.1.1 C.1.2.1 dM_count_49 rfl (lv_at hl 0 rfl) ?_
        refine mg_tracks C hw dM_count_50 ?_
        refine lv_goto (tgt := 73) C.1.1 C.1.2.1 dM_count_53 (by decide) ?_
        exact m_reti C hr hlk hrv hw hf ⟨Nat.le_of_ble_eq_true rfl, Nat.le_of_ble_eq_true rfl⟩ dM_count_73
    · have hf := ts_t hf c2
      refine lv_aload_n C.1.1 C.1.2.1 dM_count_37 rfl (lv_at hl 0 rfl) ?_
      refine mg_format C hw dM_count_38 ?_
      refine lv_goto (tgt := 73) C.1.1 C.1.2.1 dM_count_41 (by decide) ?_
      exact m_reti C hr hlk hrv hw hf ⟨Nat.le_of_ble_eq_true rfl, Nat.le_of_ble_eq_true rfl⟩ dM_count_73
  · have hf := ts_t hf c1
    refine lv_iconst (v := (-1 : Int32)) C.1.1 C.1.2.1 dM_count_28 (by decide) ?_
    refine lv_goto (tgt := 73) C.1.1 C.1.2.1 dM_count_29 (by decide) ?_
    exact m_reti C hr hlk hrv hw hf ⟨Nat.le_of_ble_eq_true rfl, Nat.le_of_ble_eq_true rfl⟩ dM_count_73
set_option maxHeartbeats 4000000 in
set_option maxRecDepth 100000 in
theorem wM_count_15 {p : Program} {l : Launch} {e : Env} {s : State} {m : MethodId} {args : Array Value} {below : List Frame} {meth : Method} {c : Code} {g : gT} {q : Nat} {ad : Nat → Nat} {X : va_W} {rv : Option Value} {iv' : Nat → Int32} {av' : Nat → Nat → Int32} {r' : Int32} (C : mCx p m c cM_count 2 s args g "MidiDeskModel") (hr : meth.sig.returnType = (some .int)) (hlk : meth.locks = false) (hrv : rv = some (.int r')) (iv : Nat → Int32) (av : Nat → Nat → Int32) (x1 : Int32) (H : Heap) (locs : List Loc) (ls : Array Slot) (hl : lv_has ls 2 [(0, .ref q), (1, .int x1)]) (hw : mWd g (mA g q ad X s.heap.size) s.heap q ad X iv av H locs) (hf : jM_count_15 iv av x1 = some (r', iv', av')) : mG p l e rM_count s m args below meth c g q ad X rv iv' av' H locs 0 0 (F0 m 15 ls []) := by
  unfold jM_count_15 at hf
  refine lv_iload_n C.1.1 C.1.2.1 dM_count_15 rfl (lv_at hl 1 rfl) ?_
  refine lv_bipush (v := (9 : Int32)) C.1.1 C.1.2.1 dM_count_16 (by decide) ?_
  refine lv_icmp_ne (tgt := 74) C.1.1 C.1.2.1 dM_count_18 (by decide) (fun c1 => ?_) (fun c1 => ?_)
  · have hf := ts_f hf c1
    refine lv_iload_n C.1.1 C.1.2.1 dM_count_74 rfl (lv_at hl 1 rfl) ?_
    rcases Decidable.em (x1 = 0) with c2 | c2
    · have hf := ts_t hf c2
      refine lv_tableIn (off := 49) (tgt := 124) C.1.1 C.1.2.1 dM_count_75 (by rw [c2]; decide) (by rw [c2]; decide) (by rw [c2]; decide) (by decide) ?_
      refine lv_aload_n C.1.1 C.1.2.1 dM_count_124 rfl (lv_at hl 0 rfl) ?_
      refine mg_size C hw dM_count_125 ?_
      exact m_reti C hr hlk hrv hw hf ⟨Nat.le_of_ble_eq_true rfl, Nat.le_of_ble_eq_true rfl⟩ dM_count_128
    have hf := ts_f hf c2
    rcases Decidable.em (x1 = 1) with c3 | c3
    · have hf := ts_t hf c3
      refine lv_tableIn (off := 54) (tgt := 129) C.1.1 C.1.2.1 dM_count_75 (by rw [c3]; decide) (by rw [c3]; decide) (by rw [c3]; decide) (by decide) ?_
      refine lv_aload_n C.1.1 C.1.2.1 dM_count_129 rfl (lv_at hl 0 rfl) ?_
      refine mg_there C hw dM_count_130 ?_
      refine lv_if_eq (tgt := 143) C.1.1 C.1.2.1 dM_count_133 (by decide) (fun c4 => ?_) (fun c4 => ?_)
      · have hf := ts_t hf c4
        refine lv_iconst (v := (0 : Int32)) C.1.1 C.1.2.1 dM_count_143 (by decide) ?_
        exact m_reti C hr hlk hrv hw hf ⟨Nat.le_of_ble_eq_true rfl, Nat.le_of_ble_eq_true rfl⟩ dM_count_144
      · have hf := ts_f hf c4
        refine lv_aload_n C.1.1 C.1.2.1 dM_count_136 rfl (lv_at hl 0 rfl) ?_
        refine mg_events C hw dM_count_137 ?_
        refine lv_goto (tgt := 144) C.1.1 C.1.2.1 dM_count_140 (by decide) ?_
        exact m_reti C hr hlk hrv hw hf ⟨Nat.le_of_ble_eq_true rfl, Nat.le_of_ble_eq_true rfl⟩ dM_count_144
    have hf := ts_f hf c3
    rcases Decidable.em (x1 = 5) with c5 | c5
    · have hf := ts_t hf c5
      refine lv_tableIn (off := 70) (tgt := 145) C.1.1 C.1.2.1 dM_count_75 (by rw [c5]; decide) (by rw [c5]; decide) (by rw [c5]; decide) (by decide) ?_
      refine lv_aload_n C.1.1 C.1.2.1 dM_count_145 rfl (lv_at hl 0 rfl) ?_
      refine mg_there C hw dM_count_146 ?_
      refine lv_if_eq (tgt := 178) C.1.1 C.1.2.1 dM_count_149 (by decide) (fun c6 => ?_) (fun c6 => ?_)
      · have hf := ts_t hf c6
        refine lv_iconst (v := (0 : Int32)) C.1.1 C.1.2.1 dM_count_178 (by decide) ?_
        exact m_reti C hr hlk hrv hw hf ⟨Nat.le_of_ble_eq_true rfl, Nat.le_of_ble_eq_true rfl⟩ dM_count_179
      · have hf := ts_f hf c6
        refine lv_aload_n C.1.1 C.1.2.1 dM_count_152 rfl (lv_at hl 0 rfl) ?_
        refine mg_events C hw dM_count_153 ?_
        refine lv_if_le (tgt := 178) C.1.1 C.1.2.1 dM_count_156 (by decide) (fun c7 => ?_) (fun c7 => ?_)
        · have hf := ts_t hf c7
          refine lv_iconst (v := (0 : Int32)) C.1.1 C.1.2.1 dM_count_178 (by decide) ?_
          exact m_reti C hr hlk hrv hw hf ⟨Nat.le_of_ble_eq_true rfl, Nat.le_of_ble_eq_true rfl⟩ dM_count_179
        · have hf := ts_f hf c7
          refine lv_aload_n C.1.1 C.1.2.1 dM_count_159 rfl (lv_at hl 0 rfl) ?_
          refine mg_ticks C hw dM_count_160 ?_
          refine lv_aload_n C.1.1 C.1.2.1 dM_count_163 rfl (lv_at hl 0 rfl) ?_
          refine mg_order C hw dM_count_164 ?_
          refine lv_aload_n C.1.1 C.1.2.1 dM_count_167 rfl (lv_at hl 0 rfl) ?_
          refine mg_events C hw dM_count_168 ?_
          refine lv_iconst (v := (1 : Int32)) C.1.1 C.1.2.1 dM_count_171 (by decide) ?_
          refine lv_isub C.1.1 C.1.2.1 dM_count_172 ?_
          obtain ⟨h8, hf⟩ := ts_g hf
          refine ma_order C hw h8 dM_count_173 ?_
          obtain ⟨h9, hf⟩ := ts_g hf
          refine ma_ticks C hw h9 dM_count_174 ?_
          refine lv_goto (tgt := 179) C.1.1 C.1.2.1 dM_count_175 (by decide) ?_
          exact m_reti C hr hlk hrv hw hf ⟨Nat.le_of_ble_eq_true rfl, Nat.le_of_ble_eq_true rfl⟩ dM_count_179
    have hf := ts_f hf c5
    rcases Decidable.em (x1 = 6) with c10 | c10
    · have hf := ts_t hf c10
      refine lv_tableIn (off := 105) (tgt := 180) C.1.1 C.1.2.1 dM_count_75 (by rw [c10]; decide) (by rw [c10]; decide) (by rw [c10]; decide) (by decide) ?_
      refine lv_aload_n C.1.1 C.1.2.1 dM_count_180 rfl (lv_at hl 0 rfl) ?_
      refine mg_there C hw dM_count_181 ?_
      refine lv_if_eq (tgt := 205) C.1.1 C.1.2.1 dM_count_184 (by decide) (fun c11 => ?_) (fun c11 => ?_)
      · have hf := ts_t hf c11
        refine lv_iconst (v := (0 : Int32)) C.1.1 C.1.2.1 dM_count_205 (by decide) ?_
        exact m_reti C hr hlk hrv hw hf ⟨Nat.le_of_ble_eq_true rfl, Nat.le_of_ble_eq_true rfl⟩ dM_count_206
      · have hf := ts_f hf c11
        refine lv_aload_n C.1.1 C.1.2.1 dM_count_187 rfl (lv_at hl 0 rfl) ?_
        refine lv_iload_n C.1.1 C.1.2.1 dM_count_188 rfl (lv_at hl 1 rfl) ?_
        refine lv_bipush (v := (6 : Int32)) C.1.1 C.1.2.1 dM_count_189 (by decide) ?_
        refine lv_icmp_ne (tgt := 198) C.1.1 C.1.2.1 dM_count_191 (by decide) (fun c12 => ?_) (fun c12 => ?_)
        · have hf := ts_f hf c12
          refine lv_iconst (v := (0 : Int32)) C.1.1 C.1.2.1 dM_count_198 (by decide) ?_
          obtain ⟨⟨r13, iv13, av13⟩, g13, hf⟩ := ts_b hf
          dsimp only at hf
          refine m_callV (rest := []) (As := [.int (0 : Int32)]) (rv := (some (.int r13))) C hl.1 hw (cM_counted_met g13) (callW_of (rm := rM_counted) 1 C.1.2.2.2.2 gw_971 gw_973 gw_50 gw_55 gw_974 kM_counted ⟨Nat.le_of_ble_eq_true rfl, Nat.le_of_ble_eq_true rfl⟩) rfl rfl (Nat.le_of_ble_eq_true rfl) dM_count_199 ⟨Nat.le_of_ble_eq_true rfl, Nat.le_of_ble_eq_true rfl⟩ (fun H locs hw => ?_)
          refine W.eq (g2 := F0 m 202 ls [.int r13]) rfl ?_
          refine lv_goto (tgt := 206) C.1.1 C.1.2.1 dM_count_202 (by decide) ?_
          exact m_reti C hr hlk hrv hw hf ⟨Nat.le_of_ble_eq_true rfl, Nat.le_of_ble_eq_true rfl⟩ dM_count_206
        · have hf := ts_t hf c12
          refine lv_iconst (v := (1 : Int32)) C.1.1 C.1.2.1 dM_count_194 (by decide) ?_
          refine lv_goto (tgt := 199) C.1.1 C.1.2.1 dM_count_195 (by decide) ?_
          obtain ⟨⟨r14, iv14, av14⟩, g14, hf⟩ := ts_b hf
          dsimp only at hf
          refine m_callV (rest := []) (As := [.int (1 : Int32)]) (rv := (some (.int r14))) C hl.1 hw (cM_counted_met g14) (callW_of (rm := rM_counted) 1 C.1.2.2.2.2 gw_971 gw_973 gw_50 gw_55 gw_974 kM_counted ⟨Nat.le_of_ble_eq_true rfl, Nat.le_of_ble_eq_true rfl⟩) rfl rfl (Nat.le_of_ble_eq_true rfl) dM_count_199 ⟨Nat.le_of_ble_eq_true rfl, Nat.le_of_ble_eq_true rfl⟩ (fun H locs hw => ?_)
          refine W.eq (g2 := F0 m 202 ls [.int r14]) rfl ?_
          refine lv_goto (tgt := 206) C.1.1 C.1.2.1 dM_count_202 (by decide) ?_
          exact m_reti C hr hlk hrv hw hf ⟨Nat.le_of_ble_eq_true rfl, Nat.le_of_ble_eq_true rfl⟩ dM_count_206
    have hf := ts_f hf c10
    rcases Decidable.em (x1 = 7) with c15 | c15
    · have hf := ts_t hf c15
      refine lv_tableIn (off := 105) (tgt := 180) C.1.1 C.1.2.1 dM_count_75 (by rw [c15]; decide) (by rw [c15]; decide) (by rw [c15]; decide) (by decide) ?_
      refine lv_aload_n C.1.1 C.1.2.1 dM_count_180 rfl (lv_at hl 0 rfl) ?_
      refine mg_there C hw dM_count_181 ?_
      refine lv_if_eq (tgt := 205) C.1.1 C.1.2.1 dM_count_184 (by decide) (fun c16 => ?_) (fun c16 => ?_)
      · have hf := ts_t hf c16
        refine lv_iconst (v := (0 : Int32)) C.1.1 C.1.2.1 dM_count_205 (by decide) ?_
        exact m_reti C hr hlk hrv hw hf ⟨Nat.le_of_ble_eq_true rfl, Nat.le_of_ble_eq_true rfl⟩ dM_count_206
      · have hf := ts_f hf c16
        refine lv_aload_n C.1.1 C.1.2.1 dM_count_187 rfl (lv_at hl 0 rfl) ?_
        refine lv_iload_n C.1.1 C.1.2.1 dM_count_188 rfl (lv_at hl 1 rfl) ?_
        refine lv_bipush (v := (6 : Int32)) C.1.1 C.1.2.1 dM_count_189 (by decide) ?_
        refine lv_icmp_ne (tgt := 198) C.1.1 C.1.2.1 dM_count_191 (by decide) (fun c17 => ?_) (fun c17 => ?_)
        · have hf := ts_f hf c17
          refine lv_iconst (v := (0 : Int32)) C.1.1 C.1.2.1 dM_count_198 (by decide) ?_
          obtain ⟨⟨r18, iv18, av18⟩, g18, hf⟩ := ts_b hf
          dsimp only at hf
          refine m_callV (rest := []) (As := [.int (0 : Int32)]) (rv := (some (.int r18))) C hl.1 hw (cM_counted_met g18) (callW_of (rm := rM_counted) 1 C.1.2.2.2.2 gw_971 gw_973 gw_50 gw_55 gw_974 kM_counted ⟨Nat.le_of_ble_eq_true rfl, Nat.le_of_ble_eq_true rfl⟩) rfl rfl (Nat.le_of_ble_eq_true rfl) dM_count_199 ⟨Nat.le_of_ble_eq_true rfl, Nat.le_of_ble_eq_true rfl⟩ (fun H locs hw => ?_)
          refine W.eq (g2 := F0 m 202 ls [.int r18]) rfl ?_
          refine lv_goto (tgt := 206) C.1.1 C.1.2.1 dM_count_202 (by decide) ?_
          exact m_reti C hr hlk hrv hw hf ⟨Nat.le_of_ble_eq_true rfl, Nat.le_of_ble_eq_true rfl⟩ dM_count_206
        · have hf := ts_t hf c17
          refine lv_iconst (v := (1 : Int32)) C.1.1 C.1.2.1 dM_count_194 (by decide) ?_
          refine lv_goto (tgt := 199) C.1.1 C.1.2.1 dM_count_195 (by decide) ?_
          obtain ⟨⟨r19, iv19, av19⟩, g19, hf⟩ := ts_b hf
          dsimp only at hf
          refine m_callV (rest := []) (As := [.int (1 : Int32)]) (rv := (some (.int r19))) C hl.1 hw (cM_counted_met g19) (callW_of (rm := rM_counted) 1 C.1.2.2.2.2 gw_971 gw_973 gw_50 gw_55 gw_974 kM_counted ⟨Nat.le_of_ble_eq_true rfl, Nat.le_of_ble_eq_true rfl⟩) rfl rfl (Nat.le_of_ble_eq_true rfl) dM_count_199 ⟨Nat.le_of_ble_eq_true rfl, Nat.le_of_ble_eq_true rfl⟩ (fun H locs hw => ?_)
          refine W.eq (g2 := F0 m 202 ls [.int r19]) rfl ?_
          refine lv_goto (tgt := 206) C.1.1 C.1.2.1 dM_count_202 (by decide) ?_
          exact m_reti C hr hlk hrv hw hf ⟨Nat.le_of_ble_eq_true rfl, Nat.le_of_ble_eq_true rfl⟩ dM_count_206
    have hf := ts_f hf c15
    rcases Decidable.em (x1 = 8) with c20 | c20
    · have hf := ts_t hf c20
      refine lv_tableIn (off := 132) (tgt := 207) C.1.1 C.1.2.1 dM_count_75 (by rw [c20]; decide) (by rw [c20]; decide) (by rw [c20]; decide) (by decide) ?_
      refine lv_aload_n C.1.1 C.1.2.1 dM_count_207 rfl (lv_at hl 0 rfl) ?_
      refine mg_writtenSize C hw dM_count_208 ?_
      exact m_reti C hr hlk hrv hw hf ⟨Nat.le_of_ble_eq_true rfl, Nat.le_of_ble_eq_true rfl⟩ dM_count_211
    have hf := ts_f hf c20
    rcases Decidable.em (x1 = 2) with c21 | c21
    · refine lv_tableIn (off := 137) (tgt := 212) C.1.1 C.1.2.1 dM_count_75 (by rw [c21]; decide) (by rw [c21]; decide) (by rw [c21]; decide) (by decide) ?_
      refine lv_iconst (v := (-1 : Int32)) C.1.1 C.1.2.1 dM_count_212 (by decide) ?_
      exact m_reti C hr hlk hrv hw hf ⟨Nat.le_of_ble_eq_true rfl, Nat.le_of_ble_eq_true rfl⟩ dM_count_213
    rcases Decidable.em (x1 = 3) with c22 | c22
    · refine lv_tableIn (off := 137) (tgt := 212) C.1.1 C.1.2.1 dM_count_75 (by rw [c22]; decide) (by rw [c22]; decide) (by rw [c22]; decide) (by decide) ?_
      refine lv_iconst (v := (-1 : Int32)) C.1.1 C.1.2.1 dM_count_212 (by decide) ?_
      exact m_reti C hr hlk hrv hw hf ⟨Nat.le_of_ble_eq_true rfl, Nat.le_of_ble_eq_true rfl⟩ dM_count_213
    rcases Decidable.em (x1 = 4) with c23 | c23
    · refine lv_tableIn (off := 137) (tgt := 212) C.1.1 C.1.2.1 dM_count_75 (by rw [c23]; decide) (by rw [c23]; decide) (by rw [c23]; decide) (by decide) ?_
      refine lv_iconst (v := (-1 : Int32)) C.1.1 C.1.2.1 dM_count_212 (by decide) ?_
      exact m_reti C hr hlk hrv hw hf ⟨Nat.le_of_ble_eq_true rfl, Nat.le_of_ble_eq_true rfl⟩ dM_count_213
    refine lv_tableOut (tgt := 212) C.1.1 C.1.2.1 dM_count_75 (by have c2n := lv_neT (a := 0) c2 (by decide); have c3n := lv_neT (a := 1) c3 (by decide); have c5n := lv_neT (a := 5) c5 (by decide); have c10n := lv_neT (a := 6) c10 (by decide); have c15n := lv_neT (a := 7) c15 (by decide); have c20n := lv_neT (a := 8) c20 (by decide); have c21n := lv_neT (a := 2) c21 (by decide); have c22n := lv_neT (a := 3) c22 (by decide); have c23n := lv_neT (a := 4) c23 (by decide); omega) (by decide) ?_
    refine lv_iconst (v := (-1 : Int32)) C.1.1 C.1.2.1 dM_count_212 (by decide) ?_
    exact m_reti C hr hlk hrv hw hf ⟨Nat.le_of_ble_eq_true rfl, Nat.le_of_ble_eq_true rfl⟩ dM_count_213
  · have hf := ts_t hf c1
    exact wM_count_21 C hr hlk hrv iv av x1 _ _ ls (lv_sub hl [0, 1] rfl) hw hf
set_option maxHeartbeats 4000000 in
set_option maxRecDepth 100000 in
theorem cM_count_met {l : Launch} {g : gT} {q : Nat} {ad : Nat → Nat} {X : va_W} {iv iv' : Nat → Int32} {av av' : Nat → Nat → Int32} {x1 : Int32} {r' : Int32} (hf : fM_count iv av x1 = some (r', iv', av')) : mMet l yM_count cM_count 2 (some .int) rM_count g q ad X iv av [.ref q, .int x1] (some (.int r')) iv' av' := by
  refine m_entry (by decide) (Nat.le_of_ble_eq_true rfl) ?_
  intro p e s m args below meth c ls C hr hlk hnm hl hw
  have hrv : ((some (.int r')) : Option Value) = (some (.int r')) := rfl
  have C : mCx p m c cM_count 2 s args g "MidiDeskModel" := C
  have hl : lv_has ls 2 [(0, .ref q), (1, .int x1)] := hl
  unfold fM_count at hf
  refine lv_aload_n C.1.1 C.1.2.1 dM_count_0 rfl (lv_at hl 0 rfl) ?_
  refine lv_iconst (v := (0 : Int32)) C.1.1 C.1.2.1 dM_count_1 (by decide) ?_
  refine mp_thrown C hw dM_count_2 (fun H locs hw => ?_)
  refine lv_iload_n C.1.1 C.1.2.1 dM_count_5 rfl (lv_at hl 1 rfl) ?_
  refine lv_iconst (v := (1 : Int32)) C.1.1 C.1.2.1 dM_count_6 (by decide) ?_
  refine lv_icmp_le (tgt := 15) C.1.1 C.1.2.1 dM_count_7 (by decide) (fun c1 => ?_) (fun c1 => ?_)
  · have hf := ts_t hf c1
    exact wM_count_15 C hr hlk hrv (upd iv 0 (0 : Int32)) av x1 _ _ ls (lv_sub hl [0, 1] rfl) hw hf
  · have hf := ts_f hf c1
    refine lv_iload_n C.1.1 C.1.2.1 dM_count_10 rfl (lv_at hl 1 rfl) ?_
    refine lv_iconst (v := (5 : Int32)) C.1.1 C.1.2.1 dM_count_11 (by decide) ?_
    refine lv_icmp_lt (tgt := 21) C.1.1 C.1.2.1 dM_count_12 (by decide) (fun c2 => ?_) (fun c2 => ?_)
    · have hf := ts_t hf c2
      exact wM_count_21 C hr hlk hrv (upd iv 0 (0 : Int32)) av x1 _ _ ls (lv_sub hl [0, 1] rfl) hw hf
    · have hf := ts_f hf c2
      exact wM_count_15 C hr hlk hrv (upd iv 0 (0 : Int32)) av x1 _ _ ls (lv_sub hl [0, 1] rfl) hw hf
