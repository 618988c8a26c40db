abbrev cS_roundTicks : ByteArray := prog_6_method_14_code
abbrev yS_roundTicks : MethodName := ⟨"MidiDesk$Score", "roundTicks", "(I)I"⟩
theorem kS_roundTicks : yS_roundTicks.cls ≠ "java/lang/invoke/MethodHandle" ∧ yS_roundTicks.cls ≠ "java/lang/invoke/VarHandle" ∧ (parseMethodDescriptor yS_roundTicks.desc).map (fun d => d.parameters.length) = some 1 := by decide +kernel
abbrev rS_roundTicks : Room := { frames := 3, cells := 0, slots := 0, locals := 71 }
theorem dS_roundTicks_0 : decode cS_roundTicks 0 = .ok (.iconst 0, 1) := by decide +kernel
theorem dS_roundTicks_1 : decode cS_roundTicks 1 = .ok (.istore_n 2, 1) := by decide +kernel
theorem dS_roundTicks_2 : decode cS_roundTicks 2 = .ok (.iconst 0, 1) := by decide +kernel
theorem dS_roundTicks_3 : decode cS_roundTicks 3 = .ok (.istore_n 3, 1) := by decide +kernel
theorem dS_roundTicks_4 : decode cS_roundTicks 4 = .ok (.iload_n 3, 1) := by decide +kernel
theorem dS_roundTicks_5 : decode cS_roundTicks 5 = .ok (.aload_n 0, 1) := by decide +kernel
theorem dS_roundTicks_6 : decode cS_roundTicks 6 = .ok (.getfield 33, 3) := by decide +kernel
theorem dS_roundTicks_9 : decode cS_roundTicks 9 = .ok (.if_icmp .ge 52, 3) := by decide +kernel
theorem dS_roundTicks_12 : decode cS_roundTicks 12 = .ok (.aload_n 0, 1) := by decide +kernel
theorem dS_roundTicks_13 : decode cS_roundTicks 13 = .ok (.getfield 22, 3) := by decide +kernel
theorem dS_roundTicks_16 : decode cS_roundTicks 16 = .ok (.iload_n 3, 1) := by decide +kernel
theorem dS_roundTicks_17 : decode cS_roundTicks 17 = .ok (.aaload, 1) := by decide +kernel
theorem dS_roundTicks_18 : decode cS_roundTicks 18 = .ok (.getfield 65, 3) := by decide +kernel
theorem dS_roundTicks_21 : decode cS_roundTicks 21 = .ok (.iload_n 1, 1) := by decide +kernel
theorem dS_roundTicks_22 : decode cS_roundTicks 22 = .ok (.invokestatic 94, 3) := by decide +kernel
theorem dS_roundTicks_25 : decode cS_roundTicks 25 = .ok (.istore 4, 2) := by decide +kernel
theorem dS_roundTicks_27 : decode cS_roundTicks 27 = .ok (.iload 4, 2) := by decide +kernel
theorem dS_roundTicks_29 : decode cS_roundTicks 29 = .ok (.aload_n 0, 1) := by decide +kernel
theorem dS_roundTicks_30 : decode cS_roundTicks 30 = .ok (.getfield 22, 3) := by decide +kernel
theorem dS_roundTicks_33 : decode cS_roundTicks 33 = .ok (.iload_n 3, 1) := by decide +kernel
theorem dS_roundTicks_34 : decode cS_roundTicks 34 = .ok (.aaload, 1) := by decide +kernel
theorem dS_roundTicks_35 : decode cS_roundTicks 35 = .ok (.getfield 65, 3) := by decide +kernel
theorem dS_roundTicks_38 : decode cS_roundTicks 38 = .ok (.if_icmp .eq 6, 3) := by decide +kernel
theorem dS_roundTicks_41 : decode cS_roundTicks 41 = .ok (.iinc 2 1, 3) := by decide +kernel
theorem dS_roundTicks_44 : decode cS_roundTicks 44 = .ok (.aload_n 0, 1) := by decide +kernel
theorem dS_roundTicks_45 : decode cS_roundTicks 45 = .ok (.getfield 22, 3) := by decide +kernel
theorem dS_roundTicks_48 : decode cS_roundTicks 48 = .ok (.iload_n 3, 1) := by decide +kernel
theorem dS_roundTicks_49 : decode cS_roundTicks 49 = .ok (.aaload, 1) := by decide +kernel
theorem dS_roundTicks_50 : decode cS_roundTicks 50 = .ok (.iload 4, 2) := by decide +kernel
theorem dS_roundTicks_52 : decode cS_roundTicks 52 = .ok (.putfield 65, 3) := by decide +kernel
theorem dS_roundTicks_55 : decode cS_roundTicks 55 = .ok (.iinc 3 1, 3) := by decide +kernel
theorem dS_roundTicks_58 : decode cS_roundTicks 58 = .ok (.goto (-54), 3) := by decide +kernel
theorem dS_roundTicks_61 : decode cS_roundTicks 61 = .ok (.aload_n 0, 1) := by decide +kernel
theorem dS_roundTicks_62 : decode cS_roundTicks 62 = .ok (.invokevirtual 97, 3) := by decide +kernel
theorem dS_roundTicks_65 : decode cS_roundTicks 65 = .ok (.iload_n 2, 1) := by decide +kernel
theorem dS_roundTicks_66 : decode cS_roundTicks 66 = .ok (.ireturn, 1) := by decide +kernel
def jS_roundTicks_44 (h : cH) (K4 : cZ → Int32 → Int32 → Int32 → Option (Int32 × cZ)) (z : cZ) (x1 : Int32) (x2 : Int32) (x3 : Int32) (x4 : Int32) : Option (Int32 × cZ) := if x3 < 0 ∨ h.1 3 ≤ x3.toNatClampNeg then none else ((zr z 0 x3.toNatClampNeg).bind fun j2 => if h.2.1 ≤ j2 then none else (K4 (zE z j2 0 x4) x1 x2 (x3 + 1)))
def lS_roundTicks_4 (h : cH) : Nat → cZ → Int32 → Int32 → Int32 → Option (Int32 × cZ)
  | 0 => fun _ _ _ _ => none
  | k + 1 => fun z x1 x2 x3 => if (zi z 7) ≤ x3 then ((fS_putInOrder h z).bind fun z2 => some (x2, z2)) else (if x3 < 0 ∨ h.1 3 ≤ x3.toNatClampNeg then none else ((zr z 0 x3.toNatClampNeg).bind fun j4 => if h.2.1 ≤ j4 then none else ((fD_nearest h z (ze z j4 0) x1).bind fun (r5, z5) => if x3 < 0 ∨ h.1 3 ≤ x3.toNatClampNeg then none else ((zr z5 0 x3.toNatClampNeg).bind fun j7 => if h.2.1 ≤ j7 then none else (if r5 = (ze z5 j7 0) then (jS_roundTicks_44 h (lS_roundTicks_4 h k) z5 x1 x2 x3 r5) else (jS_roundTicks_44 h (lS_roundTicks_4 h k) z5 x1 (x2 + 1) x3 r5))))))
def fS_roundTicks (h : cH) (z : cZ) (x1 : Int32) : Option (Int32 × cZ) := lS_roundTicks_4 h FU z x1 (0 : Int32) (0 : Int32)
set_option maxHeartbeats 4000000 in
set_option maxRecDepth 100000 in
theorem wS_roundTicks_44 {p : Program} {l : Launch} {e : Env} {s : State} {m : MethodId} {args : Array Value} {below : List Frame} {meth : Method} {c : Code} {g : gT} {qq ad ea : Nat → Nat} {h : cH} {X : va_W} {rv : Option Value} {z' : cZ} {r' : Int32} (C : mCx p m c cS_roundTicks 5 s args g "MidiDesk$Score") (hr : meth.sig.returnType = (some .int)) (hlk : meth.locks = false) (hrv : rv = some (.int r')) {K4 : cZ → Int32 → Int32 → Int32 → Option (Int32 × cZ)} (hK4 : ∀ (z : cZ) (x1 : Int32) (x2 : Int32) (x3 : Int32) (H : Heap) (locs : List Loc) (ls : Array Slot), lv_has ls 5 [(0, .ref (qq 4)), (1, .int x1), (2, .int x2), (3, .int x3)] → cWd g (cA g qq ad ea h X s.heap.size) s.heap qq ad ea h X z H locs → K4 z x1 x2 x3 = some (r', z') → cG p l e rS_roundTicks s m args below meth c g qq ad ea h X rv X z' H locs 0 0 (F0 m 4 ls [])) (z : cZ) (x1 : Int32) (x2 : Int32) (x3 : Int32) (x4 : Int32) (H : Heap) (locs : List Loc) (ls : Array Slot) (hl : lv_has ls 5 [(0, .ref (qq 4)), (1, .int x1), (2, .int x2), (3, .int x3), (4, .int x4)]) (hw : cWd g (cA g qq ad ea h X s.heap.size) s.heap qq ad ea h X z H locs) (hf : jS_roundTicks_44 h K4 z x1 x2 x3 x4 = some (r', z')) : cG p l e rS_roundTicks s m args below meth c g qq ad ea h X rv X z' H locs 0 0 (F0 m 44 ls []) := by
  unfold jS_roundTicks_44 at hf
  refine lv_aload_n C.1.1 C.1.2.1 dS_roundTicks_44 rfl (lv_at hl 0 rfl) ?_
  refine cg_Score_Score_row C hw dS_roundTicks_45 ?_
  refine lv_iload_n C.1.1 C.1.2.1 dS_roundTicks_48 rfl (lv_at hl 3 rfl) ?_
  obtain ⟨h1, hf⟩ := ts_g hf
  refine cra_0 C hw h1 dS_roundTicks_49 ?_
  refine lv_iload C.1.1 C.1.2.1 dS_roundTicks_50 (lv_at hl 4 rfl) ?_
  obtain ⟨j2, ho2, hf⟩ := ts_b hf
  try dsimp only at hf
  obtain ⟨hb2, hf⟩ := ts_g hf
  have hb2 := Nat.lt_of_not_le hb2
  refine cp_Score_Event_tick C hw ho2 hb2 dS_roundTicks_52 (fun H locs hw => ?_)
  refine lv_iinc (v := x3 + 1) (lv' := [(3, .int (x3 + 1)), (0, .ref (qq 4)), (1, .int x1), (2, .int x2), (4, .int x4)]) C.1.1 C.1.2.1 dS_roundTicks_55 hl (k := 3) rfl rfl (by decide) rfl (fun ls hl => ?_)
  refine lv_goto (tgt := 4) C.1.1 C.1.2.1 dS_roundTicks_58 (by decide) ?_
  exact hK4 (zE z j2 0 x4) x1 x2 (x3 + 1) _ _ ls (lv_sub hl [1, 2, 3, 0] rfl) hw hf
set_option maxHeartbeats 4000000 in
set_option maxRecDepth 100000 in
theorem wS_roundTicks_4 {p : Program} {l : Launch} {e : Env} {s : State} {m : MethodId} {args : Array Value} {below : List Frame} {meth : Method} {c : Code} {g : gT} {qq ad ea : Nat → Nat} {h : cH} {X : va_W} {rv : Option Value} {z' : cZ} {r' : Int32} (C : mCx p m c cS_roundTicks 5 s args g "MidiDesk$Score") (hr : meth.sig.returnType = (some .int)) (hlk : meth.locks = false) (hrv : rv = some (.int r')) (k : Nat) : ∀ (z : cZ) (x1 : Int32) (x2 : Int32) (x3 : Int32) (H : Heap) (locs : List Loc) (ls : Array Slot), lv_has ls 5 [(0, .ref (qq 4)), (1, .int x1), (2, .int x2), (3, .int x3)] → cWd g (cA g qq ad ea h X s.heap.size) s.heap qq ad ea h X z H locs → lS_roundTicks_4 h k z x1 x2 x3 = some (r', z') → cG p l e rS_roundTicks s m args below meth c g qq ad ea h X rv X z' H locs 0 0 (F0 m 4 ls []) := by
  induction k with
  | zero => intro z x1 x2 x3 H locs ls hl hw hf; cases hf
  | succ k ih =>
    intro z x1 x2 x3 H locs ls hl hw hf
    have hf : (if (zi z 7) ≤ x3 then ((fS_putInOrder h z).bind fun z2 => some (x2, z2)) else (if x3 < 0 ∨ h.1 3 ≤ x3.toNatClampNeg then none else ((zr z 0 x3.toNatClampNeg).bind fun j4 => if h.2.1 ≤ j4 then none else ((fD_nearest h z (ze z j4 0) x1).bind fun (r5, z5) => if x3 < 0 ∨ h.1 3 ≤ x3.toNatClampNeg then none else ((zr z5 0 x3.toNatClampNeg).bind fun j7 => if h.2.1 ≤ j7 then none else (if r5 = (ze z5 j7 0) then (jS_roundTicks_44 h (lS_roundTicks_4 h k) z5 x1 x2 x3 r5) else (jS_roundTicks_44 h (lS_roundTicks_4 h k) z5 x1 (x2 + 1) x3 r5))))))) = some (r', z') := hf
    refine lv_iload_n C.1.1 C.1.2.1 dS_roundTicks_4 rfl (lv_at hl 3 rfl) ?_
    refine lv_aload_n C.1.1 C.1.2.1 dS_roundTicks_5 rfl (lv_at hl 0 rfl) ?_
    refine cg_Score_Score_size C hw dS_roundTicks_6 ?_
    refine lv_icmp_ge (tgt := 61) C.1.1 C.1.2.1 dS_roundTicks_9 (by decide) (fun c1 => ?_) (fun c1 => ?_)
    · have hf := ts_t hf c1
      refine lv_aload_n C.1.1 C.1.2.1 dS_roundTicks_61 rfl (lv_at hl 0 rfl) ?_
      obtain ⟨z2, g2, hf⟩ := ts_b hf
      try dsimp only at hf
      refine c_callV (rest := []) (As := []) (rv := none) (b := (qq 4)) C hl.1 hw (cS_putInOrder_met g2) rfl (callW_of (rm := rS_putInOrder) (C := "MidiDesk$Score") 0 C.1.2.2.2.2 gw_630 gw_380 gw_381 gw_54 gw_382 kS_putInOrder ⟨Nat.le_of_ble_eq_true rfl, Nat.le_of_ble_eq_true rfl⟩) (c_recv_score C.2 hw) rfl rfl (Nat.le_of_ble_eq_true rfl) dS_roundTicks_62 ⟨Nat.le_of_ble_eq_true rfl, Nat.le_of_ble_eq_true rfl⟩ (fun H locs hw => ?_)
      refine W.eq (g2 := F0 m 65 ls []) rfl ?_
      refine lv_iload_n C.1.1 C.1.2.1 dS_roundTicks_65 rfl (lv_at hl 2 rfl) ?_
      exact c_reti C hr hlk hrv hw hf rfl ⟨Nat.le_of_ble_eq_true rfl, Nat.le_of_ble_eq_true rfl⟩ dS_roundTicks_66
    · have hf := ts_f hf c1
      refine lv_aload_n C.1.1 C.1.2.1 dS_roundTicks_12 rfl (lv_at hl 0 rfl) ?_
      refine cg_Score_Score_row C hw dS_roundTicks_13 ?_
      refine lv_iload_n C.1.1 C.1.2.1 dS_roundTicks_16 rfl (lv_at hl 3 rfl) ?_
      obtain ⟨h3, hf⟩ := ts_g hf
      refine cra_0 C hw h3 dS_roundTicks_17 ?_
      obtain ⟨j4, ho4, hf⟩ := ts_b hf
      try dsimp only at hf
      obtain ⟨hb4, hf⟩ := ts_g hf
      have hb4 := Nat.lt_of_not_le hb4
      refine cg_Score_Event_tick C hw ho4 hb4 dS_roundTicks_18 ?_
      refine lv_iload_n C.1.1 C.1.2.1 dS_roundTicks_21 rfl (lv_at hl 1 rfl) ?_
      obtain ⟨⟨r5, z5⟩, g5, hf⟩ := ts_b hf
      try dsimp only at hf
      refine c_callSN (rest := []) (As := [.int (ze z j4 0), .int x1]) (rv := (some (.int r5))) (rm := rD_nearest) C hl.1 hw (cD_nearest_met g5) gw_623 nw_578 gw_622 gw_52 kD_nearest ⟨Nat.le_of_ble_eq_true rfl, Nat.le_of_ble_eq_true rfl⟩ rfl rfl (Nat.le_of_ble_eq_true rfl) dS_roundTicks_22 ⟨Nat.le_of_ble_eq_true rfl, Nat.le_of_ble_eq_true rfl⟩ (fun H locs hw => ?_)
      refine W.eq (g2 := F0 m 25 ls [.int r5]) rfl ?_
      refine lv_istore (lv' := [(4, .int r5), (0, .ref (qq 4)), (1, .int x1), (2, .int x2), (3, .int x3)]) C.1.1 C.1.2.1 dS_roundTicks_25 hl (by decide) rfl (fun ls hl => ?_)
      refine lv_iload C.1.1 C.1.2.1 dS_roundTicks_27 (lv_at hl 0 rfl) ?_
      refine lv_aload_n C.1.1 C.1.2.1 dS_roundTicks_29 rfl (lv_at hl 1 rfl) ?_
      refine cg_Score_Score_row C hw dS_roundTicks_30 ?_
      refine lv_iload_n C.1.1 C.1.2.1 dS_roundTicks_33 rfl (lv_at hl 4 rfl) ?_
      obtain ⟨h6, hf⟩ := ts_g hf
      refine cra_0 C hw h6 dS_roundTicks_34 ?_
      obtain ⟨j7, ho7, hf⟩ := ts_b hf
      try dsimp only at hf
      obtain ⟨hb7, hf⟩ := ts_g hf
      have hb7 := Nat.lt_of_not_le hb7
      refine cg_Score_Event_tick C hw ho7 hb7 dS_roundTicks_35 ?_
      refine lv_icmp_eq (tgt := 44) C.1.1 C.1.2.1 dS_roundTicks_38 (by decide) (fun c8 => ?_) (fun c8 => ?_)
      · have hf := ts_t hf c8
        exact wS_roundTicks_44 C hr hlk hrv ih z5 x1 x2 x3 r5 _ _ ls (lv_sub hl [1, 2, 3, 4, 0] rfl) hw hf
      · have hf := ts_f hf c8
        refine lv_iinc (v := x2 + 1) (lv' := [(2, .int (x2 + 1)), (4, .int r5), (0, .ref (qq 4)), (1, .int x1), (3, .int x3)]) C.1.1 C.1.2.1 dS_roundTicks_41 hl (k := 3) rfl rfl (by decide) rfl (fun ls hl => ?_)
        exact wS_roundTicks_44 C hr hlk hrv ih z5 x1 (x2 + 1) x3 r5 _ _ ls (lv_sub hl [2, 3, 0, 4, 1] rfl) hw hf
set_option maxHeartbeats 4000000 in
set_option maxRecDepth 100000 in
theorem cS_roundTicks_met {l : Launch} {g : gT} {qq ad ea : Nat → Nat} {h : cH} {X : va_W} {z z' : cZ} {x1 : Int32} {r' : Int32} (hf : fS_roundTicks h z x1 = some (r', z')) : cMet l yS_roundTicks cS_roundTicks 5 (some .int) rS_roundTicks g qq ad ea h X z [.ref (qq 4), .int x1] (some (.int r')) X z' := by
  refine c_entry (by decide) (Nat.le_of_ble_eq_true rfl) ?_
  intro p e s m args below meth c ls C hr hlk hnm hl hw
  have hrv : (some (.int r') : Option Value) = some (.int r') := rfl
  have C : mCx p m c cS_roundTicks 5 s args g "MidiDesk$Score" := C
  have hl : lv_has ls 5 [(0, .ref (qq 4)), (1, .int x1)] := hl
  unfold fS_roundTicks at hf
  refine lv_iconst (v := (0 : Int32)) C.1.1 C.1.2.1 dS_roundTicks_0 (by decide) ?_
  refine lv_istore_n (lv' := [(2, .int (0 : Int32)), (0, .ref (qq 4)), (1, .int x1)]) C.1.1 C.1.2.1 dS_roundTicks_1 rfl hl (by decide) rfl (fun ls hl => ?_)
  refine lv_iconst (v := (0 : Int32)) C.1.1 C.1.2.1 dS_roundTicks_2 (by decide) ?_
  refine lv_istore_n (lv' := [(3, .int (0 : Int32)), (2, .int (0 : Int32)), (0, .ref (qq 4)), (1, .int x1)]) C.1.1 C.1.2.1 dS_roundTicks_3 rfl hl (by decide) rfl (fun ls hl => ?_)
  exact wS_roundTicks_4 C hr hlk hrv FU z x1 (0 : Int32) (0 : Int32) _ _ ls (lv_sub hl [2, 3, 1, 0] rfl) hw hf
abbrev cS_dropTrack : ByteArray := prog_6_method_15_code
abbrev yS_dropTrack : MethodName := ⟨"MidiDesk$Score", "dropTrack", "(I)I"⟩
theorem kS_dropTrack : yS_dropTrack.cls ≠ "java/lang/invoke/MethodHandle" ∧ yS_dropTrack.cls ≠ "java/lang/invoke/VarHandle" ∧ (parseMethodDescriptor yS_dropTrack.desc).map (fun d => d.parameters.length) = some 1 := by decide +kernel
abbrev rS_dropTrack : Room := { frames := 1, cells := 0, slots := 0, locals := 24 }
theorem dS_dropTrack_0 : decode cS_dropTrack 0 = .ok (.iconst 0, 1) := by decide +kernel
theorem dS_dropTrack_1 : decode cS_dropTrack 1 = .ok (.istore_n 2, 1) := by decide +kernel
theorem dS_dropTrack_2 : decode cS_dropTrack 2 = .ok (.iconst 0, 1) := by decide +kernel
theorem dS_dropTrack_3 : decode cS_dropTrack 3 = .ok (.istore_n 3, 1) := by decide +kernel
theorem dS_dropTrack_4 : decode cS_dropTrack 4 = .ok (.iconst 0, 1) := by decide +kernel
theorem dS_dropTrack_5 : decode cS_dropTrack 5 = .ok (.istore 4, 2) := by decide +kernel
theorem dS_dropTrack_7 : decode cS_dropTrack 7 = .ok (.iload 4, 2) := by decide +kernel
theorem dS_dropTrack_9 : decode cS_dropTrack 9 = .ok (.aload_n 0, 1) := by decide +kernel
theorem dS_dropTrack_10 : decode cS_dropTrack 10 = .ok (.getfield 33, 3) := by decide +kernel
theorem dS_dropTrack_13 : decode cS_dropTrack 13 = .ok (.if_icmp .ge 52, 3) := by decide +kernel
theorem dS_dropTrack_16 : decode cS_dropTrack 16 = .ok (.aload_n 0, 1) := by decide +kernel
theorem dS_dropTrack_17 : decode cS_dropTrack 17 = .ok (.getfield 22, 3) := by decide +kernel
theorem dS_dropTrack_20 : decode cS_dropTrack 20 = .ok (.iload 4, 2) := by decide +kernel
theorem dS_dropTrack_22 : decode cS_dropTrack 22 = .ok (.aaload, 1) := by decide +kernel
theorem dS_dropTrack_23 : decode cS_dropTrack 23 = .ok (.astore 5, 2) := by decide +kernel
theorem dS_dropTrack_25 : decode cS_dropTrack 25 = .ok (.aload 5, 2) := by decide +kernel
theorem dS_dropTrack_27 : decode cS_dropTrack 27 = .ok (.getfield 100, 3) := by decide +kernel
theorem dS_dropTrack_30 : decode cS_dropTrack 30 = .ok (.iload_n 1, 1) := by decide +kernel
theorem dS_dropTrack_31 : decode cS_dropTrack 31 = .ok (.if_icmp .ne 17, 3) := by decide +kernel
theorem dS_dropTrack_34 : decode cS_dropTrack 34 = .ok (.aload_n 0, 1) := by decide +kernel
theorem dS_dropTrack_35 : decode cS_dropTrack 35 = .ok (.getfield 26, 3) := by decide +kernel
theorem dS_dropTrack_38 : decode cS_dropTrack 38 = .ok (.iload_n 3, 1) := by decide +kernel
theorem dS_dropTrack_39 : decode cS_dropTrack 39 = .ok (.aload 5, 2) := by decide +kernel
theorem dS_dropTrack_41 : decode cS_dropTrack 41 = .ok (.aastore, 1) := by decide +kernel
theorem dS_dropTrack_42 : decode cS_dropTrack 42 = .ok (.iinc 3 1, 3) := by decide +kernel
theorem dS_dropTrack_45 : decode cS_dropTrack 45 = .ok (.goto 14, 3) := by decide +kernel
theorem dS_dropTrack_48 : decode cS_dropTrack 48 = .ok (.aload_n 0, 1) := by decide +kernel
theorem dS_dropTrack_49 : decode cS_dropTrack 49 = .ok (.getfield 22, 3) := by decide +kernel
theorem dS_dropTrack_52 : decode cS_dropTrack 52 = .ok (.iload_n 2, 1) := by decide +kernel
theorem dS_dropTrack_53 : decode cS_dropTrack 53 = .ok (.aload 5, 2) := by decide +kernel
theorem dS_dropTrack_55 : decode cS_dropTrack 55 = .ok (.aastore, 1) := by decide +kernel
theorem dS_dropTrack_56 : decode cS_dropTrack 56 = .ok (.iinc 2 1, 3) := by decide +kernel
theorem dS_dropTrack_59 : decode cS_dropTrack 59 = .ok (.iinc 4 1, 3) := by decide +kernel
theorem dS_dropTrack_62 : decode cS_dropTrack 62 = .ok (.goto (-55), 3) := by decide +kernel
theorem dS_dropTrack_65 : decode cS_dropTrack 65 = .ok (.aload_n 0, 1) := by decide +kernel
theorem dS_dropTrack_66 : decode cS_dropTrack 66 = .ok (.getfield 26, 3) := by decide +kernel
theorem dS_dropTrack_69 : decode cS_dropTrack 69 = .ok (.aload_n 0, 1) := by decide +kernel
theorem dS_dropTrack_70 : decode cS_dropTrack 70 = .ok (.getfield 22, 3) := by decide +kernel
theorem dS_dropTrack_73 : decode cS_dropTrack 73 = .ok (.iload_n 2, 1) := by decide +kernel
theorem dS_dropTrack_74 : decode cS_dropTrack 74 = .ok (.iload_n 3, 1) := by decide +kernel
theorem dS_dropTrack_75 : decode cS_dropTrack 75 = .ok (.invokestatic 49, 3) := by decide +kernel
theorem dS_dropTrack_78 : decode cS_dropTrack 78 = .ok (.aload_n 0, 1) := by decide +kernel
theorem dS_dropTrack_79 : decode cS_dropTrack 79 = .ok (.iload_n 2, 1) := by decide +kernel
theorem dS_dropTrack_80 : decode cS_dropTrack 80 = .ok (.putfield 33, 3) := by decide +kernel
theorem dS_dropTrack_83 : decode cS_dropTrack 83 = .ok (.iload_n 3, 1) := by decide +kernel
theorem dS_dropTrack_84 : decode cS_dropTrack 84 = .ok (.ireturn, 1) := by decide +kernel
def jS_dropTrack_59 (h : cH) (K7 : cZ → Int32 → Int32 → Int32 → Int32 → Option (Int32 × cZ)) (z : cZ) (x1 : Int32) (x2 : Int32) (x3 : Int32) (x4 : Int32) : Option (Int32 × cZ) := K7 z x1 x2 x3 (x4 + 1)
def lS_dropTrack_7 (h : cH) : Nat → cZ → Int32 → Int32 → Int32 → Int32 → Option (Int32 × cZ)
  | 0 => fun _ _ _ _ _ => none
  | k + 1 => fun z x1 x2 x3 x4 => if (zi z 7) ≤ x4 then ((fS_copy10 h z x2 x3).bind fun z2 => some (x3, zU z2 7 x2)) else (if x4 < 0 ∨ h.1 3 ≤ x4.toNatClampNeg then none else ((zr z 0 x4.toNatClampNeg).bind fun j4 => if h.2.1 ≤ j4 then none else (if (ze z j4 1) = x1 then (if x3 < 0 ∨ h.1 4 ≤ x3.toNatClampNeg then none else (if okr h.2.1 (zr z 0 x4.toNatClampNeg) = false then none else (jS_dropTrack_59 h (lS_dropTrack_7 h k) (zR z 1 x3.toNatClampNeg (zr z 0 x4.toNatClampNeg)) x1 x2 (x3 + 1) x4))) else (if x2 < 0 ∨ h.1 3 ≤ x2.toNatClampNeg then none else (if okr h.2.1 (zr z 0 x4.toNatClampNeg) = false then none else (jS_dropTrack_59 h (lS_dropTrack_7 h k) (zR z 0 x2.toNatClampNeg (zr z 0 x4.toNatClampNeg)) x1 (x2 + 1) x3 x4))))))
def fS_dropTrack (h : cH) (z : cZ) (x1 : Int32) : Option (Int32 × cZ) := lS_dropTrack_7 h FU z x1 (0 : Int32) (0 : Int32) (0 : Int32)
set_option maxHeartbeats 4000000 in
set_option maxRecDepth 100000 in
theorem wS_dropTrack_59 {p : Program} {l : Launch} {e : Env} {s : State} {m : MethodId} {args : Array Value} {below : List Frame} {meth : Method} {c : Code} {g : gT} {qq ad ea : Nat → Nat} {h : cH} {X : va_W} {rv : Option Value} {z' : cZ} {r' : Int32} (C : mCx p m c cS_dropTrack 6 s args g "MidiDesk$Score") (hr : meth.sig.returnType = (some .int)) (hlk : meth.locks = false) (hrv : rv = some (.int r')) {K7 : cZ → Int32 → Int32 → Int32 → Int32 → Option (Int32 × cZ)} (hK7 : ∀ (z : cZ) (x1 : Int32) (x2 : Int32) (x3 : Int32) (x4 : Int32) (H : Heap) (locs : List Loc) (ls : Array Slot), lv_has ls 6 [(0, .ref (qq 4)), (1, .int x1), (2, .int x2), (3, .int x3), (4, .int x4)] → cWd g (cA g qq ad ea h X s.heap.size) s.heap qq ad ea h X z H locs → K7 z x1 x2 x3 x4 = some (r', z') → cG p l e rS_dropTrack s m args below meth c g qq ad ea h X rv X z' H locs 0 0 (F0 m 7 ls [])) (z : cZ) (x1 : Int32) (x2 : Int32) (x3 : Int32) (x4 : Int32) (H : Heap) (locs : List Loc) (ls : Array Slot) (hl : lv_has ls 6 [(0, .ref (qq 4)), (1, .int x1), (2, .int x2), (3, .int x3), (4, .int x4)]) (hw : cWd g (cA g qq ad ea h X s.heap.size) s.heap qq ad ea h X z H locs) (hf : jS_dropTrack_59 h K7 z x1 x2 x3 x4 = some (r', z')) : cG p l e rS_dropTrack s m args below meth c g qq ad ea h X rv X z' H locs 0 0 (F0 m 59 ls []) := by
  unfold jS_dropTrack_59 at hf
  refine lv_iinc (v := x4 + 1) (lv' := [(4, .int (x4 + 1)), (0, .ref (qq 4)), (1, .int x1), (2, .int x2), (3, .int x3)]) C.1.1 C.1.2.1 dS_dropTrack_59 hl (k := 4) rfl rfl (by decide) rfl (fun ls hl => ?_)
  refine lv_goto (tgt := 7) C.1.1 C.1.2.1 dS_dropTrack_62 (by decide) ?_
  exact hK7 z x1 x2 x3 (x4 + 1) _ _ ls (lv_sub hl [1, 2, 3, 4, 0] rfl) hw hf
set_option maxHeartbeats 4000000 in
set_option maxRecDepth 100000 in
theorem wS_dropTrack_7 {p : Program} {l : Launch} {e : Env} {s : State} {m : MethodId} {args : Array Value} {below : List Frame} {meth : Method} {c : Code} {g : gT} {qq ad ea : Nat → Nat} {h : cH} {X : va_W} {rv : Option Value} {z' : cZ} {r' : Int32} (C : mCx p m c cS_dropTrack 6 s args g "MidiDesk$Score") (hr : meth.sig.returnType = (some .int)) (hlk : meth.locks = false) (hrv : rv = some (.int r')) (k : Nat) : ∀ (z : cZ) (x1 : Int32) (x2 : Int32) (x3 : Int32) (x4 : Int32) (H : Heap) (locs : List Loc) (ls : Array Slot), lv_has ls 6 [(0, .ref (qq 4)), (1, .int x1), (2, .int x2), (3, .int x3), (4, .int x4)] → cWd g (cA g qq ad ea h X s.heap.size) s.heap qq ad ea h X z H locs → lS_dropTrack_7 h k z x1 x2 x3 x4 = some (r', z') → cG p l e rS_dropTrack s m args below meth c g qq ad ea h X rv X z' H locs 0 0 (F0 m 7 ls []) := by
  induction k with
  | zero => intro z x1 x2 x3 x4 H locs ls hl hw hf; cases hf
  | succ k ih =>
    intro z x1 x2 x3 x4 H locs ls hl hw hf
    have hf : (if (zi z 7) ≤ x4 then ((fS_copy10 h z x2 x3).bind fun z2 => some (x3, zU z2 7 x2)) else (if x4 < 0 ∨ h.1 3 ≤ x4.toNatClampNeg then none else ((zr z 0 x4.toNatClampNeg).bind fun j4 => if h.2.1 ≤ j4 then none else (if (ze z j4 1) = x1 then (if x3 < 0 ∨ h.1 4 ≤ x3.toNatClampNeg then none else (if okr h.2.1 (zr z 0 x4.toNatClampNeg) = false then none else (jS_dropTrack_59 h (lS_dropTrack_7 h k) (zR z 1 x3.toNatClampNeg (zr z 0 x4.toNatClampNeg)) x1 x2 (x3 + 1) x4))) else (if x2 < 0 ∨ h.1 3 ≤ x2.toNatClampNeg then none else (if okr h.2.1 (zr z 0 x4.toNatClampNeg) = false then none else (jS_dropTrack_59 h (lS_dropTrack_7 h k) (zR z 0 x2.toNatClampNeg (zr z 0 x4.toNatClampNeg)) x1 (x2 + 1) x3 x4))))))) = some (r', z') := hf
    refine lv_iload C.1.1 C.1.2.1 dS_dropTrack_7 (lv_at hl 4 rfl) ?_
    refine lv_aload_n C.1.1 C.1.2.1 dS_dropTrack_9 rfl (lv_at hl 0 rfl) ?_
    refine cg_Score_Score_size C hw dS_dropTrack_10 ?_
    refine lv_icmp_ge (tgt := 65) C.1.1 C.1.2.1 dS_dropTrack_13 (by decide) (fun c1 => ?_) (fun c1 => ?_)
    · have hf := ts_t hf c1
      refine lv_aload_n C.1.1 C.1.2.1 dS_dropTrack_65 rfl (lv_at hl 0 rfl) ?_
      refine cg_Score_Score_spare C hw dS_dropTrack_66 ?_
      refine lv_aload_n C.1.1 C.1.2.1 dS_dropTrack_69 rfl (lv_at hl 0 rfl) ?_
      refine cg_Score_Score_row C hw dS_dropTrack_70 ?_
      refine lv_iload_n C.1.1 C.1.2.1 dS_dropTrack_73 rfl (lv_at hl 2 rfl) ?_
      refine lv_iload_n C.1.1 C.1.2.1 dS_dropTrack_74 rfl (lv_at hl 3 rfl) ?_
      obtain ⟨z2, g2, hf⟩ := ts_b hf
      try dsimp only at hf
      refine c_callS (rest := []) (As := [.ref (ad 4), .ref (ad 3), .int x2, .int x3]) (rv := none) C hl.1 hw (cS_copy10_met g2) (callS_of (rm := rS_copy10) 4 C.1.2.2.2.2 gw_325 gw_326 gw_54 gw_327 kS_copy10 ⟨Nat.le_of_ble_eq_true rfl, Nat.le_of_ble_eq_true rfl⟩) rfl rfl (Nat.le_of_ble_eq_true rfl) dS_dropTrack_75 ⟨Nat.le_of_ble_eq_true rfl, Nat.le_of_ble_eq_true rfl⟩ (fun H locs hw => ?_)
      refine W.eq (g2 := F0 m 78 ls []) rfl ?_
      refine lv_aload_n C.1.1 C.1.2.1 dS_dropTrack_78 rfl (lv_at hl 0 rfl) ?_
      refine lv_iload_n C.1.1 C.1.2.1 dS_dropTrack_79 rfl (lv_at hl 2 rfl) ?_
      refine cp_Score_Score_size C hw dS_dropTrack_80 (fun H locs hw => ?_)
      refine lv_iload_n C.1.1 C.1.2.1 dS_dropTrack_83 rfl (lv_at hl 3 rfl) ?_
      exact c_reti C hr hlk hrv hw hf rfl ⟨Nat.le_of_ble_eq_true rfl, Nat.le_of_ble_eq_true rfl⟩ dS_dropTrack_84
    · have hf := ts_f hf c1
      refine lv_aload_n C.1.1 C.1.2.1 dS_dropTrack_16 rfl (lv_at hl 0 rfl) ?_
      refine cg_Score_Score_row C hw dS_dropTrack_17 ?_
      refine lv_iload C.1.1 C.1.2.1 dS_dropTrack_20 (lv_at hl 4 rfl) ?_
      obtain ⟨h3, hf⟩ := ts_g hf
      refine cra_0 C hw h3 dS_dropTrack_22 ?_
      refine c_astore (lv' := [(5, va_rf (Option.map ea (zr z 0 x4.toNatClampNeg))), (0, .ref (qq 4)), (1, .int x1), (2, .int x2), (3, .int x3), (4, .int x4)]) C.1.1 C.1.2.1 dS_dropTrack_23 hl (by decide) rfl (fun ls hl => ?_)
      refine c_aload C.1.1 C.1.2.1 dS_dropTrack_25 (lv_at hl 0 rfl) ?_
      obtain ⟨j4, ho4, hf⟩ := ts_b hf
      try dsimp only at hf
      obtain ⟨hb4, hf⟩ := ts_g hf
      have hb4 := Nat.lt_of_not_le hb4
      refine cg_Score_Event_track C hw ho4 hb4 dS_dropTrack_27 ?_
      refine lv_iload_n C.1.1 C.1.2.1 dS_dropTrack_30 rfl (lv_at hl 2 rfl) ?_
      refine lv_icmp_ne (tgt := 48) C.1.1 C.1.2.1 dS_dropTrack_31 (by decide) (fun c5 => ?_) (fun c5 => ?_)
      · have hf := ts_f hf c5
        refine lv_aload_n C.1.1 C.1.2.1 dS_dropTrack_48 rfl (lv_at hl 1 rfl) ?_
        refine cg_Score_Score_row C hw dS_dropTrack_49 ?_
        refine lv_iload_n C.1.1 C.1.2.1 dS_dropTrack_52 rfl (lv_at hl 3 rfl) ?_
        refine c_aload C.1.1 C.1.2.1 dS_dropTrack_53 (lv_at hl 0 rfl) ?_
        obtain ⟨h6, hf⟩ := ts_g hf
        obtain ⟨h7, hf⟩ := ts_g hf
        refine crs_0 C hw h6 h7 dS_dropTrack_55 (fun H locs hw => ?_)
        refine lv_iinc (v := x2 + 1) (lv' := [(2, .int (x2 + 1)), (5, va_rf (Option.map ea (zr z 0 x4.toNatClampNeg))), (0, .ref (qq 4)), (1, .int x1), (3, .int x3), (4, .int x4)]) C.1.1 C.1.2.1 dS_dropTrack_56 hl (k := 3) rfl rfl (by decide) rfl (fun ls hl => ?_)
        exact wS_dropTrack_59 C hr hlk hrv ih (zR z 0 x2.toNatClampNeg (zr z 0 x4.toNatClampNeg)) x1 (x2 + 1) x3 x4 _ _ ls (lv_sub hl [2, 3, 0, 4, 5] rfl) hw hf
      · have hf := ts_t hf c5
        refine lv_aload_n C.1.1 C.1.2.1 dS_dropTrack_34 rfl (lv_at hl 1 rfl) ?_
        refine cg_Score_Score_spare C hw dS_dropTrack_35 ?_
        refine lv_iload_n C.1.1 C.1.2.1 dS_dropTrack_38 rfl (lv_at hl 4 rfl) ?_
        refine c_aload C.1.1 C.1.2.1 dS_dropTrack_39 (lv_at hl 0 rfl) ?_
        obtain ⟨h8, hf⟩ := ts_g hf
        obtain ⟨h9, hf⟩ := ts_g hf
        refine crs_1 C hw h8 h9 dS_dropTrack_41 (fun H locs hw => ?_)
        refine lv_iinc (v := x3 + 1) (lv' := [(3, .int (x3 + 1)), (5, va_rf (Option.map ea (zr z 0 x4.toNatClampNeg))), (0, .ref (qq 4)), (1, .int x1), (2, .int x2), (4, .int x4)]) C.1.1 C.1.2.1 dS_dropTrack_42 hl (k := 4) rfl rfl (by decide) rfl (fun ls hl => ?_)
        refine lv_goto (tgt := 59) C.1.1 C.1.2.1 dS_dropTrack_45 (by decide) ?_
        exact wS_dropTrack_59 C hr hlk hrv ih (zR z 1 x3.toNatClampNeg (zr z 0 x4.toNatClampNeg)) x1 x2 (x3 + 1) x4 _ _ ls (lv_sub hl [2, 3, 4, 0, 5] rfl) hw hf
set_option maxHeartbeats 4000000 in
set_option maxRecDepth 100000 in
theorem cS_dropTrack_met {l : Launch} {g : gT} {qq ad ea : Nat → Nat} {h : cH} {X : va_W} {z z' : cZ} {x1 : Int32} {r' : Int32} (hf : fS_dropTrack h z x1 = some (r', z')) : cMet l yS_dropTrack cS_dropTrack 6 (some .int) rS_dropTrack g qq ad ea h X z [.ref (qq 4), .int x1] (some (.int r')) X z' := by
  refine c_entry (by decide) (Nat.le_of_ble_eq_true rfl) ?_
  intro p e s m args below meth c ls C hr hlk hnm hl hw
  have hrv : (some (.int r') : Option Value) = some (.int r') := rfl
  have C : mCx p m c cS_dropTrack 6 s args g "MidiDesk$Score" := C
  have hl : lv_has ls 6 [(0, .ref (qq 4)), (1, .int x1)] := hl
  unfold fS_dropTrack at hf
  refine lv_iconst (v := (0 : Int32)) C.1.1 C.1.2.1 dS_dropTrack_0 (by decide) ?_
  refine lv_istore_n (lv' := [(2, .int (0 : Int32)), (0, .ref (qq 4)), (1, .int x1)]) C.1.1 C.1.2.1 dS_dropTrack_1 rfl hl (by decide) rfl (fun ls hl => ?_)
  refine lv_iconst (v := (0 : Int32)) C.1.1 C.1.2.1 dS_dropTrack_2 (by decide) ?_
  refine lv_istore_n (lv' := [(3, .int (0 : Int32)), (2, .int (0 : Int32)), (0, .ref (qq 4)), (1, .int x1)]) C.1.1 C.1.2.1 dS_dropTrack_3 rfl hl (by decide) rfl (fun ls hl => ?_)
  refine lv_iconst (v := (0 : Int32)) C.1.1 C.1.2.1 dS_dropTrack_4 (by decide) ?_
  refine lv_istore (lv' := [(4, .int (0 : Int32)), (3, .int (0 : Int32)), (2, .int (0 : Int32)), (0, .ref (qq 4)), (1, .int x1)]) C.1.1 C.1.2.1 dS_dropTrack_5 hl (by decide) rfl (fun ls hl => ?_)
  exact wS_dropTrack_7 C hr hlk hrv FU z x1 (0 : Int32) (0 : Int32) (0 : Int32) _ _ ls (lv_sub hl [3, 4, 2, 1, 0] rfl) hw hf
abbrev cS_hasFrames : ByteArray := prog_6_method_16_code
abbrev yS_hasFrames : MethodName := ⟨"MidiDesk$Score", "hasFrames", "()Z"⟩
theorem kS_hasFrames : yS_hasFrames.cls ≠ "java/lang/invoke/MethodHandle" ∧ yS_hasFrames.cls ≠ "java/lang/invoke/VarHandle" ∧ (parseMethodDescriptor yS_hasFrames.desc).map (fun d => d.parameters.length) = some 0 := by decide +kernel
abbrev rS_hasFrames : Room := { frames := 0, cells := 0, slots := 0, locals := 0 }
theorem dS_hasFrames_0 : decode cS_hasFrames 0 = .ok (.aload_n 0, 1) := by decide +kernel
theorem dS_hasFrames_1 : decode cS_hasFrames 1 = .ok (.getfield 103, 3) := by decide +kernel
theorem dS_hasFrames_4 : decode cS_hasFrames 4 = .ok (.sipush 32767, 3) := by decide +kernel
theorem dS_hasFrames_7 : decode cS_hasFrames 7 = .ok (.if_icmp .le 7, 3) := by decide +kernel
theorem dS_hasFrames_10 : decode cS_hasFrames 10 = .ok (.iconst 1, 1) := by decide +kernel
theorem dS_hasFrames_11 : decode cS_hasFrames 11 = .ok (.goto 4, 3) := by decide +kernel
theorem dS_hasFrames_14 : decode cS_hasFrames 14 = .ok (.iconst 0, 1) := by decide +kernel
theorem dS_hasFrames_15 : decode cS_hasFrames 15 = .ok (.ireturn, 1) := by decide +kernel
def fS_hasFrames (h : cH) (z : cZ) : Option (Int32 × cZ) := if (zi z 6) ≤ (32767 : Int32) then (some ((0 : Int32), z)) else (some ((1 : Int32), z))
set_option maxHeartbeats 4000000 in
set_option maxRecDepth 100000 in
theorem cS_hasFrames_met {l : Launch} {g : gT} {qq ad ea : Nat → Nat} {h : cH} {X : va_W} {z z' : cZ} {r' : Int32} (hf : fS_hasFrames h z = some (r', z')) : cMet l yS_hasFrames cS_hasFrames 1 (some .boolean) rS_hasFrames g qq ad ea h X z [.ref (qq 4)] (some (.int r')) X z' := by
  refine c_entry (by decide) (Nat.le_of_ble_eq_true rfl) ?_
  intro p e s m args below meth c ls C hr hlk hnm hl hw
  have hrv : (some (.int r') : Option Value) = some (.int r') := rfl
  have C : mCx p m c cS_hasFrames 1 s args g "MidiDesk$Score" := C
  have hl : lv_has ls 1 [(0, .ref (qq 4))] := hl
  unfold fS_hasFrames at hf
  refine lv_aload_n C.1.1 C.1.2.1 dS_hasFrames_0 rfl (lv_at hl 0 rfl) ?_
  refine cg_Score_Score_division C hw dS_hasFrames_1 ?_
  refine lv_sipush (v := (32767 : Int32)) C.1.1 C.1.2.1 dS_hasFrames_4 (by decide) ?_
  refine lv_icmp_le (tgt := 14) C.1.1 C.1.2.1 dS_hasFrames_7 (by decide) (fun c1 => ?_) (fun c1 => ?_)
  · have hf := ts_t hf c1
    refine lv_iconst (v := (0 : Int32)) C.1.1 C.1.2.1 dS_hasFrames_14 (by decide) ?_
    exact c_retz C hr hlk hrv hw (Or.inl rfl) hf rfl ⟨Nat.le_of_ble_eq_true rfl, Nat.le_of_ble_eq_true rfl⟩ dS_hasFrames_15
  · have hf := ts_f hf c1
    refine lv_iconst (v := (1 : Int32)) C.1.1 C.1.2.1 dS_hasFrames_10 (by decide) ?_
    refine lv_goto (tgt := 15) C.1.1 C.1.2.1 dS_hasFrames_11 (by decide) ?_
    exact c_retz C hr hlk hrv hw (Or.inr rfl) hf rfl ⟨Nat.le_of_ble_eq_true rfl, Nat.le_of_ble_eq_true rfl⟩ dS_hasFrames_15
abbrev cS_frames : ByteArray := prog_6_method_17_code
abbrev yS_frames : MethodName := ⟨"MidiDesk$Score", "frames", "()I"⟩
theorem kS_frames : yS_frames.cls ≠ "java/lang/invoke/MethodHandle" ∧ yS_frames.cls ≠ "java/lang/invoke/VarHandle" ∧ (parseMethodDescriptor yS_frames.desc).map (fun d => d.parameters.length) = some 0 := by decide +kernel
abbrev rS_frames : Room := { frames := 0, cells := 0, slots := 0, locals := 0 }
theorem dS_frames_0 : decode cS_frames 0 = .ok (.sipush 256, 3) := by decide +kernel
theorem dS_frames_3 : decode cS_frames 3 = .ok (.aload_n 0, 1) := by decide +kernel
theorem dS_frames_4 : decode cS_frames 4 = .ok (.getfield 103, 3) := by decide +kernel
theorem dS_frames_7 : decode cS_frames 7 = .ok (.bipush 8, 2) := by decide +kernel
theorem dS_frames_9 : decode cS_frames 9 = .ok (.ishr, 1) := by decide +kernel
theorem dS_frames_10 : decode cS_frames 10 = .ok (.isub, 1) := by decide +kernel
theorem dS_frames_11 : decode cS_frames 11 = .ok (.ireturn, 1) := by decide +kernel
def fS_frames (h : cH) (z : cZ) : Option (Int32 × cZ) := some ((256 : Int32) - ((zi z 6) >>> ((8 : Int32) &&& 31)), z)
set_option maxHeartbeats 4000000 in
set_option maxRecDepth 100000 in
theorem cS_frames_met {l : Launch} {g : gT} {qq ad ea : Nat → Nat} {h : cH} {X : va_W} {z z' : cZ} {r' : Int32} (hf : fS_frames h z = some (r', z')) : cMet l yS_frames cS_frames 1 (some .int) rS_frames g qq ad ea h X z [.ref (qq 4)] (some (.int r')) X z' := by
  refine c_entry (by decide) (Nat.le_of_ble_eq_true rfl) ?_
  intro p e s m args below meth c ls C hr hlk hnm hl hw
  have hrv : (some (.int r') : Option Value) = some (.int r') := rfl
  have C : mCx p m c cS_frames 1 s args g "MidiDesk$Score" := C
  have hl : lv_has ls 1 [(0, .ref (qq 4))] := hl
  unfold fS_frames at hf
  refine lv_sipush (v := (256 : Int32)) C.1.1 C.1.2.1 dS_frames_0 (by decide) ?_
  refine lv_aload_n C.1.1 C.1.2.1 dS_frames_3 rfl (lv_at hl 0 rfl) ?_
  refine cg_Score_Score_division C hw dS_frames_4 ?_
  refine lv_bipush (v := (8 : Int32)) C.1.1 C.1.2.1 dS_frames_7 (by decide) ?_
  refine lv_ishr C.1.1 C.1.2.1 dS_frames_9 ?_
  refine lv_isub C.1.1 C.1.2.1 dS_frames_10 ?_
  exact c_reti C hr hlk hrv hw hf rfl ⟨Nat.le_of_ble_eq_true rfl, Nat.le_of_ble_eq_true rfl⟩ dS_frames_11
abbrev cS_partsOfMicrosecond : ByteArray := prog_6_method_18_code
abbrev yS_partsOfMicrosecond : MethodName := ⟨"MidiDesk$Score", "partsOfMicrosecond", "()I"⟩
theorem kS_partsOfMicrosecond : yS_partsOfMicrosecond.cls ≠ "java/lang/invoke/MethodHandle" ∧ yS_partsOfMicrosecond.cls ≠ "java/lang/invoke/VarHandle" ∧ (parseMethodDescriptor yS_partsOfMicrosecond.desc).map (fun d => d.parameters.length) = some 0 := by decide +kernel
abbrev rS_partsOfMicrosecond : Room := { frames := 1, cells := 0, slots := 0, locals := 21 }
theorem dS_partsOfMicrosecond_0 : decode cS_partsOfMicrosecond 0 = .ok (.aload_n 0, 1) := by decide +kernel
theorem dS_partsOfMicrosecond_1 : decode cS_partsOfMicrosecond 1 = .ok (.invokevirtual 106, 3) := by decide +kernel
theorem dS_partsOfMicrosecond_4 : decode cS_partsOfMicrosecond 4 = .ok (.ifCond .ne 12, 3) := by decide +kernel
theorem dS_partsOfMicrosecond_7 : decode cS_partsOfMicrosecond 7 = .ok (.iconst 1, 1) := by decide +kernel
theorem dS_partsOfMicrosecond_8 : decode cS_partsOfMicrosecond 8 = .ok (.aload_n 0, 1) := by decide +kernel
theorem dS_partsOfMicrosecond_9 : decode cS_partsOfMicrosecond 9 = .ok (.getfield 103, 3) := by decide +kernel
theorem dS_partsOfMicrosecond_12 : decode cS_partsOfMicrosecond 12 = .ok (.invokestatic 43, 3) := by decide +kernel
theorem dS_partsOfMicrosecond_15 : decode cS_partsOfMicrosecond 15 = .ok (.ireturn, 1) := by decide +kernel
theorem dS_partsOfMicrosecond_16 : decode cS_partsOfMicrosecond 16 = .ok (.iconst 1, 1) := by decide +kernel
theorem dS_partsOfMicrosecond_17 : decode cS_partsOfMicrosecond 17 = .ok (.aload_n 0, 1) := by decide +kernel
theorem dS_partsOfMicrosecond_18 : decode cS_partsOfMicrosecond 18 = .ok (.getfield 103, 3) := by decide +kernel
theorem dS_partsOfMicrosecond_21 : decode cS_partsOfMicrosecond 21 = .ok (.sipush 255, 3) := by decide +kernel
theorem dS_partsOfMicrosecond_24 : decode cS_partsOfMicrosecond 24 = .ok (.iand, 1) := by decide +kernel
theorem dS_partsOfMicrosecond_25 : decode cS_partsOfMicrosecond 25 = .ok (.invokestatic 43, 3) := by decide +kernel
theorem dS_partsOfMicrosecond_28 : decode cS_partsOfMicrosecond 28 = .ok (.istore_n 1, 1) := by decide +kernel
theorem dS_partsOfMicrosecond_29 : decode cS_partsOfMicrosecond 29 = .ok (.iload_n 1, 1) := by decide +kernel
theorem dS_partsOfMicrosecond_30 : decode cS_partsOfMicrosecond 30 = .ok (.aload_n 0, 1) := by decide +kernel
theorem dS_partsOfMicrosecond_31 : decode cS_partsOfMicrosecond 31 = .ok (.invokevirtual 109, 3) := by decide +kernel
theorem dS_partsOfMicrosecond_34 : decode cS_partsOfMicrosecond 34 = .ok (.bipush 29, 2) := by decide +kernel
theorem dS_partsOfMicrosecond_36 : decode cS_partsOfMicrosecond 36 = .ok (.if_icmp .ne 7, 3) := by decide +kernel
theorem dS_partsOfMicrosecond_39 : decode cS_partsOfMicrosecond 39 = .ok (.iconst 3, 1) := by decide +kernel
theorem dS_partsOfMicrosecond_40 : decode cS_partsOfMicrosecond 40 = .ok (.goto 7, 3) := by decide +kernel
theorem dS_partsOfMicrosecond_43 : decode cS_partsOfMicrosecond 43 = .ok (.aload_n 0, 1) := by decide +kernel
theorem dS_partsOfMicrosecond_44 : decode cS_partsOfMicrosecond 44 = .ok (.invokevirtual 109, 3) := by decide +kernel
theorem dS_partsOfMicrosecond_47 : decode cS_partsOfMicrosecond 47 = .ok (.imul, 1) := by decide +kernel
theorem dS_partsOfMicrosecond_48 : decode cS_partsOfMicrosecond 48 = .ok (.ireturn, 1) := by decide +kernel
def fS_partsOfMicrosecond (h : cH) (z : cZ) : Option (Int32 × cZ) := (fS_hasFrames h z).bind fun (r1, z1) => if r1 = 0 then (some (if (1 : Int32) < (zi z1 6) then (zi z1 6) else (1 : Int32), z1)) else ((fS_frames h z1).bind fun (r3, z3) => if r3 = (29 : Int32) then (some ((if (1 : Int32) < ((zi z1 6) &&& (255 : Int32)) then ((zi z1 6) &&& (255 : Int32)) else (1 : Int32)) * (3 : Int32), z3)) else ((fS_frames h z3).bind fun (r5, z5) => some ((if (1 : Int32) < ((zi z1 6) &&& (255 : Int32)) then ((zi z1 6) &&& (255 : Int32)) else (1 : Int32)) * r5, z5)))
set_option maxHeartbeats 4000000 in
set_option maxRecDepth 100000 in
theorem cS_partsOfMicrosecond_met {l : Launch} {g : gT} {qq ad ea : Nat → Nat} {h : cH} {X : va_W} {z z' : cZ} {r' : Int32} (hf : fS_partsOfMicrosecond h z = some (r', z')) : cMet l yS_partsOfMicrosecond cS_partsOfMicrosecond 2 (some .int) rS_partsOfMicrosecond g qq ad ea h X z [.ref (qq 4)] (some (.int r')) X z' := by
  refine c_entry (by decide) (Nat.le_of_ble_eq_true rfl) ?_
  intro p e s m args below meth c ls C hr hlk hnm hl hw
  have hrv : (some (.int r') : Option Value) = some (.int r') := rfl
  have C : mCx p m c cS_partsOfMicrosecond 2 s args g "MidiDesk$Score" := C
  have hl : lv_has ls 2 [(0, .ref (qq 4))] := hl
  unfold fS_partsOfMicrosecond at hf
  refine lv_aload_n C.1.1 C.1.2.1 dS_partsOfMicrosecond_0 rfl (lv_at hl 0 rfl) ?_
  obtain ⟨⟨r1, z1⟩, g1, hf⟩ := ts_b hf
  try dsimp only at hf
  refine c_callV (rest := []) (As := []) (rv := (some (.int r1))) (b := (qq 4)) C hl.1 hw (cS_hasFrames_met g1) rfl (callW_of (rm := rS_hasFrames) (C := "MidiDesk$Score") 0 C.1.2.2.2.2 gw_463 gw_465 gw_16 gw_54 gw_466 kS_hasFrames ⟨Nat.le_of_ble_eq_true rfl, Nat.le_of_ble_eq_true rfl⟩) (c_recv_score C.2 hw) rfl rfl (Nat.le_of_ble_eq_true rfl) dS_partsOfMicrosecond_1 ⟨Nat.le_of_ble_eq_true rfl, Nat.le_of_ble_eq_true rfl⟩ (fun H locs hw => ?_)
  refine W.eq (g2 := F0 m 4 ls [.int r1]) rfl ?_
  refine lv_if_ne (tgt := 16) C.1.1 C.1.2.1 dS_partsOfMicrosecond_4 (by decide) (fun c2 => ?_) (fun c2 => ?_)
  · have hf := ts_f hf c2
    refine lv_iconst (v := (1 : Int32)) C.1.1 C.1.2.1 dS_partsOfMicrosecond_16 (by decide) ?_
    refine lv_aload_n C.1.1 C.1.2.1 dS_partsOfMicrosecond_17 rfl (lv_at hl 0 rfl) ?_
    refine cg_Score_Score_division C hw dS_partsOfMicrosecond_18 ?_
    refine lv_sipush (v := (255 : Int32)) C.1.1 C.1.2.1 dS_partsOfMicrosecond_21 (by decide) ?_
    refine lv_iand C.1.1 C.1.2.1 dS_partsOfMicrosecond_24 ?_
    refine va_mmax C.1.1 C.1.2.1 (by rw [hl.1]; exact C.1.2.2.1) C.1.2.2.2.1 (C.1.2.2.2.2 _ gw_314) (C.1.2.2.2.2 _ gw_315) (C.1.2.2.2.2 _ gw_57) (C.1.2.2.2.2 _ gw_316) (Nat.le_of_ble_eq_true rfl) (Nat.le_of_ble_eq_true rfl) (Nat.le_of_ble_eq_true rfl) (Nat.le_of_ble_eq_true rfl) dS_partsOfMicrosecond_25 ?_
    refine lv_istore_n (lv' := [(1, .int (if (1 : Int32) < ((zi z1 6) &&& (255 : Int32)) then ((zi z1 6) &&& (255 : Int32)) else (1 : Int32))), (0, .ref (qq 4))]) C.1.1 C.1.2.1 dS_partsOfMicrosecond_28 rfl hl (by decide) rfl (fun ls hl => ?_)
    refine lv_iload_n C.1.1 C.1.2.1 dS_partsOfMicrosecond_29 rfl (lv_at hl 0 rfl) ?_
    refine lv_aload_n C.1.1 C.1.2.1 dS_partsOfMicrosecond_30 rfl (lv_at hl 1 rfl) ?_
    obtain ⟨⟨r3, z3⟩, g3, hf⟩ := ts_b hf
    try dsimp only at hf
    refine c_callV (rest := [.int (if (1 : Int32) < ((zi z1 6) &&& (255 : Int32)) then ((zi z1 6) &&& (255 : Int32)) else (1 : Int32))]) (As := []) (rv := (some (.int r3))) (b := (qq 4)) C hl.1 hw (cS_frames_met g3) rfl (callW_of (rm := rS_frames) (C := "MidiDesk$Score") 0 C.1.2.2.2.2 gw_467 gw_469 gw_17 gw_54 gw_470 kS_frames ⟨Nat.le_of_ble_eq_true rfl, Nat.le_of_ble_eq_true rfl⟩) (c_recv_score C.2 hw) rfl rfl (Nat.le_of_ble_eq_true rfl) dS_partsOfMicrosecond_31 ⟨Nat.le_of_ble_eq_true rfl, Nat.le_of_ble_eq_true rfl⟩ (fun H locs hw => ?_)
    refine W.eq (g2 := F0 m 34 ls [.int r3, .int (if (1 : Int32) < ((zi z1 6) &&& (255 : Int32)) then ((zi z1 6) &&& (255 : Int32)) else (1 : Int32))]) rfl ?_
    refine lv_bipush (v := (29 : Int32)) C.1.1 C.1.2.1 dS_partsOfMicrosecond_34 (by decide) ?_
    refine lv_icmp_ne (tgt := 43) C.1.1 C.1.2.1 dS_partsOfMicrosecond_36 (by decide) (fun c4 => ?_) (fun c4 => ?_)
    · have hf := ts_f hf c4
      refine lv_aload_n C.1.1 C.1.2.1 dS_partsOfMicrosecond_43 rfl (lv_at hl 1 rfl) ?_
      obtain ⟨⟨r5, z5⟩, g5, hf⟩ := ts_b hf
      try dsimp only at hf
      refine c_callV (rest := [.int (if (1 : Int32) < ((zi z1 6) &&& (255 : Int32)) then ((zi z1 6) &&& (255 : Int32)) else (1 : Int32))]) (As := []) (rv := (some (.int r5))) (b := (qq 4)) C hl.1 hw (cS_frames_met g5) rfl (callW_of (rm := rS_frames) (C := "MidiDesk$Score") 0 C.1.2.2.2.2 gw_467 gw_469 gw_17 gw_54 gw_470 kS_frames ⟨Nat.le_of_ble_eq_true rfl, Nat.le_of_ble_eq_true rfl⟩) (c_recv_score C.2 hw) rfl rfl (Nat.le_of_ble_eq_true rfl) dS_partsOfMicrosecond_44 ⟨Nat.le_of_ble_eq_true rfl, Nat.le_of_ble_eq_true rfl⟩ (fun H locs hw => ?_)
      refine W.eq (g2 := F0 m 47 ls [.int r5, .int (if (1 : Int32) < ((zi z1 6) &&& (255 : Int32)) then ((zi z1 6) &&& (255 : Int32)) else (1 : Int32))]) rfl ?_
      refine lv_imul C.1.1 C.1.2.1 dS_partsOfMicrosecond_47 ?_
      exact c_reti C hr hlk hrv hw hf rfl ⟨Nat.le_of_ble_eq_true rfl, Nat.le_of_ble_eq_true rfl⟩ dS_partsOfMicrosecond_48
    · have hf := ts_t hf c4
      refine lv_iconst (v := (3 : Int32)) C.1.1 C.1.2.1 dS_partsOfMicrosecond_39 (by decide) ?_
      refine lv_goto (tgt := 47) C.1.1 C.1.2.1 dS_partsOfMicrosecond_40 (by decide) ?_
      refine lv_imul C.1.1 C.1.2.1 dS_partsOfMicrosecond_47 ?_
      exact c_reti C hr hlk hrv hw hf rfl ⟨Nat.le_of_ble_eq_true rfl, Nat.le_of_ble_eq_true rfl⟩ dS_partsOfMicrosecond_48
  · have hf := ts_t hf c2
    refine lv_iconst (v := (1 : Int32)) C.1.1 C.1.2.1 dS_partsOfMicrosecond_7 (by decide) ?_
    refine lv_aload_n C.1.1 C.1.2.1 dS_partsOfMicrosecond_8 rfl (lv_at hl 0 rfl) ?_
    refine cg_Score_Score_division C hw dS_partsOfMicrosecond_9 ?_
    refine va_mmax C.1.1 C.1.2.1 (by rw [hl.1]; exact C.1.2.2.1) C.1.2.2.2.1 (C.1.2.2.2.2 _ gw_314) (C.1.2.2.2.2 _ gw_315) (C.1.2.2.2.2 _ gw_57) (C.1.2.2.2.2 _ gw_316) (Nat.le_of_ble_eq_true rfl) (Nat.le_of_ble_eq_true rfl) (Nat.le_of_ble_eq_true rfl) (Nat.le_of_ble_eq_true rfl) dS_partsOfMicrosecond_12 ?_
    exact c_reti C hr hlk hrv hw hf rfl ⟨Nat.le_of_ble_eq_true rfl, Nat.le_of_ble_eq_true rfl⟩ dS_partsOfMicrosecond_15
abbrev cS_tempoOf : ByteArray := prog_6_method_20_code
abbrev yS_tempoOf : MethodName := ⟨"MidiDesk$Score", "tempoOf", "(LMidiDesk$Event;)I"⟩
theorem kS_tempoOf : yS_tempoOf.cls ≠ "java/lang/invoke/MethodHandle" ∧ yS_tempoOf.cls ≠ "java/lang/invoke/VarHandle" ∧ (parseMethodDescriptor yS_tempoOf.desc).map (fun d => d.parameters.length) = some 1 := by decide +kernel
abbrev rS_tempoOf : Room := { frames := 1, cells := 0, slots := 0, locals := 21 }
theorem dS_tempoOf_0 : decode cS_tempoOf 0 = .ok (.aload_n 0, 1) := by decide +kernel
theorem dS_tempoOf_1 : decode cS_tempoOf 1 = .ok (.getfield 14, 3) := by decide +kernel
theorem dS_tempoOf_4 : decode cS_tempoOf 4 = .ok (.aload_n 1, 1) := by decide +kernel
theorem dS_tempoOf_5 : decode cS_tempoOf 5 = .ok (.getfield 123, 3) := by decide +kernel
theorem dS_tempoOf_8 : decode cS_tempoOf 8 = .ok (.invokevirtual 126, 3) := by decide +kernel
theorem dS_tempoOf_11 : decode cS_tempoOf 11 = .ok (.bipush 16, 2) := by decide +kernel
theorem dS_tempoOf_13 : decode cS_tempoOf 13 = .ok (.ishl, 1) := by decide +kernel
theorem dS_tempoOf_14 : decode cS_tempoOf 14 = .ok (.aload_n 0, 1) := by decide +kernel
theorem dS_tempoOf_15 : decode cS_tempoOf 15 = .ok (.getfield 14, 3) := by decide +kernel
theorem dS_tempoOf_18 : decode cS_tempoOf 18 = .ok (.aload_n 1, 1) := by decide +kernel
theorem dS_tempoOf_19 : decode cS_tempoOf 19 = .ok (.getfield 123, 3) := by decide +kernel
theorem dS_tempoOf_22 : decode cS_tempoOf 22 = .ok (.iconst 1, 1) := by decide +kernel
theorem dS_tempoOf_23 : decode cS_tempoOf 23 = .ok (.iadd, 1) := by decide +kernel
theorem dS_tempoOf_24 : decode cS_tempoOf 24 = .ok (.invokevirtual 126, 3) := by decide +kernel
theorem dS_tempoOf_27 : decode cS_tempoOf 27 = .ok (.bipush 8, 2) := by decide +kernel
theorem dS_tempoOf_29 : decode cS_tempoOf 29 = .ok (.ishl, 1) := by decide +kernel
theorem dS_tempoOf_30 : decode cS_tempoOf 30 = .ok (.ior, 1) := by decide +kernel
theorem dS_tempoOf_31 : decode cS_tempoOf 31 = .ok (.aload_n 0, 1) := by decide +kernel
theorem dS_tempoOf_32 : decode cS_tempoOf 32 = .ok (.getfield 14, 3) := by decide +kernel
theorem dS_tempoOf_35 : decode cS_tempoOf 35 = .ok (.aload_n 1, 1) := by decide +kernel
theorem dS_tempoOf_36 : decode cS_tempoOf 36 = .ok (.getfield 123, 3) := by decide +kernel
theorem dS_tempoOf_39 : decode cS_tempoOf 39 = .ok (.iconst 2, 1) := by decide +kernel
theorem dS_tempoOf_40 : decode cS_tempoOf 40 = .ok (.iadd, 1) := by decide +kernel
theorem dS_tempoOf_41 : decode cS_tempoOf 41 = .ok (.invokevirtual 126, 3) := by decide +kernel
theorem dS_tempoOf_44 : decode cS_tempoOf 44 = .ok (.ior, 1) := by decide +kernel
theorem dS_tempoOf_45 : decode cS_tempoOf 45 = .ok (.ireturn, 1) := by decide +kernel
def fS_tempoOf (h : cH) (z : cZ) (o1 : Option Nat) : Option (Int32 × cZ) := (o1).bind fun j1 => if h.2.1 ≤ j1 then none else ((fB2_at h z (ze z j1 5)).bind fun (r2, z2) => (fB2_at h z2 ((ze z2 j1 5) + (1 : Int32))).bind fun (r3, z3) => (fB2_at h z3 ((ze z3 j1 5) + (2 : Int32))).bind fun (r4, z4) => some (((r2 <<< ((16 : Int32) &&& 31)) ||| (r3 <<< ((8 : Int32) &&& 31))) ||| r4, z4))
set_option maxHeartbeats 4000000 in
set_option maxRecDepth 100000 in
theorem cS_tempoOf_met {l : Launch} {g : gT} {qq ad ea : Nat → Nat} {h : cH} {X : va_W} {z z' : cZ} {o1 : Option Nat} {r' : Int32} (hf : fS_tempoOf h z o1 = some (r', z')) : cMet l yS_tempoOf cS_tempoOf 2 (some .int) rS_tempoOf g qq ad ea h X z [.ref (qq 4), va_rf (Option.map ea o1)] (some (.int r')) X z' := by
  refine c_entry (by decide) (by cases o1 <;> exact Nat.le_of_ble_eq_true rfl) ?_
  intro p e s m args below meth c ls C hr hlk hnm hl hw
  have hrv : (some (.int r') : Option Value) = some (.int r') := rfl
  have C : mCx p m c cS_tempoOf 2 s args g "MidiDesk$Score" := C
  have hl : lv_has ls 2 [(0, .ref (qq 4)), (1, va_rf (Option.map ea o1))] := hl
  unfold fS_tempoOf at hf
  refine lv_aload_n C.1.1 C.1.2.1 dS_tempoOf_0 rfl (lv_at hl 0 rfl) ?_
  refine cg_Score_Score_data C hw dS_tempoOf_1 ?_
  refine c_aload_n C.1.1 C.1.2.1 dS_tempoOf_4 rfl (lv_at hl 1 rfl) ?_
  obtain ⟨j1, ho1, hf⟩ := ts_b hf
  try dsimp only at hf
  obtain ⟨hb1, hf⟩ := ts_g hf
  have hb1 := Nat.lt_of_not_le hb1
  refine cg_Score_Event_start C hw ho1 hb1 dS_tempoOf_5 ?_
  obtain ⟨⟨r2, z2⟩, g2, hf⟩ := ts_b hf
  try dsimp only at hf
  refine c_callV (rest := []) (As := [.int (ze z j1 5)]) (rv := (some (.int r2))) (b := (qq 3)) C hl.1 hw (cB2_at_met g2) rfl (callW_of (rm := rB2_at) (C := "MidiDesk$Bytes") 1 C.1.2.2.2.2 gw_583 gw_256 gw_257 gw_53 gw_258 kB2_at ⟨Nat.le_of_ble_eq_true rfl, Nat.le_of_ble_eq_true rfl⟩) (c_recv_B2 C.2 hw) rfl rfl (Nat.le_of_ble_eq_true rfl) dS_tempoOf_8 ⟨Nat.le_of_ble_eq_true rfl, Nat.le_of_ble_eq_true rfl⟩ (fun H locs hw => ?_)
  refine W.eq (g2 := F0 m 11 ls [.int r2]) rfl ?_
  refine lv_bipush (v := (16 : Int32)) C.1.1 C.1.2.1 dS_tempoOf_11 (by decide) ?_
  refine lv_ishl C.1.1 C.1.2.1 dS_tempoOf_13 ?_
  refine lv_aload_n C.1.1 C.1.2.1 dS_tempoOf_14 rfl (lv_at hl 0 rfl) ?_
  refine cg_Score_Score_data C hw dS_tempoOf_15 ?_
  refine c_aload_n C.1.1 C.1.2.1 dS_tempoOf_18 rfl (lv_at hl 1 rfl) ?_
  refine cg_Score_Event_start C hw ho1 hb1 dS_tempoOf_19 ?_
  refine lv_iconst (v := (1 : Int32)) C.1.1 C.1.2.1 dS_tempoOf_22 (by decide) ?_
  refine lv_iadd C.1.1 C.1.2.1 dS_tempoOf_23 ?_
  obtain ⟨⟨r3, z3⟩, g3, hf⟩ := ts_b hf
  try dsimp only at hf
  refine c_callV (rest := [.int (r2 <<< ((16 : Int32) &&& 31))]) (As := [.int ((ze z2 j1 5) + (1 : Int32))]) (rv := (some (.int r3))) (b := (qq 3)) C hl.1 hw (cB2_at_met g3) rfl (callW_of (rm := rB2_at) (C := "MidiDesk$Bytes") 1 C.1.2.2.2.2 gw_583 gw_256 gw_257 gw_53 gw_258 kB2_at ⟨Nat.le_of_ble_eq_true rfl, Nat.le_of_ble_eq_true rfl⟩) (c_recv_B2 C.2 hw) rfl rfl (Nat.le_of_ble_eq_true rfl) dS_tempoOf_24 ⟨Nat.le_of_ble_eq_true rfl, Nat.le_of_ble_eq_true rfl⟩ (fun H locs hw => ?_)
  refine W.eq (g2 := F0 m 27 ls [.int r3, .int (r2 <<< ((16 : Int32) &&& 31))]) rfl ?_
  refine lv_bipush (v := (8 : Int32)) C.1.1 C.1.2.1 dS_tempoOf_27 (by decide) ?_
  refine lv_ishl C.1.1 C.1.2.1 dS_tempoOf_29 ?_
  refine lv_ior C.1.1 C.1.2.1 dS_tempoOf_30 ?_
  refine lv_aload_n C.1.1 C.1.2.1 dS_tempoOf_31 rfl (lv_at hl 0 rfl) ?_
  refine cg_Score_Score_data C hw dS_tempoOf_32 ?_
  refine c_aload_n C.1.1 C.1.2.1 dS_tempoOf_35 rfl (lv_at hl 1 rfl) ?_
  refine cg_Score_Event_start C hw ho1 hb1 dS_tempoOf_36 ?_
  refine lv_iconst (v := (2 : Int32)) C.1.1 C.1.2.1 dS_tempoOf_39 (by decide) ?_
  refine lv_iadd C.1.1 C.1.2.1 dS_tempoOf_40 ?_
  obtain ⟨⟨r4, z4⟩, g4, hf⟩ := ts_b hf
  try dsimp only at hf
  refine c_callV (rest := [.int ((r2 <<< ((16 : Int32) &&& 31)) ||| (r3 <<< ((8 : Int32) &&& 31)))]) (As := [.int ((ze z3 j1 5) + (2 : Int32))]) (rv := (some (.int r4))) (b := (qq 3)) C hl.1 hw (cB2_at_met g4) rfl (callW_of (rm := rB2_at) (C := "MidiDesk$Bytes") 1 C.1.2.2.2.2 gw_583 gw_256 gw_257 gw_53 gw_258 kB2_at ⟨Nat.le_of_ble_eq_true rfl, Nat.le_of_ble_eq_true rfl⟩) (c_recv_B2 C.2 hw) rfl rfl (Nat.le_of_ble_eq_true rfl) dS_tempoOf_41 ⟨Nat.le_of_ble_eq_true rfl, Nat.le_of_ble_eq_true rfl⟩ (fun H locs hw => ?_)
  refine W.eq (g2 := F0 m 44 ls [.int r4, .int ((r2 <<< ((16 : Int32) &&& 31)) ||| (r3 <<< ((8 : Int32) &&& 31)))]) rfl ?_
  refine lv_ior C.1.1 C.1.2.1 dS_tempoOf_44 ?_
  exact c_reti C hr hlk hrv hw hf rfl ⟨Nat.le_of_ble_eq_true rfl, Nat.le_of_ble_eq_true rfl⟩ dS_tempoOf_45
abbrev cS_partsBefore : ByteArray := prog_6_method_19_code
abbrev yS_partsBefore : MethodName := ⟨"MidiDesk$Score", "partsBefore", "(I)J"⟩
theorem kS_partsBefore : yS_partsBefore.cls ≠ "java/lang/invoke/MethodHandle" ∧ yS_partsBefore.cls ≠ "java/lang/invoke/VarHandle" ∧ (parseMethodDescriptor yS_partsBefore.desc).map (fun d => d.parameters.length) = some 1 := by decide +kernel
abbrev rS_partsBefore : Room := { frames := 2, cells := 0, slots := 0, locals := 42 }
theorem dS_partsBefore_0 : decode cS_partsBefore 0 = .ok (.aload_n 0, 1) := by decide +kernel
theorem dS_partsBefore_1 : decode cS_partsBefore 1 = .ok (.invokevirtual 106, 3) := by decide +kernel
theorem dS_partsBefore_4 : decode cS_partsBefore 4 = .ok (.ifCond .eq 24, 3) := by decide +kernel
theorem dS_partsBefore_7 : decode cS_partsBefore 7 = .ok (.iload_n 1, 1) := by decide +kernel
theorem dS_partsBefore_8 : decode cS_partsBefore 8 = .ok (.i2l, 1) := by decide +kernel
theorem dS_partsBefore_9 : decode cS_partsBefore 9 = .ok (.aload_n 0, 1) := by decide +kernel
theorem dS_partsBefore_10 : decode cS_partsBefore 10 = .ok (.invokevirtual 109, 3) := by decide +kernel
theorem dS_partsBefore_13 : decode cS_partsBefore 13 = .ok (.bipush 29, 2) := by decide +kernel
theorem dS_partsBefore_15 : decode cS_partsBefore 15 = .ok (.if_icmp .ne 8, 3) := by decide +kernel
theorem dS_partsBefore_18 : decode cS_partsBefore 18 = .ok (.ldc 112, 2) := by decide +kernel
theorem dS_partsBefore_20 : decode cS_partsBefore 20 = .ok (.goto 5, 3) := by decide +kernel
theorem dS_partsBefore_23 : decode cS_partsBefore 23 = .ok (.ldc 113, 2) := by decide +kernel
theorem dS_partsBefore_25 : decode cS_partsBefore 25 = .ok (.i2l, 1) := by decide +kernel
theorem dS_partsBefore_26 : decode cS_partsBefore 26 = .ok (.lmul, 1) := by decide +kernel
theorem dS_partsBefore_27 : decode cS_partsBefore 27 = .ok (.lreturn, 1) := by decide +kernel
theorem dS_partsBefore_28 : decode cS_partsBefore 28 = .ok (.lconst 0, 1) := by decide +kernel
theorem dS_partsBefore_29 : decode cS_partsBefore 29 = .ok (.lstore_n 2, 1) := by decide +kernel
theorem dS_partsBefore_30 : decode cS_partsBefore 30 = .ok (.ldc2_w 114, 3) := by decide +kernel
theorem dS_partsBefore_33 : decode cS_partsBefore 33 = .ok (.lstore 4, 2) := by decide +kernel
theorem dS_partsBefore_35 : decode cS_partsBefore 35 = .ok (.iconst 0, 1) := by decide +kernel
theorem dS_partsBefore_36 : decode cS_partsBefore 36 = .ok (.istore 6, 2) := by decide +kernel
theorem dS_partsBefore_38 : decode cS_partsBefore 38 = .ok (.iconst 0, 1) := by decide +kernel
theorem dS_partsBefore_39 : decode cS_partsBefore 39 = .ok (.istore 7, 2) := by decide +kernel
theorem dS_partsBefore_41 : decode cS_partsBefore 41 = .ok (.iload 7, 2) := by decide +kernel
theorem dS_partsBefore_43 : decode cS_partsBefore 43 = .ok (.aload_n 0, 1) := by decide +kernel
theorem dS_partsBefore_44 : decode cS_partsBefore 44 = .ok (.getfield 33, 3) := by decide +kernel
theorem dS_partsBefore_47 : decode cS_partsBefore 47 = .ok (.if_icmp .ge 87, 3) := by decide +kernel
theorem dS_partsBefore_50 : decode cS_partsBefore 50 = .ok (.aload_n 0, 1) := by decide +kernel
theorem dS_partsBefore_51 : decode cS_partsBefore 51 = .ok (.getfield 22, 3) := by decide +kernel
theorem dS_partsBefore_54 : decode cS_partsBefore 54 = .ok (.iload 7, 2) := by decide +kernel
theorem dS_partsBefore_56 : decode cS_partsBefore 56 = .ok (.aaload, 1) := by decide +kernel
theorem dS_partsBefore_57 : decode cS_partsBefore 57 = .ok (.getfield 65, 3) := by decide +kernel
theorem dS_partsBefore_60 : decode cS_partsBefore 60 = .ok (.iload_n 1, 1) := by decide +kernel
theorem dS_partsBefore_61 : decode cS_partsBefore 61 = .ok (.if_icmp .ge 73, 3) := by decide +kernel
theorem dS_partsBefore_64 : decode cS_partsBefore 64 = .ok (.aload_n 0, 1) := by decide +kernel
theorem dS_partsBefore_65 : decode cS_partsBefore 65 = .ok (.getfield 22, 3) := by decide +kernel
theorem dS_partsBefore_68 : decode cS_partsBefore 68 = .ok (.iload 7, 2) := by decide +kernel
theorem dS_partsBefore_70 : decode cS_partsBefore 70 = .ok (.aaload, 1) := by decide +kernel
theorem dS_partsBefore_71 : decode cS_partsBefore 71 = .ok (.astore 8, 2) := by decide +kernel
theorem dS_partsBefore_73 : decode cS_partsBefore 73 = .ok (.aload 8, 2) := by decide +kernel
theorem dS_partsBefore_75 : decode cS_partsBefore 75 = .ok (.invokevirtual 68, 3) := by decide +kernel
theorem dS_partsBefore_78 : decode cS_partsBefore 78 = .ok (.ifCond .eq 50, 3) := by decide +kernel
theorem dS_partsBefore_81 : decode cS_partsBefore 81 = .ok (.aload_n 0, 1) := by decide +kernel
theorem dS_partsBefore_82 : decode cS_partsBefore 82 = .ok (.getfield 116, 3) := by decide +kernel
theorem dS_partsBefore_85 : decode cS_partsBefore 85 = .ok (.iconst 2, 1) := by decide +kernel
theorem dS_partsBefore_86 : decode cS_partsBefore 86 = .ok (.if_icmp .ne 11, 3) := by decide +kernel
theorem dS_partsBefore_89 : decode cS_partsBefore 89 = .ok (.aload 8, 2) := by decide +kernel
theorem dS_partsBefore_91 : decode cS_partsBefore 91 = .ok (.getfield 100, 3) := by decide +kernel
theorem dS_partsBefore_94 : decode cS_partsBefore 94 = .ok (.ifCond .ne 34, 3) := by decide +kernel
theorem dS_partsBefore_97 : decode cS_partsBefore 97 = .ok (.lload_n 2, 1) := by decide +kernel
theorem dS_partsBefore_98 : decode cS_partsBefore 98 = .ok (.lload 4, 2) := by decide +kernel
theorem dS_partsBefore_100 : decode cS_partsBefore 100 = .ok (.aload 8, 2) := by decide +kernel
theorem dS_partsBefore_102 : decode cS_partsBefore 102 = .ok (.getfield 65, 3) := by decide +kernel
theorem dS_partsBefore_105 : decode cS_partsBefore 105 = .ok (.iload 6, 2) := by decide +kernel
theorem dS_partsBefore_107 : decode cS_partsBefore 107 = .ok (.isub, 1) := by decide +kernel
theorem dS_partsBefore_108 : decode cS_partsBefore 108 = .ok (.i2l, 1) := by decide +kernel
theorem dS_partsBefore_109 : decode cS_partsBefore 109 = .ok (.lmul, 1) := by decide +kernel
theorem dS_partsBefore_110 : decode cS_partsBefore 110 = .ok (.ladd, 1) := by decide +kernel
theorem dS_partsBefore_111 : decode cS_partsBefore 111 = .ok (.lstore_n 2, 1) := by decide +kernel
theorem dS_partsBefore_112 : decode cS_partsBefore 112 = .ok (.aload 8, 2) := by decide +kernel
theorem dS_partsBefore_114 : decode cS_partsBefore 114 = .ok (.getfield 65, 3) := by decide +kernel
theorem dS_partsBefore_117 : decode cS_partsBefore 117 = .ok (.istore 6, 2) := by decide +kernel
theorem dS_partsBefore_119 : decode cS_partsBefore 119 = .ok (.aload_n 0, 1) := by decide +kernel
theorem dS_partsBefore_120 : decode cS_partsBefore 120 = .ok (.aload 8, 2) := by decide +kernel
theorem dS_partsBefore_122 : decode cS_partsBefore 122 = .ok (.invokevirtual 119, 3) := by decide +kernel
theorem dS_partsBefore_125 : decode cS_partsBefore 125 = .ok (.i2l, 1) := by decide +kernel
theorem dS_partsBefore_126 : decode cS_partsBefore 126 = .ok (.lstore 4, 2) := by decide +kernel
theorem dS_partsBefore_128 : decode cS_partsBefore 128 = .ok (.iinc 7 1, 3) := by decide +kernel
theorem dS_partsBefore_131 : decode cS_partsBefore 131 = .ok (.goto (-90), 3) := by decide +kernel
theorem dS_partsBefore_134 : decode cS_partsBefore 134 = .ok (.lload_n 2, 1) := by decide +kernel
theorem dS_partsBefore_135 : decode cS_partsBefore 135 = .ok (.lload 4, 2) := by decide +kernel
theorem dS_partsBefore_137 : decode cS_partsBefore 137 = .ok (.iload_n 1, 1) := by decide +kernel
theorem dS_partsBefore_138 : decode cS_partsBefore 138 = .ok (.iload 6, 2) := by decide +kernel
theorem dS_partsBefore_140 : decode cS_partsBefore 140 = .ok (.isub, 1) := by decide +kernel
theorem dS_partsBefore_141 : decode cS_partsBefore 141 = .ok (.i2l, 1) := by decide +kernel
theorem dS_partsBefore_142 : decode cS_partsBefore 142 = .ok (.lmul, 1) := by decide +kernel
theorem dS_partsBefore_143 : decode cS_partsBefore 143 = .ok (.ladd, 1) := by decide +kernel
theorem dS_partsBefore_144 : decode cS_partsBefore 144 = .ok (.lreturn, 1) := by decide +kernel
def jS_partsBefore_128 (h : cH) (K41 : cZ → Int32 → Int64 → Int64 → Int32 → Int32 → Option (Int64 × cZ)) (z : cZ) (x1 : Int32) (y2 : Int64) (y4 : Int64) (x6 : Int32) (x7 : Int32) : Option (Int64 × cZ) := K41 z x1 y2 y4 x6 (x7 + 1)
def jS_partsBefore_97 (h : cH) (K41 : cZ → Int32 → Int64 → Int64 → Int32 → Int32 → Option (Int64 × cZ)) (z : cZ) (x1 : Int32) (y2 : Int64) (y4 : Int64) (x6 : Int32) (x7 : Int32) (o8 : Option Nat) : Option (Int64 × cZ) := (o8).bind fun j1 => if h.2.1 ≤ j1 then none else ((fS_tempoOf h z o8).bind fun (r2, z2) => jS_partsBefore_128 h K41 z2 x1 (y2 + (y4 * (((ze z j1 0) - x6).toInt64))) r2.toInt64 (ze z j1 0) x7)
def jS_partsBefore_134 (h : cH) (z : cZ) (x1 : Int32) (y2 : Int64) (y4 : Int64) (x6 : Int32) : Option (Int64 × cZ) := some (y2 + (y4 * ((x1 - x6).toInt64)), z)
def lS_partsBefore_41 (h : cH) : Nat → cZ → Int32 → Int64 → Int64 → Int32 → Int32 → Option (Int64 × cZ)
  | 0 => fun _ _ _ _ _ _ => none
  | k + 1 => fun z x1 y2 y4 x6 x7 => if (zi z 7) ≤ x7 then (jS_partsBefore_134 h z x1 y2 y4 x6) else (if x7 < 0 ∨ h.1 3 ≤ x7.toNatClampNeg then none else ((zr z 0 x7.toNatClampNeg).bind fun j3 => if h.2.1 ≤ j3 then none else (if x1 ≤ (ze z j3 0) then (jS_partsBefore_134 h z x1 y2 y4 x6) else (if x7 < 0 ∨ h.1 3 ≤ x7.toNatClampNeg then none else ((fE_isTempo h z j3).bind fun (r6, z6) => if r6 = 0 then (jS_partsBefore_128 h (lS_partsBefore_41 h k) z6 x1 y2 y4 x6 x7) else (if (zi z6 4) = (2 : Int32) then (if (ze z6 j3 1) = 0 then (jS_partsBefore_97 h (lS_partsBefore_41 h k) z6 x1 y2 y4 x6 x7 (zr z 0 x7.toNatClampNeg)) else (jS_partsBefore_128 h (lS_partsBefore_41 h k) z6 x1 y2 y4 x6 x7)) else (jS_partsBefore_97 h (lS_partsBefore_41 h k) z6 x1 y2 y4 x6 x7 (zr z 0 x7.toNatClampNeg))))))))
def fS_partsBefore (h : cH) (z : cZ) (x1 : Int32) : Option (Int64 × cZ) := (fS_hasFrames h z).bind fun (r1, z1) => if r1 = 0 then (lS_partsBefore_41 h FU z1 x1 (0 : Int64) (500000 : Int64) (0 : Int32) (0 : Int32)) else ((fS_frames h z1).bind fun (r3, z3) => if r3 = (29 : Int32) then (some (x1.toInt64 * ((100100 : Int32).toInt64), z3)) else (some (x1.toInt64 * ((1000000 : Int32).toInt64), z3)))
set_option maxHeartbeats 4000000 in
set_option maxRecDepth 100000 in
theorem wS_partsBefore_128 {p : Program} {l : Launch} {e : Env} {s : State} {m : MethodId} {args : Array Value} {below : List Frame} {meth : Method} {c : Code} {g : gT} {qq ad ea : Nat → Nat} {h : cH} {X : va_W} {rv : Option Value} {z' : cZ} {r' : Int64} (C : mCx p m c cS_partsBefore 9 s args g "MidiDesk$Score") (hr : meth.sig.returnType = (some .long)) (hlk : meth.locks = false) (hrv : rv = some (.long r')) {K41 : cZ → Int32 → Int64 → Int64 → Int32 → Int32 → Option (Int64 × cZ)} (hK41 : ∀ (z : cZ) (x1 : Int32) (y2 : Int64) (y4 : Int64) (x6 : Int32) (x7 : Int32) (H : Heap) (locs : List Loc) (ls : Array Slot), lv_has ls 9 [(0, .ref (qq 4)), (1, .int x1), (2, .long y2), (4, .long y4), (6, .int x6), (7, .int x7)] → cWd g (cA g qq ad ea h X s.heap.size) s.heap qq ad ea h X z H locs → K41 z x1 y2 y4 x6 x7 = some (r', z') → cG p l e rS_partsBefore s m args below meth c g qq ad ea h X rv X z' H locs 0 0 (F0 m 41 ls [])) (z : cZ) (x1 : Int32) (y2 : Int64) (y4 : Int64) (x6 : Int32) (x7 : Int32) (H : Heap) (locs : List Loc) (ls : Array Slot) (hl : lv_has ls 9 [(0, .ref (qq 4)), (1, .int x1), (2, .long y2), (4, .long y4), (6, .int x6), (7, .int x7)]) (hw : cWd g (cA g qq ad ea h X s.heap.size) s.heap qq ad ea h X z H locs) (hf : jS_partsBefore_128 h K41 z x1 y2 y4 x6 x7 = some (r', z')) : cG p l e rS_partsBefore s m args below meth c g qq ad ea h X rv X z' H locs 0 0 (F0 m 128 ls []) := by
  unfold jS_partsBefore_128 at hf
  refine lv_iinc (v := x7 + 1) (lv' := [(7, .int (x7 + 1)), (0, .ref (qq 4)), (1, .int x1), (2, .long y2), (4, .long y4), (6, .int x6)]) C.1.1 C.1.2.1 dS_partsBefore_128 hl (k := 5) rfl rfl (by decide) rfl (fun ls hl => ?_)
  refine lv_goto (tgt := 41) C.1.1 C.1.2.1 dS_partsBefore_131 (by decide) ?_
  exact hK41 z x1 y2 y4 x6 (x7 + 1) _ _ ls (lv_sub hl [1, 2, 3, 4, 5, 0] rfl) hw hf
set_option maxHeartbeats 4000000 in
set_option maxRecDepth 100000 in
theorem wS_partsBefore_97 {p : Program} {l : Launch} {e : Env} {s : State} {m : MethodId} {args : Array Value} {below : List Frame} {meth : Method} {c : Code} {g : gT} {qq ad ea : Nat → Nat} {h : cH} {X : va_W} {rv : Option Value} {z' : cZ} {r' : Int64} (C : mCx p m c cS_partsBefore 9 s args g "MidiDesk$Score") (hr : meth.sig.returnType = (some .long)) (hlk : meth.locks = false) (hrv : rv = some (.long r')) {K41 : cZ → Int32 → Int64 → Int64 → Int32 → Int32 → Option (Int64 × cZ)} (hK41 : ∀ (z : cZ) (x1 : Int32) (y2 : Int64) (y4 : Int64) (x6 : Int32) (x7 : Int32) (H : Heap) (locs : List Loc) (ls : Array Slot), lv_has ls 9 [(0, .ref (qq 4)), (1, .int x1), (2, .long y2), (4, .long y4), (6, .int x6), (7, .int x7)] → cWd g (cA g qq ad ea h X s.heap.size) s.heap qq ad ea h X z H locs → K41 z x1 y2 y4 x6 x7 = some (r', z') → cG p l e rS_partsBefore s m args below meth c g qq ad ea h X rv X z' H locs 0 0 (F0 m 41 ls [])) (z : cZ) (x1 : Int32) (y2 : Int64) (y4 : Int64) (x6 : Int32) (x7 : Int32) (o8 : Option Nat) (H : Heap) (locs : List Loc) (ls : Array Slot) (hl : lv_has ls 9 [(0, .ref (qq 4)), (1, .int x1), (2, .long y2), (4, .long y4), (6, .int x6), (7, .int x7), (8, va_rf (Option.map ea o8))]) (hw : cWd g (cA g qq ad ea h X s.heap.size) s.heap qq ad ea h X z H locs) (hf : jS_partsBefore_97 h K41 z x1 y2 y4 x6 x7 o8 = some (r', z')) : cG p l e rS_partsBefore s m args below meth c g qq ad ea h X rv X z' H locs 0 0 (F0 m 97 ls []) := by
  unfold jS_partsBefore_97 at hf
  refine lv_lload_n C.1.1 C.1.2.1 dS_partsBefore_97 rfl (lv_at hl 2 rfl) ?_
  refine lv_lload C.1.1 C.1.2.1 dS_partsBefore_98 (lv_at hl 3 rfl) ?_
  refine c_aload C.1.1 C.1.2.1 dS_partsBefore_100 (lv_at hl 6 rfl) ?_
  obtain ⟨j1, ho1, hf⟩ := ts_b hf
  try dsimp only at hf
  obtain ⟨hb1, hf⟩ := ts_g hf
  have hb1 := Nat.lt_of_not_le hb1
  refine cg_Score_Event_tick C hw ho1 hb1 dS_partsBefore_102 ?_
  refine lv_iload C.1.1 C.1.2.1 dS_partsBefore_105 (lv_at hl 4 rfl) ?_
  refine lv_isub C.1.1 C.1.2.1 dS_partsBefore_107 ?_
  refine lv_i2l C.1.1 C.1.2.1 dS_partsBefore_108 rfl ?_
  refine lv_lmul C.1.1 C.1.2.1 dS_partsBefore_109 ?_
  refine lv_ladd C.1.1 C.1.2.1 dS_partsBefore_110 ?_
  refine lv_lstore_n (lv' := [(2, .long (y2 + (y4 * (((ze z j1 0) - x6).toInt64)))), (0, .ref (qq 4)), (1, .int x1), (4, .long y4), (6, .int x6), (7, .int x7), (8, va_rf (Option.map ea o8))]) C.1.1 C.1.2.1 dS_partsBefore_111 rfl hl (by decide) rfl (fun ls hl => ?_)
  refine c_aload C.1.1 C.1.2.1 dS_partsBefore_112 (lv_at hl 6 rfl) ?_
  refine cg_Score_Event_tick C hw ho1 hb1 dS_partsBefore_114 ?_
  refine lv_istore (lv' := [(6, .int (ze z j1 0)), (2, .long (y2 + (y4 * (((ze z j1 0) - x6).toInt64)))), (0, .ref (qq 4)), (1, .int x1), (4, .long y4), (7, .int x7), (8, va_rf (Option.map ea o8))]) C.1.1 C.1.2.1 dS_partsBefore_117 hl (by decide) rfl (fun ls hl => ?_)
  refine lv_aload_n C.1.1 C.1.2.1 dS_partsBefore_119 rfl (lv_at hl 2 rfl) ?_
  refine c_aload C.1.1 C.1.2.1 dS_partsBefore_120 (lv_at hl 6 rfl) ?_
  obtain ⟨⟨r2, z2⟩, g2, hf⟩ := ts_b hf
  try dsimp only at hf
  refine c_callV (rest := []) (As := [va_rf (Option.map ea o8)]) (rv := (some (.int r2))) (b := (qq 4)) C hl.1 hw (cS_tempoOf_met g2) rfl (callW_of (rm := rS_tempoOf) (C := "MidiDesk$Score") 1 C.1.2.2.2.2 gw_579 gw_581 gw_21 gw_54 gw_582 kS_tempoOf ⟨Nat.le_of_ble_eq_true rfl, Nat.le_of_ble_eq_true rfl⟩) (c_recv_score C.2 hw) rfl rfl (Nat.le_of_ble_eq_true rfl) dS_partsBefore_122 ⟨Nat.le_of_ble_eq_true rfl, Nat.le_of_ble_eq_true rfl⟩ (fun H locs hw => ?_)
  refine W.eq (g2 := F0 m 125 ls [.int r2]) rfl ?_
  refine lv_i2l C.1.1 C.1.2.1 dS_partsBefore_125 rfl ?_
  refine lv_lstore (lv' := [(4, .long r2.toInt64), (6, .int (ze z j1 0)), (2, .long (y2 + (y4 * (((ze z j1 0) - x6).toInt64)))), (0, .ref (qq 4)), (1, .int x1), (7, .int x7), (8, va_rf (Option.map ea o8))]) C.1.1 C.1.2.1 dS_partsBefore_126 hl (by decide) rfl (fun ls hl => ?_)
  exact wS_partsBefore_128 C hr hlk hrv hK41 z2 x1 (y2 + (y4 * (((ze z j1 0) - x6).toInt64))) r2.toInt64 (ze z j1 0) x7 _ _ ls (lv_sub hl [3, 4, 2, 0, 1, 5] rfl) hw hf
set_option maxHeartbeats 4000000 in
set_option maxRecDepth 100000 in
theorem wS_partsBefore_134 {p : Program} {l : Launch} {e : Env} {s : State} {m : MethodId} {args : Array Value} {below : List Frame} {meth : Method} {c : Code} {g : gT} {qq ad ea : Nat → Nat} {h : cH} {X : va_W} {rv : Option Value} {z' : cZ} {r' : Int64} (C : mCx p m c cS_partsBefore 9 s args g "MidiDesk$Score") (hr : meth.sig.returnType = (some .long)) (hlk : meth.locks = false) (hrv : rv = some (.long r')) (z : cZ) (x1 : Int32) (y2 : Int64) (y4 : Int64) (x6 : Int32) (H : Heap) (locs : List Loc) (ls : Array Slot) (hl : lv_has ls 9 [(0, .ref (qq 4)), (1, .int x1), (2, .long y2), (4, .long y4), (6, .int x6)]) (hw : cWd g (cA g qq ad ea h X s.heap.size) s.heap qq ad ea h X z H locs) (hf : jS_partsBefore_134 h z x1 y2 y4 x6 = some (r', z')) : cG p l e rS_partsBefore s m args below meth c g qq ad ea h X rv X z' H locs 0 0 (F0 m 134 ls []) := by
  unfold jS_partsBefore_134 at hf
  refine lv_lload_n C.1.1 C.1.2.1 dS_partsBefore_134 rfl (lv_at hl 2 rfl) ?_
  refine lv_lload C.1.1 C.1.2.1 dS_partsBefore_135 (lv_at hl 3 rfl) ?_
  refine lv_iload_n C.1.1 C.1.2.1 dS_partsBefore_137 rfl (lv_at hl 1 rfl) ?_
  refine lv_iload C.1.1 C.1.2.1 dS_partsBefore_138 (lv_at hl 4 rfl) ?_
  refine lv_isub C.1.1 C.1.2.1 dS_partsBefore_140 ?_
  refine lv_i2l C.1.1 C.1.2.1 dS_partsBefore_141 rfl ?_
  refine lv_lmul C.1.1 C.1.2.1 dS_partsBefore_142 ?_
  refine lv_ladd C.1.1 C.1.2.1 dS_partsBefore_143 ?_
  exact c_retl C hr hlk hrv hw hf rfl ⟨Nat.le_of_ble_eq_true rfl, Nat.le_of_ble_eq_true rfl⟩ dS_partsBefore_144
set_option maxHeartbeats 4000000 in
set_option maxRecDepth 100000 in
theorem wS_partsBefore_41 {p : Program} {l : Launch} {e : Env} {s : State} {m : MethodId} {args : Array Value} {below : List Frame} {meth : Method} {c : Code} {g : gT} {qq ad ea : Nat → Nat} {h : cH} {X : va_W} {rv : Option Value} {z' : cZ} {r' : Int64} (C : mCx p m c cS_partsBefore 9 s args g "MidiDesk$Score") (hr : meth.sig.returnType = (some .long)) (hlk : meth.locks = false) (hrv : rv = some (.long r')) (k : Nat) : ∀ (z : cZ) (x1 : Int32) (y2 : Int64) (y4 : Int64) (x6 : Int32) (x7 : Int32) (H : Heap) (locs : List Loc) (ls : Array Slot), lv_has ls 9 [(0, .ref (qq 4)), (1, .int x1), (2, .long y2), (4, .long y4), (6, .int x6), (7, .int x7)] → cWd g (cA g qq ad ea h X s.heap.size) s.heap qq ad ea h X z H locs → lS_partsBefore_41 h k z x1 y2 y4 x6 x7 = some (r', z') → cG p l e rS_partsBefore s m args below meth c g qq ad ea h X rv X z' H locs 0 0 (F0 m 41 ls []) := by
  induction k with
  | zero => intro z x1 y2 y4 x6 x7 H locs ls hl hw hf; cases hf
  | succ k ih =>
    intro z x1 y2 y4 x6 x7 H locs ls hl hw hf
    have hf : (if (zi z 7) ≤ x7 then (jS_partsBefore_134 h z x1 y2 y4 x6) else (if x7 < 0 ∨ h.1 3 ≤ x7.toNatClampNeg then none else ((zr z 0 x7.toNatClampNeg).bind fun j3 => if h.2.1 ≤ j3 then none else (if x1 ≤ (ze z j3 0) then (jS_partsBefore_134 h z x1 y2 y4 x6) else (if x7 < 0 ∨ h.1 3 ≤ x7.toNatClampNeg then none else ((fE_isTempo h z j3).bind fun (r6, z6) => if r6 = 0 then (jS_partsBefore_128 h (lS_partsBefore_41 h k) z6 x1 y2 y4 x6 x7) else (if (zi z6 4) = (2 : Int32) then (if (ze z6 j3 1) = 0 then (jS_partsBefore_97 h (lS_partsBefore_41 h k) z6 x1 y2 y4 x6 x7 (zr z 0 x7.toNatClampNeg)) else (jS_partsBefore_128 h (lS_partsBefore_41 h k) z6 x1 y2 y4 x6 x7)) else (jS_partsBefore_97 h (lS_partsBefore_41 h k) z6 x1 y2 y4 x6 x7 (zr z 0 x7.toNatClampNeg))))))))) = some (r', z') := hf
    refine lv_iload C.1.1 C.1.2.1 dS_partsBefore_41 (lv_at hl 5 rfl) ?_
    refine lv_aload_n C.1.1 C.1.2.1 dS_partsBefore_43 rfl (lv_at hl 0 rfl) ?_
    refine cg_Score_Score_size C hw dS_partsBefore_44 ?_
    refine lv_icmp_ge (tgt := 134) C.1.1 C.1.2.1 dS_partsBefore_47 (by decide) (fun c1 => ?_) (fun c1 => ?_)
    · have hf := ts_t hf c1
      exact wS_partsBefore_134 C hr hlk hrv z x1 y2 y4 x6 _ _ ls (lv_sub hl [0, 1, 2, 3, 4] rfl) hw hf
    · have hf := ts_f hf c1
      refine lv_aload_n C.1.1 C.1.2.1 dS_partsBefore_50 rfl (lv_at hl 0 rfl) ?_
      refine cg_Score_Score_row C hw dS_partsBefore_51 ?_
      refine lv_iload C.1.1 C.1.2.1 dS_partsBefore_54 (lv_at hl 5 rfl) ?_
      obtain ⟨h2, hf⟩ := ts_g hf
      refine cra_0 C hw h2 dS_partsBefore_56 ?_
      obtain ⟨j3, ho3, hf⟩ := ts_b hf
      try dsimp only at hf
      obtain ⟨hb3, hf⟩ := ts_g hf
      have hb3 := Nat.lt_of_not_le hb3
      refine cg_Score_Event_tick C hw ho3 hb3 dS_partsBefore_57 ?_
      refine lv_iload_n C.1.1 C.1.2.1 dS_partsBefore_60 rfl (lv_at hl 1 rfl) ?_
      refine lv_icmp_ge (tgt := 134) C.1.1 C.1.2.1 dS_partsBefore_61 (by decide) (fun c4 => ?_) (fun c4 => ?_)
      · have hf := ts_t hf c4
        exact wS_partsBefore_134 C hr hlk hrv z x1 y2 y4 x6 _ _ ls (lv_sub hl [0, 1, 2, 3, 4] rfl) hw hf
      · have hf := ts_f hf c4
        refine lv_aload_n C.1.1 C.1.2.1 dS_partsBefore_64 rfl (lv_at hl 0 rfl) ?_
        refine cg_Score_Score_row C hw dS_partsBefore_65 ?_
        refine lv_iload C.1.1 C.1.2.1 dS_partsBefore_68 (lv_at hl 5 rfl) ?_
        obtain ⟨h5, hf⟩ := ts_g hf
        refine cra_0 C hw h5 dS_partsBefore_70 ?_
        refine c_astore (lv' := [(8, va_rf (Option.map ea (zr z 0 x7.toNatClampNeg))), (0, .ref (qq 4)), (1, .int x1), (2, .long y2), (4, .long y4), (6, .int x6), (7, .int x7)]) C.1.1 C.1.2.1 dS_partsBefore_71 hl (by decide) rfl (fun ls hl => ?_)
        refine c_aload C.1.1 C.1.2.1 dS_partsBefore_73 (lv_at hl 0 rfl) ?_
        obtain ⟨⟨r6, z6⟩, g6, hf⟩ := ts_b hf
        try dsimp only at hf
        refine c_callV (rest := []) (As := []) (rv := (some (.int r6))) (b := (ea j3)) C hl.1 hw (cE_isTempo_met g6) rfl (callW_of (rm := rE_isTempo) (C := "MidiDesk$Event") 0 C.1.2.2.2.2 gw_447 gw_448 gw_449 gw_60 gw_450 kE_isTempo ⟨Nat.le_of_ble_eq_true rfl, Nat.le_of_ble_eq_true rfl⟩) (c_recvE C.2 hb3 hw) rfl (by rw [ho3]; rfl) (Nat.le_of_ble_eq_true rfl) dS_partsBefore_75 ⟨Nat.le_of_ble_eq_true rfl, Nat.le_of_ble_eq_true rfl⟩ (fun H locs hw => ?_)
        refine W.eq (g2 := F0 m 78 ls [.int r6]) rfl ?_
        refine lv_if_eq (tgt := 128) C.1.1 C.1.2.1 dS_partsBefore_78 (by decide) (fun c7 => ?_) (fun c7 => ?_)
        · have hf := ts_t hf c7
          exact wS_partsBefore_128 C hr hlk hrv ih z6 x1 y2 y4 x6 x7 _ _ ls (lv_sub hl [1, 2, 3, 4, 5, 6] rfl) hw hf
        · have hf := ts_f hf c7
          refine lv_aload_n C.1.1 C.1.2.1 dS_partsBefore_81 rfl (lv_at hl 1 rfl) ?_
          refine cg_Score_Score_format C hw dS_partsBefore_82 ?_
          refine lv_iconst (v := (2 : Int32)) C.1.1 C.1.2.1 dS_partsBefore_85 (by decide) ?_
          refine lv_icmp_ne (tgt := 97) C.1.1 C.1.2.1 dS_partsBefore_86 (by decide) (fun c8 => ?_) (fun c8 => ?_)
          · have hf := ts_f hf c8
            exact wS_partsBefore_97 C hr hlk hrv ih z6 x1 y2 y4 x6 x7 (zr z 0 x7.toNatClampNeg) _ _ ls (lv_sub hl [1, 2, 3, 4, 5, 6, 0] rfl) hw hf
          · have hf := ts_t hf c8
            refine c_aload C.1.1 C.1.2.1 dS_partsBefore_89 (lv_at hl 0 rfl) ?_
            refine cg_Score_Event_track C hw ho3 hb3 dS_partsBefore_91 ?_
            refine lv_if_ne (tgt := 128) C.1.1 C.1.2.1 dS_partsBefore_94 (by decide) (fun c9 => ?_) (fun c9 => ?_)
            · have hf := ts_f hf c9
              exact wS_partsBefore_128 C hr hlk hrv ih z6 x1 y2 y4 x6 x7 _ _ ls (lv_sub hl [1, 2, 3, 4, 5, 6] rfl) hw hf
            · have hf := ts_t hf c9
              exact wS_partsBefore_97 C hr hlk hrv ih z6 x1 y2 y4 x6 x7 (zr z 0 x7.toNatClampNeg) _ _ ls (lv_sub hl [1, 2, 3, 4, 5, 6, 0] rfl) hw hf
set_option maxHeartbeats 4000000 in
set_option maxRecDepth 100000 in
theorem cS_partsBefore_met {l : Launch} {g : gT} {qq ad ea : Nat → Nat} {h : cH} {X : va_W} {z z' : cZ} {x1 : Int32} {r' : Int64} (hf : fS_partsBefore h z x1 = some (r', z')) : cMet l yS_partsBefore cS_partsBefore 9 (some .long) rS_partsBefore g qq ad ea h X z [.ref (qq 4), .int x1] (some (.long r')) X z' := by
  refine c_entry (by decide) (Nat.le_of_ble_eq_true rfl) ?_
  intro p e s m args below meth c ls C hr hlk hnm hl hw
  have hrv : (some (.long r') : Option Value) = some (.long r') := rfl
  have C : mCx p m c cS_partsBefore 9 s args g "MidiDesk$Score" := C
  have hl : lv_has ls 9 [(0, .ref (qq 4)), (1, .int x1)] := hl
  unfold fS_partsBefore at hf
  refine lv_aload_n C.1.1 C.1.2.1 dS_partsBefore_0 rfl (lv_at hl 0 rfl) ?_
  obtain ⟨⟨r1, z1⟩, g1, hf⟩ := ts_b hf
  try dsimp only at hf
  refine c_callV (rest := []) (As := []) (rv := (some (.int r1))) (b := (qq 4)) C hl.1 hw (cS_hasFrames_met g1) rfl (callW_of (rm := rS_hasFrames) (C := "MidiDesk$Score") 0 C.1.2.2.2.2 gw_463 gw_465 gw_16 gw_54 gw_466 kS_hasFrames ⟨Nat.le_of_ble_eq_true rfl, Nat.le_of_ble_eq_true rfl⟩) (c_recv_score C.2 hw) rfl rfl (Nat.le_of_ble_eq_true rfl) dS_partsBefore_1 ⟨Nat.le_of_ble_eq_true rfl, Nat.le_of_ble_eq_true rfl⟩ (fun H locs hw => ?_)
  refine W.eq (g2 := F0 m 4 ls [.int r1]) rfl ?_
  refine lv_if_eq (tgt := 28) C.1.1 C.1.2.1 dS_partsBefore_4 (by decide) (fun c2 => ?_) (fun c2 => ?_)
  · have hf := ts_t hf c2
    refine lv_lconst (v := 0) C.1.1 C.1.2.1 dS_partsBefore_28 (by decide) ?_
    refine lv_lstore_n (lv' := [(2, .long (0 : Int64)), (0, .ref (qq 4)), (1, .int x1)]) C.1.1 C.1.2.1 dS_partsBefore_29 rfl hl (by decide) rfl (fun ls hl => ?_)
    refine lv_ldc2 C.1.1 C.1.2.1 C.1.2.2.2.1 (C.1.2.2.2.2 _ gw_578) dS_partsBefore_30 ?_
    refine lv_lstore (lv' := [(4, .long (500000 : Int64)), (2, .long (0 : Int64)), (0, .ref (qq 4)), (1, .int x1)]) C.1.1 C.1.2.1 dS_partsBefore_33 hl (by decide) rfl (fun ls hl => ?_)
    refine lv_iconst (v := (0 : Int32)) C.1.1 C.1.2.1 dS_partsBefore_35 (by decide) ?_
    refine lv_istore (lv' := [(6, .int (0 : Int32)), (4, .long (500000 : Int64)), (2, .long (0 : Int64)), (0, .ref (qq 4)), (1, .int x1)]) C.1.1 C.1.2.1 dS_partsBefore_36 hl (by decide) rfl (fun ls hl => ?_)
    refine lv_iconst (v := (0 : Int32)) C.1.1 C.1.2.1 dS_partsBefore_38 (by decide) ?_
    refine lv_istore (lv' := [(7, .int (0 : Int32)), (6, .int (0 : Int32)), (4, .long (500000 : Int64)), (2, .long (0 : Int64)), (0, .ref (qq 4)), (1, .int x1)]) C.1.1 C.1.2.1 dS_partsBefore_39 hl (by decide) rfl (fun ls hl => ?_)
    exact wS_partsBefore_41 C hr hlk hrv FU z1 x1 (0 : Int64) (500000 : Int64) (0 : Int32) (0 : Int32) _ _ ls (lv_sub hl [4, 5, 3, 2, 1, 0] rfl) hw hf
  · have hf := ts_f hf c2
    refine lv_iload_n C.1.1 C.1.2.1 dS_partsBefore_7 rfl (lv_at hl 1 rfl) ?_
    refine lv_i2l C.1.1 C.1.2.1 dS_partsBefore_8 rfl ?_
    refine lv_aload_n C.1.1 C.1.2.1 dS_partsBefore_9 rfl (lv_at hl 0 rfl) ?_
    obtain ⟨⟨r3, z3⟩, g3, hf⟩ := ts_b hf
    try dsimp only at hf
    refine c_callV (rest := [.long x1.toInt64]) (As := []) (rv := (some (.int r3))) (b := (qq 4)) C hl.1 hw (cS_frames_met g3) rfl (callW_of (rm := rS_frames) (C := "MidiDesk$Score") 0 C.1.2.2.2.2 gw_467 gw_469 gw_17 gw_54 gw_470 kS_frames ⟨Nat.le_of_ble_eq_true rfl, Nat.le_of_ble_eq_true rfl⟩) (c_recv_score C.2 hw) rfl rfl (Nat.le_of_ble_eq_true rfl) dS_partsBefore_10 ⟨Nat.le_of_ble_eq_true rfl, Nat.le_of_ble_eq_true rfl⟩ (fun H locs hw => ?_)
    refine W.eq (g2 := F0 m 13 ls [.int r3, .long x1.toInt64]) rfl ?_
    refine lv_bipush (v := (29 : Int32)) C.1.1 C.1.2.1 dS_partsBefore_13 (by decide) ?_
    refine lv_icmp_ne (tgt := 23) C.1.1 C.1.2.1 dS_partsBefore_15 (by decide) (fun c4 => ?_) (fun c4 => ?_)
    · have hf := ts_f hf c4
      refine lv_ldc C.1.1 C.1.2.1 C.1.2.2.2.1 (C.1.2.2.2.2 _ gw_577) dS_partsBefore_23 ?_
      refine lv_i2l C.1.1 C.1.2.1 dS_partsBefore_25 rfl ?_
      refine lv_lmul C.1.1 C.1.2.1 dS_partsBefore_26 ?_
      exact c_retl C hr hlk hrv hw hf rfl ⟨Nat.le_of_ble_eq_true rfl, Nat.le_of_ble_eq_true rfl⟩ dS_partsBefore_27
    · have hf := ts_t hf c4
      refine lv_ldc C.1.1 C.1.2.1 C.1.2.2.2.1 (C.1.2.2.2.2 _ gw_576) dS_partsBefore_18 ?_
      refine lv_goto (tgt := 25) C.1.1 C.1.2.1 dS_partsBefore_20 (by decide) ?_
      refine lv_i2l C.1.1 C.1.2.1 dS_partsBefore_25 rfl ?_
      refine lv_lmul C.1.1 C.1.2.1 dS_partsBefore_26 ?_
      exact c_retl C hr hlk hrv hw hf rfl ⟨Nat.le_of_ble_eq_true rfl, Nat.le_of_ble_eq_true rfl⟩ dS_partsBefore_27
abbrev cP_expect : ByteArray := prog_4_method_3_code
abbrev yP_expect : MethodName := ⟨"MidiDesk$Parser", "expect", "(ZII)V"⟩
theorem kP_expect : yP_expect.cls ≠ "java/lang/invoke/MethodHandle" ∧ yP_expect.cls ≠ "java/lang/invoke/VarHandle" ∧ (parseMethodDescriptor yP_expect.desc).map (fun d => d.parameters.length) = some 3 := by decide +kernel
abbrev rP_expect : Room := { frames := 0, cells := 0, slots := 0, locals := 0 }
theorem dP_expect_0 : decode cP_expect 0 = .ok (.iload_n 1, 1) := by decide +kernel
theorem dP_expect_1 : decode cP_expect 1 = .ok (.ifCond .ne 20, 3) := by decide +kernel
theorem dP_expect_4 : decode cP_expect 4 = .ok (.aload_n 0, 1) := by decide +kernel
theorem dP_expect_5 : decode cP_expect 5 = .ok (.getfield 37, 3) := by decide +kernel
theorem dP_expect_8 : decode cP_expect 8 = .ok (.ifCond .ne 13, 3) := by decide +kernel
theorem dP_expect_11 : decode cP_expect 11 = .ok (.aload_n 0, 1) := by decide +kernel
theorem dP_expect_12 : decode cP_expect 12 = .ok (.iload_n 2, 1) := by decide +kernel
theorem dP_expect_13 : decode cP_expect 13 = .ok (.bipush 16, 2) := by decide +kernel
theorem dP_expect_15 : decode cP_expect 15 = .ok (.iload_n 3, 1) := by decide +kernel
theorem dP_expect_16 : decode cP_expect 16 = .ok (.imul, 1) := by decide +kernel
theorem dP_expect_17 : decode cP_expect 17 = .ok (.iadd, 1) := by decide +kernel
theorem dP_expect_18 : decode cP_expect 18 = .ok (.putfield 37, 3) := by decide +kernel
theorem dP_expect_21 : decode cP_expect 21 = .ok (.return_, 1) := by decide +kernel
def fP_expect (h : cH) (z : cZ) (pv : Nat → Int32) (x1 : Int32) (x2 : Int32) (x3 : Int32) : Option (cZ × (Nat → Int32)) := if x1 = 0 then (if (pv 2) = 0 then (some (z, upd pv 2 (x2 + ((16 : Int32) * x3)))) else (some (z, pv))) else (some (z, pv))
set_option maxHeartbeats 4000000 in
set_option maxRecDepth 100000 in
theorem cP_expect_met {l : Launch} {g : gT} {qq ad ea : Nat → Nat} {h : cH} {X : va_W} {qp : Nat} {pv pv' : Nat → Int32} {z z' : cZ} {x1 : Int32} {x2 : Int32} {x3 : Int32} (hf : fP_expect h z pv x1 x2 x3 = some (z', pv')) : cMet l yP_expect cP_expect 4 none rP_expect g qq ad ea h (pcell qp qq pv :: X) z [.ref qp, .int x1, .int x2, .int x3] (none) (pcell qp qq pv' :: X) z' := by
  refine c_entry (by decide) (Nat.le_of_ble_eq_true rfl) ?_
  intro p e s m args below meth c ls C hr hlk hnm hl hw
  have hrv : (none : Option Value) = none := rfl
  have C : mCx p m c cP_expect 4 s args g "MidiDesk$Parser" := C
  have hl : lv_has ls 4 [(0, .ref qp), (1, .int x1), (2, .int x2), (3, .int x3)] := hl
  unfold fP_expect at hf
  refine lv_iload_n C.1.1 C.1.2.1 dP_expect_0 rfl (lv_at hl 1 rfl) ?_
  refine lv_if_ne (tgt := 21) C.1.1 C.1.2.1 dP_expect_1 (by decide) (fun c1 => ?_) (fun c1 => ?_)
  · have hf := ts_f hf c1
    obtain ⟨hf, hpv⟩ := pr2 hf
    exact c_retv C hr hlk hrv hw hf (by rw [hpv]) ⟨Nat.le_of_ble_eq_true rfl, Nat.le_of_ble_eq_true rfl⟩ dP_expect_21
  · have hf := ts_t hf c1
    refine lv_aload_n C.1.1 C.1.2.1 dP_expect_4 rfl (lv_at hl 0 rfl) ?_
    refine cg_Parser_Parser_fault C hw dP_expect_5 ?_
    refine lv_if_ne (tgt := 21) C.1.1 C.1.2.1 dP_expect_8 (by decide) (fun c2 => ?_) (fun c2 => ?_)
    · have hf := ts_f hf c2
      obtain ⟨hf, hpv⟩ := pr2 hf
      exact c_retv C hr hlk hrv hw hf (by rw [hpv]) ⟨Nat.le_of_ble_eq_true rfl, Nat.le_of_ble_eq_true rfl⟩ dP_expect_21
    · have hf := ts_t hf c2
      refine lv_aload_n C.1.1 C.1.2.1 dP_expect_11 rfl (lv_at hl 0 rfl) ?_
      refine lv_iload_n C.1.1 C.1.2.1 dP_expect_12 rfl (lv_at hl 2 rfl) ?_
      refine lv_bipush (v := (16 : Int32)) C.1.1 C.1.2.1 dP_expect_13 (by decide) ?_
      refine lv_iload_n C.1.1 C.1.2.1 dP_expect_15 rfl (lv_at hl 3 rfl) ?_
      refine lv_imul C.1.1 C.1.2.1 dP_expect_16 ?_
      refine lv_iadd C.1.1 C.1.2.1 dP_expect_17 ?_
      refine cp_Parser_Parser_fault C hw dP_expect_18 (fun H locs hw => ?_)
      obtain ⟨hf, hpv⟩ := pr2 hf
      exact c_retv C hr hlk hrv hw hf (by rw [hpv]) ⟨Nat.le_of_ble_eq_true rfl, Nat.le_of_ble_eq_true rfl⟩ dP_expect_21
abbrev cP_fixed : ByteArray := prog_4_method_4_code
abbrev yP_fixed : MethodName := ⟨"MidiDesk$Parser", "fixed", "(I)J"⟩
theorem kP_fixed : yP_fixed.cls ≠ "java/lang/invoke/MethodHandle" ∧ yP_fixed.cls ≠ "java/lang/invoke/VarHandle" ∧ (parseMethodDescriptor yP_fixed.desc).map (fun d => d.parameters.length) = some 1 := by decide +kernel
abbrev rP_fixed : Room := { frames := 1, cells := 0, slots := 0, locals := 23 }
theorem dP_fixed_0 : decode cP_fixed 0 = .ok (.aload_n 0, 1) := by decide +kernel
theorem dP_fixed_1 : decode cP_fixed 1 = .ok (.iload_n 1, 1) := by decide +kernel
theorem dP_fixed_2 : decode cP_fixed 2 = .ok (.aload_n 0, 1) := by decide +kernel
theorem dP_fixed_3 : decode cP_fixed 3 = .ok (.getfield 30, 3) := by decide +kernel
theorem dP_fixed_6 : decode cP_fixed 6 = .ok (.aload_n 0, 1) := by decide +kernel
theorem dP_fixed_7 : decode cP_fixed 7 = .ok (.getfield 40, 3) := by decide +kernel
theorem dP_fixed_10 : decode cP_fixed 10 = .ok (.isub, 1) := by decide +kernel
theorem dP_fixed_11 : decode cP_fixed 11 = .ok (.if_icmp .gt 7, 3) := by decide +kernel
theorem dP_fixed_14 : decode cP_fixed 14 = .ok (.iconst 1, 1) := by decide +kernel
theorem dP_fixed_15 : decode cP_fixed 15 = .ok (.goto 4, 3) := by decide +kernel
theorem dP_fixed_18 : decode cP_fixed 18 = .ok (.iconst 0, 1) := by decide +kernel
theorem dP_fixed_19 : decode cP_fixed 19 = .ok (.iconst 1, 1) := by decide +kernel
theorem dP_fixed_20 : decode cP_fixed 20 = .ok (.aload_n 0, 1) := by decide +kernel
theorem dP_fixed_21 : decode cP_fixed 21 = .ok (.getfield 30, 3) := by decide +kernel
theorem dP_fixed_24 : decode cP_fixed 24 = .ok (.invokevirtual 56, 3) := by decide +kernel
theorem dP_fixed_27 : decode cP_fixed 27 = .ok (.aload_n 0, 1) := by decide +kernel
theorem dP_fixed_28 : decode cP_fixed 28 = .ok (.getfield 37, 3) := by decide +kernel
theorem dP_fixed_31 : decode cP_fixed 31 = .ok (.ifCond .eq 7, 3) := by decide +kernel
theorem dP_fixed_34 : decode cP_fixed 34 = .ok (.ldc2_w 67, 3) := by decide +kernel
theorem dP_fixed_37 : decode cP_fixed 37 = .ok (.lreturn, 1) := by decide +kernel
theorem dP_fixed_38 : decode cP_fixed 38 = .ok (.lconst 0, 1) := by decide +kernel
theorem dP_fixed_39 : decode cP_fixed 39 = .ok (.lstore_n 2, 1) := by decide +kernel
theorem dP_fixed_40 : decode cP_fixed 40 = .ok (.iconst 0, 1) := by decide +kernel
theorem dP_fixed_41 : decode cP_fixed 41 = .ok (.istore 4, 2) := by decide +kernel
theorem dP_fixed_43 : decode cP_fixed 43 = .ok (.iload 4, 2) := by decide +kernel
theorem dP_fixed_45 : decode cP_fixed 45 = .ok (.iload_n 1, 1) := by decide +kernel
theorem dP_fixed_46 : decode cP_fixed 46 = .ok (.if_icmp .ge 37, 3) := by decide +kernel
theorem dP_fixed_49 : decode cP_fixed 49 = .ok (.lload_n 2, 1) := by decide +kernel
theorem dP_fixed_50 : decode cP_fixed 50 = .ok (.bipush 8, 2) := by decide +kernel
theorem dP_fixed_52 : decode cP_fixed 52 = .ok (.lshl, 1) := by decide +kernel
theorem dP_fixed_53 : decode cP_fixed 53 = .ok (.aload_n 0, 1) := by decide +kernel
theorem dP_fixed_54 : decode cP_fixed 54 = .ok (.getfield 9, 3) := by decide +kernel
theorem dP_fixed_57 : decode cP_fixed 57 = .ok (.aload_n 0, 1) := by decide +kernel
theorem dP_fixed_58 : decode cP_fixed 58 = .ok (.getfield 40, 3) := by decide +kernel
theorem dP_fixed_61 : decode cP_fixed 61 = .ok (.invokevirtual 69, 3) := by decide +kernel
theorem dP_fixed_64 : decode cP_fixed 64 = .ok (.i2l, 1) := by decide +kernel
theorem dP_fixed_65 : decode cP_fixed 65 = .ok (.lor, 1) := by decide +kernel
theorem dP_fixed_66 : decode cP_fixed 66 = .ok (.lstore_n 2, 1) := by decide +kernel
theorem dP_fixed_67 : decode cP_fixed 67 = .ok (.aload_n 0, 1) := by decide +kernel
theorem dP_fixed_68 : decode cP_fixed 68 = .ok (.dup, 1) := by decide +kernel
theorem dP_fixed_69 : decode cP_fixed 69 = .ok (.getfield 40, 3) := by decide +kernel
theorem dP_fixed_72 : decode cP_fixed 72 = .ok (.iconst 1, 1) := by decide +kernel
theorem dP_fixed_73 : decode cP_fixed 73 = .ok (.iadd, 1) := by decide +kernel
theorem dP_fixed_74 : decode cP_fixed 74 = .ok (.putfield 40, 3) := by decide +kernel
theorem dP_fixed_77 : decode cP_fixed 77 = .ok (.iinc 4 1, 3) := by decide +kernel
theorem dP_fixed_80 : decode cP_fixed 80 = .ok (.goto (-37), 3) := by decide +kernel
theorem dP_fixed_83 : decode cP_fixed 83 = .ok (.lload_n 2, 1) := by decide +kernel
theorem dP_fixed_84 : decode cP_fixed 84 = .ok (.lreturn, 1) := by decide +kernel
def lP_fixed_43 (h : cH) : Nat → cZ → (Nat → Int32) → Int32 → Int64 → Int32 → Option (Int64 × cZ × (Nat → Int32))
  | 0 => fun _ _ _ _ _ => none
  | k + 1 => fun z pv x1 y2 x4 => if x1 ≤ x4 then (some (y2, z, pv)) else ((fB0_at h z (pv 0)).bind fun (r2, z2) => lP_fixed_43 h k z2 (upd pv 0 ((pv 0) + (1 : Int32))) x1 ((y2 <<< ((8 : Int32).toInt64 &&& 63)) ||| r2.toInt64) (x4 + 1))
def jP_fixed_19 (h : cH) (z : cZ) (pv : Nat → Int32) (x1 : Int32) (s1 : Int32) : Option (Int64 × cZ × (Nat → Int32)) := (fP_expect h z pv s1 (1 : Int32) (pv 1)).bind fun (z1, pv1) => if (pv1 2) = 0 then (lP_fixed_43 h FU z1 pv1 x1 (0 : Int64) (0 : Int32)) else (some ((-1 : Int64), z1, pv1))
def fP_fixed (h : cH) (z : cZ) (pv : Nat → Int32) (x1 : Int32) : Option (Int64 × cZ × (Nat → Int32)) := if ((pv 1) - (pv 0)) < x1 then (jP_fixed_19 h z pv x1 (0 : Int32)) else (jP_fixed_19 h z pv x1 (1 : Int32))
set_option maxHeartbeats 4000000 in
set_option maxRecDepth 100000 in
theorem wP_fixed_43 {p : Program} {l : Launch} {e : Env} {s : State} {m : MethodId} {args : Array Value} {below : List Frame} {meth : Method} {c : Code} {g : gT} {qq ad ea : Nat → Nat} {h : cH} {X : va_W} {rv : Option Value} {qp : Nat} {pv0 pv' : Nat → Int32} {z' : cZ} {r' : Int64} (C : mCx p m c cP_fixed 5 s args g "MidiDesk$Parser") (hr : meth.sig.returnType = (some .long)) (hlk : meth.locks = false) (hrv : rv = some (.long r')) (k : Nat) : ∀ (z : cZ) (pv : Nat → Int32) (x1 : Int32) (y2 : Int64) (x4 : Int32) (H : Heap) (locs : List Loc) (ls : Array Slot), lv_has ls 5 [(0, .ref qp), (1, .int x1), (2, .long y2), (4, .int x4)] → cWd g (cA g qq ad ea h (pcell qp qq pv0 :: X) s.heap.size) s.heap qq ad ea h (pcell qp qq pv :: X) z H locs → lP_fixed_43 h k z pv x1 y2 x4 = some (r', z', pv') → cG p l e rP_fixed s m args below meth c g qq ad ea h (pcell qp qq pv0 :: X) rv (pcell qp qq pv' :: X) z' H locs 0 0 (F0 m 43 ls []) := by
  induction k with
  | zero => intro z pv x1 y2 x4 H locs ls hl hw hf; cases hf
  | succ k ih =>
    intro z pv x1 y2 x4 H locs ls hl hw hf
    have hf : (if x1 ≤ x4 then (some (y2, z, pv)) else ((fB0_at h z (pv 0)).bind fun (r2, z2) => lP_fixed_43 h k z2 (upd pv 0 ((pv 0) + (1 : Int32))) x1 ((y2 <<< ((8 : Int32).toInt64 &&& 63)) ||| r2.toInt64) (x4 + 1))) = some (r', z', pv') := hf
    refine lv_iload C.1.1 C.1.2.1 dP_fixed_43 (lv_at hl 3 rfl) ?_
    refine lv_iload_n C.1.1 C.1.2.1 dP_fixed_45 rfl (lv_at hl 1 rfl) ?_
    refine lv_icmp_ge (tgt := 83) C.1.1 C.1.2.1 dP_fixed_46 (by decide) (fun c1 => ?_) (fun c1 => ?_)
    · have hf := ts_t hf c1
      refine lv_lload_n C.1.1 C.1.2.1 dP_fixed_83 rfl (lv_at hl 2 rfl) ?_
      obtain ⟨hf, hpv⟩ := pr3 hf
      exact c_retl C hr hlk hrv hw hf (by rw [hpv]) ⟨Nat.le_of_ble_eq_true rfl, Nat.le_of_ble_eq_true rfl⟩ dP_fixed_84
    · have hf := ts_f hf c1
      refine lv_lload_n C.1.1 C.1.2.1 dP_fixed_49 rfl (lv_at hl 2 rfl) ?_
      refine lv_bipush (v := (8 : Int32)) C.1.1 C.1.2.1 dP_fixed_50 (by decide) ?_
      refine lv_lshl C.1.1 C.1.2.1 dP_fixed_52 rfl ?_
      refine lv_aload_n C.1.1 C.1.2.1 dP_fixed_53 rfl (lv_at hl 0 rfl) ?_
      refine cg_Parser_Parser_input C hw dP_fixed_54 ?_
      refine lv_aload_n C.1.1 C.1.2.1 dP_fixed_57 rfl (lv_at hl 0 rfl) ?_
      refine cg_Parser_Parser_pos C hw dP_fixed_58 ?_
      obtain ⟨⟨r2, z2⟩, g2, hf⟩ := ts_b hf
      try dsimp only at hf
      refine c_callV (rest := [.long (y2 <<< ((8 : Int32).toInt64 &&& 63))]) (As := [.int (pv 0)]) (rv := (some (.int r2))) (b := (qq 1)) C hl.1 hw (cB0_at_met g2) rfl (callW_of (rm := rB0_at) (C := "MidiDesk$Bytes") 1 C.1.2.2.2.2 gw_255 gw_256 gw_257 gw_53 gw_258 kB0_at ⟨Nat.le_of_ble_eq_true rfl, Nat.le_of_ble_eq_true rfl⟩) (c_recv_B0 C.2 hw) rfl rfl (Nat.le_of_ble_eq_true rfl) dP_fixed_61 ⟨Nat.le_of_ble_eq_true rfl, Nat.le_of_ble_eq_true rfl⟩ (fun H locs hw => ?_)
      refine W.eq (g2 := F0 m 64 ls [.int r2, .long (y2 <<< ((8 : Int32).toInt64 &&& 63))]) rfl ?_
      refine lv_i2l C.1.1 C.1.2.1 dP_fixed_64 rfl ?_
      refine lv_lor C.1.1 C.1.2.1 dP_fixed_65 ?_
      refine lv_lstore_n (lv' := [(2, .long ((y2 <<< ((8 : Int32).toInt64 &&& 63)) ||| r2.toInt64)), (0, .ref qp), (1, .int x1), (4, .int x4)]) C.1.1 C.1.2.1 dP_fixed_66 rfl hl (by decide) rfl (fun ls hl => ?_)
      refine lv_aload_n C.1.1 C.1.2.1 dP_fixed_67 rfl (lv_at hl 1 rfl) ?_
      refine lv_dup C.1.1 C.1.2.1 dP_fixed_68 rfl ?_
      refine cg_Parser_Parser_pos C hw dP_fixed_69 ?_
      refine lv_iconst (v := (1 : Int32)) C.1.1 C.1.2.1 dP_fixed_72 (by decide) ?_
      refine lv_iadd C.1.1 C.1.2.1 dP_fixed_73 ?_
      refine cp_Parser_Parser_pos C hw dP_fixed_74 (fun H locs hw => ?_)
      refine lv_iinc (v := x4 + 1) (lv' := [(4, .int (x4 + 1)), (2, .long ((y2 <<< ((8 : Int32).toInt64 &&& 63)) ||| r2.toInt64)), (0, .ref qp), (1, .int x1)]) C.1.1 C.1.2.1 dP_fixed_77 hl (k := 3) rfl rfl (by decide) rfl (fun ls hl => ?_)
      refine lv_goto (tgt := 43) C.1.1 C.1.2.1 dP_fixed_80 (by decide) ?_
      exact ih z2 (upd pv 0 ((pv 0) + (1 : Int32))) x1 ((y2 <<< ((8 : Int32).toInt64 &&& 63)) ||| r2.toInt64) (x4 + 1) _ _ ls (lv_sub hl [2, 3, 1, 0] rfl) hw hf
set_option maxHeartbeats 4000000 in
set_option maxRecDepth 100000 in
theorem wP_fixed_19 {p : Program} {l : Launch} {e : Env} {s : State} {m : MethodId} {args : Array Value} {below : List Frame} {meth : Method} {c : Code} {g : gT} {qq ad ea : Nat → Nat} {h : cH} {X : va_W} {rv : Option Value} {qp : Nat} {pv0 pv' : Nat → Int32} {z' : cZ} {r' : Int64} (C : mCx p m c cP_fixed 5 s args g "MidiDesk$Parser") (hr : meth.sig.returnType = (some .long)) (hlk : meth.locks = false) (hrv : rv = some (.long r')) (z : cZ) (pv : Nat → Int32) (x1 : Int32) (s1 : Int32) (H : Heap) (locs : List Loc) (ls : Array Slot) (hl : lv_has ls 5 [(0, .ref qp), (1, .int x1)]) (hw : cWd g (cA g qq ad ea h (pcell qp qq pv0 :: X) s.heap.size) s.heap qq ad ea h (pcell qp qq pv :: X) z H locs) (hf : jP_fixed_19 h z pv x1 s1 = some (r', z', pv')) : cG p l e rP_fixed s m args below meth c g qq ad ea h (pcell qp qq pv0 :: X) rv (pcell qp qq pv' :: X) z' H locs 0 0 (F0 m 19 ls [.int s1, .ref qp]) := by
  unfold jP_fixed_19 at hf
  refine lv_iconst (v := (1 : Int32)) C.1.1 C.1.2.1 dP_fixed_19 (by decide) ?_
  refine lv_aload_n C.1.1 C.1.2.1 dP_fixed_20 rfl (lv_at hl 0 rfl) ?_
  refine cg_Parser_Parser_end C hw dP_fixed_21 ?_
  obtain ⟨⟨z1, pv1⟩, g1, hf⟩ := ts_b hf
  try dsimp only at hf
  refine c_callV (rest := []) (As := [.int s1, .int (1 : Int32), .int (pv 1)]) (rv := none) (b := qp) C hl.1 hw (cP_expect_met g1) rfl (callW_of (rm := rP_expect) (C := "MidiDesk$Parser") 3 C.1.2.2.2.2 gw_250 gw_252 gw_2 gw_59 gw_253 kP_expect ⟨Nat.le_of_ble_eq_true rfl, Nat.le_of_ble_eq_true rfl⟩) (c_recvX (ci := 2) C.2 rfl hw) rfl rfl (Nat.le_of_ble_eq_true rfl) dP_fixed_24 ⟨Nat.le_of_ble_eq_true rfl, Nat.le_of_ble_eq_true rfl⟩ (fun H locs hw => ?_)
  refine W.eq (g2 := F0 m 27 ls []) rfl ?_
  refine lv_aload_n C.1.1 C.1.2.1 dP_fixed_27 rfl (lv_at hl 0 rfl) ?_
  refine cg_Parser_Parser_fault C hw dP_fixed_28 ?_
  refine lv_if_eq (tgt := 38) C.1.1 C.1.2.1 dP_fixed_31 (by decide) (fun c2 => ?_) (fun c2 => ?_)
  · have hf := ts_t hf c2
    refine lv_lconst (v := 0) C.1.1 C.1.2.1 dP_fixed_38 (by decide) ?_
    refine lv_lstore_n (lv' := [(2, .long (0 : Int64)), (0, .ref qp), (1, .int x1)]) C.1.1 C.1.2.1 dP_fixed_39 rfl hl (by decide) rfl (fun ls hl => ?_)
    refine lv_iconst (v := (0 : Int32)) C.1.1 C.1.2.1 dP_fixed_40 (by decide) ?_
    refine lv_istore (lv' := [(4, .int (0 : Int32)), (2, .long (0 : Int64)), (0, .ref qp), (1, .int x1)]) C.1.1 C.1.2.1 dP_fixed_41 hl (by decide) rfl (fun ls hl => ?_)
    exact wP_fixed_43 C hr hlk hrv FU z1 pv1 x1 (0 : Int64) (0 : Int32) _ _ ls (lv_sub hl [2, 3, 1, 0] rfl) hw hf
  · have hf := ts_f hf c2
    refine lv_ldc2 C.1.1 C.1.2.1 C.1.2.2.2.1 (C.1.2.2.2.2 _ gw_254) dP_fixed_34 ?_
    obtain ⟨hf, hpv⟩ := pr3 hf
    exact c_retl C hr hlk hrv hw hf (by rw [hpv]) ⟨Nat.le_of_ble_eq_true rfl, Nat.le_of_ble_eq_true rfl⟩ dP_fixed_37
set_option maxHeartbeats 4000000 in
set_option maxRecDepth 100000 in
theorem cP_fixed_met {l : Launch} {g : gT} {qq ad ea : Nat → Nat} {h : cH} {X : va_W} {qp : Nat} {pv pv' : Nat → Int32} {z z' : cZ} {x1 : Int32} {r' : Int64} (hf : fP_fixed h z pv x1 = some (r', z', pv')) : cMet l yP_fixed cP_fixed 5 (some .long) rP_fixed g qq ad ea h (pcell qp qq pv :: X) z [.ref qp, .int x1] (some (.long r')) (pcell qp qq pv' :: X) z' := by
  refine c_entry (by decide) (Nat.le_of_ble_eq_true rfl) ?_
  intro p e s m args below meth c ls C hr hlk hnm hl hw
  have hrv : (some (.long r') : Option Value) = some (.long r') := rfl
  have C : mCx p m c cP_fixed 5 s args g "MidiDesk$Parser" := C
  have hl : lv_has ls 5 [(0, .ref qp), (1, .int x1)] := hl
  unfold fP_fixed at hf
  refine lv_aload_n C.1.1 C.1.2.1 dP_fixed_0 rfl (lv_at hl 0 rfl) ?_
  refine lv_iload_n C.1.1 C.1.2.1 dP_fixed_1 rfl (lv_at hl 1 rfl) ?_
  refine lv_aload_n C.1.1 C.1.2.1 dP_fixed_2 rfl (lv_at hl 0 rfl) ?_
  refine cg_Parser_Parser_end C hw dP_fixed_3 ?_
  refine lv_aload_n C.1.1 C.1.2.1 dP_fixed_6 rfl (lv_at hl 0 rfl) ?_
  refine cg_Parser_Parser_pos C hw dP_fixed_7 ?_
  refine lv_isub C.1.1 C.1.2.1 dP_fixed_10 ?_
  refine lv_icmp_gt (tgt := 18) C.1.1 C.1.2.1 dP_fixed_11 (by decide) (fun c1 => ?_) (fun c1 => ?_)
  · have hf := ts_t hf c1
    refine lv_iconst (v := (0 : Int32)) C.1.1 C.1.2.1 dP_fixed_18 (by decide) ?_
    exact wP_fixed_19 C hr hlk hrv z pv x1 (0 : Int32) _ _ ls (lv_sub hl [0, 1] rfl) hw hf
  · have hf := ts_f hf c1
    refine lv_iconst (v := (1 : Int32)) C.1.1 C.1.2.1 dP_fixed_14 (by decide) ?_
    refine lv_goto (tgt := 19) C.1.1 C.1.2.1 dP_fixed_15 (by decide) ?_
    exact wP_fixed_19 C hr hlk hrv z pv x1 (1 : Int32) _ _ ls (lv_sub hl [0, 1] rfl) hw hf
