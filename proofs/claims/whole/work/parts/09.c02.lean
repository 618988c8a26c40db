abbrev cS_mergeRuns : ByteArray := prog_6_method_8_code
abbrev yS_mergeRuns : MethodName := ⟨"MidiDesk$Score", "mergeRuns", "(III)V"⟩
theorem kS_mergeRuns : yS_mergeRuns.cls ≠ "java/lang/invoke/MethodHandle" ∧ yS_mergeRuns.cls ≠ "java/lang/invoke/VarHandle" ∧ (parseMethodDescriptor yS_mergeRuns.desc).map (fun d => d.parameters.length) = some 3 := by decide +kernel
abbrev rS_mergeRuns : Room := { frames := 1, cells := 0, slots := 0, locals := 21 }
theorem dS_mergeRuns_0 : decode cS_mergeRuns 0 = .ok (.iload_n 1, 1) := by decide +kernel
theorem dS_mergeRuns_1 : decode cS_mergeRuns 1 = .ok (.istore 4, 2) := by decide +kernel
theorem dS_mergeRuns_3 : decode cS_mergeRuns 3 = .ok (.iload_n 2, 1) := by decide +kernel
theorem dS_mergeRuns_4 : decode cS_mergeRuns 4 = .ok (.istore 5, 2) := by decide +kernel
theorem dS_mergeRuns_6 : decode cS_mergeRuns 6 = .ok (.iload_n 1, 1) := by decide +kernel
theorem dS_mergeRuns_7 : decode cS_mergeRuns 7 = .ok (.istore 6, 2) := by decide +kernel
theorem dS_mergeRuns_9 : decode cS_mergeRuns 9 = .ok (.iload 6, 2) := by decide +kernel
theorem dS_mergeRuns_11 : decode cS_mergeRuns 11 = .ok (.iload_n 3, 1) := by decide +kernel
theorem dS_mergeRuns_12 : decode cS_mergeRuns 12 = .ok (.if_icmp .ge 90, 3) := by decide +kernel
theorem dS_mergeRuns_15 : decode cS_mergeRuns 15 = .ok (.iload 4, 2) := by decide +kernel
theorem dS_mergeRuns_17 : decode cS_mergeRuns 17 = .ok (.iload_n 2, 1) := by decide +kernel
theorem dS_mergeRuns_18 : decode cS_mergeRuns 18 = .ok (.if_icmp .ge 29, 3) := by decide +kernel
theorem dS_mergeRuns_21 : decode cS_mergeRuns 21 = .ok (.iload 5, 2) := by decide +kernel
theorem dS_mergeRuns_23 : decode cS_mergeRuns 23 = .ok (.iload_n 3, 1) := by decide +kernel
theorem dS_mergeRuns_24 : decode cS_mergeRuns 24 = .ok (.if_icmp .ge 27, 3) := by decide +kernel
theorem dS_mergeRuns_27 : decode cS_mergeRuns 27 = .ok (.aload_n 0, 1) := by decide +kernel
theorem dS_mergeRuns_28 : decode cS_mergeRuns 28 = .ok (.getfield 22, 3) := by decide +kernel
theorem dS_mergeRuns_31 : decode cS_mergeRuns 31 = .ok (.iload 4, 2) := by decide +kernel
theorem dS_mergeRuns_33 : decode cS_mergeRuns 33 = .ok (.aaload, 1) := by decide +kernel
theorem dS_mergeRuns_34 : decode cS_mergeRuns 34 = .ok (.aload_n 0, 1) := by decide +kernel
theorem dS_mergeRuns_35 : decode cS_mergeRuns 35 = .ok (.getfield 22, 3) := by decide +kernel
theorem dS_mergeRuns_38 : decode cS_mergeRuns 38 = .ok (.iload 5, 2) := by decide +kernel
theorem dS_mergeRuns_40 : decode cS_mergeRuns 40 = .ok (.aaload, 1) := by decide +kernel
theorem dS_mergeRuns_41 : decode cS_mergeRuns 41 = .ok (.invokevirtual 61, 3) := by decide +kernel
theorem dS_mergeRuns_44 : decode cS_mergeRuns 44 = .ok (.ifCond .eq 7, 3) := by decide +kernel
theorem dS_mergeRuns_47 : decode cS_mergeRuns 47 = .ok (.iconst 1, 1) := by decide +kernel
theorem dS_mergeRuns_48 : decode cS_mergeRuns 48 = .ok (.goto 4, 3) := by decide +kernel
theorem dS_mergeRuns_51 : decode cS_mergeRuns 51 = .ok (.iconst 0, 1) := by decide +kernel
theorem dS_mergeRuns_52 : decode cS_mergeRuns 52 = .ok (.istore 7, 2) := by decide +kernel
theorem dS_mergeRuns_54 : decode cS_mergeRuns 54 = .ok (.iload 7, 2) := by decide +kernel
theorem dS_mergeRuns_56 : decode cS_mergeRuns 56 = .ok (.ifCond .eq 23, 3) := by decide +kernel
theorem dS_mergeRuns_59 : decode cS_mergeRuns 59 = .ok (.aload_n 0, 1) := by decide +kernel
theorem dS_mergeRuns_60 : decode cS_mergeRuns 60 = .ok (.getfield 26, 3) := by decide +kernel
theorem dS_mergeRuns_63 : decode cS_mergeRuns 63 = .ok (.iload 6, 2) := by decide +kernel
theorem dS_mergeRuns_65 : decode cS_mergeRuns 65 = .ok (.aload_n 0, 1) := by decide +kernel
theorem dS_mergeRuns_66 : decode cS_mergeRuns 66 = .ok (.getfield 22, 3) := by decide +kernel
theorem dS_mergeRuns_69 : decode cS_mergeRuns 69 = .ok (.iload 5, 2) := by decide +kernel
theorem dS_mergeRuns_71 : decode cS_mergeRuns 71 = .ok (.aaload, 1) := by decide +kernel
theorem dS_mergeRuns_72 : decode cS_mergeRuns 72 = .ok (.aastore, 1) := by decide +kernel
theorem dS_mergeRuns_73 : decode cS_mergeRuns 73 = .ok (.iinc 5 1, 3) := by decide +kernel
theorem dS_mergeRuns_76 : decode cS_mergeRuns 76 = .ok (.goto 20, 3) := by decide +kernel
theorem dS_mergeRuns_79 : decode cS_mergeRuns 79 = .ok (.aload_n 0, 1) := by decide +kernel
theorem dS_mergeRuns_80 : decode cS_mergeRuns 80 = .ok (.getfield 26, 3) := by decide +kernel
theorem dS_mergeRuns_83 : decode cS_mergeRuns 83 = .ok (.iload 6, 2) := by decide +kernel
theorem dS_mergeRuns_85 : decode cS_mergeRuns 85 = .ok (.aload_n 0, 1) := by decide +kernel
theorem dS_mergeRuns_86 : decode cS_mergeRuns 86 = .ok (.getfield 22, 3) := by decide +kernel
theorem dS_mergeRuns_89 : decode cS_mergeRuns 89 = .ok (.iload 4, 2) := by decide +kernel
theorem dS_mergeRuns_91 : decode cS_mergeRuns 91 = .ok (.aaload, 1) := by decide +kernel
theorem dS_mergeRuns_92 : decode cS_mergeRuns 92 = .ok (.aastore, 1) := by decide +kernel
theorem dS_mergeRuns_93 : decode cS_mergeRuns 93 = .ok (.iinc 4 1, 3) := by decide +kernel
theorem dS_mergeRuns_96 : decode cS_mergeRuns 96 = .ok (.iinc 6 1, 3) := by decide +kernel
theorem dS_mergeRuns_99 : decode cS_mergeRuns 99 = .ok (.goto (-90), 3) := by decide +kernel
theorem dS_mergeRuns_102 : decode cS_mergeRuns 102 = .ok (.return_, 1) := by decide +kernel
def jS_mergeRuns_96 (h : cH) (K9 : cZ → Int32 → Int32 → Int32 → Int32 → Int32 → Option (cZ)) (z : cZ) (x2 : Int32) (x3 : Int32) (x4 : Int32) (x5 : Int32) (x6 : Int32) : Option (cZ) := K9 z x2 x3 x4 x5 (x6 + 1)
def jS_mergeRuns_52 (h : cH) (K9 : cZ → Int32 → Int32 → Int32 → Int32 → Int32 → Option (cZ)) (z : cZ) (x2 : Int32) (x3 : Int32) (x4 : Int32) (x5 : Int32) (x6 : Int32) (s0 : Int32) : Option (cZ) := if s0 = 0 then (if x4 < 0 ∨ h.1 3 ≤ x4.toNatClampNeg then none else (if x6 < 0 ∨ h.1 4 ≤ x6.toNatClampNeg then none else (if okr h.2.1 (zr z 0 x4.toNatClampNeg) = false then none else (jS_mergeRuns_96 h K9 (zR z 1 x6.toNatClampNeg (zr z 0 x4.toNatClampNeg)) x2 x3 (x4 + 1) x5 x6)))) else (if x5 < 0 ∨ h.1 3 ≤ x5.toNatClampNeg then none else (if x6 < 0 ∨ h.1 4 ≤ x6.toNatClampNeg then none else (if okr h.2.1 (zr z 0 x5.toNatClampNeg) = false then none else (jS_mergeRuns_96 h K9 (zR z 1 x6.toNatClampNeg (zr z 0 x5.toNatClampNeg)) x2 x3 x4 (x5 + 1) x6))))
def jS_mergeRuns_47 (h : cH) (K9 : cZ → Int32 → Int32 → Int32 → Int32 → Int32 → Option (cZ)) (z : cZ) (x2 : Int32) (x3 : Int32) (x4 : Int32) (x5 : Int32) (x6 : Int32) : Option (cZ) := jS_mergeRuns_52 h K9 z x2 x3 x4 x5 x6 (1 : Int32)
def jS_mergeRuns_51 (h : cH) (K9 : cZ → Int32 → Int32 → Int32 → Int32 → Int32 → Option (cZ)) (z : cZ) (x2 : Int32) (x3 : Int32) (x4 : Int32) (x5 : Int32) (x6 : Int32) : Option (cZ) := jS_mergeRuns_52 h K9 z x2 x3 x4 x5 x6 (0 : Int32)
def lS_mergeRuns_9 (h : cH) : Nat → cZ → Int32 → Int32 → Int32 → Int32 → Int32 → Option (cZ)
  | 0 => fun _ _ _ _ _ _ => none
  | k + 1 => fun z x2 x3 x4 x5 x6 => if x3 ≤ x6 then (some z) else (if x2 ≤ x4 then (jS_mergeRuns_47 h (lS_mergeRuns_9 h k) z x2 x3 x4 x5 x6) else (if x3 ≤ x5 then (jS_mergeRuns_51 h (lS_mergeRuns_9 h k) z x2 x3 x4 x5 x6) else (if x4 < 0 ∨ h.1 3 ≤ x4.toNatClampNeg then none else (if x5 < 0 ∨ h.1 3 ≤ x5.toNatClampNeg then none else ((zr z 0 x4.toNatClampNeg).bind fun j6 => if h.2.1 ≤ j6 then none else ((fE_belongsBehind h z j6 (zr z 0 x5.toNatClampNeg)).bind fun (r7, z7) => if r7 = 0 then (jS_mergeRuns_51 h (lS_mergeRuns_9 h k) z7 x2 x3 x4 x5 x6) else (jS_mergeRuns_47 h (lS_mergeRuns_9 h k) z7 x2 x3 x4 x5 x6)))))))
def fS_mergeRuns (h : cH) (z : cZ) (x1 : Int32) (x2 : Int32) (x3 : Int32) : Option (cZ) := lS_mergeRuns_9 h FU z x2 x3 x1 x2 x1
set_option maxHeartbeats 4000000 in
set_option maxRecDepth 100000 in
theorem wS_mergeRuns_96 {p : Program} {l : Launch} {e : Env} {s : State} {m : MethodId} {args : Array Value} {below : List Frame} {meth : Method} {c : Code} {g : gT} {qq ad ea : Nat → Nat} {h : cH} {X : va_W} {rv : Option Value} {z' : cZ} (C : mCx p m c cS_mergeRuns 8 s args g "MidiDesk$Score") (hr : meth.sig.returnType = none) (hlk : meth.locks = false) (hrv : rv = none) {K9 : cZ → Int32 → Int32 → Int32 → Int32 → Int32 → Option (cZ)} (hK9 : ∀ (z : cZ) (x2 : Int32) (x3 : Int32) (x4 : Int32) (x5 : Int32) (x6 : Int32) (H : Heap) (locs : List Loc) (ls : Array Slot), lv_has ls 8 [(0, .ref (qq 4)), (2, .int x2), (3, .int x3), (4, .int x4), (5, .int x5), (6, .int x6)] → cWd g (cA g qq ad ea h X s.heap.size) s.heap qq ad ea h X z H locs → K9 z x2 x3 x4 x5 x6 = some z' → cG p l e rS_mergeRuns s m args below meth c g qq ad ea h X rv X z' H locs 0 0 (F0 m 9 ls [])) (z : cZ) (x2 : Int32) (x3 : Int32) (x4 : Int32) (x5 : Int32) (x6 : Int32) (H : Heap) (locs : List Loc) (ls : Array Slot) (hl : lv_has ls 8 [(0, .ref (qq 4)), (2, .int x2), (3, .int x3), (4, .int x4), (5, .int x5), (6, .int x6)]) (hw : cWd g (cA g qq ad ea h X s.heap.size) s.heap qq ad ea h X z H locs) (hf : jS_mergeRuns_96 h K9 z x2 x3 x4 x5 x6 = some z') : cG p l e rS_mergeRuns s m args below meth c g qq ad ea h X rv X z' H locs 0 0 (F0 m 96 ls []) := by
  unfold jS_mergeRuns_96 at hf
  refine lv_iinc (v := x6 + 1) (lv' := [(6, .int (x6 + 1)), (0, .ref (qq 4)), (2, .int x2), (3, .int x3), (4, .int x4), (5, .int x5)]) C.1.1 C.1.2.1 dS_mergeRuns_96 hl (k := 5) rfl rfl (by decide) rfl (fun ls hl => ?_)
  refine lv_goto (tgt := 9) C.1.1 C.1.2.1 dS_mergeRuns_99 (by decide) ?_
  exact hK9 z x2 x3 x4 x5 (x6 + 1) _ _ ls (lv_sub hl [1, 2, 3, 4, 5, 0] rfl) hw hf
set_option maxHeartbeats 4000000 in
set_option maxRecDepth 100000 in
theorem wS_mergeRuns_52 {p : Program} {l : Launch} {e : Env} {s : State} {m : MethodId} {args : Array Value} {below : List Frame} {meth : Method} {c : Code} {g : gT} {qq ad ea : Nat → Nat} {h : cH} {X : va_W} {rv : Option Value} {z' : cZ} (C : mCx p m c cS_mergeRuns 8 s args g "MidiDesk$Score") (hr : meth.sig.returnType = none) (hlk : meth.locks = false) (hrv : rv = none) {K9 : cZ → Int32 → Int32 → Int32 → Int32 → Int32 → Option (cZ)} (hK9 : ∀ (z : cZ) (x2 : Int32) (x3 : Int32) (x4 : Int32) (x5 : Int32) (x6 : Int32) (H : Heap) (locs : List Loc) (ls : Array Slot), lv_has ls 8 [(0, .ref (qq 4)), (2, .int x2), (3, .int x3), (4, .int x4), (5, .int x5), (6, .int x6)] → cWd g (cA g qq ad ea h X s.heap.size) s.heap qq ad ea h X z H locs → K9 z x2 x3 x4 x5 x6 = some z' → cG p l e rS_mergeRuns s m args below meth c g qq ad ea h X rv X z' H locs 0 0 (F0 m 9 ls [])) (z : cZ) (x2 : Int32) (x3 : Int32) (x4 : Int32) (x5 : Int32) (x6 : Int32) (s0 : Int32) (H : Heap) (locs : List Loc) (ls : Array Slot) (hl : lv_has ls 8 [(0, .ref (qq 4)), (2, .int x2), (3, .int x3), (4, .int x4), (5, .int x5), (6, .int x6)]) (hw : cWd g (cA g qq ad ea h X s.heap.size) s.heap qq ad ea h X z H locs) (hf : jS_mergeRuns_52 h K9 z x2 x3 x4 x5 x6 s0 = some z') : cG p l e rS_mergeRuns s m args below meth c g qq ad ea h X rv X z' H locs 0 0 (F0 m 52 ls [.int s0]) := by
  unfold jS_mergeRuns_52 at hf
  refine lv_istore (lv' := [(7, .int s0), (0, .ref (qq 4)), (2, .int x2), (3, .int x3), (4, .int x4), (5, .int x5), (6, .int x6)]) C.1.1 C.1.2.1 dS_mergeRuns_52 hl (by decide) rfl (fun ls hl => ?_)
  refine lv_iload C.1.1 C.1.2.1 dS_mergeRuns_54 (lv_at hl 0 rfl) ?_
  refine lv_if_eq (tgt := 79) C.1.1 C.1.2.1 dS_mergeRuns_56 (by decide) (fun c1 => ?_) (fun c1 => ?_)
  · have hf := ts_t hf c1
    refine lv_aload_n C.1.1 C.1.2.1 dS_mergeRuns_79 rfl (lv_at hl 1 rfl) ?_
    refine cg_Score_Score_spare C hw dS_mergeRuns_80 ?_
    refine lv_iload C.1.1 C.1.2.1 dS_mergeRuns_83 (lv_at hl 6 rfl) ?_
    refine lv_aload_n C.1.1 C.1.2.1 dS_mergeRuns_85 rfl (lv_at hl 1 rfl) ?_
    refine cg_Score_Score_row C hw dS_mergeRuns_86 ?_
    refine lv_iload C.1.1 C.1.2.1 dS_mergeRuns_89 (lv_at hl 4 rfl) ?_
    obtain ⟨h2, hf⟩ := ts_g hf
    refine cra_0 C hw h2 dS_mergeRuns_91 ?_
    obtain ⟨h3, hf⟩ := ts_g hf
    obtain ⟨h4, hf⟩ := ts_g hf
    refine crs_1 C hw h3 h4 dS_mergeRuns_92 (fun H locs hw => ?_)
    refine lv_iinc (v := x4 + 1) (lv' := [(4, .int (x4 + 1)), (7, .int s0), (0, .ref (qq 4)), (2, .int x2), (3, .int x3), (5, .int x5), (6, .int x6)]) C.1.1 C.1.2.1 dS_mergeRuns_93 hl (k := 4) rfl rfl (by decide) rfl (fun ls hl => ?_)
    exact wS_mergeRuns_96 C hr hlk hrv hK9 (zR z 1 x6.toNatClampNeg (zr z 0 x4.toNatClampNeg)) x2 x3 (x4 + 1) x5 x6 _ _ ls (lv_sub hl [2, 3, 4, 0, 5, 6] rfl) hw hf
  · have hf := ts_f hf c1
    refine lv_aload_n C.1.1 C.1.2.1 dS_mergeRuns_59 rfl (lv_at hl 1 rfl) ?_
    refine cg_Score_Score_spare C hw dS_mergeRuns_60 ?_
    refine lv_iload C.1.1 C.1.2.1 dS_mergeRuns_63 (lv_at hl 6 rfl) ?_
    refine lv_aload_n C.1.1 C.1.2.1 dS_mergeRuns_65 rfl (lv_at hl 1 rfl) ?_
    refine cg_Score_Score_row C hw dS_mergeRuns_66 ?_
    refine lv_iload C.1.1 C.1.2.1 dS_mergeRuns_69 (lv_at hl 5 rfl) ?_
    obtain ⟨h5, hf⟩ := ts_g hf
    refine cra_0 C hw h5 dS_mergeRuns_71 ?_
    obtain ⟨h6, hf⟩ := ts_g hf
    obtain ⟨h7, hf⟩ := ts_g hf
    refine crs_1 C hw h6 h7 dS_mergeRuns_72 (fun H locs hw => ?_)
    refine lv_iinc (v := x5 + 1) (lv' := [(5, .int (x5 + 1)), (7, .int s0), (0, .ref (qq 4)), (2, .int x2), (3, .int x3), (4, .int x4), (6, .int x6)]) C.1.1 C.1.2.1 dS_mergeRuns_73 hl (k := 5) rfl rfl (by decide) rfl (fun ls hl => ?_)
    refine lv_goto (tgt := 96) C.1.1 C.1.2.1 dS_mergeRuns_76 (by decide) ?_
    exact wS_mergeRuns_96 C hr hlk hrv hK9 (zR z 1 x6.toNatClampNeg (zr z 0 x5.toNatClampNeg)) x2 x3 x4 (x5 + 1) x6 _ _ ls (lv_sub hl [2, 3, 4, 5, 0, 6] rfl) hw hf
set_option maxHeartbeats 4000000 in
set_option maxRecDepth 100000 in
theorem wS_mergeRuns_47 {p : Program} {l : Launch} {e : Env} {s : State} {m : MethodId} {args : Array Value} {below : List Frame} {meth : Method} {c : Code} {g : gT} {qq ad ea : Nat → Nat} {h : cH} {X : va_W} {rv : Option Value} {z' : cZ} (C : mCx p m c cS_mergeRuns 8 s args g "MidiDesk$Score") (hr : meth.sig.returnType = none) (hlk : meth.locks = false) (hrv : rv = none) {K9 : cZ → Int32 → Int32 → Int32 → Int32 → Int32 → Option (cZ)} (hK9 : ∀ (z : cZ) (x2 : Int32) (x3 : Int32) (x4 : Int32) (x5 : Int32) (x6 : Int32) (H : Heap) (locs : List Loc) (ls : Array Slot), lv_has ls 8 [(0, .ref (qq 4)), (2, .int x2), (3, .int x3), (4, .int x4), (5, .int x5), (6, .int x6)] → cWd g (cA g qq ad ea h X s.heap.size) s.heap qq ad ea h X z H locs → K9 z x2 x3 x4 x5 x6 = some z' → cG p l e rS_mergeRuns s m args below meth c g qq ad ea h X rv X z' H locs 0 0 (F0 m 9 ls [])) (z : cZ) (x2 : Int32) (x3 : Int32) (x4 : Int32) (x5 : Int32) (x6 : Int32) (H : Heap) (locs : List Loc) (ls : Array Slot) (hl : lv_has ls 8 [(0, .ref (qq 4)), (2, .int x2), (3, .int x3), (4, .int x4), (5, .int x5), (6, .int x6)]) (hw : cWd g (cA g qq ad ea h X s.heap.size) s.heap qq ad ea h X z H locs) (hf : jS_mergeRuns_47 h K9 z x2 x3 x4 x5 x6 = some z') : cG p l e rS_mergeRuns s m args below meth c g qq ad ea h X rv X z' H locs 0 0 (F0 m 47 ls []) := by
  unfold jS_mergeRuns_47 at hf
  refine lv_iconst (v := (1 : Int32)) C.1.1 C.1.2.1 dS_mergeRuns_47 (by decide) ?_
  refine lv_goto (tgt := 52) C.1.1 C.1.2.1 dS_mergeRuns_48 (by decide) ?_
  exact wS_mergeRuns_52 C hr hlk hrv hK9 z x2 x3 x4 x5 x6 (1 : Int32) _ _ ls (lv_sub hl [0, 1, 2, 3, 4, 5] rfl) hw hf
set_option maxHeartbeats 4000000 in
set_option maxRecDepth 100000 in
theorem wS_mergeRuns_51 {p : Program} {l : Launch} {e : Env} {s : State} {m : MethodId} {args : Array Value} {below : List Frame} {meth : Method} {c : Code} {g : gT} {qq ad ea : Nat → Nat} {h : cH} {X : va_W} {rv : Option Value} {z' : cZ} (C : mCx p m c cS_mergeRuns 8 s args g "MidiDesk$Score") (hr : meth.sig.returnType = none) (hlk : meth.locks = false) (hrv : rv = none) {K9 : cZ → Int32 → Int32 → Int32 → Int32 → Int32 → Option (cZ)} (hK9 : ∀ (z : cZ) (x2 : Int32) (x3 : Int32) (x4 : Int32) (x5 : Int32) (x6 : Int32) (H : Heap) (locs : List Loc) (ls : Array Slot), lv_has ls 8 [(0, .ref (qq 4)), (2, .int x2), (3, .int x3), (4, .int x4), (5, .int x5), (6, .int x6)] → cWd g (cA g qq ad ea h X s.heap.size) s.heap qq ad ea h X z H locs → K9 z x2 x3 x4 x5 x6 = some z' → cG p l e rS_mergeRuns s m args below meth c g qq ad ea h X rv X z' H locs 0 0 (F0 m 9 ls [])) (z : cZ) (x2 : Int32) (x3 : Int32) (x4 : Int32) (x5 : Int32) (x6 : Int32) (H : Heap) (locs : List Loc) (ls : Array Slot) (hl : lv_has ls 8 [(0, .ref (qq 4)), (2, .int x2), (3, .int x3), (4, .int x4), (5, .int x5), (6, .int x6)]) (hw : cWd g (cA g qq ad ea h X s.heap.size) s.heap qq ad ea h X z H locs) (hf : jS_mergeRuns_51 h K9 z x2 x3 x4 x5 x6 = some z') : cG p l e rS_mergeRuns s m args below meth c g qq ad ea h X rv X z' H locs 0 0 (F0 m 51 ls []) := by
  unfold jS_mergeRuns_51 at hf
  refine lv_iconst (v := (0 : Int32)) C.1.1 C.1.2.1 dS_mergeRuns_51 (by decide) ?_
  exact wS_mergeRuns_52 C hr hlk hrv hK9 z x2 x3 x4 x5 x6 (0 : Int32) _ _ ls (lv_sub hl [0, 1, 2, 3, 4, 5] rfl) hw hf
set_option maxHeartbeats 4000000 in
set_option maxRecDepth 100000 in
theorem wS_mergeRuns_9 {p : Program} {l : Launch} {e : Env} {s : State} {m : MethodId} {args : Array Value} {below : List Frame} {meth : Method} {c : Code} {g : gT} {qq ad ea : Nat → Nat} {h : cH} {X : va_W} {rv : Option Value} {z' : cZ} (C : mCx p m c cS_mergeRuns 8 s args g "MidiDesk$Score") (hr : meth.sig.returnType = none) (hlk : meth.locks = false) (hrv : rv = none) (k : Nat) : ∀ (z : cZ) (x2 : Int32) (x3 : Int32) (x4 : Int32) (x5 : Int32) (x6 : Int32) (H : Heap) (locs : List Loc) (ls : Array Slot), lv_has ls 8 [(0, .ref (qq 4)), (2, .int x2), (3, .int x3), (4, .int x4), (5, .int x5), (6, .int x6)] → cWd g (cA g qq ad ea h X s.heap.size) s.heap qq ad ea h X z H locs → lS_mergeRuns_9 h k z x2 x3 x4 x5 x6 = some z' → cG p l e rS_mergeRuns s m args below meth c g qq ad ea h X rv X z' H locs 0 0 (F0 m 9 ls []) := by
  induction k with
  | zero => intro z x2 x3 x4 x5 x6 H locs ls hl hw hf; cases hf
  | succ k ih =>
    intro z x2 x3 x4 x5 x6 H locs ls hl hw hf
    have hf : (if x3 ≤ x6 then (some z) else (if x2 ≤ x4 then (jS_mergeRuns_47 h (lS_mergeRuns_9 h k) z x2 x3 x4 x5 x6) else (if x3 ≤ x5 then (jS_mergeRuns_51 h (lS_mergeRuns_9 h k) z x2 x3 x4 x5 x6) else (if x4 < 0 ∨ h.1 3 ≤ x4.toNatClampNeg then none else (if x5 < 0 ∨ h.1 3 ≤ x5.toNatClampNeg then none else ((zr z 0 x4.toNatClampNeg).bind fun j6 => if h.2.1 ≤ j6 then none else ((fE_belongsBehind h z j6 (zr z 0 x5.toNatClampNeg)).bind fun (r7, z7) => if r7 = 0 then (jS_mergeRuns_51 h (lS_mergeRuns_9 h k) z7 x2 x3 x4 x5 x6) else (jS_mergeRuns_47 h (lS_mergeRuns_9 h k) z7 x2 x3 x4 x5 x6)))))))) = some z' := hf
    refine lv_iload C.1.1 C.1.2.1 dS_mergeRuns_9 (lv_at hl 5 rfl) ?_
    refine lv_iload_n C.1.1 C.1.2.1 dS_mergeRuns_11 rfl (lv_at hl 2 rfl) ?_
    refine lv_icmp_ge (tgt := 102) C.1.1 C.1.2.1 dS_mergeRuns_12 (by decide) (fun c1 => ?_) (fun c1 => ?_)
    · have hf := ts_t hf c1
      exact c_retv C hr hlk hrv hw hf rfl ⟨Nat.le_of_ble_eq_true rfl, Nat.le_of_ble_eq_true rfl⟩ dS_mergeRuns_102
    · have hf := ts_f hf c1
      refine lv_iload C.1.1 C.1.2.1 dS_mergeRuns_15 (lv_at hl 3 rfl) ?_
      refine lv_iload_n C.1.1 C.1.2.1 dS_mergeRuns_17 rfl (lv_at hl 1 rfl) ?_
      refine lv_icmp_ge (tgt := 47) C.1.1 C.1.2.1 dS_mergeRuns_18 (by decide) (fun c2 => ?_) (fun c2 => ?_)
      · have hf := ts_t hf c2
        exact wS_mergeRuns_47 C hr hlk hrv ih z x2 x3 x4 x5 x6 _ _ ls (lv_sub hl [0, 1, 2, 3, 4, 5] rfl) hw hf
      · have hf := ts_f hf c2
        refine lv_iload C.1.1 C.1.2.1 dS_mergeRuns_21 (lv_at hl 4 rfl) ?_
        refine lv_iload_n C.1.1 C.1.2.1 dS_mergeRuns_23 rfl (lv_at hl 2 rfl) ?_
        refine lv_icmp_ge (tgt := 51) C.1.1 C.1.2.1 dS_mergeRuns_24 (by decide) (fun c3 => ?_) (fun c3 => ?_)
        · have hf := ts_t hf c3
          exact wS_mergeRuns_51 C hr hlk hrv ih z x2 x3 x4 x5 x6 _ _ ls (lv_sub hl [0, 1, 2, 3, 4, 5] rfl) hw hf
        · have hf := ts_f hf c3
          refine lv_aload_n C.1.1 C.1.2.1 dS_mergeRuns_27 rfl (lv_at hl 0 rfl) ?_
          refine cg_Score_Score_row C hw dS_mergeRuns_28 ?_
          refine lv_iload C.1.1 C.1.2.1 dS_mergeRuns_31 (lv_at hl 3 rfl) ?_
          obtain ⟨h4, hf⟩ := ts_g hf
          refine cra_0 C hw h4 dS_mergeRuns_33 ?_
          refine lv_aload_n C.1.1 C.1.2.1 dS_mergeRuns_34 rfl (lv_at hl 0 rfl) ?_
          refine cg_Score_Score_row C hw dS_mergeRuns_35 ?_
          refine lv_iload C.1.1 C.1.2.1 dS_mergeRuns_38 (lv_at hl 4 rfl) ?_
          obtain ⟨h5, hf⟩ := ts_g hf
          refine cra_0 C hw h5 dS_mergeRuns_40 ?_
          obtain ⟨j6, ho6, hf⟩ := ts_b hf
          try dsimp only at hf
          obtain ⟨hb6, hf⟩ := ts_g hf
          have hb6 := Nat.lt_of_not_le hb6
          obtain ⟨⟨r7, z7⟩, g7, hf⟩ := ts_b hf
          try dsimp only at hf
          refine c_callV (rest := []) (As := [va_rf (Option.map ea (zr z 0 x5.toNatClampNeg))]) (rv := (some (.int r7))) (b := (ea j6)) C hl.1 hw (cE_belongsBehind_met g7) rfl (callW_of (rm := rE_belongsBehind) (C := "MidiDesk$Event") 1 C.1.2.2.2.2 gw_388 gw_389 gw_390 gw_60 gw_391 kE_belongsBehind ⟨Nat.le_of_ble_eq_true rfl, Nat.le_of_ble_eq_true rfl⟩) (c_recvE C.2 hb6 hw) rfl (by rw [ho6]; rfl) (Nat.le_of_ble_eq_true rfl) dS_mergeRuns_41 ⟨Nat.le_of_ble_eq_true rfl, Nat.le_of_ble_eq_true rfl⟩ (fun H locs hw => ?_)
          refine W.eq (g2 := F0 m 44 ls [.int r7]) rfl ?_
          refine lv_if_eq (tgt := 51) C.1.1 C.1.2.1 dS_mergeRuns_44 (by decide) (fun c8 => ?_) (fun c8 => ?_)
          · have hf := ts_t hf c8
            exact wS_mergeRuns_51 C hr hlk hrv ih z7 x2 x3 x4 x5 x6 _ _ ls (lv_sub hl [0, 1, 2, 3, 4, 5] rfl) hw hf
          · have hf := ts_f hf c8
            exact wS_mergeRuns_47 C hr hlk hrv ih z7 x2 x3 x4 x5 x6 _ _ ls (lv_sub hl [0, 1, 2, 3, 4, 5] rfl) hw hf
set_option maxHeartbeats 4000000 in
set_option maxRecDepth 100000 in
theorem cS_mergeRuns_met {l : Launch} {g : gT} {qq ad ea : Nat → Nat} {h : cH} {X : va_W} {z z' : cZ} {x1 : Int32} {x2 : Int32} {x3 : Int32} (hf : fS_mergeRuns h z x1 x2 x3 = some z') : cMet l yS_mergeRuns cS_mergeRuns 8 none rS_mergeRuns g qq ad ea h X z [.ref (qq 4), .int x1, .int x2, .int x3] (none) X z' := by
  refine c_entry (by decide) (Nat.le_of_ble_eq_true rfl) ?_
  intro p e s m args below meth c ls C hr hlk hnm hl hw
  have hrv : (none : Option Value) = none := rfl
  have C : mCx p m c cS_mergeRuns 8 s args g "MidiDesk$Score" := C
  have hl : lv_has ls 8 [(0, .ref (qq 4)), (1, .int x1), (2, .int x2), (3, .int x3)] := hl
  unfold fS_mergeRuns at hf
  refine lv_iload_n C.1.1 C.1.2.1 dS_mergeRuns_0 rfl (lv_at hl 1 rfl) ?_
  refine lv_istore (lv' := [(4, .int x1), (0, .ref (qq 4)), (1, .int x1), (2, .int x2), (3, .int x3)]) C.1.1 C.1.2.1 dS_mergeRuns_1 hl (by decide) rfl (fun ls hl => ?_)
  refine lv_iload_n C.1.1 C.1.2.1 dS_mergeRuns_3 rfl (lv_at hl 3 rfl) ?_
  refine lv_istore (lv' := [(5, .int x2), (4, .int x1), (0, .ref (qq 4)), (1, .int x1), (2, .int x2), (3, .int x3)]) C.1.1 C.1.2.1 dS_mergeRuns_4 hl (by decide) rfl (fun ls hl => ?_)
  refine lv_iload_n C.1.1 C.1.2.1 dS_mergeRuns_6 rfl (lv_at hl 3 rfl) ?_
  refine lv_istore (lv' := [(6, .int x1), (5, .int x2), (4, .int x1), (0, .ref (qq 4)), (1, .int x1), (2, .int x2), (3, .int x3)]) C.1.1 C.1.2.1 dS_mergeRuns_7 hl (by decide) rfl (fun ls hl => ?_)
  exact wS_mergeRuns_9 C hr hlk hrv FU z x2 x3 x1 x2 x1 _ _ ls (lv_sub hl [3, 5, 6, 2, 1, 0] rfl) hw hf
abbrev cS_putInOrder : ByteArray := prog_6_method_7_code
abbrev yS_putInOrder : MethodName := ⟨"MidiDesk$Score", "putInOrder", "()V"⟩
theorem kS_putInOrder : yS_putInOrder.cls ≠ "java/lang/invoke/MethodHandle" ∧ yS_putInOrder.cls ≠ "java/lang/invoke/VarHandle" ∧ (parseMethodDescriptor yS_putInOrder.desc).map (fun d => d.parameters.length) = some 0 := by decide +kernel
abbrev rS_putInOrder : Room := { frames := 2, cells := 0, slots := 0, locals := 48 }
theorem dS_putInOrder_0 : decode cS_putInOrder 0 = .ok (.iconst 1, 1) := by decide +kernel
theorem dS_putInOrder_1 : decode cS_putInOrder 1 = .ok (.istore_n 1, 1) := by decide +kernel
theorem dS_putInOrder_2 : decode cS_putInOrder 2 = .ok (.iload_n 1, 1) := by decide +kernel
theorem dS_putInOrder_3 : decode cS_putInOrder 3 = .ok (.aload_n 0, 1) := by decide +kernel
theorem dS_putInOrder_4 : decode cS_putInOrder 4 = .ok (.getfield 33, 3) := by decide +kernel
theorem dS_putInOrder_7 : decode cS_putInOrder 7 = .ok (.if_icmp .ge 72, 3) := by decide +kernel
theorem dS_putInOrder_10 : decode cS_putInOrder 10 = .ok (.iconst 0, 1) := by decide +kernel
theorem dS_putInOrder_11 : decode cS_putInOrder 11 = .ok (.istore_n 2, 1) := by decide +kernel
theorem dS_putInOrder_12 : decode cS_putInOrder 12 = .ok (.iload_n 2, 1) := by decide +kernel
theorem dS_putInOrder_13 : decode cS_putInOrder 13 = .ok (.aload_n 0, 1) := by decide +kernel
theorem dS_putInOrder_14 : decode cS_putInOrder 14 = .ok (.getfield 33, 3) := by decide +kernel
theorem dS_putInOrder_17 : decode cS_putInOrder 17 = .ok (.if_icmp .ge 39, 3) := by decide +kernel
theorem dS_putInOrder_20 : decode cS_putInOrder 20 = .ok (.iload_n 2, 1) := by decide +kernel
theorem dS_putInOrder_21 : decode cS_putInOrder 21 = .ok (.iload_n 1, 1) := by decide +kernel
theorem dS_putInOrder_22 : decode cS_putInOrder 22 = .ok (.iadd, 1) := by decide +kernel
theorem dS_putInOrder_23 : decode cS_putInOrder 23 = .ok (.aload_n 0, 1) := by decide +kernel
theorem dS_putInOrder_24 : decode cS_putInOrder 24 = .ok (.getfield 33, 3) := by decide +kernel
theorem dS_putInOrder_27 : decode cS_putInOrder 27 = .ok (.invokestatic 54, 3) := by decide +kernel
theorem dS_putInOrder_30 : decode cS_putInOrder 30 = .ok (.istore_n 3, 1) := by decide +kernel
theorem dS_putInOrder_31 : decode cS_putInOrder 31 = .ok (.aload_n 0, 1) := by decide +kernel
theorem dS_putInOrder_32 : decode cS_putInOrder 32 = .ok (.iload_n 2, 1) := by decide +kernel
theorem dS_putInOrder_33 : decode cS_putInOrder 33 = .ok (.iload_n 3, 1) := by decide +kernel
theorem dS_putInOrder_34 : decode cS_putInOrder 34 = .ok (.iload_n 3, 1) := by decide +kernel
theorem dS_putInOrder_35 : decode cS_putInOrder 35 = .ok (.iload_n 1, 1) := by decide +kernel
theorem dS_putInOrder_36 : decode cS_putInOrder 36 = .ok (.iadd, 1) := by decide +kernel
theorem dS_putInOrder_37 : decode cS_putInOrder 37 = .ok (.aload_n 0, 1) := by decide +kernel
theorem dS_putInOrder_38 : decode cS_putInOrder 38 = .ok (.getfield 33, 3) := by decide +kernel
theorem dS_putInOrder_41 : decode cS_putInOrder 41 = .ok (.invokestatic 54, 3) := by decide +kernel
theorem dS_putInOrder_44 : decode cS_putInOrder 44 = .ok (.invokevirtual 57, 3) := by decide +kernel
theorem dS_putInOrder_47 : decode cS_putInOrder 47 = .ok (.iload_n 2, 1) := by decide +kernel
theorem dS_putInOrder_48 : decode cS_putInOrder 48 = .ok (.iconst 2, 1) := by decide +kernel
theorem dS_putInOrder_49 : decode cS_putInOrder 49 = .ok (.iload_n 1, 1) := by decide +kernel
theorem dS_putInOrder_50 : decode cS_putInOrder 50 = .ok (.imul, 1) := by decide +kernel
theorem dS_putInOrder_51 : decode cS_putInOrder 51 = .ok (.iadd, 1) := by decide +kernel
theorem dS_putInOrder_52 : decode cS_putInOrder 52 = .ok (.istore_n 2, 1) := by decide +kernel
theorem dS_putInOrder_53 : decode cS_putInOrder 53 = .ok (.goto (-41), 3) := by decide +kernel
theorem dS_putInOrder_56 : decode cS_putInOrder 56 = .ok (.aload_n 0, 1) := by decide +kernel
theorem dS_putInOrder_57 : decode cS_putInOrder 57 = .ok (.getfield 26, 3) := by decide +kernel
theorem dS_putInOrder_60 : decode cS_putInOrder 60 = .ok (.aload_n 0, 1) := by decide +kernel
theorem dS_putInOrder_61 : decode cS_putInOrder 61 = .ok (.getfield 22, 3) := by decide +kernel
theorem dS_putInOrder_64 : decode cS_putInOrder 64 = .ok (.iconst 0, 1) := by decide +kernel
theorem dS_putInOrder_65 : decode cS_putInOrder 65 = .ok (.aload_n 0, 1) := by decide +kernel
theorem dS_putInOrder_66 : decode cS_putInOrder 66 = .ok (.getfield 33, 3) := by decide +kernel
theorem dS_putInOrder_69 : decode cS_putInOrder 69 = .ok (.invokestatic 49, 3) := by decide +kernel
theorem dS_putInOrder_72 : decode cS_putInOrder 72 = .ok (.iload_n 1, 1) := by decide +kernel
theorem dS_putInOrder_73 : decode cS_putInOrder 73 = .ok (.iconst 2, 1) := by decide +kernel
theorem dS_putInOrder_74 : decode cS_putInOrder 74 = .ok (.imul, 1) := by decide +kernel
theorem dS_putInOrder_75 : decode cS_putInOrder 75 = .ok (.istore_n 1, 1) := by decide +kernel
theorem dS_putInOrder_76 : decode cS_putInOrder 76 = .ok (.goto (-74), 3) := by decide +kernel
theorem dS_putInOrder_79 : decode cS_putInOrder 79 = .ok (.return_, 1) := by decide +kernel
def lS_putInOrder_12 (h : cH) (K2 : cZ → Int32 → Option (cZ)) : Nat → cZ → Int32 → Int32 → Option (cZ)
  | 0 => fun _ _ _ => none
  | k + 1 => fun z x1 x2 => if (zi z 7) ≤ x2 then ((fS_copy10 h z (0 : Int32) (zi z 7)).bind fun z2 => K2 z2 (x1 * (2 : Int32))) else ((fS_mergeRuns h z x2 (if (zi z 7) < (x2 + x1) then (zi z 7) else (x2 + x1)) (if (zi z 7) < ((if (zi z 7) < (x2 + x1) then (zi z 7) else (x2 + x1)) + x1) then (zi z 7) else ((if (zi z 7) < (x2 + x1) then (zi z 7) else (x2 + x1)) + x1))).bind fun z3 => lS_putInOrder_12 h K2 k z3 x1 (x2 + ((2 : Int32) * x1)))
def lS_putInOrder_2 (h : cH) : Nat → cZ → Int32 → Option (cZ)
  | 0 => fun _ _ => none
  | k + 1 => fun z x1 => if (zi z 7) ≤ x1 then (some z) else (lS_putInOrder_12 h (lS_putInOrder_2 h k) FU z x1 (0 : Int32))
def fS_putInOrder (h : cH) (z : cZ) : Option (cZ) := lS_putInOrder_2 h FU z (1 : Int32)
set_option maxHeartbeats 4000000 in
set_option maxRecDepth 100000 in
theorem wS_putInOrder_12 {p : Program} {l : Launch} {e : Env} {s : State} {m : MethodId} {args : Array Value} {below : List Frame} {meth : Method} {c : Code} {g : gT} {qq ad ea : Nat → Nat} {h : cH} {X : va_W} {rv : Option Value} {z' : cZ} (C : mCx p m c cS_putInOrder 4 s args g "MidiDesk$Score") (hr : meth.sig.returnType = none) (hlk : meth.locks = false) (hrv : rv = none) {K2 : cZ → Int32 → Option (cZ)} (hK2 : ∀ (z : cZ) (x1 : Int32) (H : Heap) (locs : List Loc) (ls : Array Slot), lv_has ls 4 [(0, .ref (qq 4)), (1, .int x1)] → cWd g (cA g qq ad ea h X s.heap.size) s.heap qq ad ea h X z H locs → K2 z x1 = some z' → cG p l e rS_putInOrder s m args below meth c g qq ad ea h X rv X z' H locs 0 0 (F0 m 2 ls [])) (k : Nat) : ∀ (z : cZ) (x1 : Int32) (x2 : Int32) (H : Heap) (locs : List Loc) (ls : Array Slot), lv_has ls 4 [(0, .ref (qq 4)), (1, .int x1), (2, .int x2)] → cWd g (cA g qq ad ea h X s.heap.size) s.heap qq ad ea h X z H locs → lS_putInOrder_12 h K2 k z x1 x2 = some z' → cG p l e rS_putInOrder s m args below meth c g qq ad ea h X rv X z' H locs 0 0 (F0 m 12 ls []) := by
  induction k with
  | zero => intro z x1 x2 H locs ls hl hw hf; cases hf
  | succ k ih =>
    intro z x1 x2 H locs ls hl hw hf
    have hf : (if (zi z 7) ≤ x2 then ((fS_copy10 h z (0 : Int32) (zi z 7)).bind fun z2 => K2 z2 (x1 * (2 : Int32))) else ((fS_mergeRuns h z x2 (if (zi z 7) < (x2 + x1) then (zi z 7) else (x2 + x1)) (if (zi z 7) < ((if (zi z 7) < (x2 + x1) then (zi z 7) else (x2 + x1)) + x1) then (zi z 7) else ((if (zi z 7) < (x2 + x1) then (zi z 7) else (x2 + x1)) + x1))).bind fun z3 => lS_putInOrder_12 h K2 k z3 x1 (x2 + ((2 : Int32) * x1)))) = some z' := hf
    refine lv_iload_n C.1.1 C.1.2.1 dS_putInOrder_12 rfl (lv_at hl 2 rfl) ?_
    refine lv_aload_n C.1.1 C.1.2.1 dS_putInOrder_13 rfl (lv_at hl 0 rfl) ?_
    refine cg_Score_Score_size C hw dS_putInOrder_14 ?_
    refine lv_icmp_ge (tgt := 56) C.1.1 C.1.2.1 dS_putInOrder_17 (by decide) (fun c1 => ?_) (fun c1 => ?_)
    · have hf := ts_t hf c1
      refine lv_aload_n C.1.1 C.1.2.1 dS_putInOrder_56 rfl (lv_at hl 0 rfl) ?_
      refine cg_Score_Score_spare C hw dS_putInOrder_57 ?_
      refine lv_aload_n C.1.1 C.1.2.1 dS_putInOrder_60 rfl (lv_at hl 0 rfl) ?_
      refine cg_Score_Score_row C hw dS_putInOrder_61 ?_
      refine lv_iconst (v := (0 : Int32)) C.1.1 C.1.2.1 dS_putInOrder_64 (by decide) ?_
      refine lv_aload_n C.1.1 C.1.2.1 dS_putInOrder_65 rfl (lv_at hl 0 rfl) ?_
      refine cg_Score_Score_size C hw dS_putInOrder_66 ?_
      obtain ⟨z2, g2, hf⟩ := ts_b hf
      try dsimp only at hf
      refine c_callS (rest := []) (As := [.ref (ad 4), .ref (ad 3), .int (0 : Int32), .int (zi z 7)]) (rv := none) C hl.1 hw (cS_copy10_met g2) (callS_of (rm := rS_copy10) 4 C.1.2.2.2.2 gw_325 gw_326 gw_54 gw_327 kS_copy10 ⟨Nat.le_of_ble_eq_true rfl, Nat.le_of_ble_eq_true rfl⟩) rfl rfl (Nat.le_of_ble_eq_true rfl) dS_putInOrder_69 ⟨Nat.le_of_ble_eq_true rfl, Nat.le_of_ble_eq_true rfl⟩ (fun H locs hw => ?_)
      refine W.eq (g2 := F0 m 72 ls []) rfl ?_
      refine lv_iload_n C.1.1 C.1.2.1 dS_putInOrder_72 rfl (lv_at hl 1 rfl) ?_
      refine lv_iconst (v := (2 : Int32)) C.1.1 C.1.2.1 dS_putInOrder_73 (by decide) ?_
      refine lv_imul C.1.1 C.1.2.1 dS_putInOrder_74 ?_
      refine lv_istore_n (lv' := [(1, .int (x1 * (2 : Int32))), (0, .ref (qq 4)), (2, .int x2)]) C.1.1 C.1.2.1 dS_putInOrder_75 rfl hl (by decide) rfl (fun ls hl => ?_)
      refine lv_goto (tgt := 2) C.1.1 C.1.2.1 dS_putInOrder_76 (by decide) ?_
      exact hK2 z2 (x1 * (2 : Int32)) _ _ ls (lv_sub hl [1, 0] rfl) hw hf
    · have hf := ts_f hf c1
      refine lv_iload_n C.1.1 C.1.2.1 dS_putInOrder_20 rfl (lv_at hl 2 rfl) ?_
      refine lv_iload_n C.1.1 C.1.2.1 dS_putInOrder_21 rfl (lv_at hl 1 rfl) ?_
      refine lv_iadd C.1.1 C.1.2.1 dS_putInOrder_22 ?_
      refine lv_aload_n C.1.1 C.1.2.1 dS_putInOrder_23 rfl (lv_at hl 0 rfl) ?_
      refine cg_Score_Score_size C hw dS_putInOrder_24 ?_
      refine va_mmin C.1.1 C.1.2.1 (by rw [hl.1]; exact C.1.2.2.1) C.1.2.2.2.1 (C.1.2.2.2.2 _ gw_383) (C.1.2.2.2.2 _ gw_174) (C.1.2.2.2.2 _ gw_57) (C.1.2.2.2.2 _ gw_175) (Nat.le_of_ble_eq_true rfl) (Nat.le_of_ble_eq_true rfl) (Nat.le_of_ble_eq_true rfl) (Nat.le_of_ble_eq_true rfl) dS_putInOrder_27 ?_
      refine lv_istore_n (lv' := [(3, .int (if (zi z 7) < (x2 + x1) then (zi z 7) else (x2 + x1))), (0, .ref (qq 4)), (1, .int x1), (2, .int x2)]) C.1.1 C.1.2.1 dS_putInOrder_30 rfl hl (by decide) rfl (fun ls hl => ?_)
      refine lv_aload_n C.1.1 C.1.2.1 dS_putInOrder_31 rfl (lv_at hl 1 rfl) ?_
      refine lv_iload_n C.1.1 C.1.2.1 dS_putInOrder_32 rfl (lv_at hl 3 rfl) ?_
      refine lv_iload_n C.1.1 C.1.2.1 dS_putInOrder_33 rfl (lv_at hl 0 rfl) ?_
      refine lv_iload_n C.1.1 C.1.2.1 dS_putInOrder_34 rfl (lv_at hl 0 rfl) ?_
      refine lv_iload_n C.1.1 C.1.2.1 dS_putInOrder_35 rfl (lv_at hl 2 rfl) ?_
      refine lv_iadd C.1.1 C.1.2.1 dS_putInOrder_36 ?_
      refine lv_aload_n C.1.1 C.1.2.1 dS_putInOrder_37 rfl (lv_at hl 1 rfl) ?_
      refine cg_Score_Score_size C hw dS_putInOrder_38 ?_
      refine va_mmin C.1.1 C.1.2.1 (by rw [hl.1]; exact C.1.2.2.1) C.1.2.2.2.1 (C.1.2.2.2.2 _ gw_383) (C.1.2.2.2.2 _ gw_174) (C.1.2.2.2.2 _ gw_57) (C.1.2.2.2.2 _ gw_175) (Nat.le_of_ble_eq_true rfl) (Nat.le_of_ble_eq_true rfl) (Nat.le_of_ble_eq_true rfl) (Nat.le_of_ble_eq_true rfl) dS_putInOrder_41 ?_
      obtain ⟨z3, g3, hf⟩ := ts_b hf
      try dsimp only at hf
      refine c_callV (rest := []) (As := [.int x2, .int (if (zi z 7) < (x2 + x1) then (zi z 7) else (x2 + x1)), .int (if (zi z 7) < ((if (zi z 7) < (x2 + x1) then (zi z 7) else (x2 + x1)) + x1) then (zi z 7) else ((if (zi z 7) < (x2 + x1) then (zi z 7) else (x2 + x1)) + x1))]) (rv := none) (b := (qq 4)) C hl.1 hw (cS_mergeRuns_met g3) rfl (callW_of (rm := rS_mergeRuns) (C := "MidiDesk$Score") 3 C.1.2.2.2.2 gw_384 gw_386 gw_14 gw_54 gw_387 kS_mergeRuns ⟨Nat.le_of_ble_eq_true rfl, Nat.le_of_ble_eq_true rfl⟩) (c_recv_score C.2 hw) rfl rfl (Nat.le_of_ble_eq_true rfl) dS_putInOrder_44 ⟨Nat.le_of_ble_eq_true rfl, Nat.le_of_ble_eq_true rfl⟩ (fun H locs hw => ?_)
      refine W.eq (g2 := F0 m 47 ls []) rfl ?_
      refine lv_iload_n C.1.1 C.1.2.1 dS_putInOrder_47 rfl (lv_at hl 3 rfl) ?_
      refine lv_iconst (v := (2 : Int32)) C.1.1 C.1.2.1 dS_putInOrder_48 (by decide) ?_
      refine lv_iload_n C.1.1 C.1.2.1 dS_putInOrder_49 rfl (lv_at hl 2 rfl) ?_
      refine lv_imul C.1.1 C.1.2.1 dS_putInOrder_50 ?_
      refine lv_iadd C.1.1 C.1.2.1 dS_putInOrder_51 ?_
      refine lv_istore_n (lv' := [(2, .int (x2 + ((2 : Int32) * x1))), (3, .int (if (zi z 7) < (x2 + x1) then (zi z 7) else (x2 + x1))), (0, .ref (qq 4)), (1, .int x1)]) C.1.1 C.1.2.1 dS_putInOrder_52 rfl hl (by decide) rfl (fun ls hl => ?_)
      refine lv_goto (tgt := 12) C.1.1 C.1.2.1 dS_putInOrder_53 (by decide) ?_
      exact ih z3 x1 (x2 + ((2 : Int32) * x1)) _ _ ls (lv_sub hl [2, 3, 0] rfl) hw hf
set_option maxHeartbeats 4000000 in
set_option maxRecDepth 100000 in
theorem wS_putInOrder_2 {p : Program} {l : Launch} {e : Env} {s : State} {m : MethodId} {args : Array Value} {below : List Frame} {meth : Method} {c : Code} {g : gT} {qq ad ea : Nat → Nat} {h : cH} {X : va_W} {rv : Option Value} {z' : cZ} (C : mCx p m c cS_putInOrder 4 s args g "MidiDesk$Score") (hr : meth.sig.returnType = none) (hlk : meth.locks = false) (hrv : rv = none) (k : Nat) : ∀ (z : cZ) (x1 : Int32) (H : Heap) (locs : List Loc) (ls : Array Slot), lv_has ls 4 [(0, .ref (qq 4)), (1, .int x1)] → cWd g (cA g qq ad ea h X s.heap.size) s.heap qq ad ea h X z H locs → lS_putInOrder_2 h k z x1 = some z' → cG p l e rS_putInOrder s m args below meth c g qq ad ea h X rv X z' H locs 0 0 (F0 m 2 ls []) := by
  induction k with
  | zero => intro z x1 H locs ls hl hw hf; cases hf
  | succ k ih =>
    intro z x1 H locs ls hl hw hf
    have hf : (if (zi z 7) ≤ x1 then (some z) else (lS_putInOrder_12 h (lS_putInOrder_2 h k) FU z x1 (0 : Int32))) = some z' := hf
    refine lv_iload_n C.1.1 C.1.2.1 dS_putInOrder_2 rfl (lv_at hl 1 rfl) ?_
    refine lv_aload_n C.1.1 C.1.2.1 dS_putInOrder_3 rfl (lv_at hl 0 rfl) ?_
    refine cg_Score_Score_size C hw dS_putInOrder_4 ?_
    refine lv_icmp_ge (tgt := 79) C.1.1 C.1.2.1 dS_putInOrder_7 (by decide) (fun c1 => ?_) (fun c1 => ?_)
    · have hf := ts_t hf c1
      exact c_retv C hr hlk hrv hw hf rfl ⟨Nat.le_of_ble_eq_true rfl, Nat.le_of_ble_eq_true rfl⟩ dS_putInOrder_79
    · have hf := ts_f hf c1
      refine lv_iconst (v := (0 : Int32)) C.1.1 C.1.2.1 dS_putInOrder_10 (by decide) ?_
      refine lv_istore_n (lv' := [(2, .int (0 : Int32)), (0, .ref (qq 4)), (1, .int x1)]) C.1.1 C.1.2.1 dS_putInOrder_11 rfl hl (by decide) rfl (fun ls hl => ?_)
      exact wS_putInOrder_12 C hr hlk hrv ih FU z x1 (0 : Int32) _ _ ls (lv_sub hl [1, 2, 0] rfl) hw hf
set_option maxHeartbeats 4000000 in
set_option maxRecDepth 100000 in
theorem cS_putInOrder_met {l : Launch} {g : gT} {qq ad ea : Nat → Nat} {h : cH} {X : va_W} {z z' : cZ} (hf : fS_putInOrder h z = some z') : cMet l yS_putInOrder cS_putInOrder 4 none rS_putInOrder g qq ad ea h X z [.ref (qq 4)] (none) X z' := by
  refine c_entry (by decide) (Nat.le_of_ble_eq_true rfl) ?_
  intro p e s m args below meth c ls C hr hlk hnm hl hw
  have hrv : (none : Option Value) = none := rfl
  have C : mCx p m c cS_putInOrder 4 s args g "MidiDesk$Score" := C
  have hl : lv_has ls 4 [(0, .ref (qq 4))] := hl
  unfold fS_putInOrder at hf
  refine lv_iconst (v := (1 : Int32)) C.1.1 C.1.2.1 dS_putInOrder_0 (by decide) ?_
  refine lv_istore_n (lv' := [(1, .int (1 : Int32)), (0, .ref (qq 4))]) C.1.1 C.1.2.1 dS_putInOrder_1 rfl hl (by decide) rfl (fun ls hl => ?_)
  exact wS_putInOrder_2 C hr hlk hrv FU z (1 : Int32) _ _ ls (lv_sub hl [1, 0] rfl) hw hf
abbrev cS_greatestTick : ByteArray := prog_6_method_9_code
abbrev yS_greatestTick : MethodName := ⟨"MidiDesk$Score", "greatestTick", "()I"⟩
theorem kS_greatestTick : yS_greatestTick.cls ≠ "java/lang/invoke/MethodHandle" ∧ yS_greatestTick.cls ≠ "java/lang/invoke/VarHandle" ∧ (parseMethodDescriptor yS_greatestTick.desc).map (fun d => d.parameters.length) = some 0 := by decide +kernel
abbrev rS_greatestTick : Room := { frames := 0, cells := 0, slots := 0, locals := 0 }
theorem dS_greatestTick_0 : decode cS_greatestTick 0 = .ok (.aload_n 0, 1) := by decide +kernel
theorem dS_greatestTick_1 : decode cS_greatestTick 1 = .ok (.getfield 33, 3) := by decide +kernel
theorem dS_greatestTick_4 : decode cS_greatestTick 4 = .ok (.ifCond .le 20, 3) := by decide +kernel
theorem dS_greatestTick_7 : decode cS_greatestTick 7 = .ok (.aload_n 0, 1) := by decide +kernel
theorem dS_greatestTick_8 : decode cS_greatestTick 8 = .ok (.getfield 22, 3) := by decide +kernel
theorem dS_greatestTick_11 : decode cS_greatestTick 11 = .ok (.aload_n 0, 1) := by decide +kernel
theorem dS_greatestTick_12 : decode cS_greatestTick 12 = .ok (.getfield 33, 3) := by decide +kernel
theorem dS_greatestTick_15 : decode cS_greatestTick 15 = .ok (.iconst 1, 1) := by decide +kernel
theorem dS_greatestTick_16 : decode cS_greatestTick 16 = .ok (.isub, 1) := by decide +kernel
theorem dS_greatestTick_17 : decode cS_greatestTick 17 = .ok (.aaload, 1) := by decide +kernel
theorem dS_greatestTick_18 : decode cS_greatestTick 18 = .ok (.getfield 65, 3) := by decide +kernel
theorem dS_greatestTick_21 : decode cS_greatestTick 21 = .ok (.goto 4, 3) := by decide +kernel
theorem dS_greatestTick_24 : decode cS_greatestTick 24 = .ok (.iconst 0, 1) := by decide +kernel
theorem dS_greatestTick_25 : decode cS_greatestTick 25 = .ok (.ireturn, 1) := by decide +kernel
def fS_greatestTick (h : cH) (z : cZ) : Option (Int32 × cZ) := if (zi z 7) ≤ 0 then (some ((0 : Int32), z)) else (if ((zi z 7) - (1 : Int32)) < 0 ∨ h.1 3 ≤ ((zi z 7) - (1 : Int32)).toNatClampNeg then none else ((zr z 0 ((zi z 7) - (1 : Int32)).toNatClampNeg).bind fun j3 => if h.2.1 ≤ j3 then none else (some (ze z j3 0, z))))
set_option maxHeartbeats 4000000 in
set_option maxRecDepth 100000 in
theorem cS_greatestTick_met {l : Launch} {g : gT} {qq ad ea : Nat → Nat} {h : cH} {X : va_W} {z z' : cZ} {r' : Int32} (hf : fS_greatestTick h z = some (r', z')) : cMet l yS_greatestTick cS_greatestTick 1 (some .int) rS_greatestTick g qq ad ea h X z [.ref (qq 4)] (some (.int r')) X z' := by
  refine c_entry (by decide) (Nat.le_of_ble_eq_true rfl) ?_
  intro p e s m args below meth c ls C hr hlk hnm hl hw
  have hrv : (some (.int r') : Option Value) = some (.int r') := rfl
  have C : mCx p m c cS_greatestTick 1 s args g "MidiDesk$Score" := C
  have hl : lv_has ls 1 [(0, .ref (qq 4))] := hl
  unfold fS_greatestTick at hf
  refine lv_aload_n C.1.1 C.1.2.1 dS_greatestTick_0 rfl (lv_at hl 0 rfl) ?_
  refine cg_Score_Score_size C hw dS_greatestTick_1 ?_
  refine lv_if_le (tgt := 24) C.1.1 C.1.2.1 dS_greatestTick_4 (by decide) (fun c1 => ?_) (fun c1 => ?_)
  · have hf := ts_t hf c1
    refine lv_iconst (v := (0 : Int32)) C.1.1 C.1.2.1 dS_greatestTick_24 (by decide) ?_
    exact c_reti C hr hlk hrv hw hf rfl ⟨Nat.le_of_ble_eq_true rfl, Nat.le_of_ble_eq_true rfl⟩ dS_greatestTick_25
  · have hf := ts_f hf c1
    refine lv_aload_n C.1.1 C.1.2.1 dS_greatestTick_7 rfl (lv_at hl 0 rfl) ?_
    refine cg_Score_Score_row C hw dS_greatestTick_8 ?_
    refine lv_aload_n C.1.1 C.1.2.1 dS_greatestTick_11 rfl (lv_at hl 0 rfl) ?_
    refine cg_Score_Score_size C hw dS_greatestTick_12 ?_
    refine lv_iconst (v := (1 : Int32)) C.1.1 C.1.2.1 dS_greatestTick_15 (by decide) ?_
    refine lv_isub C.1.1 C.1.2.1 dS_greatestTick_16 ?_
    obtain ⟨h2, hf⟩ := ts_g hf
    refine cra_0 C hw h2 dS_greatestTick_17 ?_
    obtain ⟨j3, ho3, hf⟩ := ts_b hf
    try dsimp only at hf
    obtain ⟨hb3, hf⟩ := ts_g hf
    have hb3 := Nat.lt_of_not_le hb3
    refine cg_Score_Event_tick C hw ho3 hb3 dS_greatestTick_18 ?_
    refine lv_goto (tgt := 25) C.1.1 C.1.2.1 dS_greatestTick_21 (by decide) ?_
    exact c_reti C hr hlk hrv hw hf rfl ⟨Nat.le_of_ble_eq_true rfl, Nat.le_of_ble_eq_true rfl⟩ dS_greatestTick_25
abbrev cS_tempoEvents : ByteArray := prog_6_method_10_code
abbrev yS_tempoEvents : MethodName := ⟨"MidiDesk$Score", "tempoEvents", "()I"⟩
theorem kS_tempoEvents : yS_tempoEvents.cls ≠ "java/lang/invoke/MethodHandle" ∧ yS_tempoEvents.cls ≠ "java/lang/invoke/VarHandle" ∧ (parseMethodDescriptor yS_tempoEvents.desc).map (fun d => d.parameters.length) = some 0 := by decide +kernel
abbrev rS_tempoEvents : Room := { frames := 1, cells := 0, slots := 0, locals := 20 }
theorem dS_tempoEvents_0 : decode cS_tempoEvents 0 = .ok (.iconst 0, 1) := by decide +kernel
theorem dS_tempoEvents_1 : decode cS_tempoEvents 1 = .ok (.istore_n 1, 1) := by decide +kernel
theorem dS_tempoEvents_2 : decode cS_tempoEvents 2 = .ok (.iconst 0, 1) := by decide +kernel
theorem dS_tempoEvents_3 : decode cS_tempoEvents 3 = .ok (.istore_n 2, 1) := by decide +kernel
theorem dS_tempoEvents_4 : decode cS_tempoEvents 4 = .ok (.iload_n 2, 1) := by decide +kernel
theorem dS_tempoEvents_5 : decode cS_tempoEvents 5 = .ok (.aload_n 0, 1) := by decide +kernel
theorem dS_tempoEvents_6 : decode cS_tempoEvents 6 = .ok (.getfield 33, 3) := by decide +kernel
theorem dS_tempoEvents_9 : decode cS_tempoEvents 9 = .ok (.if_icmp .ge 24, 3) := by decide +kernel
theorem dS_tempoEvents_12 : decode cS_tempoEvents 12 = .ok (.aload_n 0, 1) := by decide +kernel
theorem dS_tempoEvents_13 : decode cS_tempoEvents 13 = .ok (.getfield 22, 3) := by decide +kernel
theorem dS_tempoEvents_16 : decode cS_tempoEvents 16 = .ok (.iload_n 2, 1) := by decide +kernel
theorem dS_tempoEvents_17 : decode cS_tempoEvents 17 = .ok (.aaload, 1) := by decide +kernel
theorem dS_tempoEvents_18 : decode cS_tempoEvents 18 = .ok (.invokevirtual 68, 3) := by decide +kernel
theorem dS_tempoEvents_21 : decode cS_tempoEvents 21 = .ok (.ifCond .eq 6, 3) := by decide +kernel
theorem dS_tempoEvents_24 : decode cS_tempoEvents 24 = .ok (.iinc 1 1, 3) := by decide +kernel
theorem dS_tempoEvents_27 : decode cS_tempoEvents 27 = .ok (.iinc 2 1, 3) := by decide +kernel
theorem dS_tempoEvents_30 : decode cS_tempoEvents 30 = .ok (.goto (-26), 3) := by decide +kernel
theorem dS_tempoEvents_33 : decode cS_tempoEvents 33 = .ok (.iload_n 1, 1) := by decide +kernel
theorem dS_tempoEvents_34 : decode cS_tempoEvents 34 = .ok (.ireturn, 1) := by decide +kernel
def jS_tempoEvents_27 (h : cH) (K4 : cZ → Int32 → Int32 → Option (Int32 × cZ)) (z : cZ) (x1 : Int32) (x2 : Int32) : Option (Int32 × cZ) := K4 z x1 (x2 + 1)
def lS_tempoEvents_4 (h : cH) : Nat → cZ → Int32 → Int32 → Option (Int32 × cZ)
  | 0 => fun _ _ _ => none
  | k + 1 => fun z x1 x2 => if (zi z 7) ≤ x2 then (some (x1, z)) else (if x2 < 0 ∨ h.1 3 ≤ x2.toNatClampNeg then none else ((zr z 0 x2.toNatClampNeg).bind fun j3 => if h.2.1 ≤ j3 then none else ((fE_isTempo h z j3).bind fun (r4, z4) => if r4 = 0 then (jS_tempoEvents_27 h (lS_tempoEvents_4 h k) z4 x1 x2) else (jS_tempoEvents_27 h (lS_tempoEvents_4 h k) z4 (x1 + 1) x2))))
def fS_tempoEvents (h : cH) (z : cZ) : Option (Int32 × cZ) := lS_tempoEvents_4 h FU z (0 : Int32) (0 : Int32)
set_option maxHeartbeats 4000000 in
set_option maxRecDepth 100000 in
theorem wS_tempoEvents_27 {p : Program} {l : Launch} {e : Env} {s : State} {m : MethodId} {args : Array Value} {below : List Frame} {meth : Method} {c : Code} {g : gT} {qq ad ea : Nat → Nat} {h : cH} {X : va_W} {rv : Option Value} {z' : cZ} {r' : Int32} (C : mCx p m c cS_tempoEvents 3 s args g "MidiDesk$Score") (hr : meth.sig.returnType = (some .int)) (hlk : meth.locks = false) (hrv : rv = some (.int r')) {K4 : cZ → Int32 → Int32 → Option (Int32 × cZ)} (hK4 : ∀ (z : cZ) (x1 : Int32) (x2 : Int32) (H : Heap) (locs : List Loc) (ls : Array Slot), lv_has ls 3 [(0, .ref (qq 4)), (1, .int x1), (2, .int x2)] → cWd g (cA g qq ad ea h X s.heap.size) s.heap qq ad ea h X z H locs → K4 z x1 x2 = some (r', z') → cG p l e rS_tempoEvents s m args below meth c g qq ad ea h X rv X z' H locs 0 0 (F0 m 4 ls [])) (z : cZ) (x1 : Int32) (x2 : Int32) (H : Heap) (locs : List Loc) (ls : Array Slot) (hl : lv_has ls 3 [(0, .ref (qq 4)), (1, .int x1), (2, .int x2)]) (hw : cWd g (cA g qq ad ea h X s.heap.size) s.heap qq ad ea h X z H locs) (hf : jS_tempoEvents_27 h K4 z x1 x2 = some (r', z')) : cG p l e rS_tempoEvents s m args below meth c g qq ad ea h X rv X z' H locs 0 0 (F0 m 27 ls []) := by
  unfold jS_tempoEvents_27 at hf
  refine lv_iinc (v := x2 + 1) (lv' := [(2, .int (x2 + 1)), (0, .ref (qq 4)), (1, .int x1)]) C.1.1 C.1.2.1 dS_tempoEvents_27 hl (k := 2) rfl rfl (by decide) rfl (fun ls hl => ?_)
  refine lv_goto (tgt := 4) C.1.1 C.1.2.1 dS_tempoEvents_30 (by decide) ?_
  exact hK4 z x1 (x2 + 1) _ _ ls (lv_sub hl [1, 2, 0] rfl) hw hf
set_option maxHeartbeats 4000000 in
set_option maxRecDepth 100000 in
theorem wS_tempoEvents_4 {p : Program} {l : Launch} {e : Env} {s : State} {m : MethodId} {args : Array Value} {below : List Frame} {meth : Method} {c : Code} {g : gT} {qq ad ea : Nat → Nat} {h : cH} {X : va_W} {rv : Option Value} {z' : cZ} {r' : Int32} (C : mCx p m c cS_tempoEvents 3 s args g "MidiDesk$Score") (hr : meth.sig.returnType = (some .int)) (hlk : meth.locks = false) (hrv : rv = some (.int r')) (k : Nat) : ∀ (z : cZ) (x1 : Int32) (x2 : Int32) (H : Heap) (locs : List Loc) (ls : Array Slot), lv_has ls 3 [(0, .ref (qq 4)), (1, .int x1), (2, .int x2)] → cWd g (cA g qq ad ea h X s.heap.size) s.heap qq ad ea h X z H locs → lS_tempoEvents_4 h k z x1 x2 = some (r', z') → cG p l e rS_tempoEvents s m args below meth c g qq ad ea h X rv X z' H locs 0 0 (F0 m 4 ls []) := by
  induction k with
  | zero => intro z x1 x2 H locs ls hl hw hf; cases hf
  | succ k ih =>
    intro z x1 x2 H locs ls hl hw hf
    have hf : (if (zi z 7) ≤ x2 then (some (x1, z)) else (if x2 < 0 ∨ h.1 3 ≤ x2.toNatClampNeg then none else ((zr z 0 x2.toNatClampNeg).bind fun j3 => if h.2.1 ≤ j3 then none else ((fE_isTempo h z j3).bind fun (r4, z4) => if r4 = 0 then (jS_tempoEvents_27 h (lS_tempoEvents_4 h k) z4 x1 x2) else (jS_tempoEvents_27 h (lS_tempoEvents_4 h k) z4 (x1 + 1) x2))))) = some (r', z') := hf
    refine lv_iload_n C.1.1 C.1.2.1 dS_tempoEvents_4 rfl (lv_at hl 2 rfl) ?_
    refine lv_aload_n C.1.1 C.1.2.1 dS_tempoEvents_5 rfl (lv_at hl 0 rfl) ?_
    refine cg_Score_Score_size C hw dS_tempoEvents_6 ?_
    refine lv_icmp_ge (tgt := 33) C.1.1 C.1.2.1 dS_tempoEvents_9 (by decide) (fun c1 => ?_) (fun c1 => ?_)
    · have hf := ts_t hf c1
      refine lv_iload_n C.1.1 C.1.2.1 dS_tempoEvents_33 rfl (lv_at hl 1 rfl) ?_
      exact c_reti C hr hlk hrv hw hf rfl ⟨Nat.le_of_ble_eq_true rfl, Nat.le_of_ble_eq_true rfl⟩ dS_tempoEvents_34
    · have hf := ts_f hf c1
      refine lv_aload_n C.1.1 C.1.2.1 dS_tempoEvents_12 rfl (lv_at hl 0 rfl) ?_
      refine cg_Score_Score_row C hw dS_tempoEvents_13 ?_
      refine lv_iload_n C.1.1 C.1.2.1 dS_tempoEvents_16 rfl (lv_at hl 2 rfl) ?_
      obtain ⟨h2, hf⟩ := ts_g hf
      refine cra_0 C hw h2 dS_tempoEvents_17 ?_
      obtain ⟨j3, ho3, hf⟩ := ts_b hf
      try dsimp only at hf
      obtain ⟨hb3, hf⟩ := ts_g hf
      have hb3 := Nat.lt_of_not_le hb3
      obtain ⟨⟨r4, z4⟩, g4, hf⟩ := ts_b hf
      try dsimp only at hf
      refine c_callV (rest := []) (As := []) (rv := (some (.int r4))) (b := (ea j3)) C hl.1 hw (cE_isTempo_met g4) rfl (callW_of (rm := rE_isTempo) (C := "MidiDesk$Event") 0 C.1.2.2.2.2 gw_447 gw_448 gw_449 gw_60 gw_450 kE_isTempo ⟨Nat.le_of_ble_eq_true rfl, Nat.le_of_ble_eq_true rfl⟩) (c_recvE C.2 hb3 hw) rfl (by rw [ho3]; rfl) (Nat.le_of_ble_eq_true rfl) dS_tempoEvents_18 ⟨Nat.le_of_ble_eq_true rfl, Nat.le_of_ble_eq_true rfl⟩ (fun H locs hw => ?_)
      refine W.eq (g2 := F0 m 21 ls [.int r4]) rfl ?_
      refine lv_if_eq (tgt := 27) C.1.1 C.1.2.1 dS_tempoEvents_21 (by decide) (fun c5 => ?_) (fun c5 => ?_)
      · have hf := ts_t hf c5
        exact wS_tempoEvents_27 C hr hlk hrv ih z4 x1 x2 _ _ ls (lv_sub hl [0, 1, 2] rfl) hw hf
      · have hf := ts_f hf c5
        refine lv_iinc (v := x1 + 1) (lv' := [(1, .int (x1 + 1)), (0, .ref (qq 4)), (2, .int x2)]) C.1.1 C.1.2.1 dS_tempoEvents_24 hl (k := 1) rfl rfl (by decide) rfl (fun ls hl => ?_)
        exact wS_tempoEvents_27 C hr hlk hrv ih z4 (x1 + 1) x2 _ _ ls (lv_sub hl [1, 0, 2] rfl) hw hf
set_option maxHeartbeats 4000000 in
set_option maxRecDepth 100000 in
theorem cS_tempoEvents_met {l : Launch} {g : gT} {qq ad ea : Nat → Nat} {h : cH} {X : va_W} {z z' : cZ} {r' : Int32} (hf : fS_tempoEvents h z = some (r', z')) : cMet l yS_tempoEvents cS_tempoEvents 3 (some .int) rS_tempoEvents g qq ad ea h X z [.ref (qq 4)] (some (.int r')) X z' := by
  refine c_entry (by decide) (Nat.le_of_ble_eq_true rfl) ?_
  intro p e s m args below meth c ls C hr hlk hnm hl hw
  have hrv : (some (.int r') : Option Value) = some (.int r') := rfl
  have C : mCx p m c cS_tempoEvents 3 s args g "MidiDesk$Score" := C
  have hl : lv_has ls 3 [(0, .ref (qq 4))] := hl
  unfold fS_tempoEvents at hf
  refine lv_iconst (v := (0 : Int32)) C.1.1 C.1.2.1 dS_tempoEvents_0 (by decide) ?_
  refine lv_istore_n (lv' := [(1, .int (0 : Int32)), (0, .ref (qq 4))]) C.1.1 C.1.2.1 dS_tempoEvents_1 rfl hl (by decide) rfl (fun ls hl => ?_)
  refine lv_iconst (v := (0 : Int32)) C.1.1 C.1.2.1 dS_tempoEvents_2 (by decide) ?_
  refine lv_istore_n (lv' := [(2, .int (0 : Int32)), (1, .int (0 : Int32)), (0, .ref (qq 4))]) C.1.1 C.1.2.1 dS_tempoEvents_3 rfl hl (by decide) rfl (fun ls hl => ?_)
  exact wS_tempoEvents_4 C hr hlk hrv FU z (0 : Int32) (0 : Int32) _ _ ls (lv_sub hl [2, 1, 0] rfl) hw hf
abbrev cS_notesBegun : ByteArray := prog_6_method_11_code
abbrev yS_notesBegun : MethodName := ⟨"MidiDesk$Score", "notesBegun", "()I"⟩
theorem kS_notesBegun : yS_notesBegun.cls ≠ "java/lang/invoke/MethodHandle" ∧ yS_notesBegun.cls ≠ "java/lang/invoke/VarHandle" ∧ (parseMethodDescriptor yS_notesBegun.desc).map (fun d => d.parameters.length) = some 0 := by decide +kernel
abbrev rS_notesBegun : Room := { frames := 1, cells := 0, slots := 0, locals := 20 }
theorem dS_notesBegun_0 : decode cS_notesBegun 0 = .ok (.iconst 0, 1) := by decide +kernel
theorem dS_notesBegun_1 : decode cS_notesBegun 1 = .ok (.istore_n 1, 1) := by decide +kernel
theorem dS_notesBegun_2 : decode cS_notesBegun 2 = .ok (.iconst 0, 1) := by decide +kernel
theorem dS_notesBegun_3 : decode cS_notesBegun 3 = .ok (.istore_n 2, 1) := by decide +kernel
theorem dS_notesBegun_4 : decode cS_notesBegun 4 = .ok (.iload_n 2, 1) := by decide +kernel
theorem dS_notesBegun_5 : decode cS_notesBegun 5 = .ok (.aload_n 0, 1) := by decide +kernel
theorem dS_notesBegun_6 : decode cS_notesBegun 6 = .ok (.getfield 33, 3) := by decide +kernel
theorem dS_notesBegun_9 : decode cS_notesBegun 9 = .ok (.if_icmp .ge 24, 3) := by decide +kernel
theorem dS_notesBegun_12 : decode cS_notesBegun 12 = .ok (.aload_n 0, 1) := by decide +kernel
theorem dS_notesBegun_13 : decode cS_notesBegun 13 = .ok (.getfield 22, 3) := by decide +kernel
theorem dS_notesBegun_16 : decode cS_notesBegun 16 = .ok (.iload_n 2, 1) := by decide +kernel
theorem dS_notesBegun_17 : decode cS_notesBegun 17 = .ok (.aaload, 1) := by decide +kernel
theorem dS_notesBegun_18 : decode cS_notesBegun 18 = .ok (.invokevirtual 72, 3) := by decide +kernel
theorem dS_notesBegun_21 : decode cS_notesBegun 21 = .ok (.ifCond .eq 6, 3) := by decide +kernel
theorem dS_notesBegun_24 : decode cS_notesBegun 24 = .ok (.iinc 1 1, 3) := by decide +kernel
theorem dS_notesBegun_27 : decode cS_notesBegun 27 = .ok (.iinc 2 1, 3) := by decide +kernel
theorem dS_notesBegun_30 : decode cS_notesBegun 30 = .ok (.goto (-26), 3) := by decide +kernel
theorem dS_notesBegun_33 : decode cS_notesBegun 33 = .ok (.iload_n 1, 1) := by decide +kernel
theorem dS_notesBegun_34 : decode cS_notesBegun 34 = .ok (.ireturn, 1) := by decide +kernel
def jS_notesBegun_27 (h : cH) (K4 : cZ → Int32 → Int32 → Option (Int32 × cZ)) (z : cZ) (x1 : Int32) (x2 : Int32) : Option (Int32 × cZ) := K4 z x1 (x2 + 1)
def lS_notesBegun_4 (h : cH) : Nat → cZ → Int32 → Int32 → Option (Int32 × cZ)
  | 0 => fun _ _ _ => none
  | k + 1 => fun z x1 x2 => if (zi z 7) ≤ x2 then (some (x1, z)) else (if x2 < 0 ∨ h.1 3 ≤ x2.toNatClampNeg then none else ((zr z 0 x2.toNatClampNeg).bind fun j3 => if h.2.1 ≤ j3 then none else ((fE_beginsNote h z j3).bind fun (r4, z4) => if r4 = 0 then (jS_notesBegun_27 h (lS_notesBegun_4 h k) z4 x1 x2) else (jS_notesBegun_27 h (lS_notesBegun_4 h k) z4 (x1 + 1) x2))))
def fS_notesBegun (h : cH) (z : cZ) : Option (Int32 × cZ) := lS_notesBegun_4 h FU z (0 : Int32) (0 : Int32)
set_option maxHeartbeats 4000000 in
set_option maxRecDepth 100000 in
theorem wS_notesBegun_27 {p : Program} {l : Launch} {e : Env} {s : State} {m : MethodId} {args : Array Value} {below : List Frame} {meth : Method} {c : Code} {g : gT} {qq ad ea : Nat → Nat} {h : cH} {X : va_W} {rv : Option Value} {z' : cZ} {r' : Int32} (C : mCx p m c cS_notesBegun 3 s args g "MidiDesk$Score") (hr : meth.sig.returnType = (some .int)) (hlk : meth.locks = false) (hrv : rv = some (.int r')) {K4 : cZ → Int32 → Int32 → Option (Int32 × cZ)} (hK4 : ∀ (z : cZ) (x1 : Int32) (x2 : Int32) (H : Heap) (locs : List Loc) (ls : Array Slot), lv_has ls 3 [(0, .ref (qq 4)), (1, .int x1), (2, .int x2)] → cWd g (cA g qq ad ea h X s.heap.size) s.heap qq ad ea h X z H locs → K4 z x1 x2 = some (r', z') → cG p l e rS_notesBegun s m args below meth c g qq ad ea h X rv X z' H locs 0 0 (F0 m 4 ls [])) (z : cZ) (x1 : Int32) (x2 : Int32) (H : Heap) (locs : List Loc) (ls : Array Slot) (hl : lv_has ls 3 [(0, .ref (qq 4)), (1, .int x1), (2, .int x2)]) (hw : cWd g (cA g qq ad ea h X s.heap.size) s.heap qq ad ea h X z H locs) (hf : jS_notesBegun_27 h K4 z x1 x2 = some (r', z')) : cG p l e rS_notesBegun s m args below meth c g qq ad ea h X rv X z' H locs 0 0 (F0 m 27 ls []) := by
  unfold jS_notesBegun_27 at hf
  refine lv_iinc (v := x2 + 1) (lv' := [(2, .int (x2 + 1)), (0, .ref (qq 4)), (1, .int x1)]) C.1.1 C.1.2.1 dS_notesBegun_27 hl (k := 2) rfl rfl (by decide) rfl (fun ls hl => ?_)
  refine lv_goto (tgt := 4) C.1.1 C.1.2.1 dS_notesBegun_30 (by decide) ?_
  exact hK4 z x1 (x2 + 1) _ _ ls (lv_sub hl [1, 2, 0] rfl) hw hf
set_option maxHeartbeats 4000000 in
set_option maxRecDepth 100000 in
theorem wS_notesBegun_4 {p : Program} {l : Launch} {e : Env} {s : State} {m : MethodId} {args : Array Value} {below : List Frame} {meth : Method} {c : Code} {g : gT} {qq ad ea : Nat → Nat} {h : cH} {X : va_W} {rv : Option Value} {z' : cZ} {r' : Int32} (C : mCx p m c cS_notesBegun 3 s args g "MidiDesk$Score") (hr : meth.sig.returnType = (some .int)) (hlk : meth.locks = false) (hrv : rv = some (.int r')) (k : Nat) : ∀ (z : cZ) (x1 : Int32) (x2 : Int32) (H : Heap) (locs : List Loc) (ls : Array Slot), lv_has ls 3 [(0, .ref (qq 4)), (1, .int x1), (2, .int x2)] → cWd g (cA g qq ad ea h X s.heap.size) s.heap qq ad ea h X z H locs → lS_notesBegun_4 h k z x1 x2 = some (r', z') → cG p l e rS_notesBegun s m args below meth c g qq ad ea h X rv X z' H locs 0 0 (F0 m 4 ls []) := by
  induction k with
  | zero => intro z x1 x2 H locs ls hl hw hf; cases hf
  | succ k ih =>
    intro z x1 x2 H locs ls hl hw hf
    have hf : (if (zi z 7) ≤ x2 then (some (x1, z)) else (if x2 < 0 ∨ h.1 3 ≤ x2.toNatClampNeg then none else ((zr z 0 x2.toNatClampNeg).bind fun j3 => if h.2.1 ≤ j3 then none else ((fE_beginsNote h z j3).bind fun (r4, z4) => if r4 = 0 then (jS_notesBegun_27 h (lS_notesBegun_4 h k) z4 x1 x2) else (jS_notesBegun_27 h (lS_notesBegun_4 h k) z4 (x1 + 1) x2))))) = some (r', z') := hf
    refine lv_iload_n C.1.1 C.1.2.1 dS_notesBegun_4 rfl (lv_at hl 2 rfl) ?_
    refine lv_aload_n C.1.1 C.1.2.1 dS_notesBegun_5 rfl (lv_at hl 0 rfl) ?_
    refine cg_Score_Score_size C hw dS_notesBegun_6 ?_
    refine lv_icmp_ge (tgt := 33) C.1.1 C.1.2.1 dS_notesBegun_9 (by decide) (fun c1 => ?_) (fun c1 => ?_)
    · have hf := ts_t hf c1
      refine lv_iload_n C.1.1 C.1.2.1 dS_notesBegun_33 rfl (lv_at hl 1 rfl) ?_
      exact c_reti C hr hlk hrv hw hf rfl ⟨Nat.le_of_ble_eq_true rfl, Nat.le_of_ble_eq_true rfl⟩ dS_notesBegun_34
    · have hf := ts_f hf c1
      refine lv_aload_n C.1.1 C.1.2.1 dS_notesBegun_12 rfl (lv_at hl 0 rfl) ?_
      refine cg_Score_Score_row C hw dS_notesBegun_13 ?_
      refine lv_iload_n C.1.1 C.1.2.1 dS_notesBegun_16 rfl (lv_at hl 2 rfl) ?_
      obtain ⟨h2, hf⟩ := ts_g hf
      refine cra_0 C hw h2 dS_notesBegun_17 ?_
      obtain ⟨j3, ho3, hf⟩ := ts_b hf
      try dsimp only at hf
      obtain ⟨hb3, hf⟩ := ts_g hf
      have hb3 := Nat.lt_of_not_le hb3
      obtain ⟨⟨r4, z4⟩, g4, hf⟩ := ts_b hf
      try dsimp only at hf
      refine c_callV (rest := []) (As := []) (rv := (some (.int r4))) (b := (ea j3)) C hl.1 hw (cE_beginsNote_met g4) rfl (callW_of (rm := rE_beginsNote) (C := "MidiDesk$Event") 0 C.1.2.2.2.2 gw_415 gw_416 gw_417 gw_60 gw_418 kE_beginsNote ⟨Nat.le_of_ble_eq_true rfl, Nat.le_of_ble_eq_true rfl⟩) (c_recvE C.2 hb3 hw) rfl (by rw [ho3]; rfl) (Nat.le_of_ble_eq_true rfl) dS_notesBegun_18 ⟨Nat.le_of_ble_eq_true rfl, Nat.le_of_ble_eq_true rfl⟩ (fun H locs hw => ?_)
      refine W.eq (g2 := F0 m 21 ls [.int r4]) rfl ?_
      refine lv_if_eq (tgt := 27) C.1.1 C.1.2.1 dS_notesBegun_21 (by decide) (fun c5 => ?_) (fun c5 => ?_)
      · have hf := ts_t hf c5
        exact wS_notesBegun_27 C hr hlk hrv ih z4 x1 x2 _ _ ls (lv_sub hl [0, 1, 2] rfl) hw hf
      · have hf := ts_f hf c5
        refine lv_iinc (v := x1 + 1) (lv' := [(1, .int (x1 + 1)), (0, .ref (qq 4)), (2, .int x2)]) C.1.1 C.1.2.1 dS_notesBegun_24 hl (k := 1) rfl rfl (by decide) rfl (fun ls hl => ?_)
        exact wS_notesBegun_27 C hr hlk hrv ih z4 (x1 + 1) x2 _ _ ls (lv_sub hl [1, 0, 2] rfl) hw hf
set_option maxHeartbeats 4000000 in
set_option maxRecDepth 100000 in
theorem cS_notesBegun_met {l : Launch} {g : gT} {qq ad ea : Nat → Nat} {h : cH} {X : va_W} {z z' : cZ} {r' : Int32} (hf : fS_notesBegun h z = some (r', z')) : cMet l yS_notesBegun cS_notesBegun 3 (some .int) rS_notesBegun g qq ad ea h X z [.ref (qq 4)] (some (.int r')) X z' := by
  refine c_entry (by decide) (Nat.le_of_ble_eq_true rfl) ?_
  intro p e s m args below meth c ls C hr hlk hnm hl hw
  have hrv : (some (.int r') : Option Value) = some (.int r') := rfl
  have C : mCx p m c cS_notesBegun 3 s args g "MidiDesk$Score" := C
  have hl : lv_has ls 3 [(0, .ref (qq 4))] := hl
  unfold fS_notesBegun at hf
  refine lv_iconst (v := (0 : Int32)) C.1.1 C.1.2.1 dS_notesBegun_0 (by decide) ?_
  refine lv_istore_n (lv' := [(1, .int (0 : Int32)), (0, .ref (qq 4))]) C.1.1 C.1.2.1 dS_notesBegun_1 rfl hl (by decide) rfl (fun ls hl => ?_)
  refine lv_iconst (v := (0 : Int32)) C.1.1 C.1.2.1 dS_notesBegun_2 (by decide) ?_
  refine lv_istore_n (lv' := [(2, .int (0 : Int32)), (1, .int (0 : Int32)), (0, .ref (qq 4))]) C.1.1 C.1.2.1 dS_notesBegun_3 rfl hl (by decide) rfl (fun ls hl => ?_)
  exact wS_notesBegun_4 C hr hlk hrv FU z (0 : Int32) (0 : Int32) _ _ ls (lv_sub hl [2, 1, 0] rfl) hw hf
abbrev cS_noteTicks : ByteArray := prog_6_method_12_code
abbrev yS_noteTicks : MethodName := ⟨"MidiDesk$Score", "noteTicks", "(I)I"⟩
theorem kS_noteTicks : yS_noteTicks.cls ≠ "java/lang/invoke/MethodHandle" ∧ yS_noteTicks.cls ≠ "java/lang/invoke/VarHandle" ∧ (parseMethodDescriptor yS_noteTicks.desc).map (fun d => d.parameters.length) = some 1 := by decide +kernel
abbrev rS_noteTicks : Room := { frames := 2, cells := 0, slots := 0, locals := 42 }
theorem dS_noteTicks_0 : decode cS_noteTicks 0 = .ok (.aload_n 0, 1) := by decide +kernel
theorem dS_noteTicks_1 : decode cS_noteTicks 1 = .ok (.iload_n 1, 1) := by decide +kernel
theorem dS_noteTicks_2 : decode cS_noteTicks 2 = .ok (.invokevirtual 75, 3) := by decide +kernel
theorem dS_noteTicks_5 : decode cS_noteTicks 5 = .ok (.astore_n 2, 1) := by decide +kernel
theorem dS_noteTicks_6 : decode cS_noteTicks 6 = .ok (.aload_n 2, 1) := by decide +kernel
theorem dS_noteTicks_7 : decode cS_noteTicks 7 = .ok (.ifnull 10, 3) := by decide +kernel
theorem dS_noteTicks_10 : decode cS_noteTicks 10 = .ok (.aload_n 2, 1) := by decide +kernel
theorem dS_noteTicks_11 : decode cS_noteTicks 11 = .ok (.invokevirtual 72, 3) := by decide +kernel
theorem dS_noteTicks_14 : decode cS_noteTicks 14 = .ok (.ifCond .ne 5, 3) := by decide +kernel
theorem dS_noteTicks_17 : decode cS_noteTicks 17 = .ok (.iconst (-1), 1) := by decide +kernel
theorem dS_noteTicks_18 : decode cS_noteTicks 18 = .ok (.ireturn, 1) := by decide +kernel
theorem dS_noteTicks_19 : decode cS_noteTicks 19 = .ok (.iload_n 1, 1) := by decide +kernel
theorem dS_noteTicks_20 : decode cS_noteTicks 20 = .ok (.iconst 1, 1) := by decide +kernel
theorem dS_noteTicks_21 : decode cS_noteTicks 21 = .ok (.iadd, 1) := by decide +kernel
theorem dS_noteTicks_22 : decode cS_noteTicks 22 = .ok (.istore_n 3, 1) := by decide +kernel
theorem dS_noteTicks_23 : decode cS_noteTicks 23 = .ok (.iload_n 3, 1) := by decide +kernel
theorem dS_noteTicks_24 : decode cS_noteTicks 24 = .ok (.aload_n 0, 1) := by decide +kernel
theorem dS_noteTicks_25 : decode cS_noteTicks 25 = .ok (.getfield 33, 3) := by decide +kernel
theorem dS_noteTicks_28 : decode cS_noteTicks 28 = .ok (.if_icmp .ge 37, 3) := by decide +kernel
theorem dS_noteTicks_31 : decode cS_noteTicks 31 = .ok (.aload_n 0, 1) := by decide +kernel
theorem dS_noteTicks_32 : decode cS_noteTicks 32 = .ok (.getfield 22, 3) := by decide +kernel
theorem dS_noteTicks_35 : decode cS_noteTicks 35 = .ok (.iload_n 3, 1) := by decide +kernel
theorem dS_noteTicks_36 : decode cS_noteTicks 36 = .ok (.aaload, 1) := by decide +kernel
theorem dS_noteTicks_37 : decode cS_noteTicks 37 = .ok (.aload_n 2, 1) := by decide +kernel
theorem dS_noteTicks_38 : decode cS_noteTicks 38 = .ok (.invokevirtual 79, 3) := by decide +kernel
theorem dS_noteTicks_41 : decode cS_noteTicks 41 = .ok (.ifCond .eq 18, 3) := by decide +kernel
theorem dS_noteTicks_44 : decode cS_noteTicks 44 = .ok (.aload_n 0, 1) := by decide +kernel
theorem dS_noteTicks_45 : decode cS_noteTicks 45 = .ok (.getfield 22, 3) := by decide +kernel
theorem dS_noteTicks_48 : decode cS_noteTicks 48 = .ok (.iload_n 3, 1) := by decide +kernel
theorem dS_noteTicks_49 : decode cS_noteTicks 49 = .ok (.aaload, 1) := by decide +kernel
theorem dS_noteTicks_50 : decode cS_noteTicks 50 = .ok (.getfield 65, 3) := by decide +kernel
theorem dS_noteTicks_53 : decode cS_noteTicks 53 = .ok (.aload_n 2, 1) := by decide +kernel
theorem dS_noteTicks_54 : decode cS_noteTicks 54 = .ok (.getfield 65, 3) := by decide +kernel
theorem dS_noteTicks_57 : decode cS_noteTicks 57 = .ok (.isub, 1) := by decide +kernel
theorem dS_noteTicks_58 : decode cS_noteTicks 58 = .ok (.ireturn, 1) := by decide +kernel
theorem dS_noteTicks_59 : decode cS_noteTicks 59 = .ok (.iinc 3 1, 3) := by decide +kernel
theorem dS_noteTicks_62 : decode cS_noteTicks 62 = .ok (.goto (-39), 3) := by decide +kernel
theorem dS_noteTicks_65 : decode cS_noteTicks 65 = .ok (.iconst (-1), 1) := by decide +kernel
theorem dS_noteTicks_66 : decode cS_noteTicks 66 = .ok (.ireturn, 1) := by decide +kernel
def lS_noteTicks_23 (h : cH) : Nat → cZ → Option Nat → Int32 → Option (Int32 × cZ)
  | 0 => fun _ _ _ => none
  | k + 1 => fun z o2 x3 => if (zi z 7) ≤ x3 then (some ((-1 : Int32), z)) else (if x3 < 0 ∨ h.1 3 ≤ x3.toNatClampNeg then none else ((zr z 0 x3.toNatClampNeg).bind fun j3 => if h.2.1 ≤ j3 then none else ((fE_endsNoteOf h z j3 o2).bind fun (r4, z4) => if r4 = 0 then (lS_noteTicks_23 h k z4 o2 (x3 + 1)) else (if x3 < 0 ∨ h.1 3 ≤ x3.toNatClampNeg then none else ((zr z4 0 x3.toNatClampNeg).bind fun j7 => if h.2.1 ≤ j7 then none else ((o2).bind fun j8 => if h.2.1 ≤ j8 then none else (some ((ze z4 j7 0) - (ze z4 j8 0), z4))))))))
def fS_noteTicks (h : cH) (z : cZ) (x1 : Int32) : Option (Int32 × cZ) := (fS_at h z x1).bind fun (r1, z1) => if r1 = none then (some ((-1 : Int32), z1)) else ((r1).bind fun j3 => if h.2.1 ≤ j3 then none else ((fE_beginsNote h z1 j3).bind fun (r4, z4) => if r4 = 0 then (some ((-1 : Int32), z4)) else (lS_noteTicks_23 h FU z4 r1 (x1 + (1 : Int32)))))
set_option maxHeartbeats 4000000 in
set_option maxRecDepth 100000 in
theorem wS_noteTicks_23 {p : Program} {l : Launch} {e : Env} {s : State} {m : MethodId} {args : Array Value} {below : List Frame} {meth : Method} {c : Code} {g : gT} {qq ad ea : Nat → Nat} {h : cH} {X : va_W} {rv : Option Value} {z' : cZ} {r' : Int32} (C : mCx p m c cS_noteTicks 4 s args g "MidiDesk$Score") (hr : meth.sig.returnType = (some .int)) (hlk : meth.locks = false) (hrv : rv = some (.int r')) (k : Nat) : ∀ (z : cZ) (o2 : Option Nat) (x3 : Int32) (H : Heap) (locs : List Loc) (ls : Array Slot), lv_has ls 4 [(0, .ref (qq 4)), (2, va_rf (Option.map ea o2)), (3, .int x3)] → cWd g (cA g qq ad ea h X s.heap.size) s.heap qq ad ea h X z H locs → lS_noteTicks_23 h k z o2 x3 = some (r', z') → cG p l e rS_noteTicks s m args below meth c g qq ad ea h X rv X z' H locs 0 0 (F0 m 23 ls []) := by
  induction k with
  | zero => intro z o2 x3 H locs ls hl hw hf; cases hf
  | succ k ih =>
    intro z o2 x3 H locs ls hl hw hf
    have hf : (if (zi z 7) ≤ x3 then (some ((-1 : Int32), z)) else (if x3 < 0 ∨ h.1 3 ≤ x3.toNatClampNeg then none else ((zr z 0 x3.toNatClampNeg).bind fun j3 => if h.2.1 ≤ j3 then none else ((fE_endsNoteOf h z j3 o2).bind fun (r4, z4) => if r4 = 0 then (lS_noteTicks_23 h k z4 o2 (x3 + 1)) else (if x3 < 0 ∨ h.1 3 ≤ x3.toNatClampNeg then none else ((zr z4 0 x3.toNatClampNeg).bind fun j7 => if h.2.1 ≤ j7 then none else ((o2).bind fun j8 => if h.2.1 ≤ j8 then none else (some ((ze z4 j7 0) - (ze z4 j8 0), z4))))))))) = some (r', z') := hf
    refine lv_iload_n C.1.1 C.1.2.1 dS_noteTicks_23 rfl (lv_at hl 2 rfl) ?_
    refine lv_aload_n C.1.1 C.1.2.1 dS_noteTicks_24 rfl (lv_at hl 0 rfl) ?_
    refine cg_Score_Score_size C hw dS_noteTicks_25 ?_
    refine lv_icmp_ge (tgt := 65) C.1.1 C.1.2.1 dS_noteTicks_28 (by decide) (fun c1 => ?_) (fun c1 => ?_)
    · have hf := ts_t hf c1
      refine lv_iconst (v := (-1 : Int32)) C.1.1 C.1.2.1 dS_noteTicks_65 (by decide) ?_
      exact c_reti C hr hlk hrv hw hf rfl ⟨Nat.le_of_ble_eq_true rfl, Nat.le_of_ble_eq_true rfl⟩ dS_noteTicks_66
    · have hf := ts_f hf c1
      refine lv_aload_n C.1.1 C.1.2.1 dS_noteTicks_31 rfl (lv_at hl 0 rfl) ?_
      refine cg_Score_Score_row C hw dS_noteTicks_32 ?_
      refine lv_iload_n C.1.1 C.1.2.1 dS_noteTicks_35 rfl (lv_at hl 2 rfl) ?_
      obtain ⟨h2, hf⟩ := ts_g hf
      refine cra_0 C hw h2 dS_noteTicks_36 ?_
      refine c_aload_n C.1.1 C.1.2.1 dS_noteTicks_37 rfl (lv_at hl 1 rfl) ?_
      obtain ⟨j3, ho3, hf⟩ := ts_b hf
      try dsimp only at hf
      obtain ⟨hb3, hf⟩ := ts_g hf
      have hb3 := Nat.lt_of_not_le hb3
      obtain ⟨⟨r4, z4⟩, g4, hf⟩ := ts_b hf
      try dsimp only at hf
      refine c_callV (rest := []) (As := [va_rf (Option.map ea o2)]) (rv := (some (.int r4))) (b := (ea j3)) C hl.1 hw (cE_endsNoteOf_met g4) rfl (callW_of (rm := rE_endsNoteOf) (C := "MidiDesk$Event") 1 C.1.2.2.2.2 gw_419 gw_420 gw_421 gw_60 gw_422 kE_endsNoteOf ⟨Nat.le_of_ble_eq_true rfl, Nat.le_of_ble_eq_true rfl⟩) (c_recvE C.2 hb3 hw) rfl (by rw [ho3]; rfl) (Nat.le_of_ble_eq_true rfl) dS_noteTicks_38 ⟨Nat.le_of_ble_eq_true rfl, Nat.le_of_ble_eq_true rfl⟩ (fun H locs hw => ?_)
      refine W.eq (g2 := F0 m 41 ls [.int r4]) rfl ?_
      refine lv_if_eq (tgt := 59) C.1.1 C.1.2.1 dS_noteTicks_41 (by decide) (fun c5 => ?_) (fun c5 => ?_)
      · have hf := ts_t hf c5
        refine lv_iinc (v := x3 + 1) (lv' := [(3, .int (x3 + 1)), (0, .ref (qq 4)), (2, va_rf (Option.map ea o2))]) C.1.1 C.1.2.1 dS_noteTicks_59 hl (k := 2) rfl rfl (by decide) (by generalize Option.map ea o2 = oo; cases oo <;> rfl) (fun ls hl => ?_)
        refine lv_goto (tgt := 23) C.1.1 C.1.2.1 dS_noteTicks_62 (by decide) ?_
        exact ih z4 o2 (x3 + 1) _ _ ls (lv_sub hl [1, 2, 0] rfl) hw hf
      · have hf := ts_f hf c5
        refine lv_aload_n C.1.1 C.1.2.1 dS_noteTicks_44 rfl (lv_at hl 0 rfl) ?_
        refine cg_Score_Score_row C hw dS_noteTicks_45 ?_
        refine lv_iload_n C.1.1 C.1.2.1 dS_noteTicks_48 rfl (lv_at hl 2 rfl) ?_
        obtain ⟨h6, hf⟩ := ts_g hf
        refine cra_0 C hw h6 dS_noteTicks_49 ?_
        obtain ⟨j7, ho7, hf⟩ := ts_b hf
        try dsimp only at hf
        obtain ⟨hb7, hf⟩ := ts_g hf
        have hb7 := Nat.lt_of_not_le hb7
        refine cg_Score_Event_tick C hw ho7 hb7 dS_noteTicks_50 ?_
        refine c_aload_n C.1.1 C.1.2.1 dS_noteTicks_53 rfl (lv_at hl 1 rfl) ?_
        obtain ⟨j8, ho8, hf⟩ := ts_b hf
        try dsimp only at hf
        obtain ⟨hb8, hf⟩ := ts_g hf
        have hb8 := Nat.lt_of_not_le hb8
        refine cg_Score_Event_tick C hw ho8 hb8 dS_noteTicks_54 ?_
        refine lv_isub C.1.1 C.1.2.1 dS_noteTicks_57 ?_
        exact c_reti C hr hlk hrv hw hf rfl ⟨Nat.le_of_ble_eq_true rfl, Nat.le_of_ble_eq_true rfl⟩ dS_noteTicks_58
set_option maxHeartbeats 4000000 in
set_option maxRecDepth 100000 in
theorem cS_noteTicks_met {l : Launch} {g : gT} {qq ad ea : Nat → Nat} {h : cH} {X : va_W} {z z' : cZ} {x1 : Int32} {r' : Int32} (hf : fS_noteTicks h z x1 = some (r', z')) : cMet l yS_noteTicks cS_noteTicks 4 (some .int) rS_noteTicks g qq ad ea h X z [.ref (qq 4), .int x1] (some (.int r')) X z' := by
  refine c_entry (by decide) (Nat.le_of_ble_eq_true rfl) ?_
  intro p e s m args below meth c ls C hr hlk hnm hl hw
  have hrv : (some (.int r') : Option Value) = some (.int r') := rfl
  have C : mCx p m c cS_noteTicks 4 s args g "MidiDesk$Score" := C
  have hl : lv_has ls 4 [(0, .ref (qq 4)), (1, .int x1)] := hl
  unfold fS_noteTicks at hf
  refine lv_aload_n C.1.1 C.1.2.1 dS_noteTicks_0 rfl (lv_at hl 0 rfl) ?_
  refine lv_iload_n C.1.1 C.1.2.1 dS_noteTicks_1 rfl (lv_at hl 1 rfl) ?_
  obtain ⟨⟨r1, z1⟩, g1, hf⟩ := ts_b hf
  try dsimp only at hf
  refine c_callV (rest := []) (As := [.int x1]) (rv := (some (va_rf (Option.map ea r1)))) (b := (qq 4)) C hl.1 hw (cS_at_met g1) rfl (callW_of (rm := rS_at) (C := "MidiDesk$Score") 1 C.1.2.2.2.2 gw_414 gw_398 gw_399 gw_54 gw_400 kS_at ⟨Nat.le_of_ble_eq_true rfl, Nat.le_of_ble_eq_true rfl⟩) (c_recv_score C.2 hw) rfl rfl (Nat.le_of_ble_eq_true rfl) dS_noteTicks_2 ⟨Nat.le_of_ble_eq_true rfl, Nat.le_of_ble_eq_true rfl⟩ (fun H locs hw => ?_)
  refine W.eq (g2 := F0 m 5 ls [va_rf (Option.map ea r1)]) rfl ?_
  refine c_astore_n (lv' := [(2, va_rf (Option.map ea r1)), (0, .ref (qq 4)), (1, .int x1)]) C.1.1 C.1.2.1 dS_noteTicks_5 rfl hl (by decide) rfl (fun ls hl => ?_)
  refine c_aload_n C.1.1 C.1.2.1 dS_noteTicks_6 rfl (lv_at hl 0 rfl) ?_
  refine c_ifnull (x := r1) (tgt := 17) C.1.1 C.1.2.1 dS_noteTicks_7 (by decide) (fun c2 => ?_) (fun c2 => ?_)
  · have hf := ts_t hf c2
    refine lv_iconst (v := (-1 : Int32)) C.1.1 C.1.2.1 dS_noteTicks_17 (by decide) ?_
    exact c_reti C hr hlk hrv hw hf rfl ⟨Nat.le_of_ble_eq_true rfl, Nat.le_of_ble_eq_true rfl⟩ dS_noteTicks_18
  · have hf := ts_f hf c2
    refine c_aload_n C.1.1 C.1.2.1 dS_noteTicks_10 rfl (lv_at hl 0 rfl) ?_
    obtain ⟨j3, ho3, hf⟩ := ts_b hf
    try dsimp only at hf
    obtain ⟨hb3, hf⟩ := ts_g hf
    have hb3 := Nat.lt_of_not_le hb3
    obtain ⟨⟨r4, z4⟩, g4, hf⟩ := ts_b hf
    try dsimp only at hf
    refine c_callV (rest := []) (As := []) (rv := (some (.int r4))) (b := (ea j3)) C hl.1 hw (cE_beginsNote_met g4) rfl (callW_of (rm := rE_beginsNote) (C := "MidiDesk$Event") 0 C.1.2.2.2.2 gw_415 gw_416 gw_417 gw_60 gw_418 kE_beginsNote ⟨Nat.le_of_ble_eq_true rfl, Nat.le_of_ble_eq_true rfl⟩) (c_recvE C.2 hb3 hw) rfl (by rw [ho3]; rfl) (Nat.le_of_ble_eq_true rfl) dS_noteTicks_11 ⟨Nat.le_of_ble_eq_true rfl, Nat.le_of_ble_eq_true rfl⟩ (fun H locs hw => ?_)
    refine W.eq (g2 := F0 m 14 ls [.int r4]) rfl ?_
    refine lv_if_ne (tgt := 19) C.1.1 C.1.2.1 dS_noteTicks_14 (by decide) (fun c5 => ?_) (fun c5 => ?_)
    · have hf := ts_f hf c5
      refine lv_iload_n C.1.1 C.1.2.1 dS_noteTicks_19 rfl (lv_at hl 2 rfl) ?_
      refine lv_iconst (v := (1 : Int32)) C.1.1 C.1.2.1 dS_noteTicks_20 (by decide) ?_
      refine lv_iadd C.1.1 C.1.2.1 dS_noteTicks_21 ?_
      refine lv_istore_n (lv' := [(3, .int (x1 + (1 : Int32))), (2, va_rf (Option.map ea r1)), (0, .ref (qq 4)), (1, .int x1)]) C.1.1 C.1.2.1 dS_noteTicks_22 rfl hl (by decide) (by generalize Option.map ea r1 = oo; cases oo <;> rfl) (fun ls hl => ?_)
      exact wS_noteTicks_23 C hr hlk hrv FU z4 r1 (x1 + (1 : Int32)) _ _ ls (lv_sub hl [2, 1, 0] rfl) hw hf
    · have hf := ts_t hf c5
      refine lv_iconst (v := (-1 : Int32)) C.1.1 C.1.2.1 dS_noteTicks_17 (by decide) ?_
      exact c_reti C hr hlk hrv hw hf rfl ⟨Nat.le_of_ble_eq_true rfl, Nat.le_of_ble_eq_true rfl⟩ dS_noteTicks_18
abbrev cS_shiftNotes : ByteArray := prog_6_method_13_code
abbrev yS_shiftNotes : MethodName := ⟨"MidiDesk$Score", "shiftNotes", "(II)I"⟩
theorem kS_shiftNotes : yS_shiftNotes.cls ≠ "java/lang/invoke/MethodHandle" ∧ yS_shiftNotes.cls ≠ "java/lang/invoke/VarHandle" ∧ (parseMethodDescriptor yS_shiftNotes.desc).map (fun d => d.parameters.length) = some 2 := by decide +kernel
abbrev rS_shiftNotes : Room := { frames := 1, cells := 0, slots := 0, locals := 21 }
theorem dS_shiftNotes_0 : decode cS_shiftNotes 0 = .ok (.iconst 0, 1) := by decide +kernel
theorem dS_shiftNotes_1 : decode cS_shiftNotes 1 = .ok (.istore_n 3, 1) := by decide +kernel
theorem dS_shiftNotes_2 : decode cS_shiftNotes 2 = .ok (.iconst 0, 1) := by decide +kernel
theorem dS_shiftNotes_3 : decode cS_shiftNotes 3 = .ok (.istore 4, 2) := by decide +kernel
theorem dS_shiftNotes_5 : decode cS_shiftNotes 5 = .ok (.iload 4, 2) := by decide +kernel
theorem dS_shiftNotes_7 : decode cS_shiftNotes 7 = .ok (.aload_n 0, 1) := by decide +kernel
theorem dS_shiftNotes_8 : decode cS_shiftNotes 8 = .ok (.getfield 33, 3) := by decide +kernel
theorem dS_shiftNotes_11 : decode cS_shiftNotes 11 = .ok (.if_icmp .ge 67, 3) := by decide +kernel
theorem dS_shiftNotes_14 : decode cS_shiftNotes 14 = .ok (.aload_n 0, 1) := by decide +kernel
theorem dS_shiftNotes_15 : decode cS_shiftNotes 15 = .ok (.getfield 22, 3) := by decide +kernel
theorem dS_shiftNotes_18 : decode cS_shiftNotes 18 = .ok (.iload 4, 2) := by decide +kernel
theorem dS_shiftNotes_20 : decode cS_shiftNotes 20 = .ok (.aaload, 1) := by decide +kernel
theorem dS_shiftNotes_21 : decode cS_shiftNotes 21 = .ok (.astore 5, 2) := by decide +kernel
theorem dS_shiftNotes_23 : decode cS_shiftNotes 23 = .ok (.aload 5, 2) := by decide +kernel
theorem dS_shiftNotes_25 : decode cS_shiftNotes 25 = .ok (.invokevirtual 82, 3) := by decide +kernel
theorem dS_shiftNotes_28 : decode cS_shiftNotes 28 = .ok (.ifCond .eq 44, 3) := by decide +kernel
theorem dS_shiftNotes_31 : decode cS_shiftNotes 31 = .ok (.aload 5, 2) := by decide +kernel
theorem dS_shiftNotes_33 : decode cS_shiftNotes 33 = .ok (.iload_n 1, 1) := by decide +kernel
theorem dS_shiftNotes_34 : decode cS_shiftNotes 34 = .ok (.invokevirtual 85, 3) := by decide +kernel
theorem dS_shiftNotes_37 : decode cS_shiftNotes 37 = .ok (.ifCond .eq 35, 3) := by decide +kernel
theorem dS_shiftNotes_40 : decode cS_shiftNotes 40 = .ok (.aload 5, 2) := by decide +kernel
theorem dS_shiftNotes_42 : decode cS_shiftNotes 42 = .ok (.getfield 89, 3) := by decide +kernel
theorem dS_shiftNotes_45 : decode cS_shiftNotes 45 = .ok (.i2l, 1) := by decide +kernel
theorem dS_shiftNotes_46 : decode cS_shiftNotes 46 = .ok (.iload_n 2, 1) := by decide +kernel
theorem dS_shiftNotes_47 : decode cS_shiftNotes 47 = .ok (.i2l, 1) := by decide +kernel
theorem dS_shiftNotes_48 : decode cS_shiftNotes 48 = .ok (.ladd, 1) := by decide +kernel
theorem dS_shiftNotes_49 : decode cS_shiftNotes 49 = .ok (.lstore 6, 2) := by decide +kernel
theorem dS_shiftNotes_51 : decode cS_shiftNotes 51 = .ok (.lload 6, 2) := by decide +kernel
theorem dS_shiftNotes_53 : decode cS_shiftNotes 53 = .ok (.lconst 0, 1) := by decide +kernel
theorem dS_shiftNotes_54 : decode cS_shiftNotes 54 = .ok (.lcmp, 1) := by decide +kernel
theorem dS_shiftNotes_55 : decode cS_shiftNotes 55 = .ok (.ifCond .lt 12, 3) := by decide +kernel
theorem dS_shiftNotes_58 : decode cS_shiftNotes 58 = .ok (.lload 6, 2) := by decide +kernel
theorem dS_shiftNotes_60 : decode cS_shiftNotes 60 = .ok (.ldc2_w 92, 3) := by decide +kernel
theorem dS_shiftNotes_63 : decode cS_shiftNotes 63 = .ok (.lcmp, 1) := by decide +kernel
theorem dS_shiftNotes_64 : decode cS_shiftNotes 64 = .ok (.ifCond .le 5, 3) := by decide +kernel
theorem dS_shiftNotes_67 : decode cS_shiftNotes 67 = .ok (.iconst (-1), 1) := by decide +kernel
theorem dS_shiftNotes_68 : decode cS_shiftNotes 68 = .ok (.ireturn, 1) := by decide +kernel
theorem dS_shiftNotes_69 : decode cS_shiftNotes 69 = .ok (.iinc 3 1, 3) := by decide +kernel
theorem dS_shiftNotes_72 : decode cS_shiftNotes 72 = .ok (.iinc 4 1, 3) := by decide +kernel
theorem dS_shiftNotes_75 : decode cS_shiftNotes 75 = .ok (.goto (-70), 3) := by decide +kernel
theorem dS_shiftNotes_78 : decode cS_shiftNotes 78 = .ok (.iconst 0, 1) := by decide +kernel
theorem dS_shiftNotes_79 : decode cS_shiftNotes 79 = .ok (.istore 4, 2) := by decide +kernel
theorem dS_shiftNotes_81 : decode cS_shiftNotes 81 = .ok (.iload 4, 2) := by decide +kernel
theorem dS_shiftNotes_83 : decode cS_shiftNotes 83 = .ok (.aload_n 0, 1) := by decide +kernel
theorem dS_shiftNotes_84 : decode cS_shiftNotes 84 = .ok (.getfield 33, 3) := by decide +kernel
theorem dS_shiftNotes_87 : decode cS_shiftNotes 87 = .ok (.if_icmp .ge 46, 3) := by decide +kernel
theorem dS_shiftNotes_90 : decode cS_shiftNotes 90 = .ok (.aload_n 0, 1) := by decide +kernel
theorem dS_shiftNotes_91 : decode cS_shiftNotes 91 = .ok (.getfield 22, 3) := by decide +kernel
theorem dS_shiftNotes_94 : decode cS_shiftNotes 94 = .ok (.iload 4, 2) := by decide +kernel
theorem dS_shiftNotes_96 : decode cS_shiftNotes 96 = .ok (.aaload, 1) := by decide +kernel
theorem dS_shiftNotes_97 : decode cS_shiftNotes 97 = .ok (.astore 5, 2) := by decide +kernel
theorem dS_shiftNotes_99 : decode cS_shiftNotes 99 = .ok (.aload 5, 2) := by decide +kernel
theorem dS_shiftNotes_101 : decode cS_shiftNotes 101 = .ok (.invokevirtual 82, 3) := by decide +kernel
theorem dS_shiftNotes_104 : decode cS_shiftNotes 104 = .ok (.ifCond .eq 23, 3) := by decide +kernel
theorem dS_shiftNotes_107 : decode cS_shiftNotes 107 = .ok (.aload 5, 2) := by decide +kernel
theorem dS_shiftNotes_109 : decode cS_shiftNotes 109 = .ok (.iload_n 1, 1) := by decide +kernel
theorem dS_shiftNotes_110 : decode cS_shiftNotes 110 = .ok (.invokevirtual 85, 3) := by decide +kernel
theorem dS_shiftNotes_113 : decode cS_shiftNotes 113 = .ok (.ifCond .eq 14, 3) := by decide +kernel
theorem dS_shiftNotes_116 : decode cS_shiftNotes 116 = .ok (.aload 5, 2) := by decide +kernel
theorem dS_shiftNotes_118 : decode cS_shiftNotes 118 = .ok (.dup, 1) := by decide +kernel
theorem dS_shiftNotes_119 : decode cS_shiftNotes 119 = .ok (.getfield 89, 3) := by decide +kernel
theorem dS_shiftNotes_122 : decode cS_shiftNotes 122 = .ok (.iload_n 2, 1) := by decide +kernel
theorem dS_shiftNotes_123 : decode cS_shiftNotes 123 = .ok (.iadd, 1) := by decide +kernel
theorem dS_shiftNotes_124 : decode cS_shiftNotes 124 = .ok (.putfield 89, 3) := by decide +kernel
theorem dS_shiftNotes_127 : decode cS_shiftNotes 127 = .ok (.iinc 4 1, 3) := by decide +kernel
theorem dS_shiftNotes_130 : decode cS_shiftNotes 130 = .ok (.goto (-49), 3) := by decide +kernel
theorem dS_shiftNotes_133 : decode cS_shiftNotes 133 = .ok (.iload_n 3, 1) := by decide +kernel
theorem dS_shiftNotes_134 : decode cS_shiftNotes 134 = .ok (.ireturn, 1) := by decide +kernel
def jS_shiftNotes_72 (h : cH) (K5 : cZ → Int32 → Int32 → Int32 → Int32 → Option (Int32 × cZ)) (z : cZ) (x1 : Int32) (x2 : Int32) (x3 : Int32) (x4 : Int32) : Option (Int32 × cZ) := K5 z x1 x2 x3 (x4 + 1)
def jS_shiftNotes_127 (h : cH) (K81 : cZ → Int32 → Int32 → Int32 → Int32 → Option (Int32 × cZ)) (z : cZ) (x1 : Int32) (x2 : Int32) (x3 : Int32) (x4 : Int32) : Option (Int32 × cZ) := K81 z x1 x2 x3 (x4 + 1)
def lS_shiftNotes_81 (h : cH) : Nat → cZ → Int32 → Int32 → Int32 → Int32 → Option (Int32 × cZ)
  | 0 => fun _ _ _ _ _ => none
  | k + 1 => fun z x1 x2 x3 x4 => if (zi z 7) ≤ x4 then (some (x3, z)) else (if x4 < 0 ∨ h.1 3 ≤ x4.toNatClampNeg then none else ((zr z 0 x4.toNatClampNeg).bind fun j3 => if h.2.1 ≤ j3 then none else ((fE_isOfNote h z j3).bind fun (r4, z4) => if r4 = 0 then (jS_shiftNotes_127 h (lS_shiftNotes_81 h k) z4 x1 x2 x3 x4) else ((fE_isOfChannel h z4 j3 x1).bind fun (r6, z6) => if r6 = 0 then (jS_shiftNotes_127 h (lS_shiftNotes_81 h k) z6 x1 x2 x3 x4) else (jS_shiftNotes_127 h (lS_shiftNotes_81 h k) (zE z6 j3 3 ((ze z6 j3 3) + x2)) x1 x2 x3 x4)))))
def lS_shiftNotes_5 (h : cH) : Nat → cZ → Int32 → Int32 → Int32 → Int32 → Option (Int32 × cZ)
  | 0 => fun _ _ _ _ _ => none
  | k + 1 => fun z x1 x2 x3 x4 => if (zi z 7) ≤ x4 then (lS_shiftNotes_81 h FU z x1 x2 x3 (0 : Int32)) else (if x4 < 0 ∨ h.1 3 ≤ x4.toNatClampNeg then none else ((zr z 0 x4.toNatClampNeg).bind fun j3 => if h.2.1 ≤ j3 then none else ((fE_isOfNote h z j3).bind fun (r4, z4) => if r4 = 0 then (jS_shiftNotes_72 h (lS_shiftNotes_5 h k) z4 x1 x2 x3 x4) else ((fE_isOfChannel h z4 j3 x1).bind fun (r6, z6) => if r6 = 0 then (jS_shiftNotes_72 h (lS_shiftNotes_5 h k) z6 x1 x2 x3 x4) else (if (lg_cmp (((ze z6 j3 3).toInt64) + x2.toInt64) (0 : Int64)) < 0 then (some ((-1 : Int32), z6)) else (if (lg_cmp (((ze z6 j3 3).toInt64) + x2.toInt64) (127 : Int64)) ≤ 0 then (jS_shiftNotes_72 h (lS_shiftNotes_5 h k) z6 x1 x2 (x3 + 1) x4) else (some ((-1 : Int32), z6))))))))
def fS_shiftNotes (h : cH) (z : cZ) (x1 : Int32) (x2 : Int32) : Option (Int32 × cZ) := lS_shiftNotes_5 h FU z x1 x2 (0 : Int32) (0 : Int32)
set_option maxHeartbeats 4000000 in
set_option maxRecDepth 100000 in
theorem wS_shiftNotes_72 {p : Program} {l : Launch} {e : Env} {s : State} {m : MethodId} {args : Array Value} {below : List Frame} {meth : Method} {c : Code} {g : gT} {qq ad ea : Nat → Nat} {h : cH} {X : va_W} {rv : Option Value} {z' : cZ} {r' : Int32} (C : mCx p m c cS_shiftNotes 8 s args g "MidiDesk$Score") (hr : meth.sig.returnType = (some .int)) (hlk : meth.locks = false) (hrv : rv = some (.int r')) {K5 : cZ → Int32 → Int32 → Int32 → Int32 → Option (Int32 × cZ)} (hK5 : ∀ (z : cZ) (x1 : Int32) (x2 : Int32) (x3 : Int32) (x4 : Int32) (H : Heap) (locs : List Loc) (ls : Array Slot), lv_has ls 8 [(0, .ref (qq 4)), (1, .int x1), (2, .int x2), (3, .int x3), (4, .int x4)] → cWd g (cA g qq ad ea h X s.heap.size) s.heap qq ad ea h X z H locs → K5 z x1 x2 x3 x4 = some (r', z') → cG p l e rS_shiftNotes s m args below meth c g qq ad ea h X rv X z' H locs 0 0 (F0 m 5 ls [])) (z : cZ) (x1 : Int32) (x2 : Int32) (x3 : Int32) (x4 : Int32) (H : Heap) (locs : List Loc) (ls : Array Slot) (hl : lv_has ls 8 [(0, .ref (qq 4)), (1, .int x1), (2, .int x2), (3, .int x3), (4, .int x4)]) (hw : cWd g (cA g qq ad ea h X s.heap.size) s.heap qq ad ea h X z H locs) (hf : jS_shiftNotes_72 h K5 z x1 x2 x3 x4 = some (r', z')) : cG p l e rS_shiftNotes s m args below meth c g qq ad ea h X rv X z' H locs 0 0 (F0 m 72 ls []) := by
  unfold jS_shiftNotes_72 at hf
  refine lv_iinc (v := x4 + 1) (lv' := [(4, .int (x4 + 1)), (0, .ref (qq 4)), (1, .int x1), (2, .int x2), (3, .int x3)]) C.1.1 C.1.2.1 dS_shiftNotes_72 hl (k := 4) rfl rfl (by decide) rfl (fun ls hl => ?_)
  refine lv_goto (tgt := 5) C.1.1 C.1.2.1 dS_shiftNotes_75 (by decide) ?_
  exact hK5 z x1 x2 x3 (x4 + 1) _ _ ls (lv_sub hl [1, 2, 3, 4, 0] rfl) hw hf
set_option maxHeartbeats 4000000 in
set_option maxRecDepth 100000 in
theorem wS_shiftNotes_127 {p : Program} {l : Launch} {e : Env} {s : State} {m : MethodId} {args : Array Value} {below : List Frame} {meth : Method} {c : Code} {g : gT} {qq ad ea : Nat → Nat} {h : cH} {X : va_W} {rv : Option Value} {z' : cZ} {r' : Int32} (C : mCx p m c cS_shiftNotes 8 s args g "MidiDesk$Score") (hr : meth.sig.returnType = (some .int)) (hlk : meth.locks = false) (hrv : rv = some (.int r')) {K81 : cZ → Int32 → Int32 → Int32 → Int32 → Option (Int32 × cZ)} (hK81 : ∀ (z : cZ) (x1 : Int32) (x2 : Int32) (x3 : Int32) (x4 : Int32) (H : Heap) (locs : List Loc) (ls : Array Slot), lv_has ls 8 [(0, .ref (qq 4)), (1, .int x1), (2, .int x2), (3, .int x3), (4, .int x4)] → cWd g (cA g qq ad ea h X s.heap.size) s.heap qq ad ea h X z H locs → K81 z x1 x2 x3 x4 = some (r', z') → cG p l e rS_shiftNotes s m args below meth c g qq ad ea h X rv X z' H locs 0 0 (F0 m 81 ls [])) (z : cZ) (x1 : Int32) (x2 : Int32) (x3 : Int32) (x4 : Int32) (H : Heap) (locs : List Loc) (ls : Array Slot) (hl : lv_has ls 8 [(0, .ref (qq 4)), (1, .int x1), (2, .int x2), (3, .int x3), (4, .int x4)]) (hw : cWd g (cA g qq ad ea h X s.heap.size) s.heap qq ad ea h X z H locs) (hf : jS_shiftNotes_127 h K81 z x1 x2 x3 x4 = some (r', z')) : cG p l e rS_shiftNotes s m args below meth c g qq ad ea h X rv X z' H locs 0 0 (F0 m 127 ls []) := by
  unfold jS_shiftNotes_127 at hf
  refine lv_iinc (v := x4 + 1) (lv' := [(4, .int (x4 + 1)), (0, .ref (qq 4)), (1, .int x1), (2, .int x2), (3, .int x3)]) C.1.1 C.1.2.1 dS_shiftNotes_127 hl (k := 4) rfl rfl (by decide) rfl (fun ls hl => ?_)
  refine lv_goto (tgt := 81) C.1.1 C.1.2.1 dS_shiftNotes_130 (by decide) ?_
  exact hK81 z x1 x2 x3 (x4 + 1) _ _ ls (lv_sub hl [1, 2, 3, 4, 0] rfl) hw hf
set_option maxHeartbeats 4000000 in
set_option maxRecDepth 100000 in
theorem wS_shiftNotes_81 {p : Program} {l : Launch} {e : Env} {s : State} {m : MethodId} {args : Array Value} {below : List Frame} {meth : Method} {c : Code} {g : gT} {qq ad ea : Nat → Nat} {h : cH} {X : va_W} {rv : Option Value} {z' : cZ} {r' : Int32} (C : mCx p m c cS_shiftNotes 8 s args g "MidiDesk$Score") (hr : meth.sig.returnType = (some .int)) (hlk : meth.locks = false) (hrv : rv = some (.int r')) (k : Nat) : ∀ (z : cZ) (x1 : Int32) (x2 : Int32) (x3 : Int32) (x4 : Int32) (H : Heap) (locs : List Loc) (ls : Array Slot), lv_has ls 8 [(0, .ref (qq 4)), (1, .int x1), (2, .int x2), (3, .int x3), (4, .int x4)] → cWd g (cA g qq ad ea h X s.heap.size) s.heap qq ad ea h X z H locs → lS_shiftNotes_81 h k z x1 x2 x3 x4 = some (r', z') → cG p l e rS_shiftNotes s m args below meth c g qq ad ea h X rv X z' H locs 0 0 (F0 m 81 ls []) := by
  induction k with
  | zero => intro z x1 x2 x3 x4 H locs ls hl hw hf; cases hf
  | succ k ih =>
    intro z x1 x2 x3 x4 H locs ls hl hw hf
    have hf : (if (zi z 7) ≤ x4 then (some (x3, z)) else (if x4 < 0 ∨ h.1 3 ≤ x4.toNatClampNeg then none else ((zr z 0 x4.toNatClampNeg).bind fun j3 => if h.2.1 ≤ j3 then none else ((fE_isOfNote h z j3).bind fun (r4, z4) => if r4 = 0 then (jS_shiftNotes_127 h (lS_shiftNotes_81 h k) z4 x1 x2 x3 x4) else ((fE_isOfChannel h z4 j3 x1).bind fun (r6, z6) => if r6 = 0 then (jS_shiftNotes_127 h (lS_shiftNotes_81 h k) z6 x1 x2 x3 x4) else (jS_shiftNotes_127 h (lS_shiftNotes_81 h k) (zE z6 j3 3 ((ze z6 j3 3) + x2)) x1 x2 x3 x4)))))) = some (r', z') := hf
    refine lv_iload C.1.1 C.1.2.1 dS_shiftNotes_81 (lv_at hl 4 rfl) ?_
    refine lv_aload_n C.1.1 C.1.2.1 dS_shiftNotes_83 rfl (lv_at hl 0 rfl) ?_
    refine cg_Score_Score_size C hw dS_shiftNotes_84 ?_
    refine lv_icmp_ge (tgt := 133) C.1.1 C.1.2.1 dS_shiftNotes_87 (by decide) (fun c1 => ?_) (fun c1 => ?_)
    · have hf := ts_t hf c1
      refine lv_iload_n C.1.1 C.1.2.1 dS_shiftNotes_133 rfl (lv_at hl 3 rfl) ?_
      exact c_reti C hr hlk hrv hw hf rfl ⟨Nat.le_of_ble_eq_true rfl, Nat.le_of_ble_eq_true rfl⟩ dS_shiftNotes_134
    · have hf := ts_f hf c1
      refine lv_aload_n C.1.1 C.1.2.1 dS_shiftNotes_90 rfl (lv_at hl 0 rfl) ?_
      refine cg_Score_Score_row C hw dS_shiftNotes_91 ?_
      refine lv_iload C.1.1 C.1.2.1 dS_shiftNotes_94 (lv_at hl 4 rfl) ?_
      obtain ⟨h2, hf⟩ := ts_g hf
      refine cra_0 C hw h2 dS_shiftNotes_96 ?_
      refine c_astore (lv' := [(5, va_rf (Option.map ea (zr z 0 x4.toNatClampNeg))), (0, .ref (qq 4)), (1, .int x1), (2, .int x2), (3, .int x3), (4, .int x4)]) C.1.1 C.1.2.1 dS_shiftNotes_97 hl (by decide) rfl (fun ls hl => ?_)
      refine c_aload C.1.1 C.1.2.1 dS_shiftNotes_99 (lv_at hl 0 rfl) ?_
      obtain ⟨j3, ho3, hf⟩ := ts_b hf
      try dsimp only at hf
      obtain ⟨hb3, hf⟩ := ts_g hf
      have hb3 := Nat.lt_of_not_le hb3
      obtain ⟨⟨r4, z4⟩, g4, hf⟩ := ts_b hf
      try dsimp only at hf
      refine c_callV (rest := []) (As := []) (rv := (some (.int r4))) (b := (ea j3)) C hl.1 hw (cE_isOfNote_met g4) rfl (callW_of (rm := rE_isOfNote) (C := "MidiDesk$Event") 0 C.1.2.2.2.2 gw_603 gw_604 gw_605 gw_60 gw_606 kE_isOfNote ⟨Nat.le_of_ble_eq_true rfl, Nat.le_of_ble_eq_true rfl⟩) (c_recvE C.2 hb3 hw) rfl (by rw [ho3]; rfl) (Nat.le_of_ble_eq_true rfl) dS_shiftNotes_101 ⟨Nat.le_of_ble_eq_true rfl, Nat.le_of_ble_eq_true rfl⟩ (fun H locs hw => ?_)
      refine W.eq (g2 := F0 m 104 ls [.int r4]) rfl ?_
      refine lv_if_eq (tgt := 127) C.1.1 C.1.2.1 dS_shiftNotes_104 (by decide) (fun c5 => ?_) (fun c5 => ?_)
      · have hf := ts_t hf c5
        exact wS_shiftNotes_127 C hr hlk hrv ih z4 x1 x2 x3 x4 _ _ ls (lv_sub hl [1, 2, 3, 4, 5] rfl) hw hf
      · have hf := ts_f hf c5
        refine c_aload C.1.1 C.1.2.1 dS_shiftNotes_107 (lv_at hl 0 rfl) ?_
        refine lv_iload_n C.1.1 C.1.2.1 dS_shiftNotes_109 rfl (lv_at hl 2 rfl) ?_
        obtain ⟨⟨r6, z6⟩, g6, hf⟩ := ts_b hf
        try dsimp only at hf
        refine c_callV (rest := []) (As := [.int x1]) (rv := (some (.int r6))) (b := (ea j3)) C hl.1 hw (cE_isOfChannel_met g6) rfl (callW_of (rm := rE_isOfChannel) (C := "MidiDesk$Event") 1 C.1.2.2.2.2 gw_607 gw_608 gw_609 gw_60 gw_610 kE_isOfChannel ⟨Nat.le_of_ble_eq_true rfl, Nat.le_of_ble_eq_true rfl⟩) (c_recvE C.2 hb3 hw) rfl (by rw [ho3]; rfl) (Nat.le_of_ble_eq_true rfl) dS_shiftNotes_110 ⟨Nat.le_of_ble_eq_true rfl, Nat.le_of_ble_eq_true rfl⟩ (fun H locs hw => ?_)
        refine W.eq (g2 := F0 m 113 ls [.int r6]) rfl ?_
        refine lv_if_eq (tgt := 127) C.1.1 C.1.2.1 dS_shiftNotes_113 (by decide) (fun c7 => ?_) (fun c7 => ?_)
        · have hf := ts_t hf c7
          exact wS_shiftNotes_127 C hr hlk hrv ih z6 x1 x2 x3 x4 _ _ ls (lv_sub hl [1, 2, 3, 4, 5] rfl) hw hf
        · have hf := ts_f hf c7
          refine c_aload C.1.1 C.1.2.1 dS_shiftNotes_116 (lv_at hl 0 rfl) ?_
          refine lv_dup C.1.1 C.1.2.1 dS_shiftNotes_118 (rf_cat _) ?_
          refine cg_Score_Event_first C hw ho3 hb3 dS_shiftNotes_119 ?_
          refine lv_iload_n C.1.1 C.1.2.1 dS_shiftNotes_122 rfl (lv_at hl 3 rfl) ?_
          refine lv_iadd C.1.1 C.1.2.1 dS_shiftNotes_123 ?_
          refine cp_Score_Event_first C hw ho3 hb3 dS_shiftNotes_124 (fun H locs hw => ?_)
          exact wS_shiftNotes_127 C hr hlk hrv ih (zE z6 j3 3 ((ze z6 j3 3) + x2)) x1 x2 x3 x4 _ _ ls (lv_sub hl [1, 2, 3, 4, 5] rfl) hw hf
set_option maxHeartbeats 4000000 in
set_option maxRecDepth 100000 in
theorem wS_shiftNotes_5 {p : Program} {l : Launch} {e : Env} {s : State} {m : MethodId} {args : Array Value} {below : List Frame} {meth : Method} {c : Code} {g : gT} {qq ad ea : Nat → Nat} {h : cH} {X : va_W} {rv : Option Value} {z' : cZ} {r' : Int32} (C : mCx p m c cS_shiftNotes 8 s args g "MidiDesk$Score") (hr : meth.sig.returnType = (some .int)) (hlk : meth.locks = false) (hrv : rv = some (.int r')) (k : Nat) : ∀ (z : cZ) (x1 : Int32) (x2 : Int32) (x3 : Int32) (x4 : Int32) (H : Heap) (locs : List Loc) (ls : Array Slot), lv_has ls 8 [(0, .ref (qq 4)), (1, .int x1), (2, .int x2), (3, .int x3), (4, .int x4)] → cWd g (cA g qq ad ea h X s.heap.size) s.heap qq ad ea h X z H locs → lS_shiftNotes_5 h k z x1 x2 x3 x4 = some (r', z') → cG p l e rS_shiftNotes s m args below meth c g qq ad ea h X rv X z' H locs 0 0 (F0 m 5 ls []) := by
  induction k with
  | zero => intro z x1 x2 x3 x4 H locs ls hl hw hf; cases hf
  | succ k ih =>
    intro z x1 x2 x3 x4 H locs ls hl hw hf
    have hf : (if (zi z 7) ≤ x4 then (lS_shiftNotes_81 h FU z x1 x2 x3 (0 : Int32)) else (if x4 < 0 ∨ h.1 3 ≤ x4.toNatClampNeg then none else ((zr z 0 x4.toNatClampNeg).bind fun j3 => if h.2.1 ≤ j3 then none else ((fE_isOfNote h z j3).bind fun (r4, z4) => if r4 = 0 then (jS_shiftNotes_72 h (lS_shiftNotes_5 h k) z4 x1 x2 x3 x4) else ((fE_isOfChannel h z4 j3 x1).bind fun (r6, z6) => if r6 = 0 then (jS_shiftNotes_72 h (lS_shiftNotes_5 h k) z6 x1 x2 x3 x4) else (if (lg_cmp (((ze z6 j3 3).toInt64) + x2.toInt64) (0 : Int64)) < 0 then (some ((-1 : Int32), z6)) else (if (lg_cmp (((ze z6 j3 3).toInt64) + x2.toInt64) (127 : Int64)) ≤ 0 then (jS_shiftNotes_72 h (lS_shiftNotes_5 h k) z6 x1 x2 (x3 + 1) x4) else (some ((-1 : Int32), z6))))))))) = some (r', z') := hf
    refine lv_iload C.1.1 C.1.2.1 dS_shiftNotes_5 (lv_at hl 4 rfl) ?_
    refine lv_aload_n C.1.1 C.1.2.1 dS_shiftNotes_7 rfl (lv_at hl 0 rfl) ?_
    refine cg_Score_Score_size C hw dS_shiftNotes_8 ?_
    refine lv_icmp_ge (tgt := 78) C.1.1 C.1.2.1 dS_shiftNotes_11 (by decide) (fun c1 => ?_) (fun c1 => ?_)
    · have hf := ts_t hf c1
      refine lv_iconst (v := (0 : Int32)) C.1.1 C.1.2.1 dS_shiftNotes_78 (by decide) ?_
      refine lv_istore (lv' := [(4, .int (0 : Int32)), (0, .ref (qq 4)), (1, .int x1), (2, .int x2), (3, .int x3)]) C.1.1 C.1.2.1 dS_shiftNotes_79 hl (by decide) rfl (fun ls hl => ?_)
      exact wS_shiftNotes_81 C hr hlk hrv FU z x1 x2 x3 (0 : Int32) _ _ ls (lv_sub hl [1, 2, 3, 4, 0] rfl) hw hf
    · have hf := ts_f hf c1
      refine lv_aload_n C.1.1 C.1.2.1 dS_shiftNotes_14 rfl (lv_at hl 0 rfl) ?_
      refine cg_Score_Score_row C hw dS_shiftNotes_15 ?_
      refine lv_iload C.1.1 C.1.2.1 dS_shiftNotes_18 (lv_at hl 4 rfl) ?_
      obtain ⟨h2, hf⟩ := ts_g hf
      refine cra_0 C hw h2 dS_shiftNotes_20 ?_
      refine c_astore (lv' := [(5, va_rf (Option.map ea (zr z 0 x4.toNatClampNeg))), (0, .ref (qq 4)), (1, .int x1), (2, .int x2), (3, .int x3), (4, .int x4)]) C.1.1 C.1.2.1 dS_shiftNotes_21 hl (by decide) rfl (fun ls hl => ?_)
      refine c_aload C.1.1 C.1.2.1 dS_shiftNotes_23 (lv_at hl 0 rfl) ?_
      obtain ⟨j3, ho3, hf⟩ := ts_b hf
      try dsimp only at hf
      obtain ⟨hb3, hf⟩ := ts_g hf
      have hb3 := Nat.lt_of_not_le hb3
      obtain ⟨⟨r4, z4⟩, g4, hf⟩ := ts_b hf
      try dsimp only at hf
      refine c_callV (rest := []) (As := []) (rv := (some (.int r4))) (b := (ea j3)) C hl.1 hw (cE_isOfNote_met g4) rfl (callW_of (rm := rE_isOfNote) (C := "MidiDesk$Event") 0 C.1.2.2.2.2 gw_603 gw_604 gw_605 gw_60 gw_606 kE_isOfNote ⟨Nat.le_of_ble_eq_true rfl, Nat.le_of_ble_eq_true rfl⟩) (c_recvE C.2 hb3 hw) rfl (by rw [ho3]; rfl) (Nat.le_of_ble_eq_true rfl) dS_shiftNotes_25 ⟨Nat.le_of_ble_eq_true rfl, Nat.le_of_ble_eq_true rfl⟩ (fun H locs hw => ?_)
      refine W.eq (g2 := F0 m 28 ls [.int r4]) rfl ?_
      refine lv_if_eq (tgt := 72) C.1.1 C.1.2.1 dS_shiftNotes_28 (by decide) (fun c5 => ?_) (fun c5 => ?_)
      · have hf := ts_t hf c5
        exact wS_shiftNotes_72 C hr hlk hrv ih z4 x1 x2 x3 x4 _ _ ls (lv_sub hl [1, 2, 3, 4, 5] rfl) hw hf
      · have hf := ts_f hf c5
        refine c_aload C.1.1 C.1.2.1 dS_shiftNotes_31 (lv_at hl 0 rfl) ?_
        refine lv_iload_n C.1.1 C.1.2.1 dS_shiftNotes_33 rfl (lv_at hl 2 rfl) ?_
        obtain ⟨⟨r6, z6⟩, g6, hf⟩ := ts_b hf
        try dsimp only at hf
        refine c_callV (rest := []) (As := [.int x1]) (rv := (some (.int r6))) (b := (ea j3)) C hl.1 hw (cE_isOfChannel_met g6) rfl (callW_of (rm := rE_isOfChannel) (C := "MidiDesk$Event") 1 C.1.2.2.2.2 gw_607 gw_608 gw_609 gw_60 gw_610 kE_isOfChannel ⟨Nat.le_of_ble_eq_true rfl, Nat.le_of_ble_eq_true rfl⟩) (c_recvE C.2 hb3 hw) rfl (by rw [ho3]; rfl) (Nat.le_of_ble_eq_true rfl) dS_shiftNotes_34 ⟨Nat.le_of_ble_eq_true rfl, Nat.le_of_ble_eq_true rfl⟩ (fun H locs hw => ?_)
        refine W.eq (g2 := F0 m 37 ls [.int r6]) rfl ?_
        refine lv_if_eq (tgt := 72) C.1.1 C.1.2.1 dS_shiftNotes_37 (by decide) (fun c7 => ?_) (fun c7 => ?_)
        · have hf := ts_t hf c7
          exact wS_shiftNotes_72 C hr hlk hrv ih z6 x1 x2 x3 x4 _ _ ls (lv_sub hl [1, 2, 3, 4, 5] rfl) hw hf
        · have hf := ts_f hf c7
          refine c_aload C.1.1 C.1.2.1 dS_shiftNotes_40 (lv_at hl 0 rfl) ?_
          refine cg_Score_Event_first C hw ho3 hb3 dS_shiftNotes_42 ?_
          refine lv_i2l C.1.1 C.1.2.1 dS_shiftNotes_45 rfl ?_
          refine lv_iload_n C.1.1 C.1.2.1 dS_shiftNotes_46 rfl (lv_at hl 3 rfl) ?_
          refine lv_i2l C.1.1 C.1.2.1 dS_shiftNotes_47 rfl ?_
          refine lv_ladd C.1.1 C.1.2.1 dS_shiftNotes_48 ?_
          refine lv_lstore (lv' := [(6, .long (((ze z6 j3 3).toInt64) + x2.toInt64)), (5, va_rf (Option.map ea (zr z 0 x4.toNatClampNeg))), (0, .ref (qq 4)), (1, .int x1), (2, .int x2), (3, .int x3), (4, .int x4)]) C.1.1 C.1.2.1 dS_shiftNotes_49 hl (by decide) (by generalize Option.map ea (zr z 0 x4.toNatClampNeg) = oo; cases oo <;> rfl) (fun ls hl => ?_)
          refine lv_lload C.1.1 C.1.2.1 dS_shiftNotes_51 (lv_at hl 0 rfl) ?_
          refine lv_lconst (v := 0) C.1.1 C.1.2.1 dS_shiftNotes_53 (by decide) ?_
          refine W.lcmp C.1.1 C.1.2.1 dS_shiftNotes_54 ?_
          refine lv_if_lt (tgt := 67) C.1.1 C.1.2.1 dS_shiftNotes_55 (by decide) (fun c8 => ?_) (fun c8 => ?_)
          · have hf := ts_t hf c8
            refine lv_iconst (v := (-1 : Int32)) C.1.1 C.1.2.1 dS_shiftNotes_67 (by decide) ?_
            exact c_reti C hr hlk hrv hw hf rfl ⟨Nat.le_of_ble_eq_true rfl, Nat.le_of_ble_eq_true rfl⟩ dS_shiftNotes_68
          · have hf := ts_f hf c8
            refine lv_lload C.1.1 C.1.2.1 dS_shiftNotes_58 (lv_at hl 0 rfl) ?_
            refine lv_ldc2 C.1.1 C.1.2.1 C.1.2.2.2.1 (C.1.2.2.2.2 _ gw_611) dS_shiftNotes_60 ?_
            refine W.lcmp C.1.1 C.1.2.1 dS_shiftNotes_63 ?_
            refine lv_if_le (tgt := 69) C.1.1 C.1.2.1 dS_shiftNotes_64 (by decide) (fun c9 => ?_) (fun c9 => ?_)
            · have hf := ts_t hf c9
              refine lv_iinc (v := x3 + 1) (lv' := [(3, .int (x3 + 1)), (6, .long (((ze z6 j3 3).toInt64) + x2.toInt64)), (5, va_rf (Option.map ea (zr z 0 x4.toNatClampNeg))), (0, .ref (qq 4)), (1, .int x1), (2, .int x2), (4, .int x4)]) C.1.1 C.1.2.1 dS_shiftNotes_69 hl (k := 5) rfl rfl (by decide) rfl (fun ls hl => ?_)
              exact wS_shiftNotes_72 C hr hlk hrv ih z6 x1 x2 (x3 + 1) x4 _ _ ls (lv_sub hl [3, 4, 5, 0, 6] rfl) hw hf
            · have hf := ts_f hf c9
              refine lv_iconst (v := (-1 : Int32)) C.1.1 C.1.2.1 dS_shiftNotes_67 (by decide) ?_
              exact c_reti C hr hlk hrv hw hf rfl ⟨Nat.le_of_ble_eq_true rfl, Nat.le_of_ble_eq_true rfl⟩ dS_shiftNotes_68
set_option maxHeartbeats 4000000 in
set_option maxRecDepth 100000 in
theorem cS_shiftNotes_met {l : Launch} {g : gT} {qq ad ea : Nat → Nat} {h : cH} {X : va_W} {z z' : cZ} {x1 : Int32} {x2 : Int32} {r' : Int32} (hf : fS_shiftNotes h z x1 x2 = some (r', z')) : cMet l yS_shiftNotes cS_shiftNotes 8 (some .int) rS_shiftNotes g qq ad ea h X z [.ref (qq 4), .int x1, .int x2] (some (.int r')) X z' := by
  refine c_entry (by decide) (Nat.le_of_ble_eq_true rfl) ?_
  intro p e s m args below meth c ls C hr hlk hnm hl hw
  have hrv : (some (.int r') : Option Value) = some (.int r') := rfl
  have C : mCx p m c cS_shiftNotes 8 s args g "MidiDesk$Score" := C
  have hl : lv_has ls 8 [(0, .ref (qq 4)), (1, .int x1), (2, .int x2)] := hl
  unfold fS_shiftNotes at hf
  refine lv_iconst (v := (0 : Int32)) C.1.1 C.1.2.1 dS_shiftNotes_0 (by decide) ?_
  refine lv_istore_n (lv' := [(3, .int (0 : Int32)), (0, .ref (qq 4)), (1, .int x1), (2, .int x2)]) C.1.1 C.1.2.1 dS_shiftNotes_1 rfl hl (by decide) rfl (fun ls hl => ?_)
  refine lv_iconst (v := (0 : Int32)) C.1.1 C.1.2.1 dS_shiftNotes_2 (by decide) ?_
  refine lv_istore (lv' := [(4, .int (0 : Int32)), (3, .int (0 : Int32)), (0, .ref (qq 4)), (1, .int x1), (2, .int x2)]) C.1.1 C.1.2.1 dS_shiftNotes_3 hl (by decide) rfl (fun ls hl => ?_)
  exact wS_shiftNotes_5 C hr hlk hrv FU z x1 x2 (0 : Int32) (0 : Int32) _ _ ls (lv_sub hl [2, 3, 4, 1, 0] rfl) hw hf
