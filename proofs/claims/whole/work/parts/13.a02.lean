abbrev cT_putNumber : ByteArray := prog_5_method_6_code
abbrev yT_putNumber : MethodName := ⟨"MidiDesk$Printer", "putNumber", "(I)V"⟩
theorem kT_putNumber : yT_putNumber.cls ≠ "java/lang/invoke/MethodHandle" ∧ yT_putNumber.cls ≠ "java/lang/invoke/VarHandle" ∧ (parseMethodDescriptor yT_putNumber.desc).map (fun d => d.parameters.length) = some 1 := by decide +kernel
abbrev frT_putNumber : Nat := 3
abbrev loT_putNumber : Nat := 83
theorem dT_putNumber_0 : decode cT_putNumber 0 = .ok (.bipush 21, 2) := by decide +kernel
theorem dT_putNumber_2 : decode cT_putNumber 2 = .ok (.istore_n 2, 1) := by decide +kernel
theorem dT_putNumber_3 : decode cT_putNumber 3 = .ok (.iload_n 2, 1) := by decide +kernel
theorem dT_putNumber_4 : decode cT_putNumber 4 = .ok (.ifCond .le 29, 3) := by decide +kernel
theorem dT_putNumber_7 : decode cT_putNumber 7 = .ok (.iload_n 1, 1) := by decide +kernel
theorem dT_putNumber_8 : decode cT_putNumber 8 = .ok (.iload_n 2, 1) := by decide +kernel
theorem dT_putNumber_9 : decode cT_putNumber 9 = .ok (.ishr, 1) := by decide +kernel
theorem dT_putNumber_10 : decode cT_putNumber 10 = .ok (.ifCond .le 17, 3) := by decide +kernel
theorem dT_putNumber_13 : decode cT_putNumber 13 = .ok (.aload_n 0, 1) := by decide +kernel
theorem dT_putNumber_14 : decode cT_putNumber 14 = .ok (.getfield 15, 3) := by decide +kernel
theorem dT_putNumber_17 : decode cT_putNumber 17 = .ok (.iload_n 1, 1) := by decide +kernel
theorem dT_putNumber_18 : decode cT_putNumber 18 = .ok (.iload_n 2, 1) := by decide +kernel
theorem dT_putNumber_19 : decode cT_putNumber 19 = .ok (.ishr, 1) := by decide +kernel
theorem dT_putNumber_20 : decode cT_putNumber 20 = .ok (.sipush 128, 3) := by decide +kernel
theorem dT_putNumber_23 : decode cT_putNumber 23 = .ok (.ior, 1) := by decide +kernel
theorem dT_putNumber_24 : decode cT_putNumber 24 = .ok (.invokevirtual 75, 3) := by decide +kernel
theorem dT_putNumber_27 : decode cT_putNumber 27 = .ok (.iinc 2 (-7), 3) := by decide +kernel
theorem dT_putNumber_30 : decode cT_putNumber 30 = .ok (.goto (-27), 3) := by decide +kernel
theorem dT_putNumber_33 : decode cT_putNumber 33 = .ok (.aload_n 0, 1) := by decide +kernel
theorem dT_putNumber_34 : decode cT_putNumber 34 = .ok (.getfield 15, 3) := by decide +kernel
theorem dT_putNumber_37 : decode cT_putNumber 37 = .ok (.iload_n 1, 1) := by decide +kernel
theorem dT_putNumber_38 : decode cT_putNumber 38 = .ok (.bipush 127, 2) := by decide +kernel
theorem dT_putNumber_40 : decode cT_putNumber 40 = .ok (.iand, 1) := by decide +kernel
theorem dT_putNumber_41 : decode cT_putNumber 41 = .ok (.invokevirtual 75, 3) := by decide +kernel
theorem dT_putNumber_44 : decode cT_putNumber 44 = .ok (.return_, 1) := by decide +kernel
def jT_putNumber_27 (K3 : cH → cZ → (Nat → Int32) → Int32 → Int32 → Option (cH × cZ × (Nat → Int32))) (h : cH) (z : cZ) (pv : Nat → Int32) (x1 : Int32) (x2 : Int32) : Option (cH × cZ × (Nat → Int32)) := K3 h z pv x1 (x2 + (-7))
set_option maxHeartbeats 4000000 in
set_option maxRecDepth 100000 in
theorem oT_putNumber_27 {h' : cH} {z' : cZ} {pv' : Nat → Int32} {K3 : cH → cZ → (Nat → Int32) → Int32 → Int32 → Option (cH × cZ × (Nat → Int32))} (hK3 : ∀ (h : cH) (z : cZ) (pv : Nat → Int32) (x1 : Int32) (x2 : Int32), K3 h z pv x1 x2 = some (h', z', pv') → cle h h') (h : cH) (z : cZ) (pv : Nat → Int32) (x1 : Int32) (x2 : Int32) (hf : jT_putNumber_27 K3 h z pv x1 x2 = some (h', z', pv')) : cle h h' := by
  unfold jT_putNumber_27 at hf
  exact hK3 h z pv x1 (x2 + (-7)) hf
def jT_putNumber_44 (h : cH) (z : cZ) (pv : Nat → Int32) : Option (cH × cZ × (Nat → Int32)) := some (h, z, pv)
set_option maxHeartbeats 4000000 in
set_option maxRecDepth 100000 in
theorem oT_putNumber_44 {h' : cH} {z' : cZ} {pv' : Nat → Int32} (h : cH) (z : cZ) (pv : Nat → Int32) (hf : jT_putNumber_44 h z pv = some (h', z', pv')) : cle h h' := by
  unfold jT_putNumber_44 at hf
  cases hf
  exact cle.rf
def lT_putNumber_3 : Nat → cH → cZ → (Nat → Int32) → Int32 → Int32 → Option (cH × cZ × (Nat → Int32))
  | 0 => fun _ _ _ _ _ => none
  | k + 1 => fun h z pv x1 x2 => if x2 ≤ 0 then ((fB1_put h z (x1 &&& (127 : Int32))).bind fun (hh2, z2) => jT_putNumber_44 hh2 z2 pv) else (if (x1 >>> (x2 &&& 31)) ≤ 0 then (jT_putNumber_27 (lT_putNumber_3 k) h z pv x1 x2) else ((fB1_put h z ((x1 >>> (x2 &&& 31)) ||| (128 : Int32))).bind fun (hh4, z4) => jT_putNumber_27 (lT_putNumber_3 k) hh4 z4 pv x1 x2))
set_option maxHeartbeats 4000000 in
set_option maxRecDepth 100000 in
theorem oT_putNumber_3 {h' : cH} {z' : cZ} {pv' : Nat → Int32} (k : Nat) : ∀ (h : cH) (z : cZ) (pv : Nat → Int32) (x1 : Int32) (x2 : Int32), lT_putNumber_3 k h z pv x1 x2 = some (h', z', pv') → cle h h' := by
  induction k with
  | zero => intro h z pv x1 x2 hf; cases hf
  | succ k ih =>
    intro h z pv x1 x2 hf
    have hf : (if x2 ≤ 0 then ((fB1_put h z (x1 &&& (127 : Int32))).bind fun (hh2, z2) => jT_putNumber_44 hh2 z2 pv) else (if (x1 >>> (x2 &&& 31)) ≤ 0 then (jT_putNumber_27 (lT_putNumber_3 k) h z pv x1 x2) else ((fB1_put h z ((x1 >>> (x2 &&& 31)) ||| (128 : Int32))).bind fun (hh4, z4) => jT_putNumber_27 (lT_putNumber_3 k) hh4 z4 pv x1 x2))) = some (h', z', pv') := hf
    rcases Decidable.em (x2 ≤ 0) with c1 | c1
    · have hf := ts_t hf c1
      obtain ⟨⟨hh2, z2⟩, g2, hf⟩ := ts_b hf
      try dsimp only at hf
      exact cle.tr (oB1_put g2) (oT_putNumber_44 hh2 z2 pv hf)
    · have hf := ts_f hf c1
      rcases Decidable.em ((x1 >>> (x2 &&& 31)) ≤ 0) with c3 | c3
      · have hf := ts_t hf c3
        exact oT_putNumber_27 ih h z pv x1 x2 hf
      · have hf := ts_f hf c3
        obtain ⟨⟨hh4, z4⟩, g4, hf⟩ := ts_b hf
        try dsimp only at hf
        exact cle.tr (oB1_put g4) (oT_putNumber_27 ih hh4 z4 pv x1 x2 hf)
def fT_putNumber (h : cH) (z : cZ) (pv : Nat → Int32) (x1 : Int32) : Option (cH × cZ × (Nat → Int32)) := lT_putNumber_3 FU h z pv x1 (21 : Int32)
set_option maxHeartbeats 4000000 in
set_option maxRecDepth 100000 in
theorem oT_putNumber {h' : cH} {z' : cZ} {pv' : Nat → Int32} {h : cH} {z : cZ} {pv : Nat → Int32} {x1 : Int32} (hf : fT_putNumber h z pv x1 = some (h', z', pv')) : cle h h' := by
  unfold fT_putNumber at hf
  exact oT_putNumber_3 FU h z pv x1 (21 : Int32) hf
set_option maxHeartbeats 4000000 in
set_option maxRecDepth 100000 in
theorem wT_putNumber_27 {p : Program} {l : Launch} {e : Env} {s : State} {m : MethodId} {args : Array Value} {below : List Frame} {meth : Method} {c : Code} {g : gT} {qq ea : Nat → Nat} {A0 : Nat → Prop} {h0 : cH} {X : va_W} {rv : (Nat → Nat) → Option Value} {qp : Nat} {pv' : Nat → Int32} {h' : cH} {z' : cZ} (C : mCx p m c cT_putNumber 3 s args g "MidiDesk$Printer") (hr : meth.sig.returnType = none) (hlk : meth.locks = false) (hrv : rv = fun ea => none) {K3 : cH → cZ → (Nat → Int32) → Int32 → Int32 → Option (cH × cZ × (Nat → Int32))} (hK3 : ∀ (ad : Nat → Nat) (h : cH) (z : cZ) (pv : Nat → Int32) (x1 : Int32) (x2 : Int32) (H : Heap) (locs : List Loc) (ls : Array Slot), cle h0 h → lv_has ls 3 [(0, .ref qp), (1, .int x1), (2, .int x2)] → cWd g A0 s.heap qq ad ea h (tcell qp qq pv :: X) z H locs → K3 h z pv x1 x2 = some (h', z', pv') → cGa p l e (rmA frT_putNumber loT_putNumber h0 h') s m args below meth c g qq A0 True ea rv (tcell qp qq pv' :: X) h' z' H locs (h.2.2.1 - h0.2.2.1) (h.2.2.2 - h0.2.2.2) (F0 m 3 ls [])) (hM3 : ∀ (h : cH) (z : cZ) (pv : Nat → Int32) (x1 : Int32) (x2 : Int32), K3 h z pv x1 x2 = some (h', z', pv') → cle h h') (ad : Nat → Nat) (h : cH) (z : cZ) (pv : Nat → Int32) (x1 : Int32) (x2 : Int32) (H : Heap) (locs : List Loc) (ls : Array Slot) (hle : cle h0 h) (hl : lv_has ls 3 [(0, .ref qp), (1, .int x1), (2, .int x2)]) (hw : cWd g A0 s.heap qq ad ea h (tcell qp qq pv :: X) z H locs) (hf : jT_putNumber_27 K3 h z pv x1 x2 = some (h', z', pv')) : cGa p l e (rmA frT_putNumber loT_putNumber h0 h') s m args below meth c g qq A0 True ea rv (tcell qp qq pv' :: X) h' z' H locs (h.2.2.1 - h0.2.2.1) (h.2.2.2 - h0.2.2.2) (F0 m 27 ls []) := by
  have hmn := oT_putNumber_27 hM3 h z pv x1 x2 hf
  have hroom : h.2.2.1 - h0.2.2.1 + 0 ≤ (rmA frT_putNumber loT_putNumber h0 h').cells ∧ h.2.2.2 - h0.2.2.2 + 0 ≤ (rmA frT_putNumber loT_putNumber h0 h').slots := ⟨by have w := hmn.1; show _ ≤ h'.2.2.1 - h0.2.2.1; omega, by have w := hmn.2; show _ ≤ h'.2.2.2 - h0.2.2.2; omega⟩
  unfold jT_putNumber_27 at hf
  refine lv_iinc (v := x2 + (-7)) (lv' := [(2, .int (x2 + (-7))), (0, .ref qp), (1, .int x1)]) C.1.1 C.1.2.1 dT_putNumber_27 hl (k := 2) rfl rfl (by decide) rfl (fun ls hl => ?_)
  refine lv_goto (tgt := 3) C.1.1 C.1.2.1 dT_putNumber_30 (by decide) ?_
  exact hK3 _ h z pv x1 (x2 + (-7)) _ _ ls hle (lv_sub hl [1, 2, 0] rfl) hw hf
set_option maxHeartbeats 4000000 in
set_option maxRecDepth 100000 in
theorem wT_putNumber_44 {p : Program} {l : Launch} {e : Env} {s : State} {m : MethodId} {args : Array Value} {below : List Frame} {meth : Method} {c : Code} {g : gT} {qq ea : Nat → Nat} {A0 : Nat → Prop} {h0 : cH} {X : va_W} {rv : (Nat → Nat) → Option Value} {qp : Nat} {pv' : Nat → Int32} {h' : cH} {z' : cZ} (C : mCx p m c cT_putNumber 3 s args g "MidiDesk$Printer") (hr : meth.sig.returnType = none) (hlk : meth.locks = false) (hrv : rv = fun ea => none) (ad : Nat → Nat) (h : cH) (z : cZ) (pv : Nat → Int32) (H : Heap) (locs : List Loc) (ls : Array Slot) (hle : cle h0 h) (hl : lv_has ls 3 [(0, .ref qp)]) (hw : cWd g A0 s.heap qq ad ea h (tcell qp qq pv :: X) z H locs) (hf : jT_putNumber_44 h z pv = some (h', z', pv')) : cGa p l e (rmA frT_putNumber loT_putNumber h0 h') s m args below meth c g qq A0 True ea rv (tcell qp qq pv' :: X) h' z' H locs (h.2.2.1 - h0.2.2.1) (h.2.2.2 - h0.2.2.2) (F0 m 44 ls []) := by
  have hmn := oT_putNumber_44 h z pv hf
  have hroom : h.2.2.1 - h0.2.2.1 + 0 ≤ (rmA frT_putNumber loT_putNumber h0 h').cells ∧ h.2.2.2 - h0.2.2.2 + 0 ≤ (rmA frT_putNumber loT_putNumber h0 h').slots := ⟨by have w := hmn.1; show _ ≤ h'.2.2.1 - h0.2.2.1; omega, by have w := hmn.2; show _ ≤ h'.2.2.2 - h0.2.2.2; omega⟩
  unfold jT_putNumber_44 at hf
  obtain ⟨hf, hpv⟩ := pr4 hf
  exact c_retAv C hr hlk hrv (fun _ => rfl) hw hf (by rw [hpv]) (by cases hf; exact ⟨Nat.le_refl _, Nat.le_refl _⟩) dT_putNumber_44
set_option maxHeartbeats 4000000 in
set_option maxRecDepth 100000 in
theorem wT_putNumber_3 {p : Program} {l : Launch} {e : Env} {s : State} {m : MethodId} {args : Array Value} {below : List Frame} {meth : Method} {c : Code} {g : gT} {qq ea : Nat → Nat} {A0 : Nat → Prop} {h0 : cH} {X : va_W} {rv : (Nat → Nat) → Option Value} {qp : Nat} {pv' : Nat → Int32} {h' : cH} {z' : cZ} (C : mCx p m c cT_putNumber 3 s args g "MidiDesk$Printer") (hr : meth.sig.returnType = none) (hlk : meth.locks = false) (hrv : rv = fun ea => none) (k : Nat) : ∀ (ad : Nat → Nat) (h : cH) (z : cZ) (pv : Nat → Int32) (x1 : Int32) (x2 : Int32) (H : Heap) (locs : List Loc) (ls : Array Slot), cle h0 h → lv_has ls 3 [(0, .ref qp), (1, .int x1), (2, .int x2)] → cWd g A0 s.heap qq ad ea h (tcell qp qq pv :: X) z H locs → lT_putNumber_3 k h z pv x1 x2 = some (h', z', pv') → cGa p l e (rmA frT_putNumber loT_putNumber h0 h') s m args below meth c g qq A0 True ea rv (tcell qp qq pv' :: X) h' z' H locs (h.2.2.1 - h0.2.2.1) (h.2.2.2 - h0.2.2.2) (F0 m 3 ls []) := by
  induction k with
  | zero => intro ad h z pv x1 x2 H locs ls hle hl hw hf; cases hf
  | succ k ih =>
    intro ad h z pv x1 x2 H locs ls hle hl hw hf
    have hmn := oT_putNumber_3 (k + 1) h z pv x1 x2 hf
    have hroom : h.2.2.1 - h0.2.2.1 + 0 ≤ (rmA frT_putNumber loT_putNumber h0 h').cells ∧ h.2.2.2 - h0.2.2.2 + 0 ≤ (rmA frT_putNumber loT_putNumber h0 h').slots := ⟨by have w := hmn.1; show _ ≤ h'.2.2.1 - h0.2.2.1; omega, by have w := hmn.2; show _ ≤ h'.2.2.2 - h0.2.2.2; omega⟩
    have hf : (if x2 ≤ 0 then ((fB1_put h z (x1 &&& (127 : Int32))).bind fun (hh2, z2) => jT_putNumber_44 hh2 z2 pv) else (if (x1 >>> (x2 &&& 31)) ≤ 0 then (jT_putNumber_27 (lT_putNumber_3 k) h z pv x1 x2) else ((fB1_put h z ((x1 >>> (x2 &&& 31)) ||| (128 : Int32))).bind fun (hh4, z4) => jT_putNumber_27 (lT_putNumber_3 k) hh4 z4 pv x1 x2))) = some (h', z', pv') := hf
    have ihm := oT_putNumber_3 k (h' := h') (z' := z') (pv' := pv')
    refine lv_iload_n C.1.1 C.1.2.1 dT_putNumber_3 rfl (lv_at hl 2 rfl) ?_
    refine lv_if_le (tgt := 33) C.1.1 C.1.2.1 dT_putNumber_4 (by decide) (fun c1 => ?_) (fun c1 => ?_)
    · have hf := ts_t hf c1
      refine lv_aload_n C.1.1 C.1.2.1 dT_putNumber_33 rfl (lv_at hl 0 rfl) ?_
      refine cg_Printer_Printer_output C hw dT_putNumber_34 ?_
      refine lv_iload_n C.1.1 C.1.2.1 dT_putNumber_37 rfl (lv_at hl 1 rfl) ?_
      refine lv_bipush (v := (127 : Int32)) C.1.1 C.1.2.1 dT_putNumber_38 (by decide) ?_
      refine lv_iand C.1.1 C.1.2.1 dT_putNumber_40 ?_
      obtain ⟨⟨hh2, z2⟩, g2, hf⟩ := ts_b hf
      try dsimp only at hf
      have hm9 : cle hh2 h' := oT_putNumber_44 _ _ _ hf
      have hm8 := oB1_put g2
      have hm91 := hm9.1
      have hm92 := hm9.2
      have hm81 := hm8.1
      have hm82 := hm8.2
      have hle1 := hle.1
      have hle2 := hle.2
      refine c_callAA (rest := []) (As := [.int (x1 &&& (127 : Int32))]) (rv := fun ea => none) (b := (qq 2)) C hl.1 hw (cB1_put_met g2) (callW_of (rm := rmA frB1_put loB1_put h hh2) (C := "MidiDesk$Bytes") 1 C.1.2.2.2.2 gw_683 gw_160 gw_161 gw_53 gw_162 kB1_put ⟨Nat.le_of_ble_eq_true rfl, Nat.le_of_ble_eq_true rfl⟩) (c_recv_B1 C.2 hw) rfl rfl (Nat.le_of_ble_eq_true rfl) dT_putNumber_41 ⟨by show _ ≤ h'.2.2.1 - h0.2.2.1; omega, by show _ ≤ h'.2.2.2 - h0.2.2.2; omega⟩ (fun ad H locs hw => ?_)
      refine W.widen (k := hh2.2.2.1 - h0.2.2.1) (n := hh2.2.2.2 - h0.2.2.2) (by omega) (by omega) ?_
      refine W.eq (g2 := F0 m 44 ls []) rfl ?_
      exact wT_putNumber_44 C hr hlk hrv _ hh2 z2 pv _ _ ls (hle.tr (oB1_put g2)) (lv_sub hl [0] rfl) hw hf
    · have hf := ts_f hf c1
      refine lv_iload_n C.1.1 C.1.2.1 dT_putNumber_7 rfl (lv_at hl 1 rfl) ?_
      refine lv_iload_n C.1.1 C.1.2.1 dT_putNumber_8 rfl (lv_at hl 2 rfl) ?_
      refine lv_ishr C.1.1 C.1.2.1 dT_putNumber_9 ?_
      refine lv_if_le (tgt := 27) C.1.1 C.1.2.1 dT_putNumber_10 (by decide) (fun c3 => ?_) (fun c3 => ?_)
      · have hf := ts_t hf c3
        exact wT_putNumber_27 C hr hlk hrv ih ihm _ h z pv x1 x2 _ _ ls hle (lv_sub hl [0, 1, 2] rfl) hw hf
      · have hf := ts_f hf c3
        refine lv_aload_n C.1.1 C.1.2.1 dT_putNumber_13 rfl (lv_at hl 0 rfl) ?_
        refine cg_Printer_Printer_output C hw dT_putNumber_14 ?_
        refine lv_iload_n C.1.1 C.1.2.1 dT_putNumber_17 rfl (lv_at hl 1 rfl) ?_
        refine lv_iload_n C.1.1 C.1.2.1 dT_putNumber_18 rfl (lv_at hl 2 rfl) ?_
        refine lv_ishr C.1.1 C.1.2.1 dT_putNumber_19 ?_
        refine lv_sipush (v := (128 : Int32)) C.1.1 C.1.2.1 dT_putNumber_20 (by decide) ?_
        refine lv_ior C.1.1 C.1.2.1 dT_putNumber_23 ?_
        obtain ⟨⟨hh4, z4⟩, g4, hf⟩ := ts_b hf
        try dsimp only at hf
        have hm9 : cle hh4 h' := oT_putNumber_27 ihm _ _ _ _ _ hf
        have hm8 := oB1_put g4
        have hm91 := hm9.1
        have hm92 := hm9.2
        have hm81 := hm8.1
        have hm82 := hm8.2
        have hle1 := hle.1
        have hle2 := hle.2
        refine c_callAA (rest := []) (As := [.int ((x1 >>> (x2 &&& 31)) ||| (128 : Int32))]) (rv := fun ea => none) (b := (qq 2)) C hl.1 hw (cB1_put_met g4) (callW_of (rm := rmA frB1_put loB1_put h hh4) (C := "MidiDesk$Bytes") 1 C.1.2.2.2.2 gw_683 gw_160 gw_161 gw_53 gw_162 kB1_put ⟨Nat.le_of_ble_eq_true rfl, Nat.le_of_ble_eq_true rfl⟩) (c_recv_B1 C.2 hw) rfl rfl (Nat.le_of_ble_eq_true rfl) dT_putNumber_24 ⟨by show _ ≤ h'.2.2.1 - h0.2.2.1; omega, by show _ ≤ h'.2.2.2 - h0.2.2.2; omega⟩ (fun ad H locs hw => ?_)
        refine W.widen (k := hh4.2.2.1 - h0.2.2.1) (n := hh4.2.2.2 - h0.2.2.2) (by omega) (by omega) ?_
        refine W.eq (g2 := F0 m 27 ls []) rfl ?_
        exact wT_putNumber_27 C hr hlk hrv ih ihm _ hh4 z4 pv x1 x2 _ _ ls (hle.tr (oB1_put g4)) (lv_sub hl [0, 1, 2] rfl) hw hf
set_option maxHeartbeats 4000000 in
set_option maxRecDepth 100000 in
theorem cT_putNumber_met {l : Launch} {g : gT} {qq ad ea : Nat → Nat} {h h' : cH} {X : va_W} {qp : Nat} {pv pv' : Nat → Int32} {z z' : cZ} {x1 : Int32} (hf : fT_putNumber h z pv x1 = some (h', z', pv')) : cMeA l yT_putNumber cT_putNumber 3 none frT_putNumber loT_putNumber g qq ad ea h (tcell qp qq pv :: X) z [.ref qp, .int x1] True (fun ea => none) (tcell qp qq pv' :: X) h' z' := by
  refine c_entryA (by decide) (Nat.le_of_ble_eq_true rfl) ?_
  intro p e s m args below meth c ls C hr hlk hnm hl hw
  have hrv : (fun ea => none : (Nat → Nat) → Option Value) = fun ea => none := rfl
  have C : mCx p m c cT_putNumber 3 s args g "MidiDesk$Printer" := C
  have hl : lv_has ls 3 [(0, .ref qp), (1, .int x1)] := hl
  generalize cA g qq ad ea h (tcell qp qq pv :: X) s.heap.size = A0 at hw ⊢
  have hle : cle h h := cle.rf
  have hmn := oT_putNumber hf
  have hroom : h.2.2.1 - h.2.2.1 + 0 ≤ (rmA frT_putNumber loT_putNumber h h').cells ∧ h.2.2.2 - h.2.2.2 + 0 ≤ (rmA frT_putNumber loT_putNumber h h').slots := ⟨by have w := hmn.1; show _ ≤ h'.2.2.1 - h.2.2.1; omega, by have w := hmn.2; show _ ≤ h'.2.2.2 - h.2.2.2; omega⟩
  unfold fT_putNumber at hf
  refine lv_bipush (v := (21 : Int32)) C.1.1 C.1.2.1 dT_putNumber_0 (by decide) ?_
  refine lv_istore_n (lv' := [(2, .int (21 : Int32)), (0, .ref qp), (1, .int x1)]) C.1.1 C.1.2.1 dT_putNumber_2 rfl hl (by decide) rfl (fun ls hl => ?_)
  exact wT_putNumber_3 C hr hlk hrv FU _ h z pv x1 (21 : Int32) _ _ ls hle (lv_sub hl [1, 2, 0] rfl) hw hf
abbrev cT_putEvent : ByteArray := prog_5_method_4_code
abbrev yT_putEvent : MethodName := ⟨"MidiDesk$Printer", "putEvent", "(LMidiDesk$Event;)V"⟩
theorem kT_putEvent : yT_putEvent.cls ≠ "java/lang/invoke/MethodHandle" ∧ yT_putEvent.cls ≠ "java/lang/invoke/VarHandle" ∧ (parseMethodDescriptor yT_putEvent.desc).map (fun d => d.parameters.length) = some 1 := by decide +kernel
abbrev frT_putEvent : Nat := 4
abbrev loT_putEvent : Nat := 105
theorem dT_putEvent_0 : decode cT_putEvent 0 = .ok (.aload_n 0, 1) := by decide +kernel
theorem dT_putEvent_1 : decode cT_putEvent 1 = .ok (.aload_n 1, 1) := by decide +kernel
theorem dT_putEvent_2 : decode cT_putEvent 2 = .ok (.getfield 81, 3) := by decide +kernel
theorem dT_putEvent_5 : decode cT_putEvent 5 = .ok (.aload_n 0, 1) := by decide +kernel
theorem dT_putEvent_6 : decode cT_putEvent 6 = .ok (.getfield 46, 3) := by decide +kernel
theorem dT_putEvent_9 : decode cT_putEvent 9 = .ok (.isub, 1) := by decide +kernel
theorem dT_putEvent_10 : decode cT_putEvent 10 = .ok (.invokevirtual 72, 3) := by decide +kernel
theorem dT_putEvent_13 : decode cT_putEvent 13 = .ok (.aload_n 0, 1) := by decide +kernel
theorem dT_putEvent_14 : decode cT_putEvent 14 = .ok (.aload_n 1, 1) := by decide +kernel
theorem dT_putEvent_15 : decode cT_putEvent 15 = .ok (.getfield 81, 3) := by decide +kernel
theorem dT_putEvent_18 : decode cT_putEvent 18 = .ok (.putfield 46, 3) := by decide +kernel
theorem dT_putEvent_21 : decode cT_putEvent 21 = .ok (.aload_n 0, 1) := by decide +kernel
theorem dT_putEvent_22 : decode cT_putEvent 22 = .ok (.getfield 19, 3) := by decide +kernel
theorem dT_putEvent_25 : decode cT_putEvent 25 = .ok (.ifCond .eq 14, 3) := by decide +kernel
theorem dT_putEvent_28 : decode cT_putEvent 28 = .ok (.aload_n 1, 1) := by decide +kernel
theorem dT_putEvent_29 : decode cT_putEvent 29 = .ok (.getfield 82, 3) := by decide +kernel
theorem dT_putEvent_32 : decode cT_putEvent 32 = .ok (.aload_n 0, 1) := by decide +kernel
theorem dT_putEvent_33 : decode cT_putEvent 33 = .ok (.getfield 49, 3) := by decide +kernel
theorem dT_putEvent_36 : decode cT_putEvent 36 = .ok (.if_icmp .eq 14, 3) := by decide +kernel
theorem dT_putEvent_39 : decode cT_putEvent 39 = .ok (.aload_n 0, 1) := by decide +kernel
theorem dT_putEvent_40 : decode cT_putEvent 40 = .ok (.getfield 15, 3) := by decide +kernel
theorem dT_putEvent_43 : decode cT_putEvent 43 = .ok (.aload_n 1, 1) := by decide +kernel
theorem dT_putEvent_44 : decode cT_putEvent 44 = .ok (.getfield 82, 3) := by decide +kernel
theorem dT_putEvent_47 : decode cT_putEvent 47 = .ok (.invokevirtual 75, 3) := by decide +kernel
theorem dT_putEvent_50 : decode cT_putEvent 50 = .ok (.aload_n 0, 1) := by decide +kernel
theorem dT_putEvent_51 : decode cT_putEvent 51 = .ok (.aload_n 1, 1) := by decide +kernel
theorem dT_putEvent_52 : decode cT_putEvent 52 = .ok (.invokevirtual 85, 3) := by decide +kernel
theorem dT_putEvent_55 : decode cT_putEvent 55 = .ok (.ifCond .eq 10, 3) := by decide +kernel
theorem dT_putEvent_58 : decode cT_putEvent 58 = .ok (.aload_n 1, 1) := by decide +kernel
theorem dT_putEvent_59 : decode cT_putEvent 59 = .ok (.getfield 82, 3) := by decide +kernel
theorem dT_putEvent_62 : decode cT_putEvent 62 = .ok (.goto 4, 3) := by decide +kernel
theorem dT_putEvent_65 : decode cT_putEvent 65 = .ok (.iconst (-1), 1) := by decide +kernel
theorem dT_putEvent_66 : decode cT_putEvent 66 = .ok (.putfield 49, 3) := by decide +kernel
theorem dT_putEvent_69 : decode cT_putEvent 69 = .ok (.aload_n 1, 1) := by decide +kernel
theorem dT_putEvent_70 : decode cT_putEvent 70 = .ok (.getfield 89, 3) := by decide +kernel
theorem dT_putEvent_73 : decode cT_putEvent 73 = .ok (.iconst (-1), 1) := by decide +kernel
theorem dT_putEvent_74 : decode cT_putEvent 74 = .ok (.if_icmp .eq 14, 3) := by decide +kernel
theorem dT_putEvent_77 : decode cT_putEvent 77 = .ok (.aload_n 0, 1) := by decide +kernel
theorem dT_putEvent_78 : decode cT_putEvent 78 = .ok (.getfield 15, 3) := by decide +kernel
theorem dT_putEvent_81 : decode cT_putEvent 81 = .ok (.aload_n 1, 1) := by decide +kernel
theorem dT_putEvent_82 : decode cT_putEvent 82 = .ok (.getfield 89, 3) := by decide +kernel
theorem dT_putEvent_85 : decode cT_putEvent 85 = .ok (.invokevirtual 75, 3) := by decide +kernel
theorem dT_putEvent_88 : decode cT_putEvent 88 = .ok (.aload_n 1, 1) := by decide +kernel
theorem dT_putEvent_89 : decode cT_putEvent 89 = .ok (.getfield 92, 3) := by decide +kernel
theorem dT_putEvent_92 : decode cT_putEvent 92 = .ok (.iconst (-1), 1) := by decide +kernel
theorem dT_putEvent_93 : decode cT_putEvent 93 = .ok (.if_icmp .eq 14, 3) := by decide +kernel
theorem dT_putEvent_96 : decode cT_putEvent 96 = .ok (.aload_n 0, 1) := by decide +kernel
theorem dT_putEvent_97 : decode cT_putEvent 97 = .ok (.getfield 15, 3) := by decide +kernel
theorem dT_putEvent_100 : decode cT_putEvent 100 = .ok (.aload_n 1, 1) := by decide +kernel
theorem dT_putEvent_101 : decode cT_putEvent 101 = .ok (.getfield 92, 3) := by decide +kernel
theorem dT_putEvent_104 : decode cT_putEvent 104 = .ok (.invokevirtual 75, 3) := by decide +kernel
theorem dT_putEvent_107 : decode cT_putEvent 107 = .ok (.aload_n 1, 1) := by decide +kernel
theorem dT_putEvent_108 : decode cT_putEvent 108 = .ok (.getfield 95, 3) := by decide +kernel
theorem dT_putEvent_111 : decode cT_putEvent 111 = .ok (.iconst (-1), 1) := by decide +kernel
theorem dT_putEvent_112 : decode cT_putEvent 112 = .ok (.if_icmp .eq 11, 3) := by decide +kernel
theorem dT_putEvent_115 : decode cT_putEvent 115 = .ok (.aload_n 0, 1) := by decide +kernel
theorem dT_putEvent_116 : decode cT_putEvent 116 = .ok (.aload_n 1, 1) := by decide +kernel
theorem dT_putEvent_117 : decode cT_putEvent 117 = .ok (.getfield 95, 3) := by decide +kernel
theorem dT_putEvent_120 : decode cT_putEvent 120 = .ok (.invokevirtual 72, 3) := by decide +kernel
theorem dT_putEvent_123 : decode cT_putEvent 123 = .ok (.iconst 0, 1) := by decide +kernel
theorem dT_putEvent_124 : decode cT_putEvent 124 = .ok (.istore_n 2, 1) := by decide +kernel
theorem dT_putEvent_125 : decode cT_putEvent 125 = .ok (.iload_n 2, 1) := by decide +kernel
theorem dT_putEvent_126 : decode cT_putEvent 126 = .ok (.aload_n 1, 1) := by decide +kernel
theorem dT_putEvent_127 : decode cT_putEvent 127 = .ok (.getfield 95, 3) := by decide +kernel
theorem dT_putEvent_130 : decode cT_putEvent 130 = .ok (.if_icmp .ge 32, 3) := by decide +kernel
theorem dT_putEvent_133 : decode cT_putEvent 133 = .ok (.aload_n 0, 1) := by decide +kernel
theorem dT_putEvent_134 : decode cT_putEvent 134 = .ok (.getfield 15, 3) := by decide +kernel
theorem dT_putEvent_137 : decode cT_putEvent 137 = .ok (.aload_n 0, 1) := by decide +kernel
theorem dT_putEvent_138 : decode cT_putEvent 138 = .ok (.getfield 9, 3) := by decide +kernel
theorem dT_putEvent_141 : decode cT_putEvent 141 = .ok (.getfield 96, 3) := by decide +kernel
theorem dT_putEvent_144 : decode cT_putEvent 144 = .ok (.aload_n 1, 1) := by decide +kernel
theorem dT_putEvent_145 : decode cT_putEvent 145 = .ok (.getfield 99, 3) := by decide +kernel
theorem dT_putEvent_148 : decode cT_putEvent 148 = .ok (.iload_n 2, 1) := by decide +kernel
theorem dT_putEvent_149 : decode cT_putEvent 149 = .ok (.iadd, 1) := by decide +kernel
theorem dT_putEvent_150 : decode cT_putEvent 150 = .ok (.invokevirtual 102, 3) := by decide +kernel
theorem dT_putEvent_153 : decode cT_putEvent 153 = .ok (.invokevirtual 75, 3) := by decide +kernel
theorem dT_putEvent_156 : decode cT_putEvent 156 = .ok (.iinc 2 1, 3) := by decide +kernel
theorem dT_putEvent_159 : decode cT_putEvent 159 = .ok (.goto (-34), 3) := by decide +kernel
theorem dT_putEvent_162 : decode cT_putEvent 162 = .ok (.return_, 1) := by decide +kernel
def jT_putEvent_156 (K125 : cH → cZ → (Nat → Int32) → Option Nat → Int32 → Option (cH × cZ × (Nat → Int32))) (h : cH) (z : cZ) (pv : Nat → Int32) (o1 : Option Nat) (x2 : Int32) : Option (cH × cZ × (Nat → Int32)) := K125 h z pv o1 (x2 + 1)
set_option maxHeartbeats 4000000 in
set_option maxRecDepth 100000 in
theorem oT_putEvent_156 {h' : cH} {z' : cZ} {pv' : Nat → Int32} {K125 : cH → cZ → (Nat → Int32) → Option Nat → Int32 → Option (cH × cZ × (Nat → Int32))} (hK125 : ∀ (h : cH) (z : cZ) (pv : Nat → Int32) (o1 : Option Nat) (x2 : Int32), K125 h z pv o1 x2 = some (h', z', pv') → cle h h') (h : cH) (z : cZ) (pv : Nat → Int32) (o1 : Option Nat) (x2 : Int32) (hf : jT_putEvent_156 K125 h z pv o1 x2 = some (h', z', pv')) : cle h h' := by
  unfold jT_putEvent_156 at hf
  exact hK125 h z pv o1 (x2 + 1) hf
def lT_putEvent_125 : Nat → cH → cZ → (Nat → Int32) → Option Nat → Int32 → Option (cH × cZ × (Nat → Int32))
  | 0 => fun _ _ _ _ _ => none
  | k + 1 => fun h z pv o1 x2 => (o1).bind fun j1 => if h.2.1 ≤ j1 then none else (if (ze z j1 6) ≤ x2 then (some (h, z, pv)) else ((fB2_at h z ((ze z j1 5) + x2)).bind fun (r3, z3) => (fB1_put h z3 r3).bind fun (hh4, z4) => jT_putEvent_156 (lT_putEvent_125 k) hh4 z4 pv o1 x2))
set_option maxHeartbeats 4000000 in
set_option maxRecDepth 100000 in
theorem oT_putEvent_125 {h' : cH} {z' : cZ} {pv' : Nat → Int32} (k : Nat) : ∀ (h : cH) (z : cZ) (pv : Nat → Int32) (o1 : Option Nat) (x2 : Int32), lT_putEvent_125 k h z pv o1 x2 = some (h', z', pv') → cle h h' := by
  induction k with
  | zero => intro h z pv o1 x2 hf; cases hf
  | succ k ih =>
    intro h z pv o1 x2 hf
    have hf : ((o1).bind fun j1 => if h.2.1 ≤ j1 then none else (if (ze z j1 6) ≤ x2 then (some (h, z, pv)) else ((fB2_at h z ((ze z j1 5) + x2)).bind fun (r3, z3) => (fB1_put h z3 r3).bind fun (hh4, z4) => jT_putEvent_156 (lT_putEvent_125 k) hh4 z4 pv o1 x2))) = some (h', z', pv') := hf
    obtain ⟨j1, ho1, hf⟩ := ts_b hf
    try dsimp only at hf
    obtain ⟨hb1, hf⟩ := ts_g hf
    have hb1 := Nat.lt_of_not_le hb1
    rcases Decidable.em ((ze z j1 6) ≤ x2) with c2 | c2
    · have hf := ts_t hf c2
      cases hf
      exact cle.rf
    · have hf := ts_f hf c2
      obtain ⟨⟨r3, z3⟩, g3, hf⟩ := ts_b hf
      try dsimp only at hf
      obtain ⟨⟨hh4, z4⟩, g4, hf⟩ := ts_b hf
      try dsimp only at hf
      exact cle.tr (oB1_put g4) (oT_putEvent_156 ih hh4 z4 pv o1 x2 hf)
def jT_putEvent_123 (h : cH) (z : cZ) (pv : Nat → Int32) (o1 : Option Nat) : Option (cH × cZ × (Nat → Int32)) := lT_putEvent_125 FU h z pv o1 (0 : Int32)
set_option maxHeartbeats 4000000 in
set_option maxRecDepth 100000 in
theorem oT_putEvent_123 {h' : cH} {z' : cZ} {pv' : Nat → Int32} (h : cH) (z : cZ) (pv : Nat → Int32) (o1 : Option Nat) (hf : jT_putEvent_123 h z pv o1 = some (h', z', pv')) : cle h h' := by
  unfold jT_putEvent_123 at hf
  exact oT_putEvent_125 FU h z pv o1 (0 : Int32) hf
def jT_putEvent_107 (h : cH) (z : cZ) (pv : Nat → Int32) (o1 : Option Nat) : Option (cH × cZ × (Nat → Int32)) := (o1).bind fun j1 => if h.2.1 ≤ j1 then none else (if (ze z j1 6) = (-1 : Int32) then (jT_putEvent_123 h z pv o1) else ((fT_putNumber h z pv (ze z j1 6)).bind fun (hh3, z3, pv3) => jT_putEvent_123 hh3 z3 pv3 o1))
set_option maxHeartbeats 4000000 in
set_option maxRecDepth 100000 in
theorem oT_putEvent_107 {h' : cH} {z' : cZ} {pv' : Nat → Int32} (h : cH) (z : cZ) (pv : Nat → Int32) (o1 : Option Nat) (hf : jT_putEvent_107 h z pv o1 = some (h', z', pv')) : cle h h' := by
  unfold jT_putEvent_107 at hf
  obtain ⟨j1, ho1, hf⟩ := ts_b hf
  try dsimp only at hf
  obtain ⟨hb1, hf⟩ := ts_g hf
  have hb1 := Nat.lt_of_not_le hb1
  rcases Decidable.em ((ze z j1 6) = (-1 : Int32)) with c2 | c2
  · have hf := ts_t hf c2
    exact oT_putEvent_123 h z pv o1 hf
  · have hf := ts_f hf c2
    obtain ⟨⟨hh3, z3, pv3⟩, g3, hf⟩ := ts_b hf
    try dsimp only at hf
    exact cle.tr (oT_putNumber g3) (oT_putEvent_123 hh3 z3 pv3 o1 hf)
def jT_putEvent_88 (h : cH) (z : cZ) (pv : Nat → Int32) (o1 : Option Nat) : Option (cH × cZ × (Nat → Int32)) := (o1).bind fun j1 => if h.2.1 ≤ j1 then none else (if (ze z j1 4) = (-1 : Int32) then (jT_putEvent_107 h z pv o1) else ((fB1_put h z (ze z j1 4)).bind fun (hh3, z3) => jT_putEvent_107 hh3 z3 pv o1))
set_option maxHeartbeats 4000000 in
set_option maxRecDepth 100000 in
theorem oT_putEvent_88 {h' : cH} {z' : cZ} {pv' : Nat → Int32} (h : cH) (z : cZ) (pv : Nat → Int32) (o1 : Option Nat) (hf : jT_putEvent_88 h z pv o1 = some (h', z', pv')) : cle h h' := by
  unfold jT_putEvent_88 at hf
  obtain ⟨j1, ho1, hf⟩ := ts_b hf
  try dsimp only at hf
  obtain ⟨hb1, hf⟩ := ts_g hf
  have hb1 := Nat.lt_of_not_le hb1
  rcases Decidable.em ((ze z j1 4) = (-1 : Int32)) with c2 | c2
  · have hf := ts_t hf c2
    exact oT_putEvent_107 h z pv o1 hf
  · have hf := ts_f hf c2
    obtain ⟨⟨hh3, z3⟩, g3, hf⟩ := ts_b hf
    try dsimp only at hf
    exact cle.tr (oB1_put g3) (oT_putEvent_107 hh3 z3 pv o1 hf)
def jT_putEvent_66 (h : cH) (z : cZ) (pv : Nat → Int32) (o1 : Option Nat) (s1 : Int32) : Option (cH × cZ × (Nat → Int32)) := (o1).bind fun j1 => if h.2.1 ≤ j1 then none else (if (ze z j1 3) = (-1 : Int32) then (jT_putEvent_88 h z (upd pv 2 s1) o1) else ((fB1_put h z (ze z j1 3)).bind fun (hh3, z3) => jT_putEvent_88 hh3 z3 (upd pv 2 s1) o1))
set_option maxHeartbeats 4000000 in
set_option maxRecDepth 100000 in
theorem oT_putEvent_66 {h' : cH} {z' : cZ} {pv' : Nat → Int32} (h : cH) (z : cZ) (pv : Nat → Int32) (o1 : Option Nat) (s1 : Int32) (hf : jT_putEvent_66 h z pv o1 s1 = some (h', z', pv')) : cle h h' := by
  unfold jT_putEvent_66 at hf
  obtain ⟨j1, ho1, hf⟩ := ts_b hf
  try dsimp only at hf
  obtain ⟨hb1, hf⟩ := ts_g hf
  have hb1 := Nat.lt_of_not_le hb1
  rcases Decidable.em ((ze z j1 3) = (-1 : Int32)) with c2 | c2
  · have hf := ts_t hf c2
    exact oT_putEvent_88 h z (upd pv 2 s1) o1 hf
  · have hf := ts_f hf c2
    obtain ⟨⟨hh3, z3⟩, g3, hf⟩ := ts_b hf
    try dsimp only at hf
    exact cle.tr (oB1_put g3) (oT_putEvent_88 hh3 z3 (upd pv 2 s1) o1 hf)
def jT_putEvent_50 (h : cH) (z : cZ) (pv : Nat → Int32) (o1 : Option Nat) : Option (cH × cZ × (Nat → Int32)) := (o1).bind fun j1 => if h.2.1 ≤ j1 then none else ((fE_isChannelEvent h z j1).bind fun (r2, z2) => if r2 = 0 then (jT_putEvent_66 h z2 pv o1 (-1 : Int32)) else (jT_putEvent_66 h z2 pv o1 (ze z2 j1 2)))
set_option maxHeartbeats 4000000 in
set_option maxRecDepth 100000 in
theorem oT_putEvent_50 {h' : cH} {z' : cZ} {pv' : Nat → Int32} (h : cH) (z : cZ) (pv : Nat → Int32) (o1 : Option Nat) (hf : jT_putEvent_50 h z pv o1 = some (h', z', pv')) : cle h h' := by
  unfold jT_putEvent_50 at hf
  obtain ⟨j1, ho1, hf⟩ := ts_b hf
  try dsimp only at hf
  obtain ⟨hb1, hf⟩ := ts_g hf
  have hb1 := Nat.lt_of_not_le hb1
  obtain ⟨⟨r2, z2⟩, g2, hf⟩ := ts_b hf
  try dsimp only at hf
  rcases Decidable.em (r2 = 0) with c3 | c3
  · have hf := ts_t hf c3
    exact oT_putEvent_66 h z2 pv o1 (-1 : Int32) hf
  · have hf := ts_f hf c3
    exact oT_putEvent_66 h z2 pv o1 (ze z2 j1 2) hf
def jT_putEvent_39 (h : cH) (z : cZ) (pv : Nat → Int32) (o1 : Option Nat) : Option (cH × cZ × (Nat → Int32)) := (o1).bind fun j1 => if h.2.1 ≤ j1 then none else ((fB1_put h z (ze z j1 2)).bind fun (hh2, z2) => jT_putEvent_50 hh2 z2 pv o1)
set_option maxHeartbeats 4000000 in
set_option maxRecDepth 100000 in
theorem oT_putEvent_39 {h' : cH} {z' : cZ} {pv' : Nat → Int32} (h : cH) (z : cZ) (pv : Nat → Int32) (o1 : Option Nat) (hf : jT_putEvent_39 h z pv o1 = some (h', z', pv')) : cle h h' := by
  unfold jT_putEvent_39 at hf
  obtain ⟨j1, ho1, hf⟩ := ts_b hf
  try dsimp only at hf
  obtain ⟨hb1, hf⟩ := ts_g hf
  have hb1 := Nat.lt_of_not_le hb1
  obtain ⟨⟨hh2, z2⟩, g2, hf⟩ := ts_b hf
  try dsimp only at hf
  exact cle.tr (oB1_put g2) (oT_putEvent_50 hh2 z2 pv o1 hf)
def jT_putEvent_13 (h : cH) (z : cZ) (pv : Nat → Int32) (o1 : Option Nat) : Option (cH × cZ × (Nat → Int32)) := (o1).bind fun j1 => if h.2.1 ≤ j1 then none else (if ((upd pv 1 (ze z j1 0)) 0) = 0 then (jT_putEvent_39 h z (upd pv 1 (ze z j1 0)) o1) else (if (ze z j1 2) = ((upd pv 1 (ze z j1 0)) 2) then (jT_putEvent_50 h z (upd pv 1 (ze z j1 0)) o1) else (jT_putEvent_39 h z (upd pv 1 (ze z j1 0)) o1)))
set_option maxHeartbeats 4000000 in
set_option maxRecDepth 100000 in
theorem oT_putEvent_13 {h' : cH} {z' : cZ} {pv' : Nat → Int32} (h : cH) (z : cZ) (pv : Nat → Int32) (o1 : Option Nat) (hf : jT_putEvent_13 h z pv o1 = some (h', z', pv')) : cle h h' := by
  unfold jT_putEvent_13 at hf
  obtain ⟨j1, ho1, hf⟩ := ts_b hf
  try dsimp only at hf
  obtain ⟨hb1, hf⟩ := ts_g hf
  have hb1 := Nat.lt_of_not_le hb1
  rcases Decidable.em (((upd pv 1 (ze z j1 0)) 0) = 0) with c2 | c2
  · have hf := ts_t hf c2
    exact oT_putEvent_39 h z (upd pv 1 (ze z j1 0)) o1 hf
  · have hf := ts_f hf c2
    rcases Decidable.em ((ze z j1 2) = ((upd pv 1 (ze z j1 0)) 2)) with c3 | c3
    · have hf := ts_t hf c3
      exact oT_putEvent_50 h z (upd pv 1 (ze z j1 0)) o1 hf
    · have hf := ts_f hf c3
      exact oT_putEvent_39 h z (upd pv 1 (ze z j1 0)) o1 hf
def fT_putEvent (h : cH) (z : cZ) (pv : Nat → Int32) (o1 : Option Nat) : Option (cH × cZ × (Nat → Int32)) := (o1).bind fun j1 => if h.2.1 ≤ j1 then none else ((fT_putNumber h z pv ((ze z j1 0) - (pv 1))).bind fun (hh2, z2, pv2) => jT_putEvent_13 hh2 z2 pv2 o1)
set_option maxHeartbeats 4000000 in
set_option maxRecDepth 100000 in
theorem oT_putEvent {h' : cH} {z' : cZ} {pv' : Nat → Int32} {h : cH} {z : cZ} {pv : Nat → Int32} {o1 : Option Nat} (hf : fT_putEvent h z pv o1 = some (h', z', pv')) : cle h h' := by
  unfold fT_putEvent at hf
  obtain ⟨j1, ho1, hf⟩ := ts_b hf
  try dsimp only at hf
  obtain ⟨hb1, hf⟩ := ts_g hf
  have hb1 := Nat.lt_of_not_le hb1
  obtain ⟨⟨hh2, z2, pv2⟩, g2, hf⟩ := ts_b hf
  try dsimp only at hf
  exact cle.tr (oT_putNumber g2) (oT_putEvent_13 hh2 z2 pv2 o1 hf)
set_option maxHeartbeats 4000000 in
set_option maxRecDepth 100000 in
theorem wT_putEvent_156 {p : Program} {l : Launch} {e : Env} {s : State} {m : MethodId} {args : Array Value} {below : List Frame} {meth : Method} {c : Code} {g : gT} {qq ea : Nat → Nat} {A0 : Nat → Prop} {h0 : cH} {X : va_W} {rv : (Nat → Nat) → Option Value} {qp : Nat} {pv' : Nat → Int32} {h' : cH} {z' : cZ} (C : mCx p m c cT_putEvent 3 s args g "MidiDesk$Printer") (hr : meth.sig.returnType = none) (hlk : meth.locks = false) (hrv : rv = fun ea => none) {K125 : cH → cZ → (Nat → Int32) → Option Nat → Int32 → Option (cH × cZ × (Nat → Int32))} (hK125 : ∀ (ad : Nat → Nat) (h : cH) (z : cZ) (pv : Nat → Int32) (o1 : Option Nat) (x2 : Int32) (H : Heap) (locs : List Loc) (ls : Array Slot), cle h0 h → lv_has ls 3 [(0, .ref qp), (1, va_rf (Option.map ea o1)), (2, .int x2)] → cWd g A0 s.heap qq ad ea h (tcell qp qq pv :: X) z H locs → K125 h z pv o1 x2 = some (h', z', pv') → cGa p l e (rmA frT_putEvent loT_putEvent h0 h') s m args below meth c g qq A0 True ea rv (tcell qp qq pv' :: X) h' z' H locs (h.2.2.1 - h0.2.2.1) (h.2.2.2 - h0.2.2.2) (F0 m 125 ls [])) (hM125 : ∀ (h : cH) (z : cZ) (pv : Nat → Int32) (o1 : Option Nat) (x2 : Int32), K125 h z pv o1 x2 = some (h', z', pv') → cle h h') (ad : Nat → Nat) (h : cH) (z : cZ) (pv : Nat → Int32) (o1 : Option Nat) (x2 : Int32) (H : Heap) (locs : List Loc) (ls : Array Slot) (hle : cle h0 h) (hl : lv_has ls 3 [(0, .ref qp), (1, va_rf (Option.map ea o1)), (2, .int x2)]) (hw : cWd g A0 s.heap qq ad ea h (tcell qp qq pv :: X) z H locs) (hf : jT_putEvent_156 K125 h z pv o1 x2 = some (h', z', pv')) : cGa p l e (rmA frT_putEvent loT_putEvent h0 h') s m args below meth c g qq A0 True ea rv (tcell qp qq pv' :: X) h' z' H locs (h.2.2.1 - h0.2.2.1) (h.2.2.2 - h0.2.2.2) (F0 m 156 ls []) := by
  have hmn := oT_putEvent_156 hM125 h z pv o1 x2 hf
  have hroom : h.2.2.1 - h0.2.2.1 + 0 ≤ (rmA frT_putEvent loT_putEvent h0 h').cells ∧ h.2.2.2 - h0.2.2.2 + 0 ≤ (rmA frT_putEvent loT_putEvent h0 h').slots := ⟨by have w := hmn.1; show _ ≤ h'.2.2.1 - h0.2.2.1; omega, by have w := hmn.2; show _ ≤ h'.2.2.2 - h0.2.2.2; omega⟩
  unfold jT_putEvent_156 at hf
  refine lv_iinc (v := x2 + 1) (lv' := [(2, .int (x2 + 1)), (0, .ref qp), (1, va_rf (Option.map ea o1))]) C.1.1 C.1.2.1 dT_putEvent_156 hl (k := 2) rfl rfl (by decide) (by generalize Option.map ea o1 = oo; cases oo <;> rfl) (fun ls hl => ?_)
  refine lv_goto (tgt := 125) C.1.1 C.1.2.1 dT_putEvent_159 (by decide) ?_
  exact hK125 _ h z pv o1 (x2 + 1) _ _ ls hle (lv_sub hl [1, 2, 0] rfl) hw hf
set_option maxHeartbeats 4000000 in
set_option maxRecDepth 100000 in
theorem wT_putEvent_125 {p : Program} {l : Launch} {e : Env} {s : State} {m : MethodId} {args : Array Value} {below : List Frame} {meth : Method} {c : Code} {g : gT} {qq ea : Nat → Nat} {A0 : Nat → Prop} {h0 : cH} {X : va_W} {rv : (Nat → Nat) → Option Value} {qp : Nat} {pv' : Nat → Int32} {h' : cH} {z' : cZ} (C : mCx p m c cT_putEvent 3 s args g "MidiDesk$Printer") (hr : meth.sig.returnType = none) (hlk : meth.locks = false) (hrv : rv = fun ea => none) (k : Nat) : ∀ (ad : Nat → Nat) (h : cH) (z : cZ) (pv : Nat → Int32) (o1 : Option Nat) (x2 : Int32) (H : Heap) (locs : List Loc) (ls : Array Slot), cle h0 h → lv_has ls 3 [(0, .ref qp), (1, va_rf (Option.map ea o1)), (2, .int x2)] → cWd g A0 s.heap qq ad ea h (tcell qp qq pv :: X) z H locs → lT_putEvent_125 k h z pv o1 x2 = some (h', z', pv') → cGa p l e (rmA frT_putEvent loT_putEvent h0 h') s m args below meth c g qq A0 True ea rv (tcell qp qq pv' :: X) h' z' H locs (h.2.2.1 - h0.2.2.1) (h.2.2.2 - h0.2.2.2) (F0 m 125 ls []) := by
  induction k with
  | zero => intro ad h z pv o1 x2 H locs ls hle hl hw hf; cases hf
  | succ k ih =>
    intro ad h z pv o1 x2 H locs ls hle hl hw hf
    have hmn := oT_putEvent_125 (k + 1) h z pv o1 x2 hf
    have hroom : h.2.2.1 - h0.2.2.1 + 0 ≤ (rmA frT_putEvent loT_putEvent h0 h').cells ∧ h.2.2.2 - h0.2.2.2 + 0 ≤ (rmA frT_putEvent loT_putEvent h0 h').slots := ⟨by have w := hmn.1; show _ ≤ h'.2.2.1 - h0.2.2.1; omega, by have w := hmn.2; show _ ≤ h'.2.2.2 - h0.2.2.2; omega⟩
    have hf : ((o1).bind fun j1 => if h.2.1 ≤ j1 then none else (if (ze z j1 6) ≤ x2 then (some (h, z, pv)) else ((fB2_at h z ((ze z j1 5) + x2)).bind fun (r3, z3) => (fB1_put h z3 r3).bind fun (hh4, z4) => jT_putEvent_156 (lT_putEvent_125 k) hh4 z4 pv o1 x2))) = some (h', z', pv') := hf
    have ihm := oT_putEvent_125 k (h' := h') (z' := z') (pv' := pv')
    refine lv_iload_n C.1.1 C.1.2.1 dT_putEvent_125 rfl (lv_at hl 2 rfl) ?_
    refine c_aload_n C.1.1 C.1.2.1 dT_putEvent_126 rfl (lv_at hl 1 rfl) ?_
    obtain ⟨j1, ho1, hf⟩ := ts_b hf
    try dsimp only at hf
    obtain ⟨hb1, hf⟩ := ts_g hf
    have hb1 := Nat.lt_of_not_le hb1
    refine cg_Printer_Event_size C hw ho1 hb1 dT_putEvent_127 ?_
    refine lv_icmp_ge (tgt := 162) C.1.1 C.1.2.1 dT_putEvent_130 (by decide) (fun c2 => ?_) (fun c2 => ?_)
    · have hf := ts_t hf c2
      obtain ⟨hf, hpv⟩ := pr4 hf
      exact c_retAv C hr hlk hrv (fun _ => rfl) hw hf (by rw [hpv]) (by cases hf; exact ⟨Nat.le_refl _, Nat.le_refl _⟩) dT_putEvent_162
    · have hf := ts_f hf c2
      refine lv_aload_n C.1.1 C.1.2.1 dT_putEvent_133 rfl (lv_at hl 0 rfl) ?_
      refine cg_Printer_Printer_output C hw dT_putEvent_134 ?_
      refine lv_aload_n C.1.1 C.1.2.1 dT_putEvent_137 rfl (lv_at hl 0 rfl) ?_
      refine cg_Printer_Printer_score C hw dT_putEvent_138 ?_
      refine cg_Printer_Score_data C hw dT_putEvent_141 ?_
      refine c_aload_n C.1.1 C.1.2.1 dT_putEvent_144 rfl (lv_at hl 1 rfl) ?_
      refine cg_Printer_Event_start C hw ho1 hb1 dT_putEvent_145 ?_
      refine lv_iload_n C.1.1 C.1.2.1 dT_putEvent_148 rfl (lv_at hl 2 rfl) ?_
      refine lv_iadd C.1.1 C.1.2.1 dT_putEvent_149 ?_
      obtain ⟨⟨r3, z3⟩, g3, hf⟩ := ts_b hf
      try dsimp only at hf
      refine c_callV (rest := [.ref (qq 2)]) (As := [.int ((ze z j1 5) + x2)]) (rv := (some (.int r3))) (b := (qq 3)) C hl.1 hw (cB2_at_met g3) rfl (callW_of (rm := rB2_at) (C := "MidiDesk$Bytes") 1 C.1.2.2.2.2 gw_703 gw_256 gw_257 gw_53 gw_258 kB2_at ⟨Nat.le_of_ble_eq_true rfl, Nat.le_of_ble_eq_true rfl⟩) (c_recv_B2 C.2 hw) rfl rfl (Nat.le_of_ble_eq_true rfl) dT_putEvent_150 hroom (fun H locs hw => ?_)
      refine W.eq (g2 := F0 m 153 ls [.int r3, .ref (qq 2)]) rfl ?_
      refine W.widen (k := h.2.2.1 - h0.2.2.1) (n := h.2.2.2 - h0.2.2.2) (Nat.le_refl _) (Nat.le_refl _) ?_
      obtain ⟨⟨hh4, z4⟩, g4, hf⟩ := ts_b hf
      try dsimp only at hf
      have hm9 : cle hh4 h' := oT_putEvent_156 ihm _ _ _ _ _ hf
      have hm8 := oB1_put g4
      have hm91 := hm9.1
      have hm92 := hm9.2
      have hm81 := hm8.1
      have hm82 := hm8.2
      have hle1 := hle.1
      have hle2 := hle.2
      refine c_callAA (rest := []) (As := [.int r3]) (rv := fun ea => none) (b := (qq 2)) C hl.1 hw (cB1_put_met g4) (callW_of (rm := rmA frB1_put loB1_put h hh4) (C := "MidiDesk$Bytes") 1 C.1.2.2.2.2 gw_683 gw_160 gw_161 gw_53 gw_162 kB1_put ⟨Nat.le_of_ble_eq_true rfl, Nat.le_of_ble_eq_true rfl⟩) (c_recv_B1 C.2 hw) rfl rfl (Nat.le_of_ble_eq_true rfl) dT_putEvent_153 ⟨by show _ ≤ h'.2.2.1 - h0.2.2.1; omega, by show _ ≤ h'.2.2.2 - h0.2.2.2; omega⟩ (fun ad H locs hw => ?_)
      refine W.widen (k := hh4.2.2.1 - h0.2.2.1) (n := hh4.2.2.2 - h0.2.2.2) (by omega) (by omega) ?_
      refine W.eq (g2 := F0 m 156 ls []) rfl ?_
      exact wT_putEvent_156 C hr hlk hrv ih ihm _ hh4 z4 pv o1 x2 _ _ ls (hle.tr (oB1_put g4)) (lv_sub hl [0, 1, 2] rfl) hw hf
set_option maxHeartbeats 4000000 in
set_option maxRecDepth 100000 in
theorem wT_putEvent_123 {p : Program} {l : Launch} {e : Env} {s : State} {m : MethodId} {args : Array Value} {below : List Frame} {meth : Method} {c : Code} {g : gT} {qq ea : Nat → Nat} {A0 : Nat → Prop} {h0 : cH} {X : va_W} {rv : (Nat → Nat) → Option Value} {qp : Nat} {pv' : Nat → Int32} {h' : cH} {z' : cZ} (C : mCx p m c cT_putEvent 3 s args g "MidiDesk$Printer") (hr : meth.sig.returnType = none) (hlk : meth.locks = false) (hrv : rv = fun ea => none) (ad : Nat → Nat) (h : cH) (z : cZ) (pv : Nat → Int32) (o1 : Option Nat) (H : Heap) (locs : List Loc) (ls : Array Slot) (hle : cle h0 h) (hl : lv_has ls 3 [(0, .ref qp), (1, va_rf (Option.map ea o1))]) (hw : cWd g A0 s.heap qq ad ea h (tcell qp qq pv :: X) z H locs) (hf : jT_putEvent_123 h z pv o1 = some (h', z', pv')) : cGa p l e (rmA frT_putEvent loT_putEvent h0 h') s m args below meth c g qq A0 True ea rv (tcell qp qq pv' :: X) h' z' H locs (h.2.2.1 - h0.2.2.1) (h.2.2.2 - h0.2.2.2) (F0 m 123 ls []) := by
  have hmn := oT_putEvent_123 h z pv o1 hf
  have hroom : h.2.2.1 - h0.2.2.1 + 0 ≤ (rmA frT_putEvent loT_putEvent h0 h').cells ∧ h.2.2.2 - h0.2.2.2 + 0 ≤ (rmA frT_putEvent loT_putEvent h0 h').slots := ⟨by have w := hmn.1; show _ ≤ h'.2.2.1 - h0.2.2.1; omega, by have w := hmn.2; show _ ≤ h'.2.2.2 - h0.2.2.2; omega⟩
  unfold jT_putEvent_123 at hf
  refine lv_iconst (v := (0 : Int32)) C.1.1 C.1.2.1 dT_putEvent_123 (by decide) ?_
  refine lv_istore_n (lv' := [(2, .int (0 : Int32)), (0, .ref qp), (1, va_rf (Option.map ea o1))]) C.1.1 C.1.2.1 dT_putEvent_124 rfl hl (by decide) (by generalize Option.map ea o1 = oo; cases oo <;> rfl) (fun ls hl => ?_)
  exact wT_putEvent_125 C hr hlk hrv FU _ h z pv o1 (0 : Int32) _ _ ls hle (lv_sub hl [1, 2, 0] rfl) hw hf
set_option maxHeartbeats 4000000 in
set_option maxRecDepth 100000 in
theorem wT_putEvent_107 {p : Program} {l : Launch} {e : Env} {s : State} {m : MethodId} {args : Array Value} {below : List Frame} {meth : Method} {c : Code} {g : gT} {qq ea : Nat → Nat} {A0 : Nat → Prop} {h0 : cH} {X : va_W} {rv : (Nat → Nat) → Option Value} {qp : Nat} {pv' : Nat → Int32} {h' : cH} {z' : cZ} (C : mCx p m c cT_putEvent 3 s args g "MidiDesk$Printer") (hr : meth.sig.returnType = none) (hlk : meth.locks = false) (hrv : rv = fun ea => none) (ad : Nat → Nat) (h : cH) (z : cZ) (pv : Nat → Int32) (o1 : Option Nat) (H : Heap) (locs : List Loc) (ls : Array Slot) (hle : cle h0 h) (hl : lv_has ls 3 [(0, .ref qp), (1, va_rf (Option.map ea o1))]) (hw : cWd g A0 s.heap qq ad ea h (tcell qp qq pv :: X) z H locs) (hf : jT_putEvent_107 h z pv o1 = some (h', z', pv')) : cGa p l e (rmA frT_putEvent loT_putEvent h0 h') s m args below meth c g qq A0 True ea rv (tcell qp qq pv' :: X) h' z' H locs (h.2.2.1 - h0.2.2.1) (h.2.2.2 - h0.2.2.2) (F0 m 107 ls []) := by
  have hmn := oT_putEvent_107 h z pv o1 hf
  have hroom : h.2.2.1 - h0.2.2.1 + 0 ≤ (rmA frT_putEvent loT_putEvent h0 h').cells ∧ h.2.2.2 - h0.2.2.2 + 0 ≤ (rmA frT_putEvent loT_putEvent h0 h').slots := ⟨by have w := hmn.1; show _ ≤ h'.2.2.1 - h0.2.2.1; omega, by have w := hmn.2; show _ ≤ h'.2.2.2 - h0.2.2.2; omega⟩
  unfold jT_putEvent_107 at hf
  refine c_aload_n C.1.1 C.1.2.1 dT_putEvent_107 rfl (lv_at hl 1 rfl) ?_
  obtain ⟨j1, ho1, hf⟩ := ts_b hf
  try dsimp only at hf
  obtain ⟨hb1, hf⟩ := ts_g hf
  have hb1 := Nat.lt_of_not_le hb1
  refine cg_Printer_Event_size C hw ho1 hb1 dT_putEvent_108 ?_
  refine lv_iconst (v := (-1 : Int32)) C.1.1 C.1.2.1 dT_putEvent_111 (by decide) ?_
  refine lv_icmp_eq (tgt := 123) C.1.1 C.1.2.1 dT_putEvent_112 (by decide) (fun c2 => ?_) (fun c2 => ?_)
  · have hf := ts_t hf c2
    exact wT_putEvent_123 C hr hlk hrv _ h z pv o1 _ _ ls hle (lv_sub hl [0, 1] rfl) hw hf
  · have hf := ts_f hf c2
    refine lv_aload_n C.1.1 C.1.2.1 dT_putEvent_115 rfl (lv_at hl 0 rfl) ?_
    refine c_aload_n C.1.1 C.1.2.1 dT_putEvent_116 rfl (lv_at hl 1 rfl) ?_
    refine cg_Printer_Event_size C hw ho1 hb1 dT_putEvent_117 ?_
    obtain ⟨⟨hh3, z3, pv3⟩, g3, hf⟩ := ts_b hf
    try dsimp only at hf
    have hm9 : cle hh3 h' := oT_putEvent_123 _ _ _ _ hf
    have hm8 := oT_putNumber g3
    have hm91 := hm9.1
    have hm92 := hm9.2
    have hm81 := hm8.1
    have hm82 := hm8.2
    have hle1 := hle.1
    have hle2 := hle.2
    refine c_callAA (rest := []) (As := [.int (ze z j1 6)]) (rv := fun ea => none) (b := qp) C hl.1 hw (cT_putNumber_met g3) (callW_of (rm := rmA frT_putNumber loT_putNumber h hh3) (C := "MidiDesk$Printer") 1 C.1.2.2.2.2 gw_695 gw_697 gw_25 gw_66 gw_698 kT_putNumber ⟨Nat.le_of_ble_eq_true rfl, Nat.le_of_ble_eq_true rfl⟩) (c_recvX (ci := 3) C.2 rfl hw) rfl rfl (Nat.le_of_ble_eq_true rfl) dT_putEvent_120 ⟨by show _ ≤ h'.2.2.1 - h0.2.2.1; omega, by show _ ≤ h'.2.2.2 - h0.2.2.2; omega⟩ (fun ad H locs hw => ?_)
    refine W.widen (k := hh3.2.2.1 - h0.2.2.1) (n := hh3.2.2.2 - h0.2.2.2) (by omega) (by omega) ?_
    refine W.eq (g2 := F0 m 123 ls []) rfl ?_
    exact wT_putEvent_123 C hr hlk hrv _ hh3 z3 pv3 o1 _ _ ls (hle.tr (oT_putNumber g3)) (lv_sub hl [0, 1] rfl) hw hf
set_option maxHeartbeats 4000000 in
set_option maxRecDepth 100000 in
theorem wT_putEvent_88 {p : Program} {l : Launch} {e : Env} {s : State} {m : MethodId} {args : Array Value} {below : List Frame} {meth : Method} {c : Code} {g : gT} {qq ea : Nat → Nat} {A0 : Nat → Prop} {h0 : cH} {X : va_W} {rv : (Nat → Nat) → Option Value} {qp : Nat} {pv' : Nat → Int32} {h' : cH} {z' : cZ} (C : mCx p m c cT_putEvent 3 s args g "MidiDesk$Printer") (hr : meth.sig.returnType = none) (hlk : meth.locks = false) (hrv : rv = fun ea => none) (ad : Nat → Nat) (h : cH) (z : cZ) (pv : Nat → Int32) (o1 : Option Nat) (H : Heap) (locs : List Loc) (ls : Array Slot) (hle : cle h0 h) (hl : lv_has ls 3 [(0, .ref qp), (1, va_rf (Option.map ea o1))]) (hw : cWd g A0 s.heap qq ad ea h (tcell qp qq pv :: X) z H locs) (hf : jT_putEvent_88 h z pv o1 = some (h', z', pv')) : cGa p l e (rmA frT_putEvent loT_putEvent h0 h') s m args below meth c g qq A0 True ea rv (tcell qp qq pv' :: X) h' z' H locs (h.2.2.1 - h0.2.2.1) (h.2.2.2 - h0.2.2.2) (F0 m 88 ls []) := by
  have hmn := oT_putEvent_88 h z pv o1 hf
  have hroom : h.2.2.1 - h0.2.2.1 + 0 ≤ (rmA frT_putEvent loT_putEvent h0 h').cells ∧ h.2.2.2 - h0.2.2.2 + 0 ≤ (rmA frT_putEvent loT_putEvent h0 h').slots := ⟨by have w := hmn.1; show _ ≤ h'.2.2.1 - h0.2.2.1; omega, by have w := hmn.2; show _ ≤ h'.2.2.2 - h0.2.2.2; omega⟩
  unfold jT_putEvent_88 at hf
  refine c_aload_n C.1.1 C.1.2.1 dT_putEvent_88 rfl (lv_at hl 1 rfl) ?_
  obtain ⟨j1, ho1, hf⟩ := ts_b hf
  try dsimp only at hf
  obtain ⟨hb1, hf⟩ := ts_g hf
  have hb1 := Nat.lt_of_not_le hb1
  refine cg_Printer_Event_second C hw ho1 hb1 dT_putEvent_89 ?_
  refine lv_iconst (v := (-1 : Int32)) C.1.1 C.1.2.1 dT_putEvent_92 (by decide) ?_
  refine lv_icmp_eq (tgt := 107) C.1.1 C.1.2.1 dT_putEvent_93 (by decide) (fun c2 => ?_) (fun c2 => ?_)
  · have hf := ts_t hf c2
    exact wT_putEvent_107 C hr hlk hrv _ h z pv o1 _ _ ls hle (lv_sub hl [0, 1] rfl) hw hf
  · have hf := ts_f hf c2
    refine lv_aload_n C.1.1 C.1.2.1 dT_putEvent_96 rfl (lv_at hl 0 rfl) ?_
    refine cg_Printer_Printer_output C hw dT_putEvent_97 ?_
    refine c_aload_n C.1.1 C.1.2.1 dT_putEvent_100 rfl (lv_at hl 1 rfl) ?_
    refine cg_Printer_Event_second C hw ho1 hb1 dT_putEvent_101 ?_
    obtain ⟨⟨hh3, z3⟩, g3, hf⟩ := ts_b hf
    try dsimp only at hf
    have hm9 : cle hh3 h' := oT_putEvent_107 _ _ _ _ hf
    have hm8 := oB1_put g3
    have hm91 := hm9.1
    have hm92 := hm9.2
    have hm81 := hm8.1
    have hm82 := hm8.2
    have hle1 := hle.1
    have hle2 := hle.2
    refine c_callAA (rest := []) (As := [.int (ze z j1 4)]) (rv := fun ea => none) (b := (qq 2)) C hl.1 hw (cB1_put_met g3) (callW_of (rm := rmA frB1_put loB1_put h hh3) (C := "MidiDesk$Bytes") 1 C.1.2.2.2.2 gw_683 gw_160 gw_161 gw_53 gw_162 kB1_put ⟨Nat.le_of_ble_eq_true rfl, Nat.le_of_ble_eq_true rfl⟩) (c_recv_B1 C.2 hw) rfl rfl (Nat.le_of_ble_eq_true rfl) dT_putEvent_104 ⟨by show _ ≤ h'.2.2.1 - h0.2.2.1; omega, by show _ ≤ h'.2.2.2 - h0.2.2.2; omega⟩ (fun ad H locs hw => ?_)
    refine W.widen (k := hh3.2.2.1 - h0.2.2.1) (n := hh3.2.2.2 - h0.2.2.2) (by omega) (by omega) ?_
    refine W.eq (g2 := F0 m 107 ls []) rfl ?_
    exact wT_putEvent_107 C hr hlk hrv _ hh3 z3 pv o1 _ _ ls (hle.tr (oB1_put g3)) (lv_sub hl [0, 1] rfl) hw hf
set_option maxHeartbeats 4000000 in
set_option maxRecDepth 100000 in
theorem wT_putEvent_66 {p : Program} {l : Launch} {e : Env} {s : State} {m : MethodId} {args : Array Value} {below : List Frame} {meth : Method} {c : Code} {g : gT} {qq ea : Nat → Nat} {A0 : Nat → Prop} {h0 : cH} {X : va_W} {rv : (Nat → Nat) → Option Value} {qp : Nat} {pv' : Nat → Int32} {h' : cH} {z' : cZ} (C : mCx p m c cT_putEvent 3 s args g "MidiDesk$Printer") (hr : meth.sig.returnType = none) (hlk : meth.locks = false) (hrv : rv = fun ea => none) (ad : Nat → Nat) (h : cH) (z : cZ) (pv : Nat → Int32) (o1 : Option Nat) (s1 : Int32) (H : Heap) (locs : List Loc) (ls : Array Slot) (hle : cle h0 h) (hl : lv_has ls 3 [(0, .ref qp), (1, va_rf (Option.map ea o1))]) (hw : cWd g A0 s.heap qq ad ea h (tcell qp qq pv :: X) z H locs) (hf : jT_putEvent_66 h z pv o1 s1 = some (h', z', pv')) : cGa p l e (rmA frT_putEvent loT_putEvent h0 h') s m args below meth c g qq A0 True ea rv (tcell qp qq pv' :: X) h' z' H locs (h.2.2.1 - h0.2.2.1) (h.2.2.2 - h0.2.2.2) (F0 m 66 ls [.int s1, .ref qp]) := by
  have hmn := oT_putEvent_66 h z pv o1 s1 hf
  have hroom : h.2.2.1 - h0.2.2.1 + 0 ≤ (rmA frT_putEvent loT_putEvent h0 h').cells ∧ h.2.2.2 - h0.2.2.2 + 0 ≤ (rmA frT_putEvent loT_putEvent h0 h').slots := ⟨by have w := hmn.1; show _ ≤ h'.2.2.1 - h0.2.2.1; omega, by have w := hmn.2; show _ ≤ h'.2.2.2 - h0.2.2.2; omega⟩
  unfold jT_putEvent_66 at hf
  refine cp_Printer_Printer_running C hw dT_putEvent_66 (fun H locs hw => ?_)
  refine c_aload_n C.1.1 C.1.2.1 dT_putEvent_69 rfl (lv_at hl 1 rfl) ?_
  obtain ⟨j1, ho1, hf⟩ := ts_b hf
  try dsimp only at hf
  obtain ⟨hb1, hf⟩ := ts_g hf
  have hb1 := Nat.lt_of_not_le hb1
  refine cg_Printer_Event_first C hw ho1 hb1 dT_putEvent_70 ?_
  refine lv_iconst (v := (-1 : Int32)) C.1.1 C.1.2.1 dT_putEvent_73 (by decide) ?_
  refine lv_icmp_eq (tgt := 88) C.1.1 C.1.2.1 dT_putEvent_74 (by decide) (fun c2 => ?_) (fun c2 => ?_)
  · have hf := ts_t hf c2
    exact wT_putEvent_88 C hr hlk hrv _ h z (upd pv 2 s1) o1 _ _ ls hle (lv_sub hl [0, 1] rfl) hw hf
  · have hf := ts_f hf c2
    refine lv_aload_n C.1.1 C.1.2.1 dT_putEvent_77 rfl (lv_at hl 0 rfl) ?_
    refine cg_Printer_Printer_output C hw dT_putEvent_78 ?_
    refine c_aload_n C.1.1 C.1.2.1 dT_putEvent_81 rfl (lv_at hl 1 rfl) ?_
    refine cg_Printer_Event_first C hw ho1 hb1 dT_putEvent_82 ?_
    obtain ⟨⟨hh3, z3⟩, g3, hf⟩ := ts_b hf
    try dsimp only at hf
    have hm9 : cle hh3 h' := oT_putEvent_88 _ _ _ _ hf
    have hm8 := oB1_put g3
    have hm91 := hm9.1
    have hm92 := hm9.2
    have hm81 := hm8.1
    have hm82 := hm8.2
    have hle1 := hle.1
    have hle2 := hle.2
    refine c_callAA (rest := []) (As := [.int (ze z j1 3)]) (rv := fun ea => none) (b := (qq 2)) C hl.1 hw (cB1_put_met g3) (callW_of (rm := rmA frB1_put loB1_put h hh3) (C := "MidiDesk$Bytes") 1 C.1.2.2.2.2 gw_683 gw_160 gw_161 gw_53 gw_162 kB1_put ⟨Nat.le_of_ble_eq_true rfl, Nat.le_of_ble_eq_true rfl⟩) (c_recv_B1 C.2 hw) rfl rfl (Nat.le_of_ble_eq_true rfl) dT_putEvent_85 ⟨by show _ ≤ h'.2.2.1 - h0.2.2.1; omega, by show _ ≤ h'.2.2.2 - h0.2.2.2; omega⟩ (fun ad H locs hw => ?_)
    refine W.widen (k := hh3.2.2.1 - h0.2.2.1) (n := hh3.2.2.2 - h0.2.2.2) (by omega) (by omega) ?_
    refine W.eq (g2 := F0 m 88 ls []) rfl ?_
    exact wT_putEvent_88 C hr hlk hrv _ hh3 z3 (upd pv 2 s1) o1 _ _ ls (hle.tr (oB1_put g3)) (lv_sub hl [0, 1] rfl) hw hf
set_option maxHeartbeats 4000000 in
set_option maxRecDepth 100000 in
theorem wT_putEvent_50 {p : Program} {l : Launch} {e : Env} {s : State} {m : MethodId} {args : Array Value} {below : List Frame} {meth : Method} {c : Code} {g : gT} {qq ea : Nat → Nat} {A0 : Nat → Prop} {h0 : cH} {X : va_W} {rv : (Nat → Nat) → Option Value} {qp : Nat} {pv' : Nat → Int32} {h' : cH} {z' : cZ} (C : mCx p m c cT_putEvent 3 s args g "MidiDesk$Printer") (hr : meth.sig.returnType = none) (hlk : meth.locks = false) (hrv : rv = fun ea => none) (ad : Nat → Nat) (h : cH) (z : cZ) (pv : Nat → Int32) (o1 : Option Nat) (H : Heap) (locs : List Loc) (ls : Array Slot) (hle : cle h0 h) (hl : lv_has ls 3 [(0, .ref qp), (1, va_rf (Option.map ea o1))]) (hw : cWd g A0 s.heap qq ad ea h (tcell qp qq pv :: X) z H locs) (hf : jT_putEvent_50 h z pv o1 = some (h', z', pv')) : cGa p l e (rmA frT_putEvent loT_putEvent h0 h') s m args below meth c g qq A0 True ea rv (tcell qp qq pv' :: X) h' z' H locs (h.2.2.1 - h0.2.2.1) (h.2.2.2 - h0.2.2.2) (F0 m 50 ls []) := by
  have hmn := oT_putEvent_50 h z pv o1 hf
  have hroom : h.2.2.1 - h0.2.2.1 + 0 ≤ (rmA frT_putEvent loT_putEvent h0 h').cells ∧ h.2.2.2 - h0.2.2.2 + 0 ≤ (rmA frT_putEvent loT_putEvent h0 h').slots := ⟨by have w := hmn.1; show _ ≤ h'.2.2.1 - h0.2.2.1; omega, by have w := hmn.2; show _ ≤ h'.2.2.2 - h0.2.2.2; omega⟩
  unfold jT_putEvent_50 at hf
  refine lv_aload_n C.1.1 C.1.2.1 dT_putEvent_50 rfl (lv_at hl 0 rfl) ?_
  refine c_aload_n C.1.1 C.1.2.1 dT_putEvent_51 rfl (lv_at hl 1 rfl) ?_
  obtain ⟨j1, ho1, hf⟩ := ts_b hf
  try dsimp only at hf
  obtain ⟨hb1, hf⟩ := ts_g hf
  have hb1 := Nat.lt_of_not_le hb1
  obtain ⟨⟨r2, z2⟩, g2, hf⟩ := ts_b hf
  try dsimp only at hf
  refine c_callV (rest := [.ref qp]) (As := []) (rv := (some (.int r2))) (b := (ea j1)) C hl.1 hw (cE_isChannelEvent_met g2) rfl (callW_of (rm := rE_isChannelEvent) (C := "MidiDesk$Event") 0 C.1.2.2.2.2 gw_699 gw_700 gw_701 gw_60 gw_702 kE_isChannelEvent ⟨Nat.le_of_ble_eq_true rfl, Nat.le_of_ble_eq_true rfl⟩) (c_recvE C.2 hb1 hw) rfl (by rw [ho1]; rfl) (Nat.le_of_ble_eq_true rfl) dT_putEvent_52 hroom (fun H locs hw => ?_)
  refine W.eq (g2 := F0 m 55 ls [.int r2, .ref qp]) rfl ?_
  refine W.widen (k := h.2.2.1 - h0.2.2.1) (n := h.2.2.2 - h0.2.2.2) (Nat.le_refl _) (Nat.le_refl _) ?_
  refine lv_if_eq (tgt := 65) C.1.1 C.1.2.1 dT_putEvent_55 (by decide) (fun c3 => ?_) (fun c3 => ?_)
  · have hf := ts_t hf c3
    refine lv_iconst (v := (-1 : Int32)) C.1.1 C.1.2.1 dT_putEvent_65 (by decide) ?_
    exact wT_putEvent_66 C hr hlk hrv _ h z2 pv o1 (-1 : Int32) _ _ ls hle (lv_sub hl [0, 1] rfl) hw hf
  · have hf := ts_f hf c3
    refine c_aload_n C.1.1 C.1.2.1 dT_putEvent_58 rfl (lv_at hl 1 rfl) ?_
    refine cg_Printer_Event_status C hw ho1 hb1 dT_putEvent_59 ?_
    refine lv_goto (tgt := 66) C.1.1 C.1.2.1 dT_putEvent_62 (by decide) ?_
    exact wT_putEvent_66 C hr hlk hrv _ h z2 pv o1 (ze z2 j1 2) _ _ ls hle (lv_sub hl [0, 1] rfl) hw hf
set_option maxHeartbeats 4000000 in
set_option maxRecDepth 100000 in
theorem wT_putEvent_39 {p : Program} {l : Launch} {e : Env} {s : State} {m : MethodId} {args : Array Value} {below : List Frame} {meth : Method} {c : Code} {g : gT} {qq ea : Nat → Nat} {A0 : Nat → Prop} {h0 : cH} {X : va_W} {rv : (Nat → Nat) → Option Value} {qp : Nat} {pv' : Nat → Int32} {h' : cH} {z' : cZ} (C : mCx p m c cT_putEvent 3 s args g "MidiDesk$Printer") (hr : meth.sig.returnType = none) (hlk : meth.locks = false) (hrv : rv = fun ea => none) (ad : Nat → Nat) (h : cH) (z : cZ) (pv : Nat → Int32) (o1 : Option Nat) (H : Heap) (locs : List Loc) (ls : Array Slot) (hle : cle h0 h) (hl : lv_has ls 3 [(0, .ref qp), (1, va_rf (Option.map ea o1))]) (hw : cWd g A0 s.heap qq ad ea h (tcell qp qq pv :: X) z H locs) (hf : jT_putEvent_39 h z pv o1 = some (h', z', pv')) : cGa p l e (rmA frT_putEvent loT_putEvent h0 h') s m args below meth c g qq A0 True ea rv (tcell qp qq pv' :: X) h' z' H locs (h.2.2.1 - h0.2.2.1) (h.2.2.2 - h0.2.2.2) (F0 m 39 ls []) := by
  have hmn := oT_putEvent_39 h z pv o1 hf
  have hroom : h.2.2.1 - h0.2.2.1 + 0 ≤ (rmA frT_putEvent loT_putEvent h0 h').cells ∧ h.2.2.2 - h0.2.2.2 + 0 ≤ (rmA frT_putEvent loT_putEvent h0 h').slots := ⟨by have w := hmn.1; show _ ≤ h'.2.2.1 - h0.2.2.1; omega, by have w := hmn.2; show _ ≤ h'.2.2.2 - h0.2.2.2; omega⟩
  unfold jT_putEvent_39 at hf
  refine lv_aload_n C.1.1 C.1.2.1 dT_putEvent_39 rfl (lv_at hl 0 rfl) ?_
  refine cg_Printer_Printer_output C hw dT_putEvent_40 ?_
  refine c_aload_n C.1.1 C.1.2.1 dT_putEvent_43 rfl (lv_at hl 1 rfl) ?_
  obtain ⟨j1, ho1, hf⟩ := ts_b hf
  try dsimp only at hf
  obtain ⟨hb1, hf⟩ := ts_g hf
  have hb1 := Nat.lt_of_not_le hb1
  refine cg_Printer_Event_status C hw ho1 hb1 dT_putEvent_44 ?_
  obtain ⟨⟨hh2, z2⟩, g2, hf⟩ := ts_b hf
  try dsimp only at hf
  have hm9 : cle hh2 h' := oT_putEvent_50 _ _ _ _ hf
  have hm8 := oB1_put g2
  have hm91 := hm9.1
  have hm92 := hm9.2
  have hm81 := hm8.1
  have hm82 := hm8.2
  have hle1 := hle.1
  have hle2 := hle.2
  refine c_callAA (rest := []) (As := [.int (ze z j1 2)]) (rv := fun ea => none) (b := (qq 2)) C hl.1 hw (cB1_put_met g2) (callW_of (rm := rmA frB1_put loB1_put h hh2) (C := "MidiDesk$Bytes") 1 C.1.2.2.2.2 gw_683 gw_160 gw_161 gw_53 gw_162 kB1_put ⟨Nat.le_of_ble_eq_true rfl, Nat.le_of_ble_eq_true rfl⟩) (c_recv_B1 C.2 hw) rfl rfl (Nat.le_of_ble_eq_true rfl) dT_putEvent_47 ⟨by show _ ≤ h'.2.2.1 - h0.2.2.1; omega, by show _ ≤ h'.2.2.2 - h0.2.2.2; omega⟩ (fun ad H locs hw => ?_)
  refine W.widen (k := hh2.2.2.1 - h0.2.2.1) (n := hh2.2.2.2 - h0.2.2.2) (by omega) (by omega) ?_
  refine W.eq (g2 := F0 m 50 ls []) rfl ?_
  exact wT_putEvent_50 C hr hlk hrv _ hh2 z2 pv o1 _ _ ls (hle.tr (oB1_put g2)) (lv_sub hl [0, 1] rfl) hw hf
set_option maxHeartbeats 4000000 in
set_option maxRecDepth 100000 in
theorem wT_putEvent_13 {p : Program} {l : Launch} {e : Env} {s : State} {m : MethodId} {args : Array Value} {below : List Frame} {meth : Method} {c : Code} {g : gT} {qq ea : Nat → Nat} {A0 : Nat → Prop} {h0 : cH} {X : va_W} {rv : (Nat → Nat) → Option Value} {qp : Nat} {pv' : Nat → Int32} {h' : cH} {z' : cZ} (C : mCx p m c cT_putEvent 3 s args g "MidiDesk$Printer") (hr : meth.sig.returnType = none) (hlk : meth.locks = false) (hrv : rv = fun ea => none) (ad : Nat → Nat) (h : cH) (z : cZ) (pv : Nat → Int32) (o1 : Option Nat) (H : Heap) (locs : List Loc) (ls : Array Slot) (hle : cle h0 h) (hl : lv_has ls 3 [(0, .ref qp), (1, va_rf (Option.map ea o1))]) (hw : cWd g A0 s.heap qq ad ea h (tcell qp qq pv :: X) z H locs) (hf : jT_putEvent_13 h z pv o1 = some (h', z', pv')) : cGa p l e (rmA frT_putEvent loT_putEvent h0 h') s m args below meth c g qq A0 True ea rv (tcell qp qq pv' :: X) h' z' H locs (h.2.2.1 - h0.2.2.1) (h.2.2.2 - h0.2.2.2) (F0 m 13 ls []) := by
  have hmn := oT_putEvent_13 h z pv o1 hf
  have hroom : h.2.2.1 - h0.2.2.1 + 0 ≤ (rmA frT_putEvent loT_putEvent h0 h').cells ∧ h.2.2.2 - h0.2.2.2 + 0 ≤ (rmA frT_putEvent loT_putEvent h0 h').slots := ⟨by have w := hmn.1; show _ ≤ h'.2.2.1 - h0.2.2.1; omega, by have w := hmn.2; show _ ≤ h'.2.2.2 - h0.2.2.2; omega⟩
  unfold jT_putEvent_13 at hf
  refine lv_aload_n C.1.1 C.1.2.1 dT_putEvent_13 rfl (lv_at hl 0 rfl) ?_
  refine c_aload_n C.1.1 C.1.2.1 dT_putEvent_14 rfl (lv_at hl 1 rfl) ?_
  obtain ⟨j1, ho1, hf⟩ := ts_b hf
  try dsimp only at hf
  obtain ⟨hb1, hf⟩ := ts_g hf
  have hb1 := Nat.lt_of_not_le hb1
  refine cg_Printer_Event_tick C hw ho1 hb1 dT_putEvent_15 ?_
  refine cp_Printer_Printer_tick C hw dT_putEvent_18 (fun H locs hw => ?_)
  refine lv_aload_n C.1.1 C.1.2.1 dT_putEvent_21 rfl (lv_at hl 0 rfl) ?_
  refine cg_Printer_Printer_brief C hw dT_putEvent_22 ?_
  refine lv_if_eq (tgt := 39) C.1.1 C.1.2.1 dT_putEvent_25 (by decide) (fun c2 => ?_) (fun c2 => ?_)
  · have hf := ts_t hf c2
    exact wT_putEvent_39 C hr hlk hrv _ h z (upd pv 1 (ze z j1 0)) o1 _ _ ls hle (lv_sub hl [0, 1] rfl) hw hf
  · have hf := ts_f hf c2
    refine c_aload_n C.1.1 C.1.2.1 dT_putEvent_28 rfl (lv_at hl 1 rfl) ?_
    refine cg_Printer_Event_status C hw ho1 hb1 dT_putEvent_29 ?_
    refine lv_aload_n C.1.1 C.1.2.1 dT_putEvent_32 rfl (lv_at hl 0 rfl) ?_
    refine cg_Printer_Printer_running C hw dT_putEvent_33 ?_
    refine lv_icmp_eq (tgt := 50) C.1.1 C.1.2.1 dT_putEvent_36 (by decide) (fun c3 => ?_) (fun c3 => ?_)
    · have hf := ts_t hf c3
      exact wT_putEvent_50 C hr hlk hrv _ h z (upd pv 1 (ze z j1 0)) o1 _ _ ls hle (lv_sub hl [0, 1] rfl) hw hf
    · have hf := ts_f hf c3
      exact wT_putEvent_39 C hr hlk hrv _ h z (upd pv 1 (ze z j1 0)) o1 _ _ ls hle (lv_sub hl [0, 1] rfl) hw hf
set_option maxHeartbeats 4000000 in
set_option maxRecDepth 100000 in
theorem cT_putEvent_met {l : Launch} {g : gT} {qq ad ea : Nat → Nat} {h h' : cH} {X : va_W} {qp : Nat} {pv pv' : Nat → Int32} {z z' : cZ} {o1 : Option Nat} (hf : fT_putEvent h z pv o1 = some (h', z', pv')) : cMeA l yT_putEvent cT_putEvent 3 none frT_putEvent loT_putEvent g qq ad ea h (tcell qp qq pv :: X) z [.ref qp, va_rf (Option.map ea o1)] True (fun ea => none) (tcell qp qq pv' :: X) h' z' := by
  refine c_entryA (by decide) (by cases o1 <;> exact Nat.le_of_ble_eq_true rfl) ?_
  intro p e s m args below meth c ls C hr hlk hnm hl hw
  have hrv : (fun ea => none : (Nat → Nat) → Option Value) = fun ea => none := rfl
  have C : mCx p m c cT_putEvent 3 s args g "MidiDesk$Printer" := C
  have hl : lv_has ls 3 [(0, .ref qp), (1, va_rf (Option.map ea o1))] := hl
  generalize cA g qq ad ea h (tcell qp qq pv :: X) s.heap.size = A0 at hw ⊢
  have hle : cle h h := cle.rf
  have hmn := oT_putEvent hf
  have hroom : h.2.2.1 - h.2.2.1 + 0 ≤ (rmA frT_putEvent loT_putEvent h h').cells ∧ h.2.2.2 - h.2.2.2 + 0 ≤ (rmA frT_putEvent loT_putEvent h h').slots := ⟨by have w := hmn.1; show _ ≤ h'.2.2.1 - h.2.2.1; omega, by have w := hmn.2; show _ ≤ h'.2.2.2 - h.2.2.2; omega⟩
  unfold fT_putEvent at hf
  refine lv_aload_n C.1.1 C.1.2.1 dT_putEvent_0 rfl (lv_at hl 0 rfl) ?_
  refine c_aload_n C.1.1 C.1.2.1 dT_putEvent_1 rfl (lv_at hl 1 rfl) ?_
  obtain ⟨j1, ho1, hf⟩ := ts_b hf
  try dsimp only at hf
  obtain ⟨hb1, hf⟩ := ts_g hf
  have hb1 := Nat.lt_of_not_le hb1
  refine cg_Printer_Event_tick C hw ho1 hb1 dT_putEvent_2 ?_
  refine lv_aload_n C.1.1 C.1.2.1 dT_putEvent_5 rfl (lv_at hl 0 rfl) ?_
  refine cg_Printer_Printer_tick C hw dT_putEvent_6 ?_
  refine lv_isub C.1.1 C.1.2.1 dT_putEvent_9 ?_
  obtain ⟨⟨hh2, z2, pv2⟩, g2, hf⟩ := ts_b hf
  try dsimp only at hf
  have hm9 : cle hh2 h' := oT_putEvent_13 _ _ _ _ hf
  have hm8 := oT_putNumber g2
  have hm91 := hm9.1
  have hm92 := hm9.2
  have hm81 := hm8.1
  have hm82 := hm8.2
  have hle1 := hle.1
  have hle2 := hle.2
  refine c_callAA (rest := []) (As := [.int ((ze z j1 0) - (pv 1))]) (rv := fun ea => none) (b := qp) C hl.1 hw (cT_putNumber_met g2) (callW_of (rm := rmA frT_putNumber loT_putNumber h hh2) (C := "MidiDesk$Printer") 1 C.1.2.2.2.2 gw_695 gw_697 gw_25 gw_66 gw_698 kT_putNumber ⟨Nat.le_of_ble_eq_true rfl, Nat.le_of_ble_eq_true rfl⟩) (c_recvX (ci := 3) C.2 rfl hw) rfl rfl (Nat.le_of_ble_eq_true rfl) dT_putEvent_10 ⟨by show _ ≤ h'.2.2.1 - h.2.2.1; omega, by show _ ≤ h'.2.2.2 - h.2.2.2; omega⟩ (fun ad H locs hw => ?_)
  refine W.widen (k := hh2.2.2.1 - h.2.2.1) (n := hh2.2.2.2 - h.2.2.2) (by omega) (by omega) ?_
  refine W.eq (g2 := F0 m 13 ls []) rfl ?_
  exact wT_putEvent_13 C hr hlk hrv _ hh2 z2 pv2 o1 _ _ ls (hle.tr (oT_putNumber g2)) (lv_sub hl [0, 1] rfl) hw hf
abbrev cT_putTrack : ByteArray := prog_5_method_3_code
abbrev yT_putTrack : MethodName := ⟨"MidiDesk$Printer", "putTrack", "(I)V"⟩
theorem kT_putTrack : yT_putTrack.cls ≠ "java/lang/invoke/MethodHandle" ∧ yT_putTrack.cls ≠ "java/lang/invoke/VarHandle" ∧ (parseMethodDescriptor yT_putTrack.desc).map (fun d => d.parameters.length) = some 1 := by decide +kernel
abbrev frT_putTrack : Nat := 5
abbrev loT_putTrack : Nat := 127
theorem dT_putTrack_0 : decode cT_putTrack 0 = .ok (.aload_n 0, 1) := by decide +kernel
theorem dT_putTrack_1 : decode cT_putTrack 1 = .ok (.iconst 0, 1) := by decide +kernel
theorem dT_putTrack_2 : decode cT_putTrack 2 = .ok (.putfield 46, 3) := by decide +kernel
theorem dT_putTrack_5 : decode cT_putTrack 5 = .ok (.aload_n 0, 1) := by decide +kernel
theorem dT_putTrack_6 : decode cT_putTrack 6 = .ok (.iconst (-1), 1) := by decide +kernel
theorem dT_putTrack_7 : decode cT_putTrack 7 = .ok (.putfield 49, 3) := by decide +kernel
theorem dT_putTrack_10 : decode cT_putTrack 10 = .ok (.aload_n 0, 1) := by decide +kernel
theorem dT_putTrack_11 : decode cT_putTrack 11 = .ok (.ldc 52, 2) := by decide +kernel
theorem dT_putTrack_13 : decode cT_putTrack 13 = .ok (.iconst 4, 1) := by decide +kernel
theorem dT_putTrack_14 : decode cT_putTrack 14 = .ok (.invokevirtual 35, 3) := by decide +kernel
theorem dT_putTrack_17 : decode cT_putTrack 17 = .ok (.aload_n 0, 1) := by decide +kernel
theorem dT_putTrack_18 : decode cT_putTrack 18 = .ok (.getfield 15, 3) := by decide +kernel
theorem dT_putTrack_21 : decode cT_putTrack 21 = .ok (.invokevirtual 53, 3) := by decide +kernel
theorem dT_putTrack_24 : decode cT_putTrack 24 = .ok (.istore_n 2, 1) := by decide +kernel
theorem dT_putTrack_25 : decode cT_putTrack 25 = .ok (.aload_n 0, 1) := by decide +kernel
theorem dT_putTrack_26 : decode cT_putTrack 26 = .ok (.iconst 0, 1) := by decide +kernel
theorem dT_putTrack_27 : decode cT_putTrack 27 = .ok (.iconst 4, 1) := by decide +kernel
theorem dT_putTrack_28 : decode cT_putTrack 28 = .ok (.invokevirtual 35, 3) := by decide +kernel
theorem dT_putTrack_31 : decode cT_putTrack 31 = .ok (.aload_n 0, 1) := by decide +kernel
theorem dT_putTrack_32 : decode cT_putTrack 32 = .ok (.getfield 15, 3) := by decide +kernel
theorem dT_putTrack_35 : decode cT_putTrack 35 = .ok (.invokevirtual 53, 3) := by decide +kernel
theorem dT_putTrack_38 : decode cT_putTrack 38 = .ok (.istore_n 3, 1) := by decide +kernel
theorem dT_putTrack_39 : decode cT_putTrack 39 = .ok (.iconst 0, 1) := by decide +kernel
theorem dT_putTrack_40 : decode cT_putTrack 40 = .ok (.istore 4, 2) := by decide +kernel
theorem dT_putTrack_42 : decode cT_putTrack 42 = .ok (.iload 4, 2) := by decide +kernel
theorem dT_putTrack_44 : decode cT_putTrack 44 = .ok (.aload_n 0, 1) := by decide +kernel
theorem dT_putTrack_45 : decode cT_putTrack 45 = .ok (.getfield 9, 3) := by decide +kernel
theorem dT_putTrack_48 : decode cT_putTrack 48 = .ok (.getfield 57, 3) := by decide +kernel
theorem dT_putTrack_51 : decode cT_putTrack 51 = .ok (.if_icmp .ge 45, 3) := by decide +kernel
theorem dT_putTrack_54 : decode cT_putTrack 54 = .ok (.aload_n 0, 1) := by decide +kernel
theorem dT_putTrack_55 : decode cT_putTrack 55 = .ok (.getfield 9, 3) := by decide +kernel
theorem dT_putTrack_58 : decode cT_putTrack 58 = .ok (.iload 4, 2) := by decide +kernel
theorem dT_putTrack_60 : decode cT_putTrack 60 = .ok (.invokevirtual 59, 3) := by decide +kernel
theorem dT_putTrack_63 : decode cT_putTrack 63 = .ok (.astore 5, 2) := by decide +kernel
theorem dT_putTrack_65 : decode cT_putTrack 65 = .ok (.aload 5, 2) := by decide +kernel
theorem dT_putTrack_67 : decode cT_putTrack 67 = .ok (.ifnull 23, 3) := by decide +kernel
theorem dT_putTrack_70 : decode cT_putTrack 70 = .ok (.iload_n 1, 1) := by decide +kernel
theorem dT_putTrack_71 : decode cT_putTrack 71 = .ok (.iconst (-1), 1) := by decide +kernel
theorem dT_putTrack_72 : decode cT_putTrack 72 = .ok (.if_icmp .eq 12, 3) := by decide +kernel
theorem dT_putTrack_75 : decode cT_putTrack 75 = .ok (.aload 5, 2) := by decide +kernel
theorem dT_putTrack_77 : decode cT_putTrack 77 = .ok (.getfield 63, 3) := by decide +kernel
theorem dT_putTrack_80 : decode cT_putTrack 80 = .ok (.iload_n 1, 1) := by decide +kernel
theorem dT_putTrack_81 : decode cT_putTrack 81 = .ok (.if_icmp .ne 9, 3) := by decide +kernel
theorem dT_putTrack_84 : decode cT_putTrack 84 = .ok (.aload_n 0, 1) := by decide +kernel
theorem dT_putTrack_85 : decode cT_putTrack 85 = .ok (.aload 5, 2) := by decide +kernel
theorem dT_putTrack_87 : decode cT_putTrack 87 = .ok (.invokevirtual 68, 3) := by decide +kernel
theorem dT_putTrack_90 : decode cT_putTrack 90 = .ok (.iinc 4 1, 3) := by decide +kernel
theorem dT_putTrack_93 : decode cT_putTrack 93 = .ok (.goto (-51), 3) := by decide +kernel
theorem dT_putTrack_96 : decode cT_putTrack 96 = .ok (.aload_n 0, 1) := by decide +kernel
theorem dT_putTrack_97 : decode cT_putTrack 97 = .ok (.iconst 0, 1) := by decide +kernel
theorem dT_putTrack_98 : decode cT_putTrack 98 = .ok (.invokevirtual 72, 3) := by decide +kernel
theorem dT_putTrack_101 : decode cT_putTrack 101 = .ok (.aload_n 0, 1) := by decide +kernel
theorem dT_putTrack_102 : decode cT_putTrack 102 = .ok (.getfield 15, 3) := by decide +kernel
theorem dT_putTrack_105 : decode cT_putTrack 105 = .ok (.sipush 255, 3) := by decide +kernel
theorem dT_putTrack_108 : decode cT_putTrack 108 = .ok (.invokevirtual 75, 3) := by decide +kernel
theorem dT_putTrack_111 : decode cT_putTrack 111 = .ok (.aload_n 0, 1) := by decide +kernel
theorem dT_putTrack_112 : decode cT_putTrack 112 = .ok (.getfield 15, 3) := by decide +kernel
theorem dT_putTrack_115 : decode cT_putTrack 115 = .ok (.bipush 47, 2) := by decide +kernel
theorem dT_putTrack_117 : decode cT_putTrack 117 = .ok (.invokevirtual 75, 3) := by decide +kernel
theorem dT_putTrack_120 : decode cT_putTrack 120 = .ok (.aload_n 0, 1) := by decide +kernel
theorem dT_putTrack_121 : decode cT_putTrack 121 = .ok (.iconst 0, 1) := by decide +kernel
theorem dT_putTrack_122 : decode cT_putTrack 122 = .ok (.invokevirtual 72, 3) := by decide +kernel
theorem dT_putTrack_125 : decode cT_putTrack 125 = .ok (.aload_n 0, 1) := by decide +kernel
theorem dT_putTrack_126 : decode cT_putTrack 126 = .ok (.getfield 15, 3) := by decide +kernel
theorem dT_putTrack_129 : decode cT_putTrack 129 = .ok (.invokevirtual 53, 3) := by decide +kernel
theorem dT_putTrack_132 : decode cT_putTrack 132 = .ok (.iload_n 3, 1) := by decide +kernel
theorem dT_putTrack_133 : decode cT_putTrack 133 = .ok (.isub, 1) := by decide +kernel
theorem dT_putTrack_134 : decode cT_putTrack 134 = .ok (.istore 4, 2) := by decide +kernel
theorem dT_putTrack_136 : decode cT_putTrack 136 = .ok (.aload_n 0, 1) := by decide +kernel
theorem dT_putTrack_137 : decode cT_putTrack 137 = .ok (.getfield 15, 3) := by decide +kernel
theorem dT_putTrack_140 : decode cT_putTrack 140 = .ok (.iload_n 2, 1) := by decide +kernel
theorem dT_putTrack_141 : decode cT_putTrack 141 = .ok (.iconst 2, 1) := by decide +kernel
theorem dT_putTrack_142 : decode cT_putTrack 142 = .ok (.iadd, 1) := by decide +kernel
theorem dT_putTrack_143 : decode cT_putTrack 143 = .ok (.iload 4, 2) := by decide +kernel
theorem dT_putTrack_145 : decode cT_putTrack 145 = .ok (.bipush 8, 2) := by decide +kernel
theorem dT_putTrack_147 : decode cT_putTrack 147 = .ok (.ishr, 1) := by decide +kernel
theorem dT_putTrack_148 : decode cT_putTrack 148 = .ok (.invokevirtual 78, 3) := by decide +kernel
theorem dT_putTrack_151 : decode cT_putTrack 151 = .ok (.aload_n 0, 1) := by decide +kernel
theorem dT_putTrack_152 : decode cT_putTrack 152 = .ok (.getfield 15, 3) := by decide +kernel
theorem dT_putTrack_155 : decode cT_putTrack 155 = .ok (.iload_n 2, 1) := by decide +kernel
theorem dT_putTrack_156 : decode cT_putTrack 156 = .ok (.iconst 3, 1) := by decide +kernel
theorem dT_putTrack_157 : decode cT_putTrack 157 = .ok (.iadd, 1) := by decide +kernel
theorem dT_putTrack_158 : decode cT_putTrack 158 = .ok (.iload 4, 2) := by decide +kernel
theorem dT_putTrack_160 : decode cT_putTrack 160 = .ok (.invokevirtual 78, 3) := by decide +kernel
theorem dT_putTrack_163 : decode cT_putTrack 163 = .ok (.return_, 1) := by decide +kernel
def jT_putTrack_90 (K42 : cH → cZ → (Nat → Int32) → Int32 → Int32 → Int32 → Int32 → Option (cH × cZ × (Nat → Int32))) (h : cH) (z : cZ) (pv : Nat → Int32) (x1 : Int32) (x2 : Int32) (x3 : Int32) (x4 : Int32) : Option (cH × cZ × (Nat → Int32)) := K42 h z pv x1 x2 x3 (x4 + 1)
set_option maxHeartbeats 4000000 in
set_option maxRecDepth 100000 in
theorem oT_putTrack_90 {h' : cH} {z' : cZ} {pv' : Nat → Int32} {K42 : cH → cZ → (Nat → Int32) → Int32 → Int32 → Int32 → Int32 → Option (cH × cZ × (Nat → Int32))} (hK42 : ∀ (h : cH) (z : cZ) (pv : Nat → Int32) (x1 : Int32) (x2 : Int32) (x3 : Int32) (x4 : Int32), K42 h z pv x1 x2 x3 x4 = some (h', z', pv') → cle h h') (h : cH) (z : cZ) (pv : Nat → Int32) (x1 : Int32) (x2 : Int32) (x3 : Int32) (x4 : Int32) (hf : jT_putTrack_90 K42 h z pv x1 x2 x3 x4 = some (h', z', pv')) : cle h h' := by
  unfold jT_putTrack_90 at hf
  exact hK42 h z pv x1 x2 x3 (x4 + 1) hf
def jT_putTrack_84 (K42 : cH → cZ → (Nat → Int32) → Int32 → Int32 → Int32 → Int32 → Option (cH × cZ × (Nat → Int32))) (h : cH) (z : cZ) (pv : Nat → Int32) (x1 : Int32) (x2 : Int32) (x3 : Int32) (x4 : Int32) (o5 : Option Nat) : Option (cH × cZ × (Nat → Int32)) := (fT_putEvent h z pv o5).bind fun (hh1, z1, pv1) => jT_putTrack_90 K42 hh1 z1 pv1 x1 x2 x3 x4
set_option maxHeartbeats 4000000 in
set_option maxRecDepth 100000 in
theorem oT_putTrack_84 {h' : cH} {z' : cZ} {pv' : Nat → Int32} {K42 : cH → cZ → (Nat → Int32) → Int32 → Int32 → Int32 → Int32 → Option (cH × cZ × (Nat → Int32))} (hK42 : ∀ (h : cH) (z : cZ) (pv : Nat → Int32) (x1 : Int32) (x2 : Int32) (x3 : Int32) (x4 : Int32), K42 h z pv x1 x2 x3 x4 = some (h', z', pv') → cle h h') (h : cH) (z : cZ) (pv : Nat → Int32) (x1 : Int32) (x2 : Int32) (x3 : Int32) (x4 : Int32) (o5 : Option Nat) (hf : jT_putTrack_84 K42 h z pv x1 x2 x3 x4 o5 = some (h', z', pv')) : cle h h' := by
  unfold jT_putTrack_84 at hf
  obtain ⟨⟨hh1, z1, pv1⟩, g1, hf⟩ := ts_b hf
  try dsimp only at hf
  exact cle.tr (oT_putEvent g1) (oT_putTrack_90 hK42 hh1 z1 pv1 x1 x2 x3 x4 hf)
def jT_putTrack_125 (h : cH) (z : cZ) (pv : Nat → Int32) (x2 : Int32) (x3 : Int32) : Option (cH × cZ × (Nat → Int32)) := (fB1_size h z).bind fun (r1, z1) => (fB1_change h z1 (x2 + (2 : Int32)) ((r1 - x3) >>> ((8 : Int32) &&& 31))).bind fun z2 => (fB1_change h z2 (x2 + (3 : Int32)) (r1 - x3)).bind fun z3 => some (h, z3, pv)
set_option maxHeartbeats 4000000 in
set_option maxRecDepth 100000 in
theorem oT_putTrack_125 {h' : cH} {z' : cZ} {pv' : Nat → Int32} (h : cH) (z : cZ) (pv : Nat → Int32) (x2 : Int32) (x3 : Int32) (hf : jT_putTrack_125 h z pv x2 x3 = some (h', z', pv')) : cle h h' := by
  unfold jT_putTrack_125 at hf
  obtain ⟨⟨r1, z1⟩, g1, hf⟩ := ts_b hf
  try dsimp only at hf
  obtain ⟨z2, g2, hf⟩ := ts_b hf
  try dsimp only at hf
  obtain ⟨z3, g3, hf⟩ := ts_b hf
  try dsimp only at hf
  cases hf
  exact cle.rf
def jT_putTrack_120 (h : cH) (z : cZ) (pv : Nat → Int32) (x2 : Int32) (x3 : Int32) : Option (cH × cZ × (Nat → Int32)) := (fT_putNumber h z pv (0 : Int32)).bind fun (hh1, z1, pv1) => jT_putTrack_125 hh1 z1 pv1 x2 x3
set_option maxHeartbeats 4000000 in
set_option maxRecDepth 100000 in
theorem oT_putTrack_120 {h' : cH} {z' : cZ} {pv' : Nat → Int32} (h : cH) (z : cZ) (pv : Nat → Int32) (x2 : Int32) (x3 : Int32) (hf : jT_putTrack_120 h z pv x2 x3 = some (h', z', pv')) : cle h h' := by
  unfold jT_putTrack_120 at hf
  obtain ⟨⟨hh1, z1, pv1⟩, g1, hf⟩ := ts_b hf
  try dsimp only at hf
  exact cle.tr (oT_putNumber g1) (oT_putTrack_125 hh1 z1 pv1 x2 x3 hf)
def jT_putTrack_111 (h : cH) (z : cZ) (pv : Nat → Int32) (x2 : Int32) (x3 : Int32) : Option (cH × cZ × (Nat → Int32)) := (fB1_put h z (47 : Int32)).bind fun (hh1, z1) => jT_putTrack_120 hh1 z1 pv x2 x3
set_option maxHeartbeats 4000000 in
set_option maxRecDepth 100000 in
theorem oT_putTrack_111 {h' : cH} {z' : cZ} {pv' : Nat → Int32} (h : cH) (z : cZ) (pv : Nat → Int32) (x2 : Int32) (x3 : Int32) (hf : jT_putTrack_111 h z pv x2 x3 = some (h', z', pv')) : cle h h' := by
  unfold jT_putTrack_111 at hf
  obtain ⟨⟨hh1, z1⟩, g1, hf⟩ := ts_b hf
  try dsimp only at hf
  exact cle.tr (oB1_put g1) (oT_putTrack_120 hh1 z1 pv x2 x3 hf)
def jT_putTrack_101 (h : cH) (z : cZ) (pv : Nat → Int32) (x2 : Int32) (x3 : Int32) : Option (cH × cZ × (Nat → Int32)) := (fB1_put h z (255 : Int32)).bind fun (hh1, z1) => jT_putTrack_111 hh1 z1 pv x2 x3
set_option maxHeartbeats 4000000 in
set_option maxRecDepth 100000 in
theorem oT_putTrack_101 {h' : cH} {z' : cZ} {pv' : Nat → Int32} (h : cH) (z : cZ) (pv : Nat → Int32) (x2 : Int32) (x3 : Int32) (hf : jT_putTrack_101 h z pv x2 x3 = some (h', z', pv')) : cle h h' := by
  unfold jT_putTrack_101 at hf
  obtain ⟨⟨hh1, z1⟩, g1, hf⟩ := ts_b hf
  try dsimp only at hf
  exact cle.tr (oB1_put g1) (oT_putTrack_111 hh1 z1 pv x2 x3 hf)
def lT_putTrack_42 : Nat → cH → cZ → (Nat → Int32) → Int32 → Int32 → Int32 → Int32 → Option (cH × cZ × (Nat → Int32))
  | 0 => fun _ _ _ _ _ _ _ => none
  | k + 1 => fun h z pv x1 x2 x3 x4 => if (zi z 7) ≤ x4 then ((fT_putNumber h z pv (0 : Int32)).bind fun (hh2, z2, pv2) => jT_putTrack_101 hh2 z2 pv2 x2 x3) else ((fS_at h z x4).bind fun (r3, z3) => if r3 = none then (jT_putTrack_90 (lT_putTrack_42 k) h z3 pv x1 x2 x3 x4) else (if x1 = (-1 : Int32) then (jT_putTrack_84 (lT_putTrack_42 k) h z3 pv x1 x2 x3 x4 r3) else ((r3).bind fun j6 => if h.2.1 ≤ j6 then none else (if (ze z3 j6 1) = x1 then (jT_putTrack_84 (lT_putTrack_42 k) h z3 pv x1 x2 x3 x4 r3) else (jT_putTrack_90 (lT_putTrack_42 k) h z3 pv x1 x2 x3 x4)))))
set_option maxHeartbeats 4000000 in
set_option maxRecDepth 100000 in
theorem oT_putTrack_42 {h' : cH} {z' : cZ} {pv' : Nat → Int32} (k : Nat) : ∀ (h : cH) (z : cZ) (pv : Nat → Int32) (x1 : Int32) (x2 : Int32) (x3 : Int32) (x4 : Int32), lT_putTrack_42 k h z pv x1 x2 x3 x4 = some (h', z', pv') → cle h h' := by
  induction k with
  | zero => intro h z pv x1 x2 x3 x4 hf; cases hf
  | succ k ih =>
    intro h z pv x1 x2 x3 x4 hf
    have hf : (if (zi z 7) ≤ x4 then ((fT_putNumber h z pv (0 : Int32)).bind fun (hh2, z2, pv2) => jT_putTrack_101 hh2 z2 pv2 x2 x3) else ((fS_at h z x4).bind fun (r3, z3) => if r3 = none then (jT_putTrack_90 (lT_putTrack_42 k) h z3 pv x1 x2 x3 x4) else (if x1 = (-1 : Int32) then (jT_putTrack_84 (lT_putTrack_42 k) h z3 pv x1 x2 x3 x4 r3) else ((r3).bind fun j6 => if h.2.1 ≤ j6 then none else (if (ze z3 j6 1) = x1 then (jT_putTrack_84 (lT_putTrack_42 k) h z3 pv x1 x2 x3 x4 r3) else (jT_putTrack_90 (lT_putTrack_42 k) h z3 pv x1 x2 x3 x4)))))) = some (h', z', pv') := hf
    rcases Decidable.em ((zi z 7) ≤ x4) with c1 | c1
    · have hf := ts_t hf c1
      obtain ⟨⟨hh2, z2, pv2⟩, g2, hf⟩ := ts_b hf
      try dsimp only at hf
      exact cle.tr (oT_putNumber g2) (oT_putTrack_101 hh2 z2 pv2 x2 x3 hf)
    · have hf := ts_f hf c1
      obtain ⟨⟨r3, z3⟩, g3, hf⟩ := ts_b hf
      try dsimp only at hf
      rcases Decidable.em (r3 = none) with c4 | c4
      · have hf := ts_t hf c4
        exact oT_putTrack_90 ih h z3 pv x1 x2 x3 x4 hf
      · have hf := ts_f hf c4
        rcases Decidable.em (x1 = (-1 : Int32)) with c5 | c5
        · have hf := ts_t hf c5
          exact oT_putTrack_84 ih h z3 pv x1 x2 x3 x4 r3 hf
        · have hf := ts_f hf c5
          obtain ⟨j6, ho6, hf⟩ := ts_b hf
          try dsimp only at hf
          obtain ⟨hb6, hf⟩ := ts_g hf
          have hb6 := Nat.lt_of_not_le hb6
          rcases (Decidable.em ((ze z3 j6 1) = x1)).symm with c7 | c7
          · have hf := ts_f hf c7
            exact oT_putTrack_90 ih h z3 pv x1 x2 x3 x4 hf
          · have hf := ts_t hf c7
            exact oT_putTrack_84 ih h z3 pv x1 x2 x3 x4 r3 hf
def jT_putTrack_31 (h : cH) (z : cZ) (pv : Nat → Int32) (x1 : Int32) (x2 : Int32) : Option (cH × cZ × (Nat → Int32)) := (fB1_size h z).bind fun (r1, z1) => lT_putTrack_42 FU h z1 pv x1 x2 r1 (0 : Int32)
set_option maxHeartbeats 4000000 in
set_option maxRecDepth 100000 in
theorem oT_putTrack_31 {h' : cH} {z' : cZ} {pv' : Nat → Int32} (h : cH) (z : cZ) (pv : Nat → Int32) (x1 : Int32) (x2 : Int32) (hf : jT_putTrack_31 h z pv x1 x2 = some (h', z', pv')) : cle h h' := by
  unfold jT_putTrack_31 at hf
  obtain ⟨⟨r1, z1⟩, g1, hf⟩ := ts_b hf
  try dsimp only at hf
  exact oT_putTrack_42 FU h z1 pv x1 x2 r1 (0 : Int32) hf
def jT_putTrack_17 (h : cH) (z : cZ) (pv : Nat → Int32) (x1 : Int32) : Option (cH × cZ × (Nat → Int32)) := (fB1_size h z).bind fun (r1, z1) => (fT_putFixed h z1 pv (0 : Int32) (4 : Int32)).bind fun (hh2, z2, pv2) => jT_putTrack_31 hh2 z2 pv2 x1 r1
set_option maxHeartbeats 4000000 in
set_option maxRecDepth 100000 in
theorem oT_putTrack_17 {h' : cH} {z' : cZ} {pv' : Nat → Int32} (h : cH) (z : cZ) (pv : Nat → Int32) (x1 : Int32) (hf : jT_putTrack_17 h z pv x1 = some (h', z', pv')) : cle h h' := by
  unfold jT_putTrack_17 at hf
  obtain ⟨⟨r1, z1⟩, g1, hf⟩ := ts_b hf
  try dsimp only at hf
  obtain ⟨⟨hh2, z2, pv2⟩, g2, hf⟩ := ts_b hf
  try dsimp only at hf
  exact cle.tr (oT_putFixed g2) (oT_putTrack_31 hh2 z2 pv2 x1 r1 hf)
def fT_putTrack (h : cH) (z : cZ) (pv : Nat → Int32) (x1 : Int32) : Option (cH × cZ × (Nat → Int32)) := (fT_putFixed h z (upd (upd pv 1 (0 : Int32)) 2 (-1 : Int32)) (1297379947 : Int32) (4 : Int32)).bind fun (hh1, z1, pv1) => jT_putTrack_17 hh1 z1 pv1 x1
set_option maxHeartbeats 4000000 in
set_option maxRecDepth 100000 in
theorem oT_putTrack {h' : cH} {z' : cZ} {pv' : Nat → Int32} {h : cH} {z : cZ} {pv : Nat → Int32} {x1 : Int32} (hf : fT_putTrack h z pv x1 = some (h', z', pv')) : cle h h' := by
  unfold fT_putTrack at hf
  obtain ⟨⟨hh1, z1, pv1⟩, g1, hf⟩ := ts_b hf
  try dsimp only at hf
  exact cle.tr (oT_putFixed g1) (oT_putTrack_17 hh1 z1 pv1 x1 hf)
set_option maxHeartbeats 4000000 in
set_option maxRecDepth 100000 in
theorem wT_putTrack_90 {p : Program} {l : Launch} {e : Env} {s : State} {m : MethodId} {args : Array Value} {below : List Frame} {meth : Method} {c : Code} {g : gT} {qq ea : Nat → Nat} {A0 : Nat → Prop} {h0 : cH} {X : va_W} {rv : (Nat → Nat) → Option Value} {qp : Nat} {pv' : Nat → Int32} {h' : cH} {z' : cZ} (C : mCx p m c cT_putTrack 6 s args g "MidiDesk$Printer") (hr : meth.sig.returnType = none) (hlk : meth.locks = false) (hrv : rv = fun ea => none) {K42 : cH → cZ → (Nat → Int32) → Int32 → Int32 → Int32 → Int32 → Option (cH × cZ × (Nat → Int32))} (hK42 : ∀ (ad : Nat → Nat) (h : cH) (z : cZ) (pv : Nat → Int32) (x1 : Int32) (x2 : Int32) (x3 : Int32) (x4 : Int32) (H : Heap) (locs : List Loc) (ls : Array Slot), cle h0 h → lv_has ls 6 [(0, .ref qp), (1, .int x1), (2, .int x2), (3, .int x3), (4, .int x4)] → cWd g A0 s.heap qq ad ea h (tcell qp qq pv :: X) z H locs → K42 h z pv x1 x2 x3 x4 = some (h', z', pv') → cGa p l e (rmA frT_putTrack loT_putTrack h0 h') s m args below meth c g qq A0 True ea rv (tcell qp qq pv' :: X) h' z' H locs (h.2.2.1 - h0.2.2.1) (h.2.2.2 - h0.2.2.2) (F0 m 42 ls [])) (hM42 : ∀ (h : cH) (z : cZ) (pv : Nat → Int32) (x1 : Int32) (x2 : Int32) (x3 : Int32) (x4 : Int32), K42 h z pv x1 x2 x3 x4 = some (h', z', pv') → cle h h') (ad : Nat → Nat) (h : cH) (z : cZ) (pv : Nat → Int32) (x1 : Int32) (x2 : Int32) (x3 : Int32) (x4 : Int32) (H : Heap) (locs : List Loc) (ls : Array Slot) (hle : cle h0 h) (hl : lv_has ls 6 [(0, .ref qp), (1, .int x1), (2, .int x2), (3, .int x3), (4, .int x4)]) (hw : cWd g A0 s.heap qq ad ea h (tcell qp qq pv :: X) z H locs) (hf : jT_putTrack_90 K42 h z pv x1 x2 x3 x4 = some (h', z', pv')) : cGa p l e (rmA frT_putTrack loT_putTrack h0 h') s m args below meth c g qq A0 True ea rv (tcell qp qq pv' :: X) h' z' H locs (h.2.2.1 - h0.2.2.1) (h.2.2.2 - h0.2.2.2) (F0 m 90 ls []) := by
  have hmn := oT_putTrack_90 hM42 h z pv x1 x2 x3 x4 hf
  have hroom : h.2.2.1 - h0.2.2.1 + 0 ≤ (rmA frT_putTrack loT_putTrack h0 h').cells ∧ h.2.2.2 - h0.2.2.2 + 0 ≤ (rmA frT_putTrack loT_putTrack h0 h').slots := ⟨by have w := hmn.1; show _ ≤ h'.2.2.1 - h0.2.2.1; omega, by have w := hmn.2; show _ ≤ h'.2.2.2 - h0.2.2.2; omega⟩
  unfold jT_putTrack_90 at hf
  refine lv_iinc (v := x4 + 1) (lv' := [(4, .int (x4 + 1)), (0, .ref qp), (1, .int x1), (2, .int x2), (3, .int x3)]) C.1.1 C.1.2.1 dT_putTrack_90 hl (k := 4) rfl rfl (by decide) rfl (fun ls hl => ?_)
  refine lv_goto (tgt := 42) C.1.1 C.1.2.1 dT_putTrack_93 (by decide) ?_
  exact hK42 _ h z pv x1 x2 x3 (x4 + 1) _ _ ls hle (lv_sub hl [1, 2, 3, 4, 0] rfl) hw hf
set_option maxHeartbeats 4000000 in
set_option maxRecDepth 100000 in
theorem wT_putTrack_84 {p : Program} {l : Launch} {e : Env} {s : State} {m : MethodId} {args : Array Value} {below : List Frame} {meth : Method} {c : Code} {g : gT} {qq ea : Nat → Nat} {A0 : Nat → Prop} {h0 : cH} {X : va_W} {rv : (Nat → Nat) → Option Value} {qp : Nat} {pv' : Nat → Int32} {h' : cH} {z' : cZ} (C : mCx p m c cT_putTrack 6 s args g "MidiDesk$Printer") (hr : meth.sig.returnType = none) (hlk : meth.locks = false) (hrv : rv = fun ea => none) {K42 : cH → cZ → (Nat → Int32) → Int32 → Int32 → Int32 → Int32 → Option (cH × cZ × (Nat → Int32))} (hK42 : ∀ (ad : Nat → Nat) (h : cH) (z : cZ) (pv : Nat → Int32) (x1 : Int32) (x2 : Int32) (x3 : Int32) (x4 : Int32) (H : Heap) (locs : List Loc) (ls : Array Slot), cle h0 h → lv_has ls 6 [(0, .ref qp), (1, .int x1), (2, .int x2), (3, .int x3), (4, .int x4)] → cWd g A0 s.heap qq ad ea h (tcell qp qq pv :: X) z H locs → K42 h z pv x1 x2 x3 x4 = some (h', z', pv') → cGa p l e (rmA frT_putTrack loT_putTrack h0 h') s m args below meth c g qq A0 True ea rv (tcell qp qq pv' :: X) h' z' H locs (h.2.2.1 - h0.2.2.1) (h.2.2.2 - h0.2.2.2) (F0 m 42 ls [])) (hM42 : ∀ (h : cH) (z : cZ) (pv : Nat → Int32) (x1 : Int32) (x2 : Int32) (x3 : Int32) (x4 : Int32), K42 h z pv x1 x2 x3 x4 = some (h', z', pv') → cle h h') (ad : Nat → Nat) (h : cH) (z : cZ) (pv : Nat → Int32) (x1 : Int32) (x2 : Int32) (x3 : Int32) (x4 : Int32) (o5 : Option Nat) (H : Heap) (locs : List Loc) (ls : Array Slot) (hle : cle h0 h) (hl : lv_has ls 6 [(0, .ref qp), (1, .int x1), (2, .int x2), (3, .int x3), (4, .int x4), (5, va_rf (Option.map ea o5))]) (hw : cWd g A0 s.heap qq ad ea h (tcell qp qq pv :: X) z H locs) (hf : jT_putTrack_84 K42 h z pv x1 x2 x3 x4 o5 = some (h', z', pv')) : cGa p l e (rmA frT_putTrack loT_putTrack h0 h') s m args below meth c g qq A0 True ea rv (tcell qp qq pv' :: X) h' z' H locs (h.2.2.1 - h0.2.2.1) (h.2.2.2 - h0.2.2.2) (F0 m 84 ls []) := by
  have hmn := oT_putTrack_84 hM42 h z pv x1 x2 x3 x4 o5 hf
  have hroom : h.2.2.1 - h0.2.2.1 + 0 ≤ (rmA frT_putTrack loT_putTrack h0 h').cells ∧ h.2.2.2 - h0.2.2.2 + 0 ≤ (rmA frT_putTrack loT_putTrack h0 h').slots := ⟨by have w := hmn.1; show _ ≤ h'.2.2.1 - h0.2.2.1; omega, by have w := hmn.2; show _ ≤ h'.2.2.2 - h0.2.2.2; omega⟩
  unfold jT_putTrack_84 at hf
  refine lv_aload_n C.1.1 C.1.2.1 dT_putTrack_84 rfl (lv_at hl 0 rfl) ?_
  refine c_aload C.1.1 C.1.2.1 dT_putTrack_85 (lv_at hl 5 rfl) ?_
  obtain ⟨⟨hh1, z1, pv1⟩, g1, hf⟩ := ts_b hf
  try dsimp only at hf
  have hm9 : cle hh1 h' := oT_putTrack_90 hM42 _ _ _ _ _ _ _ hf
  have hm8 := oT_putEvent g1
  have hm91 := hm9.1
  have hm92 := hm9.2
  have hm81 := hm8.1
  have hm82 := hm8.2
  have hle1 := hle.1
  have hle2 := hle.2
  refine c_callAA (rest := []) (As := [va_rf (Option.map ea o5)]) (rv := fun ea => none) (b := qp) C hl.1 hw (cT_putEvent_met g1) (callW_of (rm := rmA frT_putEvent loT_putEvent h hh1) (C := "MidiDesk$Printer") 1 C.1.2.2.2.2 gw_691 gw_693 gw_24 gw_66 gw_694 kT_putEvent ⟨Nat.le_of_ble_eq_true rfl, Nat.le_of_ble_eq_true rfl⟩) (c_recvX (ci := 3) C.2 rfl hw) rfl rfl (Nat.le_of_ble_eq_true rfl) dT_putTrack_87 ⟨by show _ ≤ h'.2.2.1 - h0.2.2.1; omega, by show _ ≤ h'.2.2.2 - h0.2.2.2; omega⟩ (fun ad H locs hw => ?_)
  refine W.widen (k := hh1.2.2.1 - h0.2.2.1) (n := hh1.2.2.2 - h0.2.2.2) (by omega) (by omega) ?_
  refine W.eq (g2 := F0 m 90 ls []) rfl ?_
  exact wT_putTrack_90 C hr hlk hrv hK42 hM42 _ hh1 z1 pv1 x1 x2 x3 x4 _ _ ls (hle.tr (oT_putEvent g1)) (lv_sub hl [0, 1, 2, 3, 4] rfl) hw hf
set_option maxHeartbeats 4000000 in
set_option maxRecDepth 100000 in
theorem wT_putTrack_125 {p : Program} {l : Launch} {e : Env} {s : State} {m : MethodId} {args : Array Value} {below : List Frame} {meth : Method} {c : Code} {g : gT} {qq ea : Nat → Nat} {A0 : Nat → Prop} {h0 : cH} {X : va_W} {rv : (Nat → Nat) → Option Value} {qp : Nat} {pv' : Nat → Int32} {h' : cH} {z' : cZ} (C : mCx p m c cT_putTrack 6 s args g "MidiDesk$Printer") (hr : meth.sig.returnType = none) (hlk : meth.locks = false) (hrv : rv = fun ea => none) (ad : Nat → Nat) (h : cH) (z : cZ) (pv : Nat → Int32) (x2 : Int32) (x3 : Int32) (H : Heap) (locs : List Loc) (ls : Array Slot) (hle : cle h0 h) (hl : lv_has ls 6 [(0, .ref qp), (2, .int x2), (3, .int x3)]) (hw : cWd g A0 s.heap qq ad ea h (tcell qp qq pv :: X) z H locs) (hf : jT_putTrack_125 h z pv x2 x3 = some (h', z', pv')) : cGa p l e (rmA frT_putTrack loT_putTrack h0 h') s m args below meth c g qq A0 True ea rv (tcell qp qq pv' :: X) h' z' H locs (h.2.2.1 - h0.2.2.1) (h.2.2.2 - h0.2.2.2) (F0 m 125 ls []) := by
  have hmn := oT_putTrack_125 h z pv x2 x3 hf
  have hroom : h.2.2.1 - h0.2.2.1 + 0 ≤ (rmA frT_putTrack loT_putTrack h0 h').cells ∧ h.2.2.2 - h0.2.2.2 + 0 ≤ (rmA frT_putTrack loT_putTrack h0 h').slots := ⟨by have w := hmn.1; show _ ≤ h'.2.2.1 - h0.2.2.1; omega, by have w := hmn.2; show _ ≤ h'.2.2.2 - h0.2.2.2; omega⟩
  unfold jT_putTrack_125 at hf
  refine lv_aload_n C.1.1 C.1.2.1 dT_putTrack_125 rfl (lv_at hl 0 rfl) ?_
  refine cg_Printer_Printer_output C hw dT_putTrack_126 ?_
  obtain ⟨⟨r1, z1⟩, g1, hf⟩ := ts_b hf
  try dsimp only at hf
  refine c_callV (rest := []) (As := []) (rv := (some (.int r1))) (b := (qq 2)) C hl.1 hw (cB1_size_met g1) rfl (callW_of (rm := rB1_size) (C := "MidiDesk$Bytes") 0 C.1.2.2.2.2 gw_689 gw_156 gw_157 gw_53 gw_158 kB1_size ⟨Nat.le_of_ble_eq_true rfl, Nat.le_of_ble_eq_true rfl⟩) (c_recv_B1 C.2 hw) rfl rfl (Nat.le_of_ble_eq_true rfl) dT_putTrack_129 hroom (fun H locs hw => ?_)
  refine W.eq (g2 := F0 m 132 ls [.int r1]) rfl ?_
  refine W.widen (k := h.2.2.1 - h0.2.2.1) (n := h.2.2.2 - h0.2.2.2) (Nat.le_refl _) (Nat.le_refl _) ?_
  refine lv_iload_n C.1.1 C.1.2.1 dT_putTrack_132 rfl (lv_at hl 2 rfl) ?_
  refine lv_isub C.1.1 C.1.2.1 dT_putTrack_133 ?_
  refine lv_istore (lv' := [(4, .int (r1 - x3)), (0, .ref qp), (2, .int x2), (3, .int x3)]) C.1.1 C.1.2.1 dT_putTrack_134 hl (by decide) rfl (fun ls hl => ?_)
  refine lv_aload_n C.1.1 C.1.2.1 dT_putTrack_136 rfl (lv_at hl 1 rfl) ?_
  refine cg_Printer_Printer_output C hw dT_putTrack_137 ?_
  refine lv_iload_n C.1.1 C.1.2.1 dT_putTrack_140 rfl (lv_at hl 2 rfl) ?_
  refine lv_iconst (v := (2 : Int32)) C.1.1 C.1.2.1 dT_putTrack_141 (by decide) ?_
  refine lv_iadd C.1.1 C.1.2.1 dT_putTrack_142 ?_
  refine lv_iload C.1.1 C.1.2.1 dT_putTrack_143 (lv_at hl 0 rfl) ?_
  refine lv_bipush (v := (8 : Int32)) C.1.1 C.1.2.1 dT_putTrack_145 (by decide) ?_
  refine lv_ishr C.1.1 C.1.2.1 dT_putTrack_147 ?_
  obtain ⟨z2, g2, hf⟩ := ts_b hf
  try dsimp only at hf
  refine c_callV (rest := []) (As := [.int (x2 + (2 : Int32)), .int ((r1 - x3) >>> ((8 : Int32) &&& 31))]) (rv := none) (b := (qq 2)) C hl.1 hw (cB1_change_met g2) rfl (callW_of (rm := rB1_change) (C := "MidiDesk$Bytes") 2 C.1.2.2.2.2 gw_704 gw_705 gw_706 gw_53 gw_707 kB1_change ⟨Nat.le_of_ble_eq_true rfl, Nat.le_of_ble_eq_true rfl⟩) (c_recv_B1 C.2 hw) rfl rfl (Nat.le_of_ble_eq_true rfl) dT_putTrack_148 hroom (fun H locs hw => ?_)
  refine W.eq (g2 := F0 m 151 ls []) rfl ?_
  refine W.widen (k := h.2.2.1 - h0.2.2.1) (n := h.2.2.2 - h0.2.2.2) (Nat.le_refl _) (Nat.le_refl _) ?_
  refine lv_aload_n C.1.1 C.1.2.1 dT_putTrack_151 rfl (lv_at hl 1 rfl) ?_
  refine cg_Printer_Printer_output C hw dT_putTrack_152 ?_
  refine lv_iload_n C.1.1 C.1.2.1 dT_putTrack_155 rfl (lv_at hl 2 rfl) ?_
  refine lv_iconst (v := (3 : Int32)) C.1.1 C.1.2.1 dT_putTrack_156 (by decide) ?_
  refine lv_iadd C.1.1 C.1.2.1 dT_putTrack_157 ?_
  refine lv_iload C.1.1 C.1.2.1 dT_putTrack_158 (lv_at hl 0 rfl) ?_
  obtain ⟨z3, g3, hf⟩ := ts_b hf
  try dsimp only at hf
  refine c_callV (rest := []) (As := [.int (x2 + (3 : Int32)), .int (r1 - x3)]) (rv := none) (b := (qq 2)) C hl.1 hw (cB1_change_met g3) rfl (callW_of (rm := rB1_change) (C := "MidiDesk$Bytes") 2 C.1.2.2.2.2 gw_704 gw_705 gw_706 gw_53 gw_707 kB1_change ⟨Nat.le_of_ble_eq_true rfl, Nat.le_of_ble_eq_true rfl⟩) (c_recv_B1 C.2 hw) rfl rfl (Nat.le_of_ble_eq_true rfl) dT_putTrack_160 hroom (fun H locs hw => ?_)
  refine W.eq (g2 := F0 m 163 ls []) rfl ?_
  refine W.widen (k := h.2.2.1 - h0.2.2.1) (n := h.2.2.2 - h0.2.2.2) (Nat.le_refl _) (Nat.le_refl _) ?_
  obtain ⟨hf, hpv⟩ := pr4 hf
  exact c_retAv C hr hlk hrv (fun _ => rfl) hw hf (by rw [hpv]) (by cases hf; exact ⟨Nat.le_refl _, Nat.le_refl _⟩) dT_putTrack_163
set_option maxHeartbeats 4000000 in
set_option maxRecDepth 100000 in
theorem wT_putTrack_120 {p : Program} {l : Launch} {e : Env} {s : State} {m : MethodId} {args : Array Value} {below : List Frame} {meth : Method} {c : Code} {g : gT} {qq ea : Nat → Nat} {A0 : Nat → Prop} {h0 : cH} {X : va_W} {rv : (Nat → Nat) → Option Value} {qp : Nat} {pv' : Nat → Int32} {h' : cH} {z' : cZ} (C : mCx p m c cT_putTrack 6 s args g "MidiDesk$Printer") (hr : meth.sig.returnType = none) (hlk : meth.locks = false) (hrv : rv = fun ea => none) (ad : Nat → Nat) (h : cH) (z : cZ) (pv : Nat → Int32) (x2 : Int32) (x3 : Int32) (H : Heap) (locs : List Loc) (ls : Array Slot) (hle : cle h0 h) (hl : lv_has ls 6 [(0, .ref qp), (2, .int x2), (3, .int x3)]) (hw : cWd g A0 s.heap qq ad ea h (tcell qp qq pv :: X) z H locs) (hf : jT_putTrack_120 h z pv x2 x3 = some (h', z', pv')) : cGa p l e (rmA frT_putTrack loT_putTrack h0 h') s m args below meth c g qq A0 True ea rv (tcell qp qq pv' :: X) h' z' H locs (h.2.2.1 - h0.2.2.1) (h.2.2.2 - h0.2.2.2) (F0 m 120 ls []) := by
  have hmn := oT_putTrack_120 h z pv x2 x3 hf
  have hroom : h.2.2.1 - h0.2.2.1 + 0 ≤ (rmA frT_putTrack loT_putTrack h0 h').cells ∧ h.2.2.2 - h0.2.2.2 + 0 ≤ (rmA frT_putTrack loT_putTrack h0 h').slots := ⟨by have w := hmn.1; show _ ≤ h'.2.2.1 - h0.2.2.1; omega, by have w := hmn.2; show _ ≤ h'.2.2.2 - h0.2.2.2; omega⟩
  unfold jT_putTrack_120 at hf
  refine lv_aload_n C.1.1 C.1.2.1 dT_putTrack_120 rfl (lv_at hl 0 rfl) ?_
  refine lv_iconst (v := (0 : Int32)) C.1.1 C.1.2.1 dT_putTrack_121 (by decide) ?_
  obtain ⟨⟨hh1, z1, pv1⟩, g1, hf⟩ := ts_b hf
  try dsimp only at hf
  have hm9 : cle hh1 h' := oT_putTrack_125 _ _ _ _ _ hf
  have hm8 := oT_putNumber g1
  have hm91 := hm9.1
  have hm92 := hm9.2
  have hm81 := hm8.1
  have hm82 := hm8.2
  have hle1 := hle.1
  have hle2 := hle.2
  refine c_callAA (rest := []) (As := [.int (0 : Int32)]) (rv := fun ea => none) (b := qp) C hl.1 hw (cT_putNumber_met g1) (callW_of (rm := rmA frT_putNumber loT_putNumber h hh1) (C := "MidiDesk$Printer") 1 C.1.2.2.2.2 gw_695 gw_697 gw_25 gw_66 gw_698 kT_putNumber ⟨Nat.le_of_ble_eq_true rfl, Nat.le_of_ble_eq_true rfl⟩) (c_recvX (ci := 3) C.2 rfl hw) rfl rfl (Nat.le_of_ble_eq_true rfl) dT_putTrack_122 ⟨by show _ ≤ h'.2.2.1 - h0.2.2.1; omega, by show _ ≤ h'.2.2.2 - h0.2.2.2; omega⟩ (fun ad H locs hw => ?_)
  refine W.widen (k := hh1.2.2.1 - h0.2.2.1) (n := hh1.2.2.2 - h0.2.2.2) (by omega) (by omega) ?_
  refine W.eq (g2 := F0 m 125 ls []) rfl ?_
  exact wT_putTrack_125 C hr hlk hrv _ hh1 z1 pv1 x2 x3 _ _ ls (hle.tr (oT_putNumber g1)) (lv_sub hl [0, 1, 2] rfl) hw hf
set_option maxHeartbeats 4000000 in
set_option maxRecDepth 100000 in
theorem wT_putTrack_111 {p : Program} {l : Launch} {e : Env} {s : State} {m : MethodId} {args : Array Value} {below : List Frame} {meth : Method} {c : Code} {g : gT} {qq ea : Nat → Nat} {A0 : Nat → Prop} {h0 : cH} {X : va_W} {rv : (Nat → Nat) → Option Value} {qp : Nat} {pv' : Nat → Int32} {h' : cH} {z' : cZ} (C : mCx p m c cT_putTrack 6 s args g "MidiDesk$Printer") (hr : meth.sig.returnType = none) (hlk : meth.locks = false) (hrv : rv = fun ea => none) (ad : Nat → Nat) (h : cH) (z : cZ) (pv : Nat → Int32) (x2 : Int32) (x3 : Int32) (H : Heap) (locs : List Loc) (ls : Array Slot) (hle : cle h0 h) (hl : lv_has ls 6 [(0, .ref qp), (2, .int x2), (3, .int x3)]) (hw : cWd g A0 s.heap qq ad ea h (tcell qp qq pv :: X) z H locs) (hf : jT_putTrack_111 h z pv x2 x3 = some (h', z', pv')) : cGa p l e (rmA frT_putTrack loT_putTrack h0 h') s m args below meth c g qq A0 True ea rv (tcell qp qq pv' :: X) h' z' H locs (h.2.2.1 - h0.2.2.1) (h.2.2.2 - h0.2.2.2) (F0 m 111 ls []) := by
  have hmn := oT_putTrack_111 h z pv x2 x3 hf
  have hroom : h.2.2.1 - h0.2.2.1 + 0 ≤ (rmA frT_putTrack loT_putTrack h0 h').cells ∧ h.2.2.2 - h0.2.2.2 + 0 ≤ (rmA frT_putTrack loT_putTrack h0 h').slots := ⟨by have w := hmn.1; show _ ≤ h'.2.2.1 - h0.2.2.1; omega, by have w := hmn.2; show _ ≤ h'.2.2.2 - h0.2.2.2; omega⟩
  unfold jT_putTrack_111 at hf
  refine lv_aload_n C.1.1 C.1.2.1 dT_putTrack_111 rfl (lv_at hl 0 rfl) ?_
  refine cg_Printer_Printer_output C hw dT_putTrack_112 ?_
  refine lv_bipush (v := (47 : Int32)) C.1.1 C.1.2.1 dT_putTrack_115 (by decide) ?_
  obtain ⟨⟨hh1, z1⟩, g1, hf⟩ := ts_b hf
  try dsimp only at hf
  have hm9 : cle hh1 h' := oT_putTrack_120 _ _ _ _ _ hf
  have hm8 := oB1_put g1
  have hm91 := hm9.1
  have hm92 := hm9.2
  have hm81 := hm8.1
  have hm82 := hm8.2
  have hle1 := hle.1
  have hle2 := hle.2
  refine c_callAA (rest := []) (As := [.int (47 : Int32)]) (rv := fun ea => none) (b := (qq 2)) C hl.1 hw (cB1_put_met g1) (callW_of (rm := rmA frB1_put loB1_put h hh1) (C := "MidiDesk$Bytes") 1 C.1.2.2.2.2 gw_683 gw_160 gw_161 gw_53 gw_162 kB1_put ⟨Nat.le_of_ble_eq_true rfl, Nat.le_of_ble_eq_true rfl⟩) (c_recv_B1 C.2 hw) rfl rfl (Nat.le_of_ble_eq_true rfl) dT_putTrack_117 ⟨by show _ ≤ h'.2.2.1 - h0.2.2.1; omega, by show _ ≤ h'.2.2.2 - h0.2.2.2; omega⟩ (fun ad H locs hw => ?_)
  refine W.widen (k := hh1.2.2.1 - h0.2.2.1) (n := hh1.2.2.2 - h0.2.2.2) (by omega) (by omega) ?_
  refine W.eq (g2 := F0 m 120 ls []) rfl ?_
  exact wT_putTrack_120 C hr hlk hrv _ hh1 z1 pv x2 x3 _ _ ls (hle.tr (oB1_put g1)) (lv_sub hl [0, 1, 2] rfl) hw hf
set_option maxHeartbeats 4000000 in
set_option maxRecDepth 100000 in
theorem wT_putTrack_101 {p : Program} {l : Launch} {e : Env} {s : State} {m : MethodId} {args : Array Value} {below : List Frame} {meth : Method} {c : Code} {g : gT} {qq ea : Nat → Nat} {A0 : Nat → Prop} {h0 : cH} {X : va_W} {rv : (Nat → Nat) → Option Value} {qp : Nat} {pv' : Nat → Int32} {h' : cH} {z' : cZ} (C : mCx p m c cT_putTrack 6 s args g "MidiDesk$Printer") (hr : meth.sig.returnType = none) (hlk : meth.locks = false) (hrv : rv = fun ea => none) (ad : Nat → Nat) (h : cH) (z : cZ) (pv : Nat → Int32) (x2 : Int32) (x3 : Int32) (H : Heap) (locs : List Loc) (ls : Array Slot) (hle : cle h0 h) (hl : lv_has ls 6 [(0, .ref qp), (2, .int x2), (3, .int x3)]) (hw : cWd g A0 s.heap qq ad ea h (tcell qp qq pv :: X) z H locs) (hf : jT_putTrack_101 h z pv x2 x3 = some (h', z', pv')) : cGa p l e (rmA frT_putTrack loT_putTrack h0 h') s m args below meth c g qq A0 True ea rv (tcell qp qq pv' :: X) h' z' H locs (h.2.2.1 - h0.2.2.1) (h.2.2.2 - h0.2.2.2) (F0 m 101 ls []) := by
  have hmn := oT_putTrack_101 h z pv x2 x3 hf
  have hroom : h.2.2.1 - h0.2.2.1 + 0 ≤ (rmA frT_putTrack loT_putTrack h0 h').cells ∧ h.2.2.2 - h0.2.2.2 + 0 ≤ (rmA frT_putTrack loT_putTrack h0 h').slots := ⟨by have w := hmn.1; show _ ≤ h'.2.2.1 - h0.2.2.1; omega, by have w := hmn.2; show _ ≤ h'.2.2.2 - h0.2.2.2; omega⟩
  unfold jT_putTrack_101 at hf
  refine lv_aload_n C.1.1 C.1.2.1 dT_putTrack_101 rfl (lv_at hl 0 rfl) ?_
  refine cg_Printer_Printer_output C hw dT_putTrack_102 ?_
  refine lv_sipush (v := (255 : Int32)) C.1.1 C.1.2.1 dT_putTrack_105 (by decide) ?_
  obtain ⟨⟨hh1, z1⟩, g1, hf⟩ := ts_b hf
  try dsimp only at hf
  have hm9 : cle hh1 h' := oT_putTrack_111 _ _ _ _ _ hf
  have hm8 := oB1_put g1
  have hm91 := hm9.1
  have hm92 := hm9.2
  have hm81 := hm8.1
  have hm82 := hm8.2
  have hle1 := hle.1
  have hle2 := hle.2
  refine c_callAA (rest := []) (As := [.int (255 : Int32)]) (rv := fun ea => none) (b := (qq 2)) C hl.1 hw (cB1_put_met g1) (callW_of (rm := rmA frB1_put loB1_put h hh1) (C := "MidiDesk$Bytes") 1 C.1.2.2.2.2 gw_683 gw_160 gw_161 gw_53 gw_162 kB1_put ⟨Nat.le_of_ble_eq_true rfl, Nat.le_of_ble_eq_true rfl⟩) (c_recv_B1 C.2 hw) rfl rfl (Nat.le_of_ble_eq_true rfl) dT_putTrack_108 ⟨by show _ ≤ h'.2.2.1 - h0.2.2.1; omega, by show _ ≤ h'.2.2.2 - h0.2.2.2; omega⟩ (fun ad H locs hw => ?_)
  refine W.widen (k := hh1.2.2.1 - h0.2.2.1) (n := hh1.2.2.2 - h0.2.2.2) (by omega) (by omega) ?_
  refine W.eq (g2 := F0 m 111 ls []) rfl ?_
  exact wT_putTrack_111 C hr hlk hrv _ hh1 z1 pv x2 x3 _ _ ls (hle.tr (oB1_put g1)) (lv_sub hl [0, 1, 2] rfl) hw hf
set_option maxHeartbeats 4000000 in
set_option maxRecDepth 100000 in
theorem wT_putTrack_42 {p : Program} {l : Launch} {e : Env} {s : State} {m : MethodId} {args : Array Value} {below : List Frame} {meth : Method} {c : Code} {g : gT} {qq ea : Nat → Nat} {A0 : Nat → Prop} {h0 : cH} {X : va_W} {rv : (Nat → Nat) → Option Value} {qp : Nat} {pv' : Nat → Int32} {h' : cH} {z' : cZ} (C : mCx p m c cT_putTrack 6 s args g "MidiDesk$Printer") (hr : meth.sig.returnType = none) (hlk : meth.locks = false) (hrv : rv = fun ea => none) (k : Nat) : ∀ (ad : Nat → Nat) (h : cH) (z : cZ) (pv : Nat → Int32) (x1 : Int32) (x2 : Int32) (x3 : Int32) (x4 : Int32) (H : Heap) (locs : List Loc) (ls : Array Slot), cle h0 h → lv_has ls 6 [(0, .ref qp), (1, .int x1), (2, .int x2), (3, .int x3), (4, .int x4)] → cWd g A0 s.heap qq ad ea h (tcell qp qq pv :: X) z H locs → lT_putTrack_42 k h z pv x1 x2 x3 x4 = some (h', z', pv') → cGa p l e (rmA frT_putTrack loT_putTrack h0 h') s m args below meth c g qq A0 True ea rv (tcell qp qq pv' :: X) h' z' H locs (h.2.2.1 - h0.2.2.1) (h.2.2.2 - h0.2.2.2) (F0 m 42 ls []) := by
  induction k with
  | zero => intro ad h z pv x1 x2 x3 x4 H locs ls hle hl hw hf; cases hf
  | succ k ih =>
    intro ad h z pv x1 x2 x3 x4 H locs ls hle hl hw hf
    have hmn := oT_putTrack_42 (k + 1) h z pv x1 x2 x3 x4 hf
    have hroom : h.2.2.1 - h0.2.2.1 + 0 ≤ (rmA frT_putTrack loT_putTrack h0 h').cells ∧ h.2.2.2 - h0.2.2.2 + 0 ≤ (rmA frT_putTrack loT_putTrack h0 h').slots := ⟨by have w := hmn.1; show _ ≤ h'.2.2.1 - h0.2.2.1; omega, by have w := hmn.2; show _ ≤ h'.2.2.2 - h0.2.2.2; omega⟩
    have hf : (if (zi z 7) ≤ x4 then ((fT_putNumber h z pv (0 : Int32)).bind fun (hh2, z2, pv2) => jT_putTrack_101 hh2 z2 pv2 x2 x3) else ((fS_at h z x4).bind fun (r3, z3) => if r3 = none then (jT_putTrack_90 (lT_putTrack_42 k) h z3 pv x1 x2 x3 x4) else (if x1 = (-1 : Int32) then (jT_putTrack_84 (lT_putTrack_42 k) h z3 pv x1 x2 x3 x4 r3) else ((r3).bind fun j6 => if h.2.1 ≤ j6 then none else (if (ze z3 j6 1) = x1 then (jT_putTrack_84 (lT_putTrack_42 k) h z3 pv x1 x2 x3 x4 r3) else (jT_putTrack_90 (lT_putTrack_42 k) h z3 pv x1 x2 x3 x4)))))) = some (h', z', pv') := hf
    have ihm := oT_putTrack_42 k (h' := h') (z' := z') (pv' := pv')
    refine lv_iload C.1.1 C.1.2.1 dT_putTrack_42 (lv_at hl 4 rfl) ?_
    refine lv_aload_n C.1.1 C.1.2.1 dT_putTrack_44 rfl (lv_at hl 0 rfl) ?_
    refine cg_Printer_Printer_score C hw dT_putTrack_45 ?_
    refine cg_Printer_Score_size C hw dT_putTrack_48 ?_
    refine lv_icmp_ge (tgt := 96) C.1.1 C.1.2.1 dT_putTrack_51 (by decide) (fun c1 => ?_) (fun c1 => ?_)
    · have hf := ts_t hf c1
      refine lv_aload_n C.1.1 C.1.2.1 dT_putTrack_96 rfl (lv_at hl 0 rfl) ?_
      refine lv_iconst (v := (0 : Int32)) C.1.1 C.1.2.1 dT_putTrack_97 (by decide) ?_
      obtain ⟨⟨hh2, z2, pv2⟩, g2, hf⟩ := ts_b hf
      try dsimp only at hf
      have hm9 : cle hh2 h' := oT_putTrack_101 _ _ _ _ _ hf
      have hm8 := oT_putNumber g2
      have hm91 := hm9.1
      have hm92 := hm9.2
      have hm81 := hm8.1
      have hm82 := hm8.2
      have hle1 := hle.1
      have hle2 := hle.2
      refine c_callAA (rest := []) (As := [.int (0 : Int32)]) (rv := fun ea => none) (b := qp) C hl.1 hw (cT_putNumber_met g2) (callW_of (rm := rmA frT_putNumber loT_putNumber h hh2) (C := "MidiDesk$Printer") 1 C.1.2.2.2.2 gw_695 gw_697 gw_25 gw_66 gw_698 kT_putNumber ⟨Nat.le_of_ble_eq_true rfl, Nat.le_of_ble_eq_true rfl⟩) (c_recvX (ci := 3) C.2 rfl hw) rfl rfl (Nat.le_of_ble_eq_true rfl) dT_putTrack_98 ⟨by show _ ≤ h'.2.2.1 - h0.2.2.1; omega, by show _ ≤ h'.2.2.2 - h0.2.2.2; omega⟩ (fun ad H locs hw => ?_)
      refine W.widen (k := hh2.2.2.1 - h0.2.2.1) (n := hh2.2.2.2 - h0.2.2.2) (by omega) (by omega) ?_
      refine W.eq (g2 := F0 m 101 ls []) rfl ?_
      exact wT_putTrack_101 C hr hlk hrv _ hh2 z2 pv2 x2 x3 _ _ ls (hle.tr (oT_putNumber g2)) (lv_sub hl [0, 2, 3] rfl) hw hf
    · have hf := ts_f hf c1
      refine lv_aload_n C.1.1 C.1.2.1 dT_putTrack_54 rfl (lv_at hl 0 rfl) ?_
      refine cg_Printer_Printer_score C hw dT_putTrack_55 ?_
      refine lv_iload C.1.1 C.1.2.1 dT_putTrack_58 (lv_at hl 4 rfl) ?_
      obtain ⟨⟨r3, z3⟩, g3, hf⟩ := ts_b hf
      try dsimp only at hf
      refine c_callV (rest := []) (As := [.int x4]) (rv := (some (va_rf (Option.map ea r3)))) (b := (qq 4)) C hl.1 hw (cS_at_met g3) rfl (callW_of (rm := rS_at) (C := "MidiDesk$Score") 1 C.1.2.2.2.2 gw_690 gw_398 gw_399 gw_54 gw_400 kS_at ⟨Nat.le_of_ble_eq_true rfl, Nat.le_of_ble_eq_true rfl⟩) (c_recv_score C.2 hw) rfl rfl (Nat.le_of_ble_eq_true rfl) dT_putTrack_60 hroom (fun H locs hw => ?_)
      refine W.eq (g2 := F0 m 63 ls [va_rf (Option.map ea r3)]) rfl ?_
      refine W.widen (k := h.2.2.1 - h0.2.2.1) (n := h.2.2.2 - h0.2.2.2) (Nat.le_refl _) (Nat.le_refl _) ?_
      refine c_astore (lv' := [(5, va_rf (Option.map ea r3)), (0, .ref qp), (1, .int x1), (2, .int x2), (3, .int x3), (4, .int x4)]) C.1.1 C.1.2.1 dT_putTrack_63 hl (by decide) rfl (fun ls hl => ?_)
      refine c_aload C.1.1 C.1.2.1 dT_putTrack_65 (lv_at hl 0 rfl) ?_
      refine c_ifnull (x := r3) (tgt := 90) C.1.1 C.1.2.1 dT_putTrack_67 (by decide) (fun c4 => ?_) (fun c4 => ?_)
      · have hf := ts_t hf c4
        exact wT_putTrack_90 C hr hlk hrv ih ihm _ h z3 pv x1 x2 x3 x4 _ _ ls hle (lv_sub hl [1, 2, 3, 4, 5] rfl) hw hf
      · have hf := ts_f hf c4
        refine lv_iload_n C.1.1 C.1.2.1 dT_putTrack_70 rfl (lv_at hl 2 rfl) ?_
        refine lv_iconst (v := (-1 : Int32)) C.1.1 C.1.2.1 dT_putTrack_71 (by decide) ?_
        refine lv_icmp_eq (tgt := 84) C.1.1 C.1.2.1 dT_putTrack_72 (by decide) (fun c5 => ?_) (fun c5 => ?_)
        · have hf := ts_t hf c5
          exact wT_putTrack_84 C hr hlk hrv ih ihm _ h z3 pv x1 x2 x3 x4 r3 _ _ ls hle (lv_sub hl [1, 2, 3, 4, 5, 0] rfl) hw hf
        · have hf := ts_f hf c5
          refine c_aload C.1.1 C.1.2.1 dT_putTrack_75 (lv_at hl 0 rfl) ?_
          obtain ⟨j6, ho6, hf⟩ := ts_b hf
          try dsimp only at hf
          obtain ⟨hb6, hf⟩ := ts_g hf
          have hb6 := Nat.lt_of_not_le hb6
          refine cg_Printer_Event_track C hw ho6 hb6 dT_putTrack_77 ?_
          refine lv_iload_n C.1.1 C.1.2.1 dT_putTrack_80 rfl (lv_at hl 2 rfl) ?_
          refine lv_icmp_ne (tgt := 90) C.1.1 C.1.2.1 dT_putTrack_81 (by decide) (fun c7 => ?_) (fun c7 => ?_)
          · have hf := ts_f hf c7
            exact wT_putTrack_90 C hr hlk hrv ih ihm _ h z3 pv x1 x2 x3 x4 _ _ ls hle (lv_sub hl [1, 2, 3, 4, 5] rfl) hw hf
          · have hf := ts_t hf c7
            exact wT_putTrack_84 C hr hlk hrv ih ihm _ h z3 pv x1 x2 x3 x4 r3 _ _ ls hle (lv_sub hl [1, 2, 3, 4, 5, 0] rfl) hw hf
set_option maxHeartbeats 4000000 in
set_option maxRecDepth 100000 in
theorem wT_putTrack_31 {p : Program} {l : Launch} {e : Env} {s : State} {m : MethodId} {args : Array Value} {below : List Frame} {meth : Method} {c : Code} {g : gT} {qq ea : Nat → Nat} {A0 : Nat → Prop} {h0 : cH} {X : va_W} {rv : (Nat → Nat) → Option Value} {qp : Nat} {pv' : Nat → Int32} {h' : cH} {z' : cZ} (C : mCx p m c cT_putTrack 6 s args g "MidiDesk$Printer") (hr : meth.sig.returnType = none) (hlk : meth.locks = false) (hrv : rv = fun ea => none) (ad : Nat → Nat) (h : cH) (z : cZ) (pv : Nat → Int32) (x1 : Int32) (x2 : Int32) (H : Heap) (locs : List Loc) (ls : Array Slot) (hle : cle h0 h) (hl : lv_has ls 6 [(0, .ref qp), (1, .int x1), (2, .int x2)]) (hw : cWd g A0 s.heap qq ad ea h (tcell qp qq pv :: X) z H locs) (hf : jT_putTrack_31 h z pv x1 x2 = some (h', z', pv')) : cGa p l e (rmA frT_putTrack loT_putTrack h0 h') s m args below meth c g qq A0 True ea rv (tcell qp qq pv' :: X) h' z' H locs (h.2.2.1 - h0.2.2.1) (h.2.2.2 - h0.2.2.2) (F0 m 31 ls []) := by
  have hmn := oT_putTrack_31 h z pv x1 x2 hf
  have hroom : h.2.2.1 - h0.2.2.1 + 0 ≤ (rmA frT_putTrack loT_putTrack h0 h').cells ∧ h.2.2.2 - h0.2.2.2 + 0 ≤ (rmA frT_putTrack loT_putTrack h0 h').slots := ⟨by have w := hmn.1; show _ ≤ h'.2.2.1 - h0.2.2.1; omega, by have w := hmn.2; show _ ≤ h'.2.2.2 - h0.2.2.2; omega⟩
  unfold jT_putTrack_31 at hf
  refine lv_aload_n C.1.1 C.1.2.1 dT_putTrack_31 rfl (lv_at hl 0 rfl) ?_
  refine cg_Printer_Printer_output C hw dT_putTrack_32 ?_
  obtain ⟨⟨r1, z1⟩, g1, hf⟩ := ts_b hf
  try dsimp only at hf
  refine c_callV (rest := []) (As := []) (rv := (some (.int r1))) (b := (qq 2)) C hl.1 hw (cB1_size_met g1) rfl (callW_of (rm := rB1_size) (C := "MidiDesk$Bytes") 0 C.1.2.2.2.2 gw_689 gw_156 gw_157 gw_53 gw_158 kB1_size ⟨Nat.le_of_ble_eq_true rfl, Nat.le_of_ble_eq_true rfl⟩) (c_recv_B1 C.2 hw) rfl rfl (Nat.le_of_ble_eq_true rfl) dT_putTrack_35 hroom (fun H locs hw => ?_)
  refine W.eq (g2 := F0 m 38 ls [.int r1]) rfl ?_
  refine W.widen (k := h.2.2.1 - h0.2.2.1) (n := h.2.2.2 - h0.2.2.2) (Nat.le_refl _) (Nat.le_refl _) ?_
  refine lv_istore_n (lv' := [(3, .int r1), (0, .ref qp), (1, .int x1), (2, .int x2)]) C.1.1 C.1.2.1 dT_putTrack_38 rfl hl (by decide) rfl (fun ls hl => ?_)
  refine lv_iconst (v := (0 : Int32)) C.1.1 C.1.2.1 dT_putTrack_39 (by decide) ?_
  refine lv_istore (lv' := [(4, .int (0 : Int32)), (3, .int r1), (0, .ref qp), (1, .int x1), (2, .int x2)]) C.1.1 C.1.2.1 dT_putTrack_40 hl (by decide) rfl (fun ls hl => ?_)
  exact wT_putTrack_42 C hr hlk hrv FU _ h z1 pv x1 x2 r1 (0 : Int32) _ _ ls hle (lv_sub hl [2, 3, 4, 1, 0] rfl) hw hf
set_option maxHeartbeats 4000000 in
set_option maxRecDepth 100000 in
theorem wT_putTrack_17 {p : Program} {l : Launch} {e : Env} {s : State} {m : MethodId} {args : Array Value} {below : List Frame} {meth : Method} {c : Code} {g : gT} {qq ea : Nat → Nat} {A0 : Nat → Prop} {h0 : cH} {X : va_W} {rv : (Nat → Nat) → Option Value} {qp : Nat} {pv' : Nat → Int32} {h' : cH} {z' : cZ} (C : mCx p m c cT_putTrack 6 s args g "MidiDesk$Printer") (hr : meth.sig.returnType = none) (hlk : meth.locks = false) (hrv : rv = fun ea => none) (ad : Nat → Nat) (h : cH) (z : cZ) (pv : Nat → Int32) (x1 : Int32) (H : Heap) (locs : List Loc) (ls : Array Slot) (hle : cle h0 h) (hl : lv_has ls 6 [(0, .ref qp), (1, .int x1)]) (hw : cWd g A0 s.heap qq ad ea h (tcell qp qq pv :: X) z H locs) (hf : jT_putTrack_17 h z pv x1 = some (h', z', pv')) : cGa p l e (rmA frT_putTrack loT_putTrack h0 h') s m args below meth c g qq A0 True ea rv (tcell qp qq pv' :: X) h' z' H locs (h.2.2.1 - h0.2.2.1) (h.2.2.2 - h0.2.2.2) (F0 m 17 ls []) := by
  have hmn := oT_putTrack_17 h z pv x1 hf
  have hroom : h.2.2.1 - h0.2.2.1 + 0 ≤ (rmA frT_putTrack loT_putTrack h0 h').cells ∧ h.2.2.2 - h0.2.2.2 + 0 ≤ (rmA frT_putTrack loT_putTrack h0 h').slots := ⟨by have w := hmn.1; show _ ≤ h'.2.2.1 - h0.2.2.1; omega, by have w := hmn.2; show _ ≤ h'.2.2.2 - h0.2.2.2; omega⟩
  unfold jT_putTrack_17 at hf
  refine lv_aload_n C.1.1 C.1.2.1 dT_putTrack_17 rfl (lv_at hl 0 rfl) ?_
  refine cg_Printer_Printer_output C hw dT_putTrack_18 ?_
  obtain ⟨⟨r1, z1⟩, g1, hf⟩ := ts_b hf
  try dsimp only at hf
  refine c_callV (rest := []) (As := []) (rv := (some (.int r1))) (b := (qq 2)) C hl.1 hw (cB1_size_met g1) rfl (callW_of (rm := rB1_size) (C := "MidiDesk$Bytes") 0 C.1.2.2.2.2 gw_689 gw_156 gw_157 gw_53 gw_158 kB1_size ⟨Nat.le_of_ble_eq_true rfl, Nat.le_of_ble_eq_true rfl⟩) (c_recv_B1 C.2 hw) rfl rfl (Nat.le_of_ble_eq_true rfl) dT_putTrack_21 hroom (fun H locs hw => ?_)
  refine W.eq (g2 := F0 m 24 ls [.int r1]) rfl ?_
  refine W.widen (k := h.2.2.1 - h0.2.2.1) (n := h.2.2.2 - h0.2.2.2) (Nat.le_refl _) (Nat.le_refl _) ?_
  refine lv_istore_n (lv' := [(2, .int r1), (0, .ref qp), (1, .int x1)]) C.1.1 C.1.2.1 dT_putTrack_24 rfl hl (by decide) rfl (fun ls hl => ?_)
  refine lv_aload_n C.1.1 C.1.2.1 dT_putTrack_25 rfl (lv_at hl 1 rfl) ?_
  refine lv_iconst (v := (0 : Int32)) C.1.1 C.1.2.1 dT_putTrack_26 (by decide) ?_
  refine lv_iconst (v := (4 : Int32)) C.1.1 C.1.2.1 dT_putTrack_27 (by decide) ?_
  obtain ⟨⟨hh2, z2, pv2⟩, g2, hf⟩ := ts_b hf
  try dsimp only at hf
  have hm9 : cle hh2 h' := oT_putTrack_31 _ _ _ _ _ hf
  have hm8 := oT_putFixed g2
  have hm91 := hm9.1
  have hm92 := hm9.2
  have hm81 := hm8.1
  have hm82 := hm8.2
  have hle1 := hle.1
  have hle2 := hle.2
  refine c_callAA (rest := []) (As := [.int (0 : Int32), .int (4 : Int32)]) (rv := fun ea => none) (b := qp) C hl.1 hw (cT_putFixed_met g2) (callW_of (rm := rmA frT_putFixed loT_putFixed h hh2) (C := "MidiDesk$Printer") 2 C.1.2.2.2.2 gw_679 gw_681 gw_22 gw_66 gw_682 kT_putFixed ⟨Nat.le_of_ble_eq_true rfl, Nat.le_of_ble_eq_true rfl⟩) (c_recvX (ci := 3) C.2 rfl hw) rfl rfl (Nat.le_of_ble_eq_true rfl) dT_putTrack_28 ⟨by show _ ≤ h'.2.2.1 - h0.2.2.1; omega, by show _ ≤ h'.2.2.2 - h0.2.2.2; omega⟩ (fun ad H locs hw => ?_)
  refine W.widen (k := hh2.2.2.1 - h0.2.2.1) (n := hh2.2.2.2 - h0.2.2.2) (by omega) (by omega) ?_
  refine W.eq (g2 := F0 m 31 ls []) rfl ?_
  exact wT_putTrack_31 C hr hlk hrv _ hh2 z2 pv2 x1 r1 _ _ ls (hle.tr (oT_putFixed g2)) (lv_sub hl [1, 2, 0] rfl) hw hf
set_option maxHeartbeats 4000000 in
set_option maxRecDepth 100000 in
theorem cT_putTrack_met {l : Launch} {g : gT} {qq ad ea : Nat → Nat} {h h' : cH} {X : va_W} {qp : Nat} {pv pv' : Nat → Int32} {z z' : cZ} {x1 : Int32} (hf : fT_putTrack h z pv x1 = some (h', z', pv')) : cMeA l yT_putTrack cT_putTrack 6 none frT_putTrack loT_putTrack g qq ad ea h (tcell qp qq pv :: X) z [.ref qp, .int x1] True (fun ea => none) (tcell qp qq pv' :: X) h' z' := by
  refine c_entryA (by decide) (Nat.le_of_ble_eq_true rfl) ?_
  intro p e s m args below meth c ls C hr hlk hnm hl hw
  have hrv : (fun ea => none : (Nat → Nat) → Option Value) = fun ea => none := rfl
  have C : mCx p m c cT_putTrack 6 s args g "MidiDesk$Printer" := C
  have hl : lv_has ls 6 [(0, .ref qp), (1, .int x1)] := hl
  generalize cA g qq ad ea h (tcell qp qq pv :: X) s.heap.size = A0 at hw ⊢
  have hle : cle h h := cle.rf
  have hmn := oT_putTrack hf
  have hroom : h.2.2.1 - h.2.2.1 + 0 ≤ (rmA frT_putTrack loT_putTrack h h').cells ∧ h.2.2.2 - h.2.2.2 + 0 ≤ (rmA frT_putTrack loT_putTrack h h').slots := ⟨by have w := hmn.1; show _ ≤ h'.2.2.1 - h.2.2.1; omega, by have w := hmn.2; show _ ≤ h'.2.2.2 - h.2.2.2; omega⟩
  unfold fT_putTrack at hf
  refine lv_aload_n C.1.1 C.1.2.1 dT_putTrack_0 rfl (lv_at hl 0 rfl) ?_
  refine lv_iconst (v := (0 : Int32)) C.1.1 C.1.2.1 dT_putTrack_1 (by decide) ?_
  refine cp_Printer_Printer_tick C hw dT_putTrack_2 (fun H locs hw => ?_)
  refine lv_aload_n C.1.1 C.1.2.1 dT_putTrack_5 rfl (lv_at hl 0 rfl) ?_
  refine lv_iconst (v := (-1 : Int32)) C.1.1 C.1.2.1 dT_putTrack_6 (by decide) ?_
  refine cp_Printer_Printer_running C hw dT_putTrack_7 (fun H locs hw => ?_)
  refine lv_aload_n C.1.1 C.1.2.1 dT_putTrack_10 rfl (lv_at hl 0 rfl) ?_
  refine lv_ldc C.1.1 C.1.2.1 C.1.2.2.2.1 (C.1.2.2.2.2 _ gw_688) dT_putTrack_11 ?_
  refine lv_iconst (v := (4 : Int32)) C.1.1 C.1.2.1 dT_putTrack_13 (by decide) ?_
  obtain ⟨⟨hh1, z1, pv1⟩, g1, hf⟩ := ts_b hf
  try dsimp only at hf
  have hm9 : cle hh1 h' := oT_putTrack_17 _ _ _ _ hf
  have hm8 := oT_putFixed g1
  have hm91 := hm9.1
  have hm92 := hm9.2
  have hm81 := hm8.1
  have hm82 := hm8.2
  have hle1 := hle.1
  have hle2 := hle.2
  refine c_callAA (rest := []) (As := [.int (1297379947 : Int32), .int (4 : Int32)]) (rv := fun ea => none) (b := qp) C hl.1 hw (cT_putFixed_met g1) (callW_of (rm := rmA frT_putFixed loT_putFixed h hh1) (C := "MidiDesk$Printer") 2 C.1.2.2.2.2 gw_679 gw_681 gw_22 gw_66 gw_682 kT_putFixed ⟨Nat.le_of_ble_eq_true rfl, Nat.le_of_ble_eq_true rfl⟩) (c_recvX (ci := 3) C.2 rfl hw) rfl rfl (Nat.le_of_ble_eq_true rfl) dT_putTrack_14 ⟨by show _ ≤ h'.2.2.1 - h.2.2.1; omega, by show _ ≤ h'.2.2.2 - h.2.2.2; omega⟩ (fun ad H locs hw => ?_)
  refine W.widen (k := hh1.2.2.1 - h.2.2.1) (n := hh1.2.2.2 - h.2.2.2) (by omega) (by omega) ?_
  refine W.eq (g2 := F0 m 17 ls []) rfl ?_
  exact wT_putTrack_17 C hr hlk hrv _ hh1 z1 pv1 x1 _ _ ls (hle.tr (oT_putFixed g1)) (lv_sub hl [0, 1] rfl) hw hf
abbrev cT_print : ByteArray := prog_5_method_2_code
abbrev yT_print : MethodName := ⟨"MidiDesk$Printer", "print", "(I)V"⟩
theorem kT_print : yT_print.cls ≠ "java/lang/invoke/MethodHandle" ∧ yT_print.cls ≠ "java/lang/invoke/VarHandle" ∧ (parseMethodDescriptor yT_print.desc).map (fun d => d.parameters.length) = some 1 := by decide +kernel
abbrev frT_print : Nat := 6
abbrev loT_print : Nat := 152
theorem dT_print_0 : decode cT_print 0 = .ok (.iload_n 1, 1) := by decide +kernel
theorem dT_print_1 : decode cT_print 1 = .ok (.ifCond .ne 7, 3) := by decide +kernel
theorem dT_print_4 : decode cT_print 4 = .ok (.iconst 1, 1) := by decide +kernel
theorem dT_print_5 : decode cT_print 5 = .ok (.goto 10, 3) := by decide +kernel
theorem dT_print_8 : decode cT_print 8 = .ok (.aload_n 0, 1) := by decide +kernel
theorem dT_print_9 : decode cT_print 9 = .ok (.getfield 9, 3) := by decide +kernel
theorem dT_print_12 : decode cT_print 12 = .ok (.getfield 23, 3) := by decide +kernel
theorem dT_print_15 : decode cT_print 15 = .ok (.istore_n 2, 1) := by decide +kernel
theorem dT_print_16 : decode cT_print 16 = .ok (.aload_n 0, 1) := by decide +kernel
theorem dT_print_17 : decode cT_print 17 = .ok (.getfield 15, 3) := by decide +kernel
theorem dT_print_20 : decode cT_print 20 = .ok (.invokevirtual 29, 3) := by decide +kernel
theorem dT_print_23 : decode cT_print 23 = .ok (.aload_n 0, 1) := by decide +kernel
theorem dT_print_24 : decode cT_print 24 = .ok (.ldc 34, 2) := by decide +kernel
theorem dT_print_26 : decode cT_print 26 = .ok (.iconst 4, 1) := by decide +kernel
theorem dT_print_27 : decode cT_print 27 = .ok (.invokevirtual 35, 3) := by decide +kernel
theorem dT_print_30 : decode cT_print 30 = .ok (.aload_n 0, 1) := by decide +kernel
theorem dT_print_31 : decode cT_print 31 = .ok (.bipush 6, 2) := by decide +kernel
theorem dT_print_33 : decode cT_print 33 = .ok (.iconst 4, 1) := by decide +kernel
theorem dT_print_34 : decode cT_print 34 = .ok (.invokevirtual 35, 3) := by decide +kernel
theorem dT_print_37 : decode cT_print 37 = .ok (.aload_n 0, 1) := by decide +kernel
theorem dT_print_38 : decode cT_print 38 = .ok (.iload_n 1, 1) := by decide +kernel
theorem dT_print_39 : decode cT_print 39 = .ok (.iconst 2, 1) := by decide +kernel
theorem dT_print_40 : decode cT_print 40 = .ok (.invokevirtual 35, 3) := by decide +kernel
theorem dT_print_43 : decode cT_print 43 = .ok (.aload_n 0, 1) := by decide +kernel
theorem dT_print_44 : decode cT_print 44 = .ok (.iload_n 2, 1) := by decide +kernel
theorem dT_print_45 : decode cT_print 45 = .ok (.iconst 2, 1) := by decide +kernel
theorem dT_print_46 : decode cT_print 46 = .ok (.invokevirtual 35, 3) := by decide +kernel
theorem dT_print_49 : decode cT_print 49 = .ok (.aload_n 0, 1) := by decide +kernel
theorem dT_print_50 : decode cT_print 50 = .ok (.aload_n 0, 1) := by decide +kernel
theorem dT_print_51 : decode cT_print 51 = .ok (.getfield 9, 3) := by decide +kernel
theorem dT_print_54 : decode cT_print 54 = .ok (.getfield 39, 3) := by decide +kernel
theorem dT_print_57 : decode cT_print 57 = .ok (.iconst 2, 1) := by decide +kernel
theorem dT_print_58 : decode cT_print 58 = .ok (.invokevirtual 35, 3) := by decide +kernel
theorem dT_print_61 : decode cT_print 61 = .ok (.iconst 0, 1) := by decide +kernel
theorem dT_print_62 : decode cT_print 62 = .ok (.istore_n 3, 1) := by decide +kernel
theorem dT_print_63 : decode cT_print 63 = .ok (.iload_n 3, 1) := by decide +kernel
theorem dT_print_64 : decode cT_print 64 = .ok (.iload_n 2, 1) := by decide +kernel
theorem dT_print_65 : decode cT_print 65 = .ok (.if_icmp .ge 22, 3) := by decide +kernel
theorem dT_print_68 : decode cT_print 68 = .ok (.aload_n 0, 1) := by decide +kernel
theorem dT_print_69 : decode cT_print 69 = .ok (.iload_n 1, 1) := by decide +kernel
theorem dT_print_70 : decode cT_print 70 = .ok (.ifCond .ne 7, 3) := by decide +kernel
theorem dT_print_73 : decode cT_print 73 = .ok (.iconst (-1), 1) := by decide +kernel
theorem dT_print_74 : decode cT_print 74 = .ok (.goto 4, 3) := by decide +kernel
theorem dT_print_77 : decode cT_print 77 = .ok (.iload_n 3, 1) := by decide +kernel
theorem dT_print_78 : decode cT_print 78 = .ok (.invokevirtual 42, 3) := by decide +kernel
theorem dT_print_81 : decode cT_print 81 = .ok (.iinc 3 1, 3) := by decide +kernel
theorem dT_print_84 : decode cT_print 84 = .ok (.goto (-21), 3) := by decide +kernel
theorem dT_print_87 : decode cT_print 87 = .ok (.return_, 1) := by decide +kernel
def jT_print_81 (K63 : cH → cZ → (Nat → Int32) → Int32 → Int32 → Int32 → Option (cH × cZ × (Nat → Int32))) (h : cH) (z : cZ) (pv : Nat → Int32) (x1 : Int32) (x2 : Int32) (x3 : Int32) : Option (cH × cZ × (Nat → Int32)) := K63 h z pv x1 x2 (x3 + 1)
set_option maxHeartbeats 4000000 in
set_option maxRecDepth 100000 in
theorem oT_print_81 {h' : cH} {z' : cZ} {pv' : Nat → Int32} {K63 : cH → cZ → (Nat → Int32) → Int32 → Int32 → Int32 → Option (cH × cZ × (Nat → Int32))} (hK63 : ∀ (h : cH) (z : cZ) (pv : Nat → Int32) (x1 : Int32) (x2 : Int32) (x3 : Int32), K63 h z pv x1 x2 x3 = some (h', z', pv') → cle h h') (h : cH) (z : cZ) (pv : Nat → Int32) (x1 : Int32) (x2 : Int32) (x3 : Int32) (hf : jT_print_81 K63 h z pv x1 x2 x3 = some (h', z', pv')) : cle h h' := by
  unfold jT_print_81 at hf
  exact hK63 h z pv x1 x2 (x3 + 1) hf
def jT_print_78 (K63 : cH → cZ → (Nat → Int32) → Int32 → Int32 → Int32 → Option (cH × cZ × (Nat → Int32))) (h : cH) (z : cZ) (pv : Nat → Int32) (x1 : Int32) (x2 : Int32) (x3 : Int32) (s1 : Int32) : Option (cH × cZ × (Nat → Int32)) := (fT_putTrack h z pv s1).bind fun (hh1, z1, pv1) => jT_print_81 K63 hh1 z1 pv1 x1 x2 x3
set_option maxHeartbeats 4000000 in
set_option maxRecDepth 100000 in
theorem oT_print_78 {h' : cH} {z' : cZ} {pv' : Nat → Int32} {K63 : cH → cZ → (Nat → Int32) → Int32 → Int32 → Int32 → Option (cH × cZ × (Nat → Int32))} (hK63 : ∀ (h : cH) (z : cZ) (pv : Nat → Int32) (x1 : Int32) (x2 : Int32) (x3 : Int32), K63 h z pv x1 x2 x3 = some (h', z', pv') → cle h h') (h : cH) (z : cZ) (pv : Nat → Int32) (x1 : Int32) (x2 : Int32) (x3 : Int32) (s1 : Int32) (hf : jT_print_78 K63 h z pv x1 x2 x3 s1 = some (h', z', pv')) : cle h h' := by
  unfold jT_print_78 at hf
  obtain ⟨⟨hh1, z1, pv1⟩, g1, hf⟩ := ts_b hf
  try dsimp only at hf
  exact cle.tr (oT_putTrack g1) (oT_print_81 hK63 hh1 z1 pv1 x1 x2 x3 hf)
def lT_print_63 : Nat → cH → cZ → (Nat → Int32) → Int32 → Int32 → Int32 → Option (cH × cZ × (Nat → Int32))
  | 0 => fun _ _ _ _ _ _ => none
  | k + 1 => fun h z pv x1 x2 x3 => if x2 ≤ x3 then (some (h, z, pv)) else (if x1 = 0 then (jT_print_78 (lT_print_63 k) h z pv x1 x2 x3 (-1 : Int32)) else (jT_print_78 (lT_print_63 k) h z pv x1 x2 x3 x3))
set_option maxHeartbeats 4000000 in
set_option maxRecDepth 100000 in
theorem oT_print_63 {h' : cH} {z' : cZ} {pv' : Nat → Int32} (k : Nat) : ∀ (h : cH) (z : cZ) (pv : Nat → Int32) (x1 : Int32) (x2 : Int32) (x3 : Int32), lT_print_63 k h z pv x1 x2 x3 = some (h', z', pv') → cle h h' := by
  induction k with
  | zero => intro h z pv x1 x2 x3 hf; cases hf
  | succ k ih =>
    intro h z pv x1 x2 x3 hf
    have hf : (if x2 ≤ x3 then (some (h, z, pv)) else (if x1 = 0 then (jT_print_78 (lT_print_63 k) h z pv x1 x2 x3 (-1 : Int32)) else (jT_print_78 (lT_print_63 k) h z pv x1 x2 x3 x3))) = some (h', z', pv') := hf
    rcases Decidable.em (x2 ≤ x3) with c1 | c1
    · have hf := ts_t hf c1
      cases hf
      exact cle.rf
    · have hf := ts_f hf c1
      rcases (Decidable.em (x1 = 0)).symm with c2 | c2
      · have hf := ts_f hf c2
        exact oT_print_78 ih h z pv x1 x2 x3 x3 hf
      · have hf := ts_t hf c2
        exact oT_print_78 ih h z pv x1 x2 x3 (-1 : Int32) hf
def jT_print_61 (h : cH) (z : cZ) (pv : Nat → Int32) (x1 : Int32) (x2 : Int32) : Option (cH × cZ × (Nat → Int32)) := lT_print_63 FU h z pv x1 x2 (0 : Int32)
set_option maxHeartbeats 4000000 in
set_option maxRecDepth 100000 in
theorem oT_print_61 {h' : cH} {z' : cZ} {pv' : Nat → Int32} (h : cH) (z : cZ) (pv : Nat → Int32) (x1 : Int32) (x2 : Int32) (hf : jT_print_61 h z pv x1 x2 = some (h', z', pv')) : cle h h' := by
  unfold jT_print_61 at hf
  exact oT_print_63 FU h z pv x1 x2 (0 : Int32) hf
def jT_print_49 (h : cH) (z : cZ) (pv : Nat → Int32) (x1 : Int32) (x2 : Int32) : Option (cH × cZ × (Nat → Int32)) := (fT_putFixed h z pv (zi z 6) (2 : Int32)).bind fun (hh1, z1, pv1) => jT_print_61 hh1 z1 pv1 x1 x2
set_option maxHeartbeats 4000000 in
set_option maxRecDepth 100000 in
theorem oT_print_49 {h' : cH} {z' : cZ} {pv' : Nat → Int32} (h : cH) (z : cZ) (pv : Nat → Int32) (x1 : Int32) (x2 : Int32) (hf : jT_print_49 h z pv x1 x2 = some (h', z', pv')) : cle h h' := by
  unfold jT_print_49 at hf
  obtain ⟨⟨hh1, z1, pv1⟩, g1, hf⟩ := ts_b hf
  try dsimp only at hf
  exact cle.tr (oT_putFixed g1) (oT_print_61 hh1 z1 pv1 x1 x2 hf)
def jT_print_43 (h : cH) (z : cZ) (pv : Nat → Int32) (x1 : Int32) (x2 : Int32) : Option (cH × cZ × (Nat → Int32)) := (fT_putFixed h z pv x2 (2 : Int32)).bind fun (hh1, z1, pv1) => jT_print_49 hh1 z1 pv1 x1 x2
set_option maxHeartbeats 4000000 in
set_option maxRecDepth 100000 in
theorem oT_print_43 {h' : cH} {z' : cZ} {pv' : Nat → Int32} (h : cH) (z : cZ) (pv : Nat → Int32) (x1 : Int32) (x2 : Int32) (hf : jT_print_43 h z pv x1 x2 = some (h', z', pv')) : cle h h' := by
  unfold jT_print_43 at hf
  obtain ⟨⟨hh1, z1, pv1⟩, g1, hf⟩ := ts_b hf
  try dsimp only at hf
  exact cle.tr (oT_putFixed g1) (oT_print_49 hh1 z1 pv1 x1 x2 hf)
def jT_print_37 (h : cH) (z : cZ) (pv : Nat → Int32) (x1 : Int32) (x2 : Int32) : Option (cH × cZ × (Nat → Int32)) := (fT_putFixed h z pv x1 (2 : Int32)).bind fun (hh1, z1, pv1) => jT_print_43 hh1 z1 pv1 x1 x2
set_option maxHeartbeats 4000000 in
set_option maxRecDepth 100000 in
theorem oT_print_37 {h' : cH} {z' : cZ} {pv' : Nat → Int32} (h : cH) (z : cZ) (pv : Nat → Int32) (x1 : Int32) (x2 : Int32) (hf : jT_print_37 h z pv x1 x2 = some (h', z', pv')) : cle h h' := by
  unfold jT_print_37 at hf
  obtain ⟨⟨hh1, z1, pv1⟩, g1, hf⟩ := ts_b hf
  try dsimp only at hf
  exact cle.tr (oT_putFixed g1) (oT_print_43 hh1 z1 pv1 x1 x2 hf)
def jT_print_30 (h : cH) (z : cZ) (pv : Nat → Int32) (x1 : Int32) (x2 : Int32) : Option (cH × cZ × (Nat → Int32)) := (fT_putFixed h z pv (6 : Int32) (4 : Int32)).bind fun (hh1, z1, pv1) => jT_print_37 hh1 z1 pv1 x1 x2
set_option maxHeartbeats 4000000 in
set_option maxRecDepth 100000 in
theorem oT_print_30 {h' : cH} {z' : cZ} {pv' : Nat → Int32} (h : cH) (z : cZ) (pv : Nat → Int32) (x1 : Int32) (x2 : Int32) (hf : jT_print_30 h z pv x1 x2 = some (h', z', pv')) : cle h h' := by
  unfold jT_print_30 at hf
  obtain ⟨⟨hh1, z1, pv1⟩, g1, hf⟩ := ts_b hf
  try dsimp only at hf
  exact cle.tr (oT_putFixed g1) (oT_print_37 hh1 z1 pv1 x1 x2 hf)
def jT_print_15 (h : cH) (z : cZ) (pv : Nat → Int32) (x1 : Int32) (s0 : Int32) : Option (cH × cZ × (Nat → Int32)) := (fB1_empty h z).bind fun z1 => (fT_putFixed h z1 pv (1297377380 : Int32) (4 : Int32)).bind fun (hh2, z2, pv2) => jT_print_30 hh2 z2 pv2 x1 s0
set_option maxHeartbeats 4000000 in
set_option maxRecDepth 100000 in
theorem oT_print_15 {h' : cH} {z' : cZ} {pv' : Nat → Int32} (h : cH) (z : cZ) (pv : Nat → Int32) (x1 : Int32) (s0 : Int32) (hf : jT_print_15 h z pv x1 s0 = some (h', z', pv')) : cle h h' := by
  unfold jT_print_15 at hf
  obtain ⟨z1, g1, hf⟩ := ts_b hf
  try dsimp only at hf
  obtain ⟨⟨hh2, z2, pv2⟩, g2, hf⟩ := ts_b hf
  try dsimp only at hf
  exact cle.tr (oT_putFixed g2) (oT_print_30 hh2 z2 pv2 x1 s0 hf)
def fT_print (h : cH) (z : cZ) (pv : Nat → Int32) (x1 : Int32) : Option (cH × cZ × (Nat → Int32)) := if x1 = 0 then (jT_print_15 h z pv x1 (1 : Int32)) else (jT_print_15 h z pv x1 (zi z 5))
set_option maxHeartbeats 4000000 in
set_option maxRecDepth 100000 in
theorem oT_print {h' : cH} {z' : cZ} {pv' : Nat → Int32} {h : cH} {z : cZ} {pv : Nat → Int32} {x1 : Int32} (hf : fT_print h z pv x1 = some (h', z', pv')) : cle h h' := by
  unfold fT_print at hf
  rcases (Decidable.em (x1 = 0)).symm with c1 | c1
  · have hf := ts_f hf c1
    exact oT_print_15 h z pv x1 (zi z 5) hf
  · have hf := ts_t hf c1
    exact oT_print_15 h z pv x1 (1 : Int32) hf
set_option maxHeartbeats 4000000 in
set_option maxRecDepth 100000 in
theorem wT_print_81 {p : Program} {l : Launch} {e : Env} {s : State} {m : MethodId} {args : Array Value} {below : List Frame} {meth : Method} {c : Code} {g : gT} {qq ea : Nat → Nat} {A0 : Nat → Prop} {h0 : cH} {X : va_W} {rv : (Nat → Nat) → Option Value} {qp : Nat} {pv' : Nat → Int32} {h' : cH} {z' : cZ} (C : mCx p m c cT_print 4 s args g "MidiDesk$Printer") (hr : meth.sig.returnType = none) (hlk : meth.locks = false) (hrv : rv = fun ea => none) {K63 : cH → cZ → (Nat → Int32) → Int32 → Int32 → Int32 → Option (cH × cZ × (Nat → Int32))} (hK63 : ∀ (ad : Nat → Nat) (h : cH) (z : cZ) (pv : Nat → Int32) (x1 : Int32) (x2 : Int32) (x3 : Int32) (H : Heap) (locs : List Loc) (ls : Array Slot), cle h0 h → lv_has ls 4 [(0, .ref qp), (1, .int x1), (2, .int x2), (3, .int x3)] → cWd g A0 s.heap qq ad ea h (tcell qp qq pv :: X) z H locs → K63 h z pv x1 x2 x3 = some (h', z', pv') → cGa p l e (rmA frT_print loT_print h0 h') s m args below meth c g qq A0 True ea rv (tcell qp qq pv' :: X) h' z' H locs (h.2.2.1 - h0.2.2.1) (h.2.2.2 - h0.2.2.2) (F0 m 63 ls [])) (hM63 : ∀ (h : cH) (z : cZ) (pv : Nat → Int32) (x1 : Int32) (x2 : Int32) (x3 : Int32), K63 h z pv x1 x2 x3 = some (h', z', pv') → cle h h') (ad : Nat → Nat) (h : cH) (z : cZ) (pv : Nat → Int32) (x1 : Int32) (x2 : Int32) (x3 : Int32) (H : Heap) (locs : List Loc) (ls : Array Slot) (hle : cle h0 h) (hl : lv_has ls 4 [(0, .ref qp), (1, .int x1), (2, .int x2), (3, .int x3)]) (hw : cWd g A0 s.heap qq ad ea h (tcell qp qq pv :: X) z H locs) (hf : jT_print_81 K63 h z pv x1 x2 x3 = some (h', z', pv')) : cGa p l e (rmA frT_print loT_print h0 h') s m args below meth c g qq A0 True ea rv (tcell qp qq pv' :: X) h' z' H locs (h.2.2.1 - h0.2.2.1) (h.2.2.2 - h0.2.2.2) (F0 m 81 ls []) := by
  have hmn := oT_print_81 hM63 h z pv x1 x2 x3 hf
  have hroom : h.2.2.1 - h0.2.2.1 + 0 ≤ (rmA frT_print loT_print h0 h').cells ∧ h.2.2.2 - h0.2.2.2 + 0 ≤ (rmA frT_print loT_print h0 h').slots := ⟨by have w := hmn.1; show _ ≤ h'.2.2.1 - h0.2.2.1; omega, by have w := hmn.2; show _ ≤ h'.2.2.2 - h0.2.2.2; omega⟩
  unfold jT_print_81 at hf
  refine lv_iinc (v := x3 + 1) (lv' := [(3, .int (x3 + 1)), (0, .ref qp), (1, .int x1), (2, .int x2)]) C.1.1 C.1.2.1 dT_print_81 hl (k := 3) rfl rfl (by decide) rfl (fun ls hl => ?_)
  refine lv_goto (tgt := 63) C.1.1 C.1.2.1 dT_print_84 (by decide) ?_
  exact hK63 _ h z pv x1 x2 (x3 + 1) _ _ ls hle (lv_sub hl [1, 2, 3, 0] rfl) hw hf
set_option maxHeartbeats 4000000 in
set_option maxRecDepth 100000 in
theorem wT_print_78 {p : Program} {l : Launch} {e : Env} {s : State} {m : MethodId} {args : Array Value} {below : List Frame} {meth : Method} {c : Code} {g : gT} {qq ea : Nat → Nat} {A0 : Nat → Prop} {h0 : cH} {X : va_W} {rv : (Nat → Nat) → Option Value} {qp : Nat} {pv' : Nat → Int32} {h' : cH} {z' : cZ} (C : mCx p m c cT_print 4 s args g "MidiDesk$Printer") (hr : meth.sig.returnType = none) (hlk : meth.locks = false) (hrv : rv = fun ea => none) {K63 : cH → cZ → (Nat → Int32) → Int32 → Int32 → Int32 → Option (cH × cZ × (Nat → Int32))} (hK63 : ∀ (ad : Nat → Nat) (h : cH) (z : cZ) (pv : Nat → Int32) (x1 : Int32) (x2 : Int32) (x3 : Int32) (H : Heap) (locs : List Loc) (ls : Array Slot), cle h0 h → lv_has ls 4 [(0, .ref qp), (1, .int x1), (2, .int x2), (3, .int x3)] → cWd g A0 s.heap qq ad ea h (tcell qp qq pv :: X) z H locs → K63 h z pv x1 x2 x3 = some (h', z', pv') → cGa p l e (rmA frT_print loT_print h0 h') s m args below meth c g qq A0 True ea rv (tcell qp qq pv' :: X) h' z' H locs (h.2.2.1 - h0.2.2.1) (h.2.2.2 - h0.2.2.2) (F0 m 63 ls [])) (hM63 : ∀ (h : cH) (z : cZ) (pv : Nat → Int32) (x1 : Int32) (x2 : Int32) (x3 : Int32), K63 h z pv x1 x2 x3 = some (h', z', pv') → cle h h') (ad : Nat → Nat) (h : cH) (z : cZ) (pv : Nat → Int32) (x1 : Int32) (x2 : Int32) (x3 : Int32) (s1 : Int32) (H : Heap) (locs : List Loc) (ls : Array Slot) (hle : cle h0 h) (hl : lv_has ls 4 [(0, .ref qp), (1, .int x1), (2, .int x2), (3, .int x3)]) (hw : cWd g A0 s.heap qq ad ea h (tcell qp qq pv :: X) z H locs) (hf : jT_print_78 K63 h z pv x1 x2 x3 s1 = some (h', z', pv')) : cGa p l e (rmA frT_print loT_print h0 h') s m args below meth c g qq A0 True ea rv (tcell qp qq pv' :: X) h' z' H locs (h.2.2.1 - h0.2.2.1) (h.2.2.2 - h0.2.2.2) (F0 m 78 ls [.int s1, .ref qp]) := by
  have hmn := oT_print_78 hM63 h z pv x1 x2 x3 s1 hf
  have hroom : h.2.2.1 - h0.2.2.1 + 0 ≤ (rmA frT_print loT_print h0 h').cells ∧ h.2.2.2 - h0.2.2.2 + 0 ≤ (rmA frT_print loT_print h0 h').slots := ⟨by have w := hmn.1; show _ ≤ h'.2.2.1 - h0.2.2.1; omega, by have w := hmn.2; show _ ≤ h'.2.2.2 - h0.2.2.2; omega⟩
  unfold jT_print_78 at hf
  obtain ⟨⟨hh1, z1, pv1⟩, g1, hf⟩ := ts_b hf
  try dsimp only at hf
  have hm9 : cle hh1 h' := oT_print_81 hM63 _ _ _ _ _ _ hf
  have hm8 := oT_putTrack g1
  have hm91 := hm9.1
  have hm92 := hm9.2
  have hm81 := hm8.1
  have hm82 := hm8.2
  have hle1 := hle.1
  have hle2 := hle.2
  refine c_callAA (rest := []) (As := [.int s1]) (rv := fun ea => none) (b := qp) C hl.1 hw (cT_putTrack_met g1) (callW_of (rm := rmA frT_putTrack loT_putTrack h hh1) (C := "MidiDesk$Printer") 1 C.1.2.2.2.2 gw_684 gw_686 gw_23 gw_66 gw_687 kT_putTrack ⟨Nat.le_of_ble_eq_true rfl, Nat.le_of_ble_eq_true rfl⟩) (c_recvX (ci := 3) C.2 rfl hw) rfl rfl (Nat.le_of_ble_eq_true rfl) dT_print_78 ⟨by show _ ≤ h'.2.2.1 - h0.2.2.1; omega, by show _ ≤ h'.2.2.2 - h0.2.2.2; omega⟩ (fun ad H locs hw => ?_)
  refine W.widen (k := hh1.2.2.1 - h0.2.2.1) (n := hh1.2.2.2 - h0.2.2.2) (by omega) (by omega) ?_
  refine W.eq (g2 := F0 m 81 ls []) rfl ?_
  exact wT_print_81 C hr hlk hrv hK63 hM63 _ hh1 z1 pv1 x1 x2 x3 _ _ ls (hle.tr (oT_putTrack g1)) (lv_sub hl [0, 1, 2, 3] rfl) hw hf
set_option maxHeartbeats 4000000 in
set_option maxRecDepth 100000 in
theorem wT_print_63 {p : Program} {l : Launch} {e : Env} {s : State} {m : MethodId} {args : Array Value} {below : List Frame} {meth : Method} {c : Code} {g : gT} {qq ea : Nat → Nat} {A0 : Nat → Prop} {h0 : cH} {X : va_W} {rv : (Nat → Nat) → Option Value} {qp : Nat} {pv' : Nat → Int32} {h' : cH} {z' : cZ} (C : mCx p m c cT_print 4 s args g "MidiDesk$Printer") (hr : meth.sig.returnType = none) (hlk : meth.locks = false) (hrv : rv = fun ea => none) (k : Nat) : ∀ (ad : Nat → Nat) (h : cH) (z : cZ) (pv : Nat → Int32) (x1 : Int32) (x2 : Int32) (x3 : Int32) (H : Heap) (locs : List Loc) (ls : Array Slot), cle h0 h → lv_has ls 4 [(0, .ref qp), (1, .int x1), (2, .int x2), (3, .int x3)] → cWd g A0 s.heap qq ad ea h (tcell qp qq pv :: X) z H locs → lT_print_63 k h z pv x1 x2 x3 = some (h', z', pv') → cGa p l e (rmA frT_print loT_print h0 h') s m args below meth c g qq A0 True ea rv (tcell qp qq pv' :: X) h' z' H locs (h.2.2.1 - h0.2.2.1) (h.2.2.2 - h0.2.2.2) (F0 m 63 ls []) := by
  induction k with
  | zero => intro ad h z pv x1 x2 x3 H locs ls hle hl hw hf; cases hf
  | succ k ih =>
    intro ad h z pv x1 x2 x3 H locs ls hle hl hw hf
    have hmn := oT_print_63 (k + 1) h z pv x1 x2 x3 hf
    have hroom : h.2.2.1 - h0.2.2.1 + 0 ≤ (rmA frT_print loT_print h0 h').cells ∧ h.2.2.2 - h0.2.2.2 + 0 ≤ (rmA frT_print loT_print h0 h').slots := ⟨by have w := hmn.1; show _ ≤ h'.2.2.1 - h0.2.2.1; omega, by have w := hmn.2; show _ ≤ h'.2.2.2 - h0.2.2.2; omega⟩
    have hf : (if x2 ≤ x3 then (some (h, z, pv)) else (if x1 = 0 then (jT_print_78 (lT_print_63 k) h z pv x1 x2 x3 (-1 : Int32)) else (jT_print_78 (lT_print_63 k) h z pv x1 x2 x3 x3))) = some (h', z', pv') := hf
    have ihm := oT_print_63 k (h' := h') (z' := z') (pv' := pv')
    refine lv_iload_n C.1.1 C.1.2.1 dT_print_63 rfl (lv_at hl 3 rfl) ?_
    refine lv_iload_n C.1.1 C.1.2.1 dT_print_64 rfl (lv_at hl 2 rfl) ?_
    refine lv_icmp_ge (tgt := 87) C.1.1 C.1.2.1 dT_print_65 (by decide) (fun c1 => ?_) (fun c1 => ?_)
    · have hf := ts_t hf c1
      obtain ⟨hf, hpv⟩ := pr4 hf
      exact c_retAv C hr hlk hrv (fun _ => rfl) hw hf (by rw [hpv]) (by cases hf; exact ⟨Nat.le_refl _, Nat.le_refl _⟩) dT_print_87
    · have hf := ts_f hf c1
      refine lv_aload_n C.1.1 C.1.2.1 dT_print_68 rfl (lv_at hl 0 rfl) ?_
      refine lv_iload_n C.1.1 C.1.2.1 dT_print_69 rfl (lv_at hl 1 rfl) ?_
      refine lv_if_ne (tgt := 77) C.1.1 C.1.2.1 dT_print_70 (by decide) (fun c2 => ?_) (fun c2 => ?_)
      · have hf := ts_f hf c2
        refine lv_iload_n C.1.1 C.1.2.1 dT_print_77 rfl (lv_at hl 3 rfl) ?_
        exact wT_print_78 C hr hlk hrv ih ihm _ h z pv x1 x2 x3 x3 _ _ ls hle (lv_sub hl [0, 1, 2, 3] rfl) hw hf
      · have hf := ts_t hf c2
        refine lv_iconst (v := (-1 : Int32)) C.1.1 C.1.2.1 dT_print_73 (by decide) ?_
        refine lv_goto (tgt := 78) C.1.1 C.1.2.1 dT_print_74 (by decide) ?_
        exact wT_print_78 C hr hlk hrv ih ihm _ h z pv x1 x2 x3 (-1 : Int32) _ _ ls hle (lv_sub hl [0, 1, 2, 3] rfl) hw hf
set_option maxHeartbeats 4000000 in
set_option maxRecDepth 100000 in
theorem wT_print_61 {p : Program} {l : Launch} {e : Env} {s : State} {m : MethodId} {args : Array Value} {below : List Frame} {meth : Method} {c : Code} {g : gT} {qq ea : Nat → Nat} {A0 : Nat → Prop} {h0 : cH} {X : va_W} {rv : (Nat → Nat) → Option Value} {qp : Nat} {pv' : Nat → Int32} {h' : cH} {z' : cZ} (C : mCx p m c cT_print 4 s args g "MidiDesk$Printer") (hr : meth.sig.returnType = none) (hlk : meth.locks = false) (hrv : rv = fun ea => none) (ad : Nat → Nat) (h : cH) (z : cZ) (pv : Nat → Int32) (x1 : Int32) (x2 : Int32) (H : Heap) (locs : List Loc) (ls : Array Slot) (hle : cle h0 h) (hl : lv_has ls 4 [(0, .ref qp), (1, .int x1), (2, .int x2)]) (hw : cWd g A0 s.heap qq ad ea h (tcell qp qq pv :: X) z H locs) (hf : jT_print_61 h z pv x1 x2 = some (h', z', pv')) : cGa p l e (rmA frT_print loT_print h0 h') s m args below meth c g qq A0 True ea rv (tcell qp qq pv' :: X) h' z' H locs (h.2.2.1 - h0.2.2.1) (h.2.2.2 - h0.2.2.2) (F0 m 61 ls []) := by
  have hmn := oT_print_61 h z pv x1 x2 hf
  have hroom : h.2.2.1 - h0.2.2.1 + 0 ≤ (rmA frT_print loT_print h0 h').cells ∧ h.2.2.2 - h0.2.2.2 + 0 ≤ (rmA frT_print loT_print h0 h').slots := ⟨by have w := hmn.1; show _ ≤ h'.2.2.1 - h0.2.2.1; omega, by have w := hmn.2; show _ ≤ h'.2.2.2 - h0.2.2.2; omega⟩
  unfold jT_print_61 at hf
  refine lv_iconst (v := (0 : Int32)) C.1.1 C.1.2.1 dT_print_61 (by decide) ?_
  refine lv_istore_n (lv' := [(3, .int (0 : Int32)), (0, .ref qp), (1, .int x1), (2, .int x2)]) C.1.1 C.1.2.1 dT_print_62 rfl hl (by decide) rfl (fun ls hl => ?_)
  exact wT_print_63 C hr hlk hrv FU _ h z pv x1 x2 (0 : Int32) _ _ ls hle (lv_sub hl [1, 2, 3, 0] rfl) hw hf
set_option maxHeartbeats 4000000 in
set_option maxRecDepth 100000 in
theorem wT_print_49 {p : Program} {l : Launch} {e : Env} {s : State} {m : MethodId} {args : Array Value} {below : List Frame} {meth : Method} {c : Code} {g : gT} {qq ea : Nat → Nat} {A0 : Nat → Prop} {h0 : cH} {X : va_W} {rv : (Nat → Nat) → Option Value} {qp : Nat} {pv' : Nat → Int32} {h' : cH} {z' : cZ} (C : mCx p m c cT_print 4 s args g "MidiDesk$Printer") (hr : meth.sig.returnType = none) (hlk : meth.locks = false) (hrv : rv = fun ea => none) (ad : Nat → Nat) (h : cH) (z : cZ) (pv : Nat → Int32) (x1 : Int32) (x2 : Int32) (H : Heap) (locs : List Loc) (ls : Array Slot) (hle : cle h0 h) (hl : lv_has ls 4 [(0, .ref qp), (1, .int x1), (2, .int x2)]) (hw : cWd g A0 s.heap qq ad ea h (tcell qp qq pv :: X) z H locs) (hf : jT_print_49 h z pv x1 x2 = some (h', z', pv')) : cGa p l e (rmA frT_print loT_print h0 h') s m args below meth c g qq A0 True ea rv (tcell qp qq pv' :: X) h' z' H locs (h.2.2.1 - h0.2.2.1) (h.2.2.2 - h0.2.2.2) (F0 m 49 ls []) := by
  have hmn := oT_print_49 h z pv x1 x2 hf
  have hroom : h.2.2.1 - h0.2.2.1 + 0 ≤ (rmA frT_print loT_print h0 h').cells ∧ h.2.2.2 - h0.2.2.2 + 0 ≤ (rmA frT_print loT_print h0 h').slots := ⟨by have w := hmn.1; show _ ≤ h'.2.2.1 - h0.2.2.1; omega, by have w := hmn.2; show _ ≤ h'.2.2.2 - h0.2.2.2; omega⟩
  unfold jT_print_49 at hf
  refine lv_aload_n C.1.1 C.1.2.1 dT_print_49 rfl (lv_at hl 0 rfl) ?_
  refine lv_aload_n C.1.1 C.1.2.1 dT_print_50 rfl (lv_at hl 0 rfl) ?_
  refine cg_Printer_Printer_score C hw dT_print_51 ?_
  refine cg_Printer_Score_division C hw dT_print_54 ?_
  refine lv_iconst (v := (2 : Int32)) C.1.1 C.1.2.1 dT_print_57 (by decide) ?_
  obtain ⟨⟨hh1, z1, pv1⟩, g1, hf⟩ := ts_b hf
  try dsimp only at hf
  have hm9 : cle hh1 h' := oT_print_61 _ _ _ _ _ hf
  have hm8 := oT_putFixed g1
  have hm91 := hm9.1
  have hm92 := hm9.2
  have hm81 := hm8.1
  have hm82 := hm8.2
  have hle1 := hle.1
  have hle2 := hle.2
  refine c_callAA (rest := []) (As := [.int (zi z 6), .int (2 : Int32)]) (rv := fun ea => none) (b := qp) C hl.1 hw (cT_putFixed_met g1) (callW_of (rm := rmA frT_putFixed loT_putFixed h hh1) (C := "MidiDesk$Printer") 2 C.1.2.2.2.2 gw_679 gw_681 gw_22 gw_66 gw_682 kT_putFixed ⟨Nat.le_of_ble_eq_true rfl, Nat.le_of_ble_eq_true rfl⟩) (c_recvX (ci := 3) C.2 rfl hw) rfl rfl (Nat.le_of_ble_eq_true rfl) dT_print_58 ⟨by show _ ≤ h'.2.2.1 - h0.2.2.1; omega, by show _ ≤ h'.2.2.2 - h0.2.2.2; omega⟩ (fun ad H locs hw => ?_)
  refine W.widen (k := hh1.2.2.1 - h0.2.2.1) (n := hh1.2.2.2 - h0.2.2.2) (by omega) (by omega) ?_
  refine W.eq (g2 := F0 m 61 ls []) rfl ?_
  exact wT_print_61 C hr hlk hrv _ hh1 z1 pv1 x1 x2 _ _ ls (hle.tr (oT_putFixed g1)) (lv_sub hl [0, 1, 2] rfl) hw hf
set_option maxHeartbeats 4000000 in
set_option maxRecDepth 100000 in
theorem wT_print_43 {p : Program} {l : Launch} {e : Env} {s : State} {m : MethodId} {args : Array Value} {below : List Frame} {meth : Method} {c : Code} {g : gT} {qq ea : Nat → Nat} {A0 : Nat → Prop} {h0 : cH} {X : va_W} {rv : (Nat → Nat) → Option Value} {qp : Nat} {pv' : Nat → Int32} {h' : cH} {z' : cZ} (C : mCx p m c cT_print 4 s args g "MidiDesk$Printer") (hr : meth.sig.returnType = none) (hlk : meth.locks = false) (hrv : rv = fun ea => none) (ad : Nat → Nat) (h : cH) (z : cZ) (pv : Nat → Int32) (x1 : Int32) (x2 : Int32) (H : Heap) (locs : List Loc) (ls : Array Slot) (hle : cle h0 h) (hl : lv_has ls 4 [(0, .ref qp), (1, .int x1), (2, .int x2)]) (hw : cWd g A0 s.heap qq ad ea h (tcell qp qq pv :: X) z H locs) (hf : jT_print_43 h z pv x1 x2 = some (h', z', pv')) : cGa p l e (rmA frT_print loT_print h0 h') s m args below meth c g qq A0 True ea rv (tcell qp qq pv' :: X) h' z' H locs (h.2.2.1 - h0.2.2.1) (h.2.2.2 - h0.2.2.2) (F0 m 43 ls []) := by
  have hmn := oT_print_43 h z pv x1 x2 hf
  have hroom : h.2.2.1 - h0.2.2.1 + 0 ≤ (rmA frT_print loT_print h0 h').cells ∧ h.2.2.2 - h0.2.2.2 + 0 ≤ (rmA frT_print loT_print h0 h').slots := ⟨by have w := hmn.1; show _ ≤ h'.2.2.1 - h0.2.2.1; omega, by have w := hmn.2; show _ ≤ h'.2.2.2 - h0.2.2.2; omega⟩
  unfold jT_print_43 at hf
  refine lv_aload_n C.1.1 C.1.2.1 dT_print_43 rfl (lv_at hl 0 rfl) ?_
  refine lv_iload_n C.1.1 C.1.2.1 dT_print_44 rfl (lv_at hl 2 rfl) ?_
  refine lv_iconst (v := (2 : Int32)) C.1.1 C.1.2.1 dT_print_45 (by decide) ?_
  obtain ⟨⟨hh1, z1, pv1⟩, g1, hf⟩ := ts_b hf
  try dsimp only at hf
  have hm9 : cle hh1 h' := oT_print_49 _ _ _ _ _ hf
  have hm8 := oT_putFixed g1
  have hm91 := hm9.1
  have hm92 := hm9.2
  have hm81 := hm8.1
  have hm82 := hm8.2
  have hle1 := hle.1
  have hle2 := hle.2
  refine c_callAA (rest := []) (As := [.int x2, .int (2 : Int32)]) (rv := fun ea => none) (b := qp) C hl.1 hw (cT_putFixed_met g1) (callW_of (rm := rmA frT_putFixed loT_putFixed h hh1) (C := "MidiDesk$Printer") 2 C.1.2.2.2.2 gw_679 gw_681 gw_22 gw_66 gw_682 kT_putFixed ⟨Nat.le_of_ble_eq_true rfl, Nat.le_of_ble_eq_true rfl⟩) (c_recvX (ci := 3) C.2 rfl hw) rfl rfl (Nat.le_of_ble_eq_true rfl) dT_print_46 ⟨by show _ ≤ h'.2.2.1 - h0.2.2.1; omega, by show _ ≤ h'.2.2.2 - h0.2.2.2; omega⟩ (fun ad H locs hw => ?_)
  refine W.widen (k := hh1.2.2.1 - h0.2.2.1) (n := hh1.2.2.2 - h0.2.2.2) (by omega) (by omega) ?_
  refine W.eq (g2 := F0 m 49 ls []) rfl ?_
  exact wT_print_49 C hr hlk hrv _ hh1 z1 pv1 x1 x2 _ _ ls (hle.tr (oT_putFixed g1)) (lv_sub hl [0, 1, 2] rfl) hw hf
set_option maxHeartbeats 4000000 in
set_option maxRecDepth 100000 in
theorem wT_print_37 {p : Program} {l : Launch} {e : Env} {s : State} {m : MethodId} {args : Array Value} {below : List Frame} {meth : Method} {c : Code} {g : gT} {qq ea : Nat → Nat} {A0 : Nat → Prop} {h0 : cH} {X : va_W} {rv : (Nat → Nat) → Option Value} {qp : Nat} {pv' : Nat → Int32} {h' : cH} {z' : cZ} (C : mCx p m c cT_print 4 s args g "MidiDesk$Printer") (hr : meth.sig.returnType = none) (hlk : meth.locks = false) (hrv : rv = fun ea => none) (ad : Nat → Nat) (h : cH) (z : cZ) (pv : Nat → Int32) (x1 : Int32) (x2 : Int32) (H : Heap) (locs : List Loc) (ls : Array Slot) (hle : cle h0 h) (hl : lv_has ls 4 [(0, .ref qp), (1, .int x1), (2, .int x2)]) (hw : cWd g A0 s.heap qq ad ea h (tcell qp qq pv :: X) z H locs) (hf : jT_print_37 h z pv x1 x2 = some (h', z', pv')) : cGa p l e (rmA frT_print loT_print h0 h') s m args below meth c g qq A0 True ea rv (tcell qp qq pv' :: X) h' z' H locs (h.2.2.1 - h0.2.2.1) (h.2.2.2 - h0.2.2.2) (F0 m 37 ls []) := by
  have hmn := oT_print_37 h z pv x1 x2 hf
  have hroom : h.2.2.1 - h0.2.2.1 + 0 ≤ (rmA frT_print loT_print h0 h').cells ∧ h.2.2.2 - h0.2.2.2 + 0 ≤ (rmA frT_print loT_print h0 h').slots := ⟨by have w := hmn.1; show _ ≤ h'.2.2.1 - h0.2.2.1; omega, by have w := hmn.2; show _ ≤ h'.2.2.2 - h0.2.2.2; omega⟩
  unfold jT_print_37 at hf
  refine lv_aload_n C.1.1 C.1.2.1 dT_print_37 rfl (lv_at hl 0 rfl) ?_
  refine lv_iload_n C.1.1 C.1.2.1 dT_print_38 rfl (lv_at hl 1 rfl) ?_
  refine lv_iconst (v := (2 : Int32)) C.1.1 C.1.2.1 dT_print_39 (by decide) ?_
  obtain ⟨⟨hh1, z1, pv1⟩, g1, hf⟩ := ts_b hf
  try dsimp only at hf
  have hm9 : cle hh1 h' := oT_print_43 _ _ _ _ _ hf
  have hm8 := oT_putFixed g1
  have hm91 := hm9.1
  have hm92 := hm9.2
  have hm81 := hm8.1
  have hm82 := hm8.2
  have hle1 := hle.1
  have hle2 := hle.2
  refine c_callAA (rest := []) (As := [.int x1, .int (2 : Int32)]) (rv := fun ea => none) (b := qp) C hl.1 hw (cT_putFixed_met g1) (callW_of (rm := rmA frT_putFixed loT_putFixed h hh1) (C := "MidiDesk$Printer") 2 C.1.2.2.2.2 gw_679 gw_681 gw_22 gw_66 gw_682 kT_putFixed ⟨Nat.le_of_ble_eq_true rfl, Nat.le_of_ble_eq_true rfl⟩) (c_recvX (ci := 3) C.2 rfl hw) rfl rfl (Nat.le_of_ble_eq_true rfl) dT_print_40 ⟨by show _ ≤ h'.2.2.1 - h0.2.2.1; omega, by show _ ≤ h'.2.2.2 - h0.2.2.2; omega⟩ (fun ad H locs hw => ?_)
  refine W.widen (k := hh1.2.2.1 - h0.2.2.1) (n := hh1.2.2.2 - h0.2.2.2) (by omega) (by omega) ?_
  refine W.eq (g2 := F0 m 43 ls []) rfl ?_
  exact wT_print_43 C hr hlk hrv _ hh1 z1 pv1 x1 x2 _ _ ls (hle.tr (oT_putFixed g1)) (lv_sub hl [0, 1, 2] rfl) hw hf
set_option maxHeartbeats 4000000 in
set_option maxRecDepth 100000 in
theorem wT_print_30 {p : Program} {l : Launch} {e : Env} {s : State} {m : MethodId} {args : Array Value} {below : List Frame} {meth : Method} {c : Code} {g : gT} {qq ea : Nat → Nat} {A0 : Nat → Prop} {h0 : cH} {X : va_W} {rv : (Nat → Nat) → Option Value} {qp : Nat} {pv' : Nat → Int32} {h' : cH} {z' : cZ} (C : mCx p m c cT_print 4 s args g "MidiDesk$Printer") (hr : meth.sig.returnType = none) (hlk : meth.locks = false) (hrv : rv = fun ea => none) (ad : Nat → Nat) (h : cH) (z : cZ) (pv : Nat → Int32) (x1 : Int32) (x2 : Int32) (H : Heap) (locs : List Loc) (ls : Array Slot) (hle : cle h0 h) (hl : lv_has ls 4 [(0, .ref qp), (1, .int x1), (2, .int x2)]) (hw : cWd g A0 s.heap qq ad ea h (tcell qp qq pv :: X) z H locs) (hf : jT_print_30 h z pv x1 x2 = some (h', z', pv')) : cGa p l e (rmA frT_print loT_print h0 h') s m args below meth c g qq A0 True ea rv (tcell qp qq pv' :: X) h' z' H locs (h.2.2.1 - h0.2.2.1) (h.2.2.2 - h0.2.2.2) (F0 m 30 ls []) := by
  have hmn := oT_print_30 h z pv x1 x2 hf
  have hroom : h.2.2.1 - h0.2.2.1 + 0 ≤ (rmA frT_print loT_print h0 h').cells ∧ h.2.2.2 - h0.2.2.2 + 0 ≤ (rmA frT_print loT_print h0 h').slots := ⟨by have w := hmn.1; show _ ≤ h'.2.2.1 - h0.2.2.1; omega, by have w := hmn.2; show _ ≤ h'.2.2.2 - h0.2.2.2; omega⟩
  unfold jT_print_30 at hf
  refine lv_aload_n C.1.1 C.1.2.1 dT_print_30 rfl (lv_at hl 0 rfl) ?_
  refine lv_bipush (v := (6 : Int32)) C.1.1 C.1.2.1 dT_print_31 (by decide) ?_
  refine lv_iconst (v := (4 : Int32)) C.1.1 C.1.2.1 dT_print_33 (by decide) ?_
  obtain ⟨⟨hh1, z1, pv1⟩, g1, hf⟩ := ts_b hf
  try dsimp only at hf
  have hm9 : cle hh1 h' := oT_print_37 _ _ _ _ _ hf
  have hm8 := oT_putFixed g1
  have hm91 := hm9.1
  have hm92 := hm9.2
  have hm81 := hm8.1
  have hm82 := hm8.2
  have hle1 := hle.1
  have hle2 := hle.2
  refine c_callAA (rest := []) (As := [.int (6 : Int32), .int (4 : Int32)]) (rv := fun ea => none) (b := qp) C hl.1 hw (cT_putFixed_met g1) (callW_of (rm := rmA frT_putFixed loT_putFixed h hh1) (C := "MidiDesk$Printer") 2 C.1.2.2.2.2 gw_679 gw_681 gw_22 gw_66 gw_682 kT_putFixed ⟨Nat.le_of_ble_eq_true rfl, Nat.le_of_ble_eq_true rfl⟩) (c_recvX (ci := 3) C.2 rfl hw) rfl rfl (Nat.le_of_ble_eq_true rfl) dT_print_34 ⟨by show _ ≤ h'.2.2.1 - h0.2.2.1; omega, by show _ ≤ h'.2.2.2 - h0.2.2.2; omega⟩ (fun ad H locs hw => ?_)
  refine W.widen (k := hh1.2.2.1 - h0.2.2.1) (n := hh1.2.2.2 - h0.2.2.2) (by omega) (by omega) ?_
  refine W.eq (g2 := F0 m 37 ls []) rfl ?_
  exact wT_print_37 C hr hlk hrv _ hh1 z1 pv1 x1 x2 _ _ ls (hle.tr (oT_putFixed g1)) (lv_sub hl [0, 1, 2] rfl) hw hf
set_option maxHeartbeats 4000000 in
set_option maxRecDepth 100000 in
theorem wT_print_15 {p : Program} {l : Launch} {e : Env} {s : State} {m : MethodId} {args : Array Value} {below : List Frame} {meth : Method} {c : Code} {g : gT} {qq ea : Nat → Nat} {A0 : Nat → Prop} {h0 : cH} {X : va_W} {rv : (Nat → Nat) → Option Value} {qp : Nat} {pv' : Nat → Int32} {h' : cH} {z' : cZ} (C : mCx p m c cT_print 4 s args g "MidiDesk$Printer") (hr : meth.sig.returnType = none) (hlk : meth.locks = false) (hrv : rv = fun ea => none) (ad : Nat → Nat) (h : cH) (z : cZ) (pv : Nat → Int32) (x1 : Int32) (s0 : Int32) (H : Heap) (locs : List Loc) (ls : Array Slot) (hle : cle h0 h) (hl : lv_has ls 4 [(0, .ref qp), (1, .int x1)]) (hw : cWd g A0 s.heap qq ad ea h (tcell qp qq pv :: X) z H locs) (hf : jT_print_15 h z pv x1 s0 = some (h', z', pv')) : cGa p l e (rmA frT_print loT_print h0 h') s m args below meth c g qq A0 True ea rv (tcell qp qq pv' :: X) h' z' H locs (h.2.2.1 - h0.2.2.1) (h.2.2.2 - h0.2.2.2) (F0 m 15 ls [.int s0]) := by
  have hmn := oT_print_15 h z pv x1 s0 hf
  have hroom : h.2.2.1 - h0.2.2.1 + 0 ≤ (rmA frT_print loT_print h0 h').cells ∧ h.2.2.2 - h0.2.2.2 + 0 ≤ (rmA frT_print loT_print h0 h').slots := ⟨by have w := hmn.1; show _ ≤ h'.2.2.1 - h0.2.2.1; omega, by have w := hmn.2; show _ ≤ h'.2.2.2 - h0.2.2.2; omega⟩
  unfold jT_print_15 at hf
  refine lv_istore_n (lv' := [(2, .int s0), (0, .ref qp), (1, .int x1)]) C.1.1 C.1.2.1 dT_print_15 rfl hl (by decide) rfl (fun ls hl => ?_)
  refine lv_aload_n C.1.1 C.1.2.1 dT_print_16 rfl (lv_at hl 1 rfl) ?_
  refine cg_Printer_Printer_output C hw dT_print_17 ?_
  obtain ⟨z1, g1, hf⟩ := ts_b hf
  try dsimp only at hf
  refine c_callV (rest := []) (As := []) (rv := none) (b := (qq 2)) C hl.1 hw (cB1_empty_met g1) rfl (callW_of (rm := rB1_empty) (C := "MidiDesk$Bytes") 0 C.1.2.2.2.2 gw_677 gw_238 gw_239 gw_53 gw_240 kB1_empty ⟨Nat.le_of_ble_eq_true rfl, Nat.le_of_ble_eq_true rfl⟩) (c_recv_B1 C.2 hw) rfl rfl (Nat.le_of_ble_eq_true rfl) dT_print_20 hroom (fun H locs hw => ?_)
  refine W.eq (g2 := F0 m 23 ls []) rfl ?_
  refine W.widen (k := h.2.2.1 - h0.2.2.1) (n := h.2.2.2 - h0.2.2.2) (Nat.le_refl _) (Nat.le_refl _) ?_
  refine lv_aload_n C.1.1 C.1.2.1 dT_print_23 rfl (lv_at hl 1 rfl) ?_
  refine lv_ldc C.1.1 C.1.2.1 C.1.2.2.2.1 (C.1.2.2.2.2 _ gw_678) dT_print_24 ?_
  refine lv_iconst (v := (4 : Int32)) C.1.1 C.1.2.1 dT_print_26 (by decide) ?_
  obtain ⟨⟨hh2, z2, pv2⟩, g2, hf⟩ := ts_b hf
  try dsimp only at hf
  have hm9 : cle hh2 h' := oT_print_30 _ _ _ _ _ hf
  have hm8 := oT_putFixed g2
  have hm91 := hm9.1
  have hm92 := hm9.2
  have hm81 := hm8.1
  have hm82 := hm8.2
  have hle1 := hle.1
  have hle2 := hle.2
  refine c_callAA (rest := []) (As := [.int (1297377380 : Int32), .int (4 : Int32)]) (rv := fun ea => none) (b := qp) C hl.1 hw (cT_putFixed_met g2) (callW_of (rm := rmA frT_putFixed loT_putFixed h hh2) (C := "MidiDesk$Printer") 2 C.1.2.2.2.2 gw_679 gw_681 gw_22 gw_66 gw_682 kT_putFixed ⟨Nat.le_of_ble_eq_true rfl, Nat.le_of_ble_eq_true rfl⟩) (c_recvX (ci := 3) C.2 rfl hw) rfl rfl (Nat.le_of_ble_eq_true rfl) dT_print_27 ⟨by show _ ≤ h'.2.2.1 - h0.2.2.1; omega, by show _ ≤ h'.2.2.2 - h0.2.2.2; omega⟩ (fun ad H locs hw => ?_)
  refine W.widen (k := hh2.2.2.1 - h0.2.2.1) (n := hh2.2.2.2 - h0.2.2.2) (by omega) (by omega) ?_
  refine W.eq (g2 := F0 m 30 ls []) rfl ?_
  exact wT_print_30 C hr hlk hrv _ hh2 z2 pv2 x1 s0 _ _ ls (hle.tr (oT_putFixed g2)) (lv_sub hl [1, 2, 0] rfl) hw hf
set_option maxHeartbeats 4000000 in
set_option maxRecDepth 100000 in
theorem cT_print_met {l : Launch} {g : gT} {qq ad ea : Nat → Nat} {h h' : cH} {X : va_W} {qp : Nat} {pv pv' : Nat → Int32} {z z' : cZ} {x1 : Int32} (hf : fT_print h z pv x1 = some (h', z', pv')) : cMeA l yT_print cT_print 4 none frT_print loT_print g qq ad ea h (tcell qp qq pv :: X) z [.ref qp, .int x1] True (fun ea => none) (tcell qp qq pv' :: X) h' z' := by
  refine c_entryA (by decide) (Nat.le_of_ble_eq_true rfl) ?_
  intro p e s m args below meth c ls C hr hlk hnm hl hw
  have hrv : (fun ea => none : (Nat → Nat) → Option Value) = fun ea => none := rfl
  have C : mCx p m c cT_print 4 s args g "MidiDesk$Printer" := C
  have hl : lv_has ls 4 [(0, .ref qp), (1, .int x1)] := hl
  generalize cA g qq ad ea h (tcell qp qq pv :: X) s.heap.size = A0 at hw ⊢
  have hle : cle h h := cle.rf
  have hmn := oT_print hf
  have hroom : h.2.2.1 - h.2.2.1 + 0 ≤ (rmA frT_print loT_print h h').cells ∧ h.2.2.2 - h.2.2.2 + 0 ≤ (rmA frT_print loT_print h h').slots := ⟨by have w := hmn.1; show _ ≤ h'.2.2.1 - h.2.2.1; omega, by have w := hmn.2; show _ ≤ h'.2.2.2 - h.2.2.2; omega⟩
  unfold fT_print at hf
  refine lv_iload_n C.1.1 C.1.2.1 dT_print_0 rfl (lv_at hl 1 rfl) ?_
  refine lv_if_ne (tgt := 8) C.1.1 C.1.2.1 dT_print_1 (by decide) (fun c1 => ?_) (fun c1 => ?_)
  · have hf := ts_f hf c1
    refine lv_aload_n C.1.1 C.1.2.1 dT_print_8 rfl (lv_at hl 0 rfl) ?_
    refine cg_Printer_Printer_score C hw dT_print_9 ?_
    refine cg_Printer_Score_tracks C hw dT_print_12 ?_
    exact wT_print_15 C hr hlk hrv _ h z pv x1 (zi z 5) _ _ ls hle (lv_sub hl [0, 1] rfl) hw hf
  · have hf := ts_t hf c1
    refine lv_iconst (v := (1 : Int32)) C.1.1 C.1.2.1 dT_print_4 (by decide) ?_
    refine lv_goto (tgt := 15) C.1.1 C.1.2.1 dT_print_5 (by decide) ?_
    exact wT_print_15 C hr hlk hrv _ h z pv x1 (1 : Int32) _ _ ls hle (lv_sub hl [0, 1] rfl) hw hf
abbrev cD_feed : ByteArray := prog_1_method_2_code
abbrev yD_feed : MethodName := ⟨"MidiDesk", "feed", "(JI)I"⟩
theorem kD_feed : yD_feed.cls ≠ "java/lang/invoke/MethodHandle" ∧ yD_feed.cls ≠ "java/lang/invoke/VarHandle" ∧ (parseMethodDescriptor yD_feed.desc).map (fun d => d.parameters.length) = some 2 := by decide +kernel
abbrev frD_feed : Nat := 3
abbrev loD_feed : Nat := 83
theorem dD_feed_0 : decode cD_feed 0 = .ok (.iload_n 3, 1) := by decide +kernel
theorem dD_feed_1 : decode cD_feed 1 = .ok (.iconst 1, 1) := by decide +kernel
theorem dD_feed_2 : decode cD_feed 2 = .ok (.if_icmp .lt 24, 3) := by decide +kernel
theorem dD_feed_5 : decode cD_feed 5 = .ok (.iload_n 3, 1) := by decide +kernel
theorem dD_feed_6 : decode cD_feed 6 = .ok (.bipush 8, 2) := by decide +kernel
theorem dD_feed_8 : decode cD_feed 8 = .ok (.if_icmp .gt 18, 3) := by decide +kernel
theorem dD_feed_11 : decode cD_feed 11 = .ok (.aload_n 0, 1) := by decide +kernel
theorem dD_feed_12 : decode cD_feed 12 = .ok (.getfield 14, 3) := by decide +kernel
theorem dD_feed_15 : decode cD_feed 15 = .ok (.invokevirtual 28, 3) := by decide +kernel
theorem dD_feed_18 : decode cD_feed 18 = .ok (.iload_n 3, 1) := by decide +kernel
theorem dD_feed_19 : decode cD_feed 19 = .ok (.iadd, 1) := by decide +kernel
theorem dD_feed_20 : decode cD_feed 20 = .ok (.sipush 12000, 3) := by decide +kernel
theorem dD_feed_23 : decode cD_feed 23 = .ok (.if_icmp .le 5, 3) := by decide +kernel
theorem dD_feed_26 : decode cD_feed 26 = .ok (.iconst (-1), 1) := by decide +kernel
theorem dD_feed_27 : decode cD_feed 27 = .ok (.ireturn, 1) := by decide +kernel
theorem dD_feed_28 : decode cD_feed 28 = .ok (.iload_n 3, 1) := by decide +kernel
theorem dD_feed_29 : decode cD_feed 29 = .ok (.iconst 1, 1) := by decide +kernel
theorem dD_feed_30 : decode cD_feed 30 = .ok (.isub, 1) := by decide +kernel
theorem dD_feed_31 : decode cD_feed 31 = .ok (.istore 4, 2) := by decide +kernel
theorem dD_feed_33 : decode cD_feed 33 = .ok (.iload 4, 2) := by decide +kernel
theorem dD_feed_35 : decode cD_feed 35 = .ok (.ifCond .lt 24, 3) := by decide +kernel
theorem dD_feed_38 : decode cD_feed 38 = .ok (.aload_n 0, 1) := by decide +kernel
theorem dD_feed_39 : decode cD_feed 39 = .ok (.getfield 14, 3) := by decide +kernel
theorem dD_feed_42 : decode cD_feed 42 = .ok (.lload_n 1, 1) := by decide +kernel
theorem dD_feed_43 : decode cD_feed 43 = .ok (.bipush 8, 2) := by decide +kernel
theorem dD_feed_45 : decode cD_feed 45 = .ok (.iload 4, 2) := by decide +kernel
theorem dD_feed_47 : decode cD_feed 47 = .ok (.imul, 1) := by decide +kernel
theorem dD_feed_48 : decode cD_feed 48 = .ok (.lushr, 1) := by decide +kernel
theorem dD_feed_49 : decode cD_feed 49 = .ok (.l2i, 1) := by decide +kernel
theorem dD_feed_50 : decode cD_feed 50 = .ok (.invokevirtual 32, 3) := by decide +kernel
theorem dD_feed_53 : decode cD_feed 53 = .ok (.iinc 4 (-1), 3) := by decide +kernel
theorem dD_feed_56 : decode cD_feed 56 = .ok (.goto (-23), 3) := by decide +kernel
theorem dD_feed_59 : decode cD_feed 59 = .ok (.aload_n 0, 1) := by decide +kernel
theorem dD_feed_60 : decode cD_feed 60 = .ok (.getfield 14, 3) := by decide +kernel
theorem dD_feed_63 : decode cD_feed 63 = .ok (.invokevirtual 28, 3) := by decide +kernel
theorem dD_feed_66 : decode cD_feed 66 = .ok (.ireturn, 1) := by decide +kernel
def jD_feed_53 (K33 : cH → cZ → Int64 → Int32 → Option (Int32 × cH × cZ)) (h : cH) (z : cZ) (y1 : Int64) (x4 : Int32) : Option (Int32 × cH × cZ) := K33 h z y1 (x4 + (-1))
set_option maxHeartbeats 4000000 in
set_option maxRecDepth 100000 in
theorem oD_feed_53 {h' : cH} {z' : cZ} {r' : Int32} {K33 : cH → cZ → Int64 → Int32 → Option (Int32 × cH × cZ)} (hK33 : ∀ (h : cH) (z : cZ) (y1 : Int64) (x4 : Int32), K33 h z y1 x4 = some (r', h', z') → cle h h') (h : cH) (z : cZ) (y1 : Int64) (x4 : Int32) (hf : jD_feed_53 K33 h z y1 x4 = some (r', h', z')) : cle h h' := by
  unfold jD_feed_53 at hf
  exact hK33 h z y1 (x4 + (-1)) hf
def lD_feed_33 : Nat → cH → cZ → Int64 → Int32 → Option (Int32 × cH × cZ)
  | 0 => fun _ _ _ _ => none
  | k + 1 => fun h z y1 x4 => if x4 < 0 then ((fB0_size h z).bind fun (r2, z2) => some (r2, h, z2)) else ((fB0_put h z (((y1.toUInt64 >>> (((8 : Int32) * x4).toInt64.toUInt64 &&& Int64.toUInt64 63)).toInt64).toInt32)).bind fun (hh3, z3) => jD_feed_53 (lD_feed_33 k) hh3 z3 y1 x4)
set_option maxHeartbeats 4000000 in
set_option maxRecDepth 100000 in
theorem oD_feed_33 {h' : cH} {z' : cZ} {r' : Int32} (k : Nat) : ∀ (h : cH) (z : cZ) (y1 : Int64) (x4 : Int32), lD_feed_33 k h z y1 x4 = some (r', h', z') → cle h h' := by
  induction k with
  | zero => intro h z y1 x4 hf; cases hf
  | succ k ih =>
    intro h z y1 x4 hf
    have hf : (if x4 < 0 then ((fB0_size h z).bind fun (r2, z2) => some (r2, h, z2)) else ((fB0_put h z (((y1.toUInt64 >>> (((8 : Int32) * x4).toInt64.toUInt64 &&& Int64.toUInt64 63)).toInt64).toInt32)).bind fun (hh3, z3) => jD_feed_53 (lD_feed_33 k) hh3 z3 y1 x4)) = some (r', h', z') := hf
    rcases Decidable.em (x4 < 0) with c1 | c1
    · have hf := ts_t hf c1
      obtain ⟨⟨r2, z2⟩, g2, hf⟩ := ts_b hf
      try dsimp only at hf
      cases hf
      exact cle.rf
    · have hf := ts_f hf c1
      obtain ⟨⟨hh3, z3⟩, g3, hf⟩ := ts_b hf
      try dsimp only at hf
      exact cle.tr (oB0_put g3) (oD_feed_53 ih hh3 z3 y1 x4 hf)
def fD_feed (h : cH) (z : cZ) (y1 : Int64) (x3 : Int32) : Option (Int32 × cH × cZ) := if x3 < (1 : Int32) then (some ((-1 : Int32), h, z)) else (if (8 : Int32) < x3 then (some ((-1 : Int32), h, z)) else ((fB0_size h z).bind fun (r3, z3) => if (r3 + x3) ≤ (12000 : Int32) then (lD_feed_33 FU h z3 y1 (x3 - (1 : Int32))) else (some ((-1 : Int32), h, z3))))
set_option maxHeartbeats 4000000 in
set_option maxRecDepth 100000 in
theorem oD_feed {h' : cH} {z' : cZ} {r' : Int32} {h : cH} {z : cZ} {y1 : Int64} {x3 : Int32} (hf : fD_feed h z y1 x3 = some (r', h', z')) : cle h h' := by
  unfold fD_feed at hf
  rcases Decidable.em (x3 < (1 : Int32)) with c1 | c1
  · have hf := ts_t hf c1
    cases hf
    exact cle.rf
  · have hf := ts_f hf c1
    rcases Decidable.em ((8 : Int32) < x3) with c2 | c2
    · have hf := ts_t hf c2
      cases hf
      exact cle.rf
    · have hf := ts_f hf c2
      obtain ⟨⟨r3, z3⟩, g3, hf⟩ := ts_b hf
      try dsimp only at hf
      rcases Decidable.em ((r3 + x3) ≤ (12000 : Int32)) with c4 | c4
      · have hf := ts_t hf c4
        exact oD_feed_33 FU h z3 y1 (x3 - (1 : Int32)) hf
      · have hf := ts_f hf c4
        cases hf
        exact cle.rf
set_option maxHeartbeats 4000000 in
set_option maxRecDepth 100000 in
theorem wD_feed_53 {p : Program} {l : Launch} {e : Env} {s : State} {m : MethodId} {args : Array Value} {below : List Frame} {meth : Method} {c : Code} {g : gT} {qq ea : Nat → Nat} {A0 : Nat → Prop} {h0 : cH} {X : va_W} {rv : (Nat → Nat) → Option Value} {h' : cH} {z' : cZ} {r' : Int32} (C : mCx p m c cD_feed 5 s args g "MidiDesk") (hr : meth.sig.returnType = (some .int)) (hlk : meth.locks = false) (hrv : rv = fun ea => some (.int r')) {K33 : cH → cZ → Int64 → Int32 → Option (Int32 × cH × cZ)} (hK33 : ∀ (ad : Nat → Nat) (h : cH) (z : cZ) (y1 : Int64) (x4 : Int32) (H : Heap) (locs : List Loc) (ls : Array Slot), cle h0 h → lv_has ls 5 [(0, .ref (qq 0)), (1, .long y1), (4, .int x4)] → cWd g A0 s.heap qq ad ea h X z H locs → K33 h z y1 x4 = some (r', h', z') → cGa p l e (rmA frD_feed loD_feed h0 h') s m args below meth c g qq A0 True ea rv X h' z' H locs (h.2.2.1 - h0.2.2.1) (h.2.2.2 - h0.2.2.2) (F0 m 33 ls [])) (hM33 : ∀ (h : cH) (z : cZ) (y1 : Int64) (x4 : Int32), K33 h z y1 x4 = some (r', h', z') → cle h h') (ad : Nat → Nat) (h : cH) (z : cZ) (y1 : Int64) (x4 : Int32) (H : Heap) (locs : List Loc) (ls : Array Slot) (hle : cle h0 h) (hl : lv_has ls 5 [(0, .ref (qq 0)), (1, .long y1), (4, .int x4)]) (hw : cWd g A0 s.heap qq ad ea h X z H locs) (hf : jD_feed_53 K33 h z y1 x4 = some (r', h', z')) : cGa p l e (rmA frD_feed loD_feed h0 h') s m args below meth c g qq A0 True ea rv X h' z' H locs (h.2.2.1 - h0.2.2.1) (h.2.2.2 - h0.2.2.2) (F0 m 53 ls []) := by
  have hmn := oD_feed_53 hM33 h z y1 x4 hf
  have hroom : h.2.2.1 - h0.2.2.1 + 0 ≤ (rmA frD_feed loD_feed h0 h').cells ∧ h.2.2.2 - h0.2.2.2 + 0 ≤ (rmA frD_feed loD_feed h0 h').slots := ⟨by have w := hmn.1; show _ ≤ h'.2.2.1 - h0.2.2.1; omega, by have w := hmn.2; show _ ≤ h'.2.2.2 - h0.2.2.2; omega⟩
  unfold jD_feed_53 at hf
  refine lv_iinc (v := x4 + (-1)) (lv' := [(4, .int (x4 + (-1))), (0, .ref (qq 0)), (1, .long y1)]) C.1.1 C.1.2.1 dD_feed_53 hl (k := 2) rfl rfl (by decide) rfl (fun ls hl => ?_)
  refine lv_goto (tgt := 33) C.1.1 C.1.2.1 dD_feed_56 (by decide) ?_
  exact hK33 _ h z y1 (x4 + (-1)) _ _ ls hle (lv_sub hl [1, 2, 0] rfl) hw hf
set_option maxHeartbeats 4000000 in
set_option maxRecDepth 100000 in
theorem wD_feed_33 {p : Program} {l : Launch} {e : Env} {s : State} {m : MethodId} {args : Array Value} {below : List Frame} {meth : Method} {c : Code} {g : gT} {qq ea : Nat → Nat} {A0 : Nat → Prop} {h0 : cH} {X : va_W} {rv : (Nat → Nat) → Option Value} {h' : cH} {z' : cZ} {r' : Int32} (C : mCx p m c cD_feed 5 s args g "MidiDesk") (hr : meth.sig.returnType = (some .int)) (hlk : meth.locks = false) (hrv : rv = fun ea => some (.int r')) (k : Nat) : ∀ (ad : Nat → Nat) (h : cH) (z : cZ) (y1 : Int64) (x4 : Int32) (H : Heap) (locs : List Loc) (ls : Array Slot), cle h0 h → lv_has ls 5 [(0, .ref (qq 0)), (1, .long y1), (4, .int x4)] → cWd g A0 s.heap qq ad ea h X z H locs → lD_feed_33 k h z y1 x4 = some (r', h', z') → cGa p l e (rmA frD_feed loD_feed h0 h') s m args below meth c g qq A0 True ea rv X h' z' H locs (h.2.2.1 - h0.2.2.1) (h.2.2.2 - h0.2.2.2) (F0 m 33 ls []) := by
  induction k with
  | zero => intro ad h z y1 x4 H locs ls hle hl hw hf; cases hf
  | succ k ih =>
    intro ad h z y1 x4 H locs ls hle hl hw hf
    have hmn := oD_feed_33 (k + 1) h z y1 x4 hf
    have hroom : h.2.2.1 - h0.2.2.1 + 0 ≤ (rmA frD_feed loD_feed h0 h').cells ∧ h.2.2.2 - h0.2.2.2 + 0 ≤ (rmA frD_feed loD_feed h0 h').slots := ⟨by have w := hmn.1; show _ ≤ h'.2.2.1 - h0.2.2.1; omega, by have w := hmn.2; show _ ≤ h'.2.2.2 - h0.2.2.2; omega⟩
    have hf : (if x4 < 0 then ((fB0_size h z).bind fun (r2, z2) => some (r2, h, z2)) else ((fB0_put h z (((y1.toUInt64 >>> (((8 : Int32) * x4).toInt64.toUInt64 &&& Int64.toUInt64 63)).toInt64).toInt32)).bind fun (hh3, z3) => jD_feed_53 (lD_feed_33 k) hh3 z3 y1 x4)) = some (r', h', z') := hf
    have ihm := oD_feed_33 k (h' := h') (z' := z') (r' := r')
    refine lv_iload C.1.1 C.1.2.1 dD_feed_33 (lv_at hl 2 rfl) ?_
    refine lv_if_lt (tgt := 59) C.1.1 C.1.2.1 dD_feed_35 (by decide) (fun c1 => ?_) (fun c1 => ?_)
    · have hf := ts_t hf c1
      refine lv_aload_n C.1.1 C.1.2.1 dD_feed_59 rfl (lv_at hl 0 rfl) ?_
      refine cg_Desk_Desk_input C hw dD_feed_60 ?_
      obtain ⟨⟨r2, z2⟩, g2, hf⟩ := ts_b hf
      try dsimp only at hf
      refine c_callV (rest := []) (As := []) (rv := (some (.int r2))) (b := (qq 1)) C hl.1 hw (cB0_size_met g2) rfl (callW_of (rm := rB0_size) (C := "MidiDesk$Bytes") 0 C.1.2.2.2.2 gw_155 gw_156 gw_157 gw_53 gw_158 kB0_size ⟨Nat.le_of_ble_eq_true rfl, Nat.le_of_ble_eq_true rfl⟩) (c_recv_B0 C.2 hw) rfl rfl (Nat.le_of_ble_eq_true rfl) dD_feed_63 hroom (fun H locs hw => ?_)
      refine W.eq (g2 := F0 m 66 ls [.int r2]) rfl ?_
      refine W.widen (k := h.2.2.1 - h0.2.2.1) (n := h.2.2.2 - h0.2.2.2) (Nat.le_refl _) (Nat.le_refl _) ?_
      exact c_retAi C hr hlk hrv (fun _ => rfl) hw hf rfl (by cases hf; exact ⟨Nat.le_refl _, Nat.le_refl _⟩) dD_feed_66
    · have hf := ts_f hf c1
      refine lv_aload_n C.1.1 C.1.2.1 dD_feed_38 rfl (lv_at hl 0 rfl) ?_
      refine cg_Desk_Desk_input C hw dD_feed_39 ?_
      refine lv_lload_n C.1.1 C.1.2.1 dD_feed_42 rfl (lv_at hl 1 rfl) ?_
      refine lv_bipush (v := (8 : Int32)) C.1.1 C.1.2.1 dD_feed_43 (by decide) ?_
      refine lv_iload C.1.1 C.1.2.1 dD_feed_45 (lv_at hl 2 rfl) ?_
      refine lv_imul C.1.1 C.1.2.1 dD_feed_47 ?_
      refine lv_lushr C.1.1 C.1.2.1 dD_feed_48 rfl ?_
      refine lv_l2i C.1.1 C.1.2.1 dD_feed_49 rfl ?_
      obtain ⟨⟨hh3, z3⟩, g3, hf⟩ := ts_b hf
      try dsimp only at hf
      have hm9 : cle hh3 h' := oD_feed_53 ihm _ _ _ _ hf
      have hm8 := oB0_put g3
      have hm91 := hm9.1
      have hm92 := hm9.2
      have hm81 := hm8.1
      have hm82 := hm8.2
      have hle1 := hle.1
      have hle2 := hle.2
      refine c_callAA (rest := []) (As := [.int (((y1.toUInt64 >>> (((8 : Int32) * x4).toInt64.toUInt64 &&& Int64.toUInt64 63)).toInt64).toInt32)]) (rv := fun ea => none) (b := (qq 1)) C hl.1 hw (cB0_put_met g3) (callW_of (rm := rmA frB0_put loB0_put h hh3) (C := "MidiDesk$Bytes") 1 C.1.2.2.2.2 gw_159 gw_160 gw_161 gw_53 gw_162 kB0_put ⟨Nat.le_of_ble_eq_true rfl, Nat.le_of_ble_eq_true rfl⟩) (c_recv_B0 C.2 hw) rfl rfl (Nat.le_of_ble_eq_true rfl) dD_feed_50 ⟨by show _ ≤ h'.2.2.1 - h0.2.2.1; omega, by show _ ≤ h'.2.2.2 - h0.2.2.2; omega⟩ (fun ad H locs hw => ?_)
      refine W.widen (k := hh3.2.2.1 - h0.2.2.1) (n := hh3.2.2.2 - h0.2.2.2) (by omega) (by omega) ?_
      refine W.eq (g2 := F0 m 53 ls []) rfl ?_
      exact wD_feed_53 C hr hlk hrv ih ihm _ hh3 z3 y1 x4 _ _ ls (hle.tr (oB0_put g3)) (lv_sub hl [0, 1, 2] rfl) hw hf
set_option maxHeartbeats 4000000 in
set_option maxRecDepth 100000 in
theorem cD_feed_met {l : Launch} {g : gT} {qq ad ea : Nat → Nat} {h h' : cH} {X : va_W} {z z' : cZ} {y1 : Int64} {x3 : Int32} {r' : Int32} (hf : fD_feed h z y1 x3 = some (r', h', z')) : cMeA l yD_feed cD_feed 5 (some .int) frD_feed loD_feed g qq ad ea h X z [.ref (qq 0), .long y1, .int x3] True (fun ea => some (.int r')) X h' z' := by
  refine c_entryA (by decide) (Nat.le_of_ble_eq_true rfl) ?_
  intro p e s m args below meth c ls C hr hlk hnm hl hw
  have hrv : (fun ea => some (.int r') : (Nat → Nat) → Option Value) = fun ea => some (.int r') := rfl
  have C : mCx p m c cD_feed 5 s args g "MidiDesk" := C
  have hl : lv_has ls 5 [(0, .ref (qq 0)), (1, .long y1), (3, .int x3)] := hl
  generalize cA g qq ad ea h X s.heap.size = A0 at hw ⊢
  have hle : cle h h := cle.rf
  have hmn := oD_feed hf
  have hroom : h.2.2.1 - h.2.2.1 + 0 ≤ (rmA frD_feed loD_feed h h').cells ∧ h.2.2.2 - h.2.2.2 + 0 ≤ (rmA frD_feed loD_feed h h').slots := ⟨by have w := hmn.1; show _ ≤ h'.2.2.1 - h.2.2.1; omega, by have w := hmn.2; show _ ≤ h'.2.2.2 - h.2.2.2; omega⟩
  unfold fD_feed at hf
  refine lv_iload_n C.1.1 C.1.2.1 dD_feed_0 rfl (lv_at hl 2 rfl) ?_
  refine lv_iconst (v := (1 : Int32)) C.1.1 C.1.2.1 dD_feed_1 (by decide) ?_
  refine lv_icmp_lt (tgt := 26) C.1.1 C.1.2.1 dD_feed_2 (by decide) (fun c1 => ?_) (fun c1 => ?_)
  · have hf := ts_t hf c1
    refine lv_iconst (v := (-1 : Int32)) C.1.1 C.1.2.1 dD_feed_26 (by decide) ?_
    exact c_retAi C hr hlk hrv (fun _ => rfl) hw hf rfl (by cases hf; exact ⟨Nat.le_refl _, Nat.le_refl _⟩) dD_feed_27
  · have hf := ts_f hf c1
    refine lv_iload_n C.1.1 C.1.2.1 dD_feed_5 rfl (lv_at hl 2 rfl) ?_
    refine lv_bipush (v := (8 : Int32)) C.1.1 C.1.2.1 dD_feed_6 (by decide) ?_
    refine lv_icmp_gt (tgt := 26) C.1.1 C.1.2.1 dD_feed_8 (by decide) (fun c2 => ?_) (fun c2 => ?_)
    · have hf := ts_t hf c2
      refine lv_iconst (v := (-1 : Int32)) C.1.1 C.1.2.1 dD_feed_26 (by decide) ?_
      exact c_retAi C hr hlk hrv (fun _ => rfl) hw hf rfl (by cases hf; exact ⟨Nat.le_refl _, Nat.le_refl _⟩) dD_feed_27
    · have hf := ts_f hf c2
      refine lv_aload_n C.1.1 C.1.2.1 dD_feed_11 rfl (lv_at hl 0 rfl) ?_
      refine cg_Desk_Desk_input C hw dD_feed_12 ?_
      obtain ⟨⟨r3, z3⟩, g3, hf⟩ := ts_b hf
      try dsimp only at hf
      refine c_callV (rest := []) (As := []) (rv := (some (.int r3))) (b := (qq 1)) C hl.1 hw (cB0_size_met g3) rfl (callW_of (rm := rB0_size) (C := "MidiDesk$Bytes") 0 C.1.2.2.2.2 gw_155 gw_156 gw_157 gw_53 gw_158 kB0_size ⟨Nat.le_of_ble_eq_true rfl, Nat.le_of_ble_eq_true rfl⟩) (c_recv_B0 C.2 hw) rfl rfl (Nat.le_of_ble_eq_true rfl) dD_feed_15 hroom (fun H locs hw => ?_)
      refine W.eq (g2 := F0 m 18 ls [.int r3]) rfl ?_
      refine W.widen (k := h.2.2.1 - h.2.2.1) (n := h.2.2.2 - h.2.2.2) (Nat.le_refl _) (Nat.le_refl _) ?_
      refine lv_iload_n C.1.1 C.1.2.1 dD_feed_18 rfl (lv_at hl 2 rfl) ?_
      refine lv_iadd C.1.1 C.1.2.1 dD_feed_19 ?_
      refine lv_sipush (v := (12000 : Int32)) C.1.1 C.1.2.1 dD_feed_20 (by decide) ?_
      refine lv_icmp_le (tgt := 28) C.1.1 C.1.2.1 dD_feed_23 (by decide) (fun c4 => ?_) (fun c4 => ?_)
      · have hf := ts_t hf c4
        refine lv_iload_n C.1.1 C.1.2.1 dD_feed_28 rfl (lv_at hl 2 rfl) ?_
        refine lv_iconst (v := (1 : Int32)) C.1.1 C.1.2.1 dD_feed_29 (by decide) ?_
        refine lv_isub C.1.1 C.1.2.1 dD_feed_30 ?_
        refine lv_istore (lv' := [(4, .int (x3 - (1 : Int32))), (0, .ref (qq 0)), (1, .long y1), (3, .int x3)]) C.1.1 C.1.2.1 dD_feed_31 hl (by decide) rfl (fun ls hl => ?_)
        exact wD_feed_33 C hr hlk hrv FU _ h z3 y1 (x3 - (1 : Int32)) _ _ ls hle (lv_sub hl [1, 2, 0] rfl) hw hf
      · have hf := ts_f hf c4
        refine lv_iconst (v := (-1 : Int32)) C.1.1 C.1.2.1 dD_feed_26 (by decide) ?_
        exact c_retAi C hr hlk hrv (fun _ => rfl) hw hf rfl (by cases hf; exact ⟨Nat.le_refl _, Nat.le_refl _⟩) dD_feed_27
abbrev cD_back : ByteArray := prog_1_method_14_code
abbrev yD_back : MethodName := ⟨"MidiDesk", "back", "()I"⟩
theorem kD_back : yD_back.cls ≠ "java/lang/invoke/MethodHandle" ∧ yD_back.cls ≠ "java/lang/invoke/VarHandle" ∧ (parseMethodDescriptor yD_back.desc).map (fun d => d.parameters.length) = some 0 := by decide +kernel
abbrev frD_back : Nat := 3
abbrev loD_back : Nat := 83
theorem dD_back_0 : decode cD_back 0 = .ok (.aload_n 0, 1) := by decide +kernel
theorem dD_back_1 : decode cD_back 1 = .ok (.getfield 18, 3) := by decide +kernel
theorem dD_back_4 : decode cD_back 4 = .ok (.invokevirtual 28, 3) := by decide +kernel
theorem dD_back_7 : decode cD_back 7 = .ok (.istore_n 1, 1) := by decide +kernel
theorem dD_back_8 : decode cD_back 8 = .ok (.iload_n 1, 1) := by decide +kernel
theorem dD_back_9 : decode cD_back 9 = .ok (.ifCond .eq 10, 3) := by decide +kernel
theorem dD_back_12 : decode cD_back 12 = .ok (.iload_n 1, 1) := by decide +kernel
theorem dD_back_13 : decode cD_back 13 = .ok (.sipush 12000, 3) := by decide +kernel
theorem dD_back_16 : decode cD_back 16 = .ok (.if_icmp .le 5, 3) := by decide +kernel
theorem dD_back_19 : decode cD_back 19 = .ok (.iconst (-1), 1) := by decide +kernel
theorem dD_back_20 : decode cD_back 20 = .ok (.ireturn, 1) := by decide +kernel
theorem dD_back_21 : decode cD_back 21 = .ok (.aload_n 0, 1) := by decide +kernel
theorem dD_back_22 : decode cD_back 22 = .ok (.getfield 14, 3) := by decide +kernel
theorem dD_back_25 : decode cD_back 25 = .ok (.invokevirtual 43, 3) := by decide +kernel
theorem dD_back_28 : decode cD_back 28 = .ok (.iconst 0, 1) := by decide +kernel
theorem dD_back_29 : decode cD_back 29 = .ok (.istore_n 2, 1) := by decide +kernel
theorem dD_back_30 : decode cD_back 30 = .ok (.iload_n 2, 1) := by decide +kernel
theorem dD_back_31 : decode cD_back 31 = .ok (.iload_n 1, 1) := by decide +kernel
theorem dD_back_32 : decode cD_back 32 = .ok (.if_icmp .ge 24, 3) := by decide +kernel
theorem dD_back_35 : decode cD_back 35 = .ok (.aload_n 0, 1) := by decide +kernel
theorem dD_back_36 : decode cD_back 36 = .ok (.getfield 14, 3) := by decide +kernel
theorem dD_back_39 : decode cD_back 39 = .ok (.aload_n 0, 1) := by decide +kernel
theorem dD_back_40 : decode cD_back 40 = .ok (.getfield 18, 3) := by decide +kernel
theorem dD_back_43 : decode cD_back 43 = .ok (.iload_n 2, 1) := by decide +kernel
theorem dD_back_44 : decode cD_back 44 = .ok (.invokevirtual 76, 3) := by decide +kernel
theorem dD_back_47 : decode cD_back 47 = .ok (.invokevirtual 32, 3) := by decide +kernel
theorem dD_back_50 : decode cD_back 50 = .ok (.iinc 2 1, 3) := by decide +kernel
theorem dD_back_53 : decode cD_back 53 = .ok (.goto (-23), 3) := by decide +kernel
theorem dD_back_56 : decode cD_back 56 = .ok (.iload_n 1, 1) := by decide +kernel
theorem dD_back_57 : decode cD_back 57 = .ok (.ireturn, 1) := by decide +kernel
def jD_back_50 (K30 : cH → cZ → Int32 → Int32 → Option (Int32 × cH × cZ)) (h : cH) (z : cZ) (x1 : Int32) (x2 : Int32) : Option (Int32 × cH × cZ) := K30 h z x1 (x2 + 1)
set_option maxHeartbeats 4000000 in
set_option maxRecDepth 100000 in
theorem oD_back_50 {h' : cH} {z' : cZ} {r' : Int32} {K30 : cH → cZ → Int32 → Int32 → Option (Int32 × cH × cZ)} (hK30 : ∀ (h : cH) (z : cZ) (x1 : Int32) (x2 : Int32), K30 h z x1 x2 = some (r', h', z') → cle h h') (h : cH) (z : cZ) (x1 : Int32) (x2 : Int32) (hf : jD_back_50 K30 h z x1 x2 = some (r', h', z')) : cle h h' := by
  unfold jD_back_50 at hf
  exact hK30 h z x1 (x2 + 1) hf
def lD_back_30 : Nat → cH → cZ → Int32 → Int32 → Option (Int32 × cH × cZ)
  | 0 => fun _ _ _ _ => none
  | k + 1 => fun h z x1 x2 => if x1 ≤ x2 then (some (x1, h, z)) else ((fB1_at h z x2).bind fun (r2, z2) => (fB0_put h z2 r2).bind fun (hh3, z3) => jD_back_50 (lD_back_30 k) hh3 z3 x1 x2)
set_option maxHeartbeats 4000000 in
set_option maxRecDepth 100000 in
theorem oD_back_30 {h' : cH} {z' : cZ} {r' : Int32} (k : Nat) : ∀ (h : cH) (z : cZ) (x1 : Int32) (x2 : Int32), lD_back_30 k h z x1 x2 = some (r', h', z') → cle h h' := by
  induction k with
  | zero => intro h z x1 x2 hf; cases hf
  | succ k ih =>
    intro h z x1 x2 hf
    have hf : (if x1 ≤ x2 then (some (x1, h, z)) else ((fB1_at h z x2).bind fun (r2, z2) => (fB0_put h z2 r2).bind fun (hh3, z3) => jD_back_50 (lD_back_30 k) hh3 z3 x1 x2)) = some (r', h', z') := hf
    rcases Decidable.em (x1 ≤ x2) with c1 | c1
    · have hf := ts_t hf c1
      cases hf
      exact cle.rf
    · have hf := ts_f hf c1
      obtain ⟨⟨r2, z2⟩, g2, hf⟩ := ts_b hf
      try dsimp only at hf
      obtain ⟨⟨hh3, z3⟩, g3, hf⟩ := ts_b hf
      try dsimp only at hf
      exact cle.tr (oB0_put g3) (oD_back_50 ih hh3 z3 x1 x2 hf)
def fD_back (h : cH) (z : cZ) : Option (Int32 × cH × cZ) := (fB1_size h z).bind fun (r1, z1) => if r1 = 0 then (some ((-1 : Int32), h, z1)) else (if r1 ≤ (12000 : Int32) then ((fB0_empty h z1).bind fun z4 => lD_back_30 FU h z4 r1 (0 : Int32)) else (some ((-1 : Int32), h, z1)))
set_option maxHeartbeats 4000000 in
set_option maxRecDepth 100000 in
theorem oD_back {h' : cH} {z' : cZ} {r' : Int32} {h : cH} {z : cZ} (hf : fD_back h z = some (r', h', z')) : cle h h' := by
  unfold fD_back at hf
  obtain ⟨⟨r1, z1⟩, g1, hf⟩ := ts_b hf
  try dsimp only at hf
  rcases Decidable.em (r1 = 0) with c2 | c2
  · have hf := ts_t hf c2
    cases hf
    exact cle.rf
  · have hf := ts_f hf c2
    rcases Decidable.em (r1 ≤ (12000 : Int32)) with c3 | c3
    · have hf := ts_t hf c3
      obtain ⟨z4, g4, hf⟩ := ts_b hf
      try dsimp only at hf
      exact oD_back_30 FU h z4 r1 (0 : Int32) hf
    · have hf := ts_f hf c3
      cases hf
      exact cle.rf
set_option maxHeartbeats 4000000 in
set_option maxRecDepth 100000 in
theorem wD_back_50 {p : Program} {l : Launch} {e : Env} {s : State} {m : MethodId} {args : Array Value} {below : List Frame} {meth : Method} {c : Code} {g : gT} {qq ea : Nat → Nat} {A0 : Nat → Prop} {h0 : cH} {X : va_W} {rv : (Nat → Nat) → Option Value} {h' : cH} {z' : cZ} {r' : Int32} (C : mCx p m c cD_back 3 s args g "MidiDesk") (hr : meth.sig.returnType = (some .int)) (hlk : meth.locks = false) (hrv : rv = fun ea => some (.int r')) {K30 : cH → cZ → Int32 → Int32 → Option (Int32 × cH × cZ)} (hK30 : ∀ (ad : Nat → Nat) (h : cH) (z : cZ) (x1 : Int32) (x2 : Int32) (H : Heap) (locs : List Loc) (ls : Array Slot), cle h0 h → lv_has ls 3 [(0, .ref (qq 0)), (1, .int x1), (2, .int x2)] → cWd g A0 s.heap qq ad ea h X z H locs → K30 h z x1 x2 = some (r', h', z') → cGa p l e (rmA frD_back loD_back h0 h') s m args below meth c g qq A0 True ea rv X h' z' H locs (h.2.2.1 - h0.2.2.1) (h.2.2.2 - h0.2.2.2) (F0 m 30 ls [])) (hM30 : ∀ (h : cH) (z : cZ) (x1 : Int32) (x2 : Int32), K30 h z x1 x2 = some (r', h', z') → cle h h') (ad : Nat → Nat) (h : cH) (z : cZ) (x1 : Int32) (x2 : Int32) (H : Heap) (locs : List Loc) (ls : Array Slot) (hle : cle h0 h) (hl : lv_has ls 3 [(0, .ref (qq 0)), (1, .int x1), (2, .int x2)]) (hw : cWd g A0 s.heap qq ad ea h X z H locs) (hf : jD_back_50 K30 h z x1 x2 = some (r', h', z')) : cGa p l e (rmA frD_back loD_back h0 h') s m args below meth c g qq A0 True ea rv X h' z' H locs (h.2.2.1 - h0.2.2.1) (h.2.2.2 - h0.2.2.2) (F0 m 50 ls []) := by
  have hmn := oD_back_50 hM30 h z x1 x2 hf
  have hroom : h.2.2.1 - h0.2.2.1 + 0 ≤ (rmA frD_back loD_back h0 h').cells ∧ h.2.2.2 - h0.2.2.2 + 0 ≤ (rmA frD_back loD_back h0 h').slots := ⟨by have w := hmn.1; show _ ≤ h'.2.2.1 - h0.2.2.1; omega, by have w := hmn.2; show _ ≤ h'.2.2.2 - h0.2.2.2; omega⟩
  unfold jD_back_50 at hf
  refine lv_iinc (v := x2 + 1) (lv' := [(2, .int (x2 + 1)), (0, .ref (qq 0)), (1, .int x1)]) C.1.1 C.1.2.1 dD_back_50 hl (k := 2) rfl rfl (by decide) rfl (fun ls hl => ?_)
  refine lv_goto (tgt := 30) C.1.1 C.1.2.1 dD_back_53 (by decide) ?_
  exact hK30 _ h z x1 (x2 + 1) _ _ ls hle (lv_sub hl [1, 2, 0] rfl) hw hf
set_option maxHeartbeats 4000000 in
set_option maxRecDepth 100000 in
theorem wD_back_30 {p : Program} {l : Launch} {e : Env} {s : State} {m : MethodId} {args : Array Value} {below : List Frame} {meth : Method} {c : Code} {g : gT} {qq ea : Nat → Nat} {A0 : Nat → Prop} {h0 : cH} {X : va_W} {rv : (Nat → Nat) → Option Value} {h' : cH} {z' : cZ} {r' : Int32} (C : mCx p m c cD_back 3 s args g "MidiDesk") (hr : meth.sig.returnType = (some .int)) (hlk : meth.locks = false) (hrv : rv = fun ea => some (.int r')) (k : Nat) : ∀ (ad : Nat → Nat) (h : cH) (z : cZ) (x1 : Int32) (x2 : Int32) (H : Heap) (locs : List Loc) (ls : Array Slot), cle h0 h → lv_has ls 3 [(0, .ref (qq 0)), (1, .int x1), (2, .int x2)] → cWd g A0 s.heap qq ad ea h X z H locs → lD_back_30 k h z x1 x2 = some (r', h', z') → cGa p l e (rmA frD_back loD_back h0 h') s m args below meth c g qq A0 True ea rv X h' z' H locs (h.2.2.1 - h0.2.2.1) (h.2.2.2 - h0.2.2.2) (F0 m 30 ls []) := by
  induction k with
  | zero => intro ad h z x1 x2 H locs ls hle hl hw hf; cases hf
  | succ k ih =>
    intro ad h z x1 x2 H locs ls hle hl hw hf
    have hmn := oD_back_30 (k + 1) h z x1 x2 hf
    have hroom : h.2.2.1 - h0.2.2.1 + 0 ≤ (rmA frD_back loD_back h0 h').cells ∧ h.2.2.2 - h0.2.2.2 + 0 ≤ (rmA frD_back loD_back h0 h').slots := ⟨by have w := hmn.1; show _ ≤ h'.2.2.1 - h0.2.2.1; omega, by have w := hmn.2; show _ ≤ h'.2.2.2 - h0.2.2.2; omega⟩
    have hf : (if x1 ≤ x2 then (some (x1, h, z)) else ((fB1_at h z x2).bind fun (r2, z2) => (fB0_put h z2 r2).bind fun (hh3, z3) => jD_back_50 (lD_back_30 k) hh3 z3 x1 x2)) = some (r', h', z') := hf
    have ihm := oD_back_30 k (h' := h') (z' := z') (r' := r')
    refine lv_iload_n C.1.1 C.1.2.1 dD_back_30 rfl (lv_at hl 2 rfl) ?_
    refine lv_iload_n C.1.1 C.1.2.1 dD_back_31 rfl (lv_at hl 1 rfl) ?_
    refine lv_icmp_ge (tgt := 56) C.1.1 C.1.2.1 dD_back_32 (by decide) (fun c1 => ?_) (fun c1 => ?_)
    · have hf := ts_t hf c1
      refine lv_iload_n C.1.1 C.1.2.1 dD_back_56 rfl (lv_at hl 1 rfl) ?_
      exact c_retAi C hr hlk hrv (fun _ => rfl) hw hf rfl (by cases hf; exact ⟨Nat.le_refl _, Nat.le_refl _⟩) dD_back_57
    · have hf := ts_f hf c1
      refine lv_aload_n C.1.1 C.1.2.1 dD_back_35 rfl (lv_at hl 0 rfl) ?_
      refine cg_Desk_Desk_input C hw dD_back_36 ?_
      refine lv_aload_n C.1.1 C.1.2.1 dD_back_39 rfl (lv_at hl 0 rfl) ?_
      refine cg_Desk_Desk_output C hw dD_back_40 ?_
      refine lv_iload_n C.1.1 C.1.2.1 dD_back_43 rfl (lv_at hl 2 rfl) ?_
      obtain ⟨⟨r2, z2⟩, g2, hf⟩ := ts_b hf
      try dsimp only at hf
      refine c_callV (rest := [.ref (qq 1)]) (As := [.int x2]) (rv := (some (.int r2))) (b := (qq 2)) C hl.1 hw (cB1_at_met g2) rfl (callW_of (rm := rB1_at) (C := "MidiDesk$Bytes") 1 C.1.2.2.2.2 gw_405 gw_256 gw_257 gw_53 gw_258 kB1_at ⟨Nat.le_of_ble_eq_true rfl, Nat.le_of_ble_eq_true rfl⟩) (c_recv_B1 C.2 hw) rfl rfl (Nat.le_of_ble_eq_true rfl) dD_back_44 hroom (fun H locs hw => ?_)
      refine W.eq (g2 := F0 m 47 ls [.int r2, .ref (qq 1)]) rfl ?_
      refine W.widen (k := h.2.2.1 - h0.2.2.1) (n := h.2.2.2 - h0.2.2.2) (Nat.le_refl _) (Nat.le_refl _) ?_
      obtain ⟨⟨hh3, z3⟩, g3, hf⟩ := ts_b hf
      try dsimp only at hf
      have hm9 : cle hh3 h' := oD_back_50 ihm _ _ _ _ hf
      have hm8 := oB0_put g3
      have hm91 := hm9.1
      have hm92 := hm9.2
      have hm81 := hm8.1
      have hm82 := hm8.2
      have hle1 := hle.1
      have hle2 := hle.2
      refine c_callAA (rest := []) (As := [.int r2]) (rv := fun ea => none) (b := (qq 1)) C hl.1 hw (cB0_put_met g3) (callW_of (rm := rmA frB0_put loB0_put h hh3) (C := "MidiDesk$Bytes") 1 C.1.2.2.2.2 gw_159 gw_160 gw_161 gw_53 gw_162 kB0_put ⟨Nat.le_of_ble_eq_true rfl, Nat.le_of_ble_eq_true rfl⟩) (c_recv_B0 C.2 hw) rfl rfl (Nat.le_of_ble_eq_true rfl) dD_back_47 ⟨by show _ ≤ h'.2.2.1 - h0.2.2.1; omega, by show _ ≤ h'.2.2.2 - h0.2.2.2; omega⟩ (fun ad H locs hw => ?_)
      refine W.widen (k := hh3.2.2.1 - h0.2.2.1) (n := hh3.2.2.2 - h0.2.2.2) (by omega) (by omega) ?_
      refine W.eq (g2 := F0 m 50 ls []) rfl ?_
      exact wD_back_50 C hr hlk hrv ih ihm _ hh3 z3 x1 x2 _ _ ls (hle.tr (oB0_put g3)) (lv_sub hl [0, 1, 2] rfl) hw hf
set_option maxHeartbeats 4000000 in
set_option maxRecDepth 100000 in
theorem cD_back_met {l : Launch} {g : gT} {qq ad ea : Nat → Nat} {h h' : cH} {X : va_W} {z z' : cZ} {r' : Int32} (hf : fD_back h z = some (r', h', z')) : cMeA l yD_back cD_back 3 (some .int) frD_back loD_back g qq ad ea h X z [.ref (qq 0)] True (fun ea => some (.int r')) X h' z' := by
  refine c_entryA (by decide) (Nat.le_of_ble_eq_true rfl) ?_
  intro p e s m args below meth c ls C hr hlk hnm hl hw
  have hrv : (fun ea => some (.int r') : (Nat → Nat) → Option Value) = fun ea => some (.int r') := rfl
  have C : mCx p m c cD_back 3 s args g "MidiDesk" := C
  have hl : lv_has ls 3 [(0, .ref (qq 0))] := hl
  generalize cA g qq ad ea h X s.heap.size = A0 at hw ⊢
  have hle : cle h h := cle.rf
  have hmn := oD_back hf
  have hroom : h.2.2.1 - h.2.2.1 + 0 ≤ (rmA frD_back loD_back h h').cells ∧ h.2.2.2 - h.2.2.2 + 0 ≤ (rmA frD_back loD_back h h').slots := ⟨by have w := hmn.1; show _ ≤ h'.2.2.1 - h.2.2.1; omega, by have w := hmn.2; show _ ≤ h'.2.2.2 - h.2.2.2; omega⟩
  unfold fD_back at hf
  refine lv_aload_n C.1.1 C.1.2.1 dD_back_0 rfl (lv_at hl 0 rfl) ?_
  refine cg_Desk_Desk_output C hw dD_back_1 ?_
  obtain ⟨⟨r1, z1⟩, g1, hf⟩ := ts_b hf
  try dsimp only at hf
  refine c_callV (rest := []) (As := []) (rv := (some (.int r1))) (b := (qq 2)) C hl.1 hw (cB1_size_met g1) rfl (callW_of (rm := rB1_size) (C := "MidiDesk$Bytes") 0 C.1.2.2.2.2 gw_155 gw_156 gw_157 gw_53 gw_158 kB1_size ⟨Nat.le_of_ble_eq_true rfl, Nat.le_of_ble_eq_true rfl⟩) (c_recv_B1 C.2 hw) rfl rfl (Nat.le_of_ble_eq_true rfl) dD_back_4 hroom (fun H locs hw => ?_)
  refine W.eq (g2 := F0 m 7 ls [.int r1]) rfl ?_
  refine W.widen (k := h.2.2.1 - h.2.2.1) (n := h.2.2.2 - h.2.2.2) (Nat.le_refl _) (Nat.le_refl _) ?_
  refine lv_istore_n (lv' := [(1, .int r1), (0, .ref (qq 0))]) C.1.1 C.1.2.1 dD_back_7 rfl hl (by decide) rfl (fun ls hl => ?_)
  refine lv_iload_n C.1.1 C.1.2.1 dD_back_8 rfl (lv_at hl 0 rfl) ?_
  refine lv_if_eq (tgt := 19) C.1.1 C.1.2.1 dD_back_9 (by decide) (fun c2 => ?_) (fun c2 => ?_)
  · have hf := ts_t hf c2
    refine lv_iconst (v := (-1 : Int32)) C.1.1 C.1.2.1 dD_back_19 (by decide) ?_
    exact c_retAi C hr hlk hrv (fun _ => rfl) hw hf rfl (by cases hf; exact ⟨Nat.le_refl _, Nat.le_refl _⟩) dD_back_20
  · have hf := ts_f hf c2
    refine lv_iload_n C.1.1 C.1.2.1 dD_back_12 rfl (lv_at hl 0 rfl) ?_
    refine lv_sipush (v := (12000 : Int32)) C.1.1 C.1.2.1 dD_back_13 (by decide) ?_
    refine lv_icmp_le (tgt := 21) C.1.1 C.1.2.1 dD_back_16 (by decide) (fun c3 => ?_) (fun c3 => ?_)
    · have hf := ts_t hf c3
      refine lv_aload_n C.1.1 C.1.2.1 dD_back_21 rfl (lv_at hl 1 rfl) ?_
      refine cg_Desk_Desk_input C hw dD_back_22 ?_
      obtain ⟨z4, g4, hf⟩ := ts_b hf
      try dsimp only at hf
      refine c_callV (rest := []) (As := []) (rv := none) (b := (qq 1)) C hl.1 hw (cB0_empty_met g4) rfl (callW_of (rm := rB0_empty) (C := "MidiDesk$Bytes") 0 C.1.2.2.2.2 gw_392 gw_238 gw_239 gw_53 gw_240 kB0_empty ⟨Nat.le_of_ble_eq_true rfl, Nat.le_of_ble_eq_true rfl⟩) (c_recv_B0 C.2 hw) rfl rfl (Nat.le_of_ble_eq_true rfl) dD_back_25 hroom (fun H locs hw => ?_)
      refine W.eq (g2 := F0 m 28 ls []) rfl ?_
      refine W.widen (k := h.2.2.1 - h.2.2.1) (n := h.2.2.2 - h.2.2.2) (Nat.le_refl _) (Nat.le_refl _) ?_
      refine lv_iconst (v := (0 : Int32)) C.1.1 C.1.2.1 dD_back_28 (by decide) ?_
      refine lv_istore_n (lv' := [(2, .int (0 : Int32)), (1, .int r1), (0, .ref (qq 0))]) C.1.1 C.1.2.1 dD_back_29 rfl hl (by decide) rfl (fun ls hl => ?_)
      exact wD_back_30 C hr hlk hrv FU _ h z4 r1 (0 : Int32) _ _ ls hle (lv_sub hl [2, 1, 0] rfl) hw hf
    · have hf := ts_f hf c3
      refine lv_iconst (v := (-1 : Int32)) C.1.1 C.1.2.1 dD_back_19 (by decide) ?_
      exact c_retAi C hr hlk hrv (fun _ => rfl) hw hf rfl (by cases hf; exact ⟨Nat.le_refl _, Nat.le_refl _⟩) dD_back_20
