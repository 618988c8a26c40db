abbrev cM_small : ByteArray := prog_8_method_12_code
abbrev yM_small : MethodName := ⟨"MidiDeskModel", "small", "()I"⟩
theorem kM_small : yM_small.cls ≠ "java/lang/invoke/MethodHandle" ∧ yM_small.cls ≠ "java/lang/invoke/VarHandle" ∧ (parseMethodDescriptor yM_small.desc).map (fun d => d.parameters.length) = some 0 := by decide +kernel
abbrev rM_small : Room := { frames := 2, cells := 0, slots := 0, locals := 46 }
theorem dM_small_0 : decode cM_small 0 = .ok (.aload_n 0, 1) := by decide +kernel
theorem dM_small_1 : decode cM_small 1 = .ok (.getfield 62, 3) := by decide +kernel
theorem dM_small_4 : decode cM_small 4 = .ok (.istore_n 1, 1) := by decide +kernel
theorem dM_small_5 : decode cM_small 5 = .ok (.aload_n 0, 1) := by decide +kernel
theorem dM_small_6 : decode cM_small 6 = .ok (.iconst 1, 1) := by decide +kernel
theorem dM_small_7 : decode cM_small 7 = .ok (.invokevirtual 74, 3) := by decide +kernel
theorem dM_small_10 : decode cM_small 10 = .ok (.l2i, 1) := by decide +kernel
theorem dM_small_11 : decode cM_small 11 = .ok (.istore_n 2, 1) := by decide +kernel
theorem dM_small_12 : decode cM_small 12 = .ok (.iload_n 2, 1) := by decide +kernel
theorem dM_small_13 : decode cM_small 13 = .ok (.bipush 127, 2) := by decide +kernel
theorem dM_small_15 : decode cM_small 15 = .ok (.if_icmp .le 10, 3) := by decide +kernel
theorem dM_small_18 : decode cM_small 18 = .ok (.aload_n 0, 1) := by decide +kernel
theorem dM_small_19 : decode cM_small 19 = .ok (.bipush 6, 2) := by decide +kernel
theorem dM_small_21 : decode cM_small 21 = .ok (.iload_n 1, 1) := by decide +kernel
theorem dM_small_22 : decode cM_small 22 = .ok (.invokevirtual 68, 3) := by decide +kernel
theorem dM_small_25 : decode cM_small 25 = .ok (.iload_n 2, 1) := by decide +kernel
theorem dM_small_26 : decode cM_small 26 = .ok (.ireturn, 1) := by decide +kernel
def fM_small (iv : Nat → Int32) (av : Nat → Nat → Int32) : Option (Int32 × (Nat → Int32) × (Nat → Nat → Int32)) := (fM_taken iv av (1 : Int32)).bind fun (r1, iv1, av1) => if r1.toInt32 ≤ (127 : Int32) then (some (r1.toInt32, iv1, av1)) else ((fM_fail iv1 av1 (6 : Int32) (iv 2)).bind fun (iv3, av3) => some (r1.toInt32, iv3, av3))
set_option maxHeartbeats 4000000 in
set_option maxRecDepth 100000 in
theorem cM_small_met {l : Launch} {g : gT} {q : Nat} {ad : Nat → Nat} {X : va_W} {iv iv' : Nat → Int32} {av av' : Nat → Nat → Int32} {r' : Int32} (hf : fM_small iv av = some (r', iv', av')) : mMet l yM_small cM_small 3 (some .int) rM_small g q ad X iv av [.ref q] (some (.int r')) iv' av' := by
  refine m_entry (by decide) (Nat.le_of_ble_eq_true rfl) ?_
  intro p e s m args below meth c ls C hr hlk hnm hl hw
  have hrv : ((some (.int r')) : Option Value) = (some (.int r')) := rfl
  have C : mCx p m c cM_small 3 s args g "MidiDeskModel" := C
  have hl : lv_has ls 3 [(0, .ref q)] := hl
  unfold fM_small at hf
  refine lv_aload_n C.1.1 C.1.2.1 dM_small_0 rfl (lv_at hl 0 rfl) ?_
  refine mg_at C hw dM_small_1 ?_
  refine lv_istore_n (lv' := [(1, .int (iv 2)), (0, .ref q)]) C.1.1 C.1.2.1 dM_small_4 rfl hl (by decide) rfl (fun ls hl => ?_)
  refine lv_aload_n C.1.1 C.1.2.1 dM_small_5 rfl (lv_at hl 1 rfl) ?_
  refine lv_iconst (v := (1 : Int32)) C.1.1 C.1.2.1 dM_small_6 (by decide) ?_
  obtain ⟨⟨r1, iv1, av1⟩, g1, hf⟩ := ts_b hf
  dsimp only at hf
  refine m_callV (rest := []) (As := [.int (1 : Int32)]) (rv := (some (.long r1))) C hl.1 hw (cM_taken_met g1) (callW_of (rm := rM_taken) 1 C.1.2.2.2.2 gw_808 gw_810 gw_27 gw_55 gw_811 kM_taken ⟨Nat.le_of_ble_eq_true rfl, Nat.le_of_ble_eq_true rfl⟩) rfl rfl (Nat.le_of_ble_eq_true rfl) dM_small_7 ⟨Nat.le_of_ble_eq_true rfl, Nat.le_of_ble_eq_true rfl⟩ (fun H locs hw => ?_)
  refine W.eq (g2 := F0 m 10 ls [.long r1]) rfl ?_
  refine lv_l2i C.1.1 C.1.2.1 dM_small_10 rfl ?_
  refine lv_istore_n (lv' := [(2, .int r1.toInt32), (1, .int (iv 2)), (0, .ref q)]) C.1.1 C.1.2.1 dM_small_11 rfl hl (by decide) rfl (fun ls hl => ?_)
  refine lv_iload_n C.1.1 C.1.2.1 dM_small_12 rfl (lv_at hl 0 rfl) ?_
  refine lv_bipush (v := (127 : Int32)) C.1.1 C.1.2.1 dM_small_13 (by decide) ?_
  refine lv_icmp_le (tgt := 25) C.1.1 C.1.2.1 dM_small_15 (by decide) (fun c2 => ?_) (fun c2 => ?_)
  · have hf := ts_t hf c2
    refine lv_iload_n C.1.1 C.1.2.1 dM_small_25 rfl (lv_at hl 0 rfl) ?_
    exact m_reti C hr hlk hrv hw hf ⟨Nat.le_of_ble_eq_true rfl, Nat.le_of_ble_eq_true rfl⟩ dM_small_26
  · have hf := ts_f hf c2
    refine lv_aload_n C.1.1 C.1.2.1 dM_small_18 rfl (lv_at hl 2 rfl) ?_
    refine lv_bipush (v := (6 : Int32)) C.1.1 C.1.2.1 dM_small_19 (by decide) ?_
    refine lv_iload_n C.1.1 C.1.2.1 dM_small_21 rfl (lv_at hl 1 rfl) ?_
    obtain ⟨⟨iv3, av3⟩, g3, hf⟩ := ts_b hf
    dsimp only at hf
    refine m_callV (rest := []) (As := [.int (6 : Int32), .int (iv 2)]) (rv := none) C hl.1 hw (cM_fail_met g3) (callW_of (rm := rM_fail) 2 C.1.2.2.2.2 gw_812 gw_814 gw_28 gw_55 gw_815 kM_fail ⟨Nat.le_of_ble_eq_true rfl, Nat.le_of_ble_eq_true rfl⟩) rfl rfl (Nat.le_of_ble_eq_true rfl) dM_small_22 ⟨Nat.le_of_ble_eq_true rfl, Nat.le_of_ble_eq_true rfl⟩ (fun H locs hw => ?_)
    refine W.eq (g2 := F0 m 25 ls []) rfl ?_
    refine lv_iload_n C.1.1 C.1.2.1 dM_small_25 rfl (lv_at hl 0 rfl) ?_
    exact m_reti C hr hlk hrv hw hf ⟨Nat.le_of_ble_eq_true rfl, Nat.le_of_ble_eq_true rfl⟩ dM_small_26
abbrev cM_tempo : ByteArray := prog_8_method_15_code
abbrev yM_tempo : MethodName := ⟨"MidiDeskModel", "tempo", "(I)I"⟩
theorem kM_tempo : yM_tempo.cls ≠ "java/lang/invoke/MethodHandle" ∧ yM_tempo.cls ≠ "java/lang/invoke/VarHandle" ∧ (parseMethodDescriptor yM_tempo.desc).map (fun d => d.parameters.length) = some 1 := by decide +kernel
abbrev rM_tempo : Room := { frames := 0, cells := 0, slots := 0, locals := 0 }
theorem dM_tempo_0 : decode cM_tempo 0 = .ok (.aload_n 0, 1) := by decide +kernel
theorem dM_tempo_1 : decode cM_tempo 1 = .ok (.getfield 40, 3) := by decide +kernel
theorem dM_tempo_4 : decode cM_tempo 4 = .ok (.aload_n 0, 1) := by decide +kernel
theorem dM_tempo_5 : decode cM_tempo 5 = .ok (.getfield 28, 3) := by decide +kernel
theorem dM_tempo_8 : decode cM_tempo 8 = .ok (.iload_n 1, 1) := by decide +kernel
theorem dM_tempo_9 : decode cM_tempo 9 = .ok (.iaload, 1) := by decide +kernel
theorem dM_tempo_10 : decode cM_tempo 10 = .ok (.iaload, 1) := by decide +kernel
theorem dM_tempo_11 : decode cM_tempo 11 = .ok (.bipush 16, 2) := by decide +kernel
theorem dM_tempo_13 : decode cM_tempo 13 = .ok (.ishl, 1) := by decide +kernel
theorem dM_tempo_14 : decode cM_tempo 14 = .ok (.aload_n 0, 1) := by decide +kernel
theorem dM_tempo_15 : decode cM_tempo 15 = .ok (.getfield 40, 3) := by decide +kernel
theorem dM_tempo_18 : decode cM_tempo 18 = .ok (.aload_n 0, 1) := by decide +kernel
theorem dM_tempo_19 : decode cM_tempo 19 = .ok (.getfield 28, 3) := by decide +kernel
theorem dM_tempo_22 : decode cM_tempo 22 = .ok (.iload_n 1, 1) := by decide +kernel
theorem dM_tempo_23 : decode cM_tempo 23 = .ok (.iaload, 1) := by decide +kernel
theorem dM_tempo_24 : decode cM_tempo 24 = .ok (.iconst 1, 1) := by decide +kernel
theorem dM_tempo_25 : decode cM_tempo 25 = .ok (.iadd, 1) := by decide +kernel
theorem dM_tempo_26 : decode cM_tempo 26 = .ok (.iaload, 1) := by decide +kernel
theorem dM_tempo_27 : decode cM_tempo 27 = .ok (.bipush 8, 2) := by decide +kernel
theorem dM_tempo_29 : decode cM_tempo 29 = .ok (.ishl, 1) := by decide +kernel
theorem dM_tempo_30 : decode cM_tempo 30 = .ok (.ior, 1) := by decide +kernel
theorem dM_tempo_31 : decode cM_tempo 31 = .ok (.aload_n 0, 1) := by decide +kernel
theorem dM_tempo_32 : decode cM_tempo 32 = .ok (.getfield 40, 3) := by decide +kernel
theorem dM_tempo_35 : decode cM_tempo 35 = .ok (.aload_n 0, 1) := by decide +kernel
theorem dM_tempo_36 : decode cM_tempo 36 = .ok (.getfield 28, 3) := by decide +kernel
theorem dM_tempo_39 : decode cM_tempo 39 = .ok (.iload_n 1, 1) := by decide +kernel
theorem dM_tempo_40 : decode cM_tempo 40 = .ok (.iaload, 1) := by decide +kernel
theorem dM_tempo_41 : decode cM_tempo 41 = .ok (.iconst 2, 1) := by decide +kernel
theorem dM_tempo_42 : decode cM_tempo 42 = .ok (.iadd, 1) := by decide +kernel
theorem dM_tempo_43 : decode cM_tempo 43 = .ok (.iaload, 1) := by decide +kernel
theorem dM_tempo_44 : decode cM_tempo 44 = .ok (.ior, 1) := by decide +kernel
theorem dM_tempo_45 : decode cM_tempo 45 = .ok (.ireturn, 1) := by decide +kernel
def fM_tempo (iv : Nat → Int32) (av : Nat → Nat → Int32) (x1 : Int32) : Option (Int32 × (Nat → Int32) × (Nat → Nat → Int32)) := if x1 < 0 ∨ 1001 ≤ x1.toNatClampNeg then none else (if (av 6 x1.toNatClampNeg) < 0 ∨ 20100 ≤ (av 6 x1.toNatClampNeg).toNatClampNeg then none else (if x1 < 0 ∨ 1001 ≤ x1.toNatClampNeg then none else (if ((av 6 x1.toNatClampNeg) + (1 : Int32)) < 0 ∨ 20100 ≤ ((av 6 x1.toNatClampNeg) + (1 : Int32)).toNatClampNeg then none else (if x1 < 0 ∨ 1001 ≤ x1.toNatClampNeg then none else (if ((av 6 x1.toNatClampNeg) + (2 : Int32)) < 0 ∨ 20100 ≤ ((av 6 x1.toNatClampNeg) + (2 : Int32)).toNatClampNeg then none else (some ((((av 10 (av 6 x1.toNatClampNeg).toNatClampNeg) <<< ((16 : Int32) &&& 31)) ||| ((av 10 ((av 6 x1.toNatClampNeg) + (1 : Int32)).toNatClampNeg) <<< ((8 : Int32) &&& 31))) ||| (av 10 ((av 6 x1.toNatClampNeg) + (2 : Int32)).toNatClampNeg), iv, av)))))))
set_option maxHeartbeats 4000000 in
set_option maxRecDepth 100000 in
theorem cM_tempo_met {l : Launch} {g : gT} {q : Nat} {ad : Nat → Nat} {X : va_W} {iv iv' : Nat → Int32} {av av' : Nat → Nat → Int32} {x1 : Int32} {r' : Int32} (hf : fM_tempo iv av x1 = some (r', iv', av')) : mMet l yM_tempo cM_tempo 2 (some .int) rM_tempo g q ad X iv av [.ref q, .int x1] (some (.int r')) iv' av' := by
  refine m_entry (by decide) (Nat.le_of_ble_eq_true rfl) ?_
  intro p e s m args below meth c ls C hr hlk hnm hl hw
  have hrv : ((some (.int r')) : Option Value) = (some (.int r')) := rfl
  have C : mCx p m c cM_tempo 2 s args g "MidiDeskModel" := C
  have hl : lv_has ls 2 [(0, .ref q), (1, .int x1)] := hl
  unfold fM_tempo at hf
  refine lv_aload_n C.1.1 C.1.2.1 dM_tempo_0 rfl (lv_at hl 0 rfl) ?_
  refine mg_bytes C hw dM_tempo_1 ?_
  refine lv_aload_n C.1.1 C.1.2.1 dM_tempo_4 rfl (lv_at hl 0 rfl) ?_
  refine mg_from C hw dM_tempo_5 ?_
  refine lv_iload_n C.1.1 C.1.2.1 dM_tempo_8 rfl (lv_at hl 1 rfl) ?_
  obtain ⟨h1, hf⟩ := ts_g hf
  refine ma_from C hw h1 dM_tempo_9 ?_
  obtain ⟨h2, hf⟩ := ts_g hf
  refine ma_bytes C hw h2 dM_tempo_10 ?_
  refine lv_bipush (v := (16 : Int32)) C.1.1 C.1.2.1 dM_tempo_11 (by decide) ?_
  refine lv_ishl C.1.1 C.1.2.1 dM_tempo_13 ?_
  refine lv_aload_n C.1.1 C.1.2.1 dM_tempo_14 rfl (lv_at hl 0 rfl) ?_
  refine mg_bytes C hw dM_tempo_15 ?_
  refine lv_aload_n C.1.1 C.1.2.1 dM_tempo_18 rfl (lv_at hl 0 rfl) ?_
  refine mg_from C hw dM_tempo_19 ?_
  refine lv_iload_n C.1.1 C.1.2.1 dM_tempo_22 rfl (lv_at hl 1 rfl) ?_
  obtain ⟨h3, hf⟩ := ts_g hf
  refine ma_from C hw h3 dM_tempo_23 ?_
  refine lv_iconst (v := (1 : Int32)) C.1.1 C.1.2.1 dM_tempo_24 (by decide) ?_
  refine lv_iadd C.1.1 C.1.2.1 dM_tempo_25 ?_
  obtain ⟨h4, hf⟩ := ts_g hf
  refine ma_bytes C hw h4 dM_tempo_26 ?_
  refine lv_bipush (v := (8 : Int32)) C.1.1 C.1.2.1 dM_tempo_27 (by decide) ?_
  refine lv_ishl C.1.1 C.1.2.1 dM_tempo_29 ?_
  refine lv_ior C.1.1 C.1.2.1 dM_tempo_30 ?_
  refine lv_aload_n C.1.1 C.1.2.1 dM_tempo_31 rfl (lv_at hl 0 rfl) ?_
  refine mg_bytes C hw dM_tempo_32 ?_
  refine lv_aload_n C.1.1 C.1.2.1 dM_tempo_35 rfl (lv_at hl 0 rfl) ?_
  refine mg_from C hw dM_tempo_36 ?_
  refine lv_iload_n C.1.1 C.1.2.1 dM_tempo_39 rfl (lv_at hl 1 rfl) ?_
  obtain ⟨h5, hf⟩ := ts_g hf
  refine ma_from C hw h5 dM_tempo_40 ?_
  refine lv_iconst (v := (2 : Int32)) C.1.1 C.1.2.1 dM_tempo_41 (by decide) ?_
  refine lv_iadd C.1.1 C.1.2.1 dM_tempo_42 ?_
  obtain ⟨h6, hf⟩ := ts_g hf
  refine ma_bytes C hw h6 dM_tempo_43 ?_
  refine lv_ior C.1.1 C.1.2.1 dM_tempo_44 ?_
  exact m_reti C hr hlk hrv hw hf ⟨Nat.le_of_ble_eq_true rfl, Nat.le_of_ble_eq_true rfl⟩ dM_tempo_45
abbrev cM_follow : ByteArray := prog_8_method_14_code
abbrev yM_follow : MethodName := ⟨"MidiDeskModel", "follow", "(II)V"⟩
theorem kM_follow : yM_follow.cls ≠ "java/lang/invoke/MethodHandle" ∧ yM_follow.cls ≠ "java/lang/invoke/VarHandle" ∧ (parseMethodDescriptor yM_follow.desc).map (fun d => d.parameters.length) = some 2 := by decide +kernel
abbrev rM_follow : Room := { frames := 3, cells := 0, slots := 0, locals := 70 }
theorem dM_follow_0 : decode cM_follow 0 = .ok (.aload_n 0, 1) := by decide +kernel
theorem dM_follow_1 : decode cM_follow 1 = .ok (.getfield 62, 3) := by decide +kernel
theorem dM_follow_4 : decode cM_follow 4 = .ok (.istore_n 3, 1) := by decide +kernel
theorem dM_follow_5 : decode cM_follow 5 = .ok (.aload_n 0, 1) := by decide +kernel
theorem dM_follow_6 : decode cM_follow 6 = .ok (.invokevirtual 117, 3) := by decide +kernel
theorem dM_follow_9 : decode cM_follow 9 = .ok (.istore 4, 2) := by decide +kernel
theorem dM_follow_11 : decode cM_follow 11 = .ok (.aload_n 0, 1) := by decide +kernel
theorem dM_follow_12 : decode cM_follow 12 = .ok (.getfield 56, 3) := by decide +kernel
theorem dM_follow_15 : decode cM_follow 15 = .ok (.ifCond .ne 21, 3) := by decide +kernel
theorem dM_follow_18 : decode cM_follow 18 = .ok (.iload_n 2, 1) := by decide +kernel
theorem dM_follow_19 : decode cM_follow 19 = .ok (.bipush 47, 2) := by decide +kernel
theorem dM_follow_21 : decode cM_follow 21 = .ok (.if_icmp .ne 15, 3) := by decide +kernel
theorem dM_follow_24 : decode cM_follow 24 = .ok (.iload 4, 2) := by decide +kernel
theorem dM_follow_26 : decode cM_follow 26 = .ok (.ifCond .le 10, 3) := by decide +kernel
theorem dM_follow_29 : decode cM_follow 29 = .ok (.aload_n 0, 1) := by decide +kernel
theorem dM_follow_30 : decode cM_follow 30 = .ok (.bipush 7, 2) := by decide +kernel
theorem dM_follow_32 : decode cM_follow 32 = .ok (.iload_n 3, 1) := by decide +kernel
theorem dM_follow_33 : decode cM_follow 33 = .ok (.invokevirtual 68, 3) := by decide +kernel
theorem dM_follow_36 : decode cM_follow 36 = .ok (.aload_n 0, 1) := by decide +kernel
theorem dM_follow_37 : decode cM_follow 37 = .ok (.getfield 56, 3) := by decide +kernel
theorem dM_follow_40 : decode cM_follow 40 = .ok (.ifCond .ne 22, 3) := by decide +kernel
theorem dM_follow_43 : decode cM_follow 43 = .ok (.iload_n 2, 1) := by decide +kernel
theorem dM_follow_44 : decode cM_follow 44 = .ok (.bipush 81, 2) := by decide +kernel
theorem dM_follow_46 : decode cM_follow 46 = .ok (.if_icmp .ne 16, 3) := by decide +kernel
theorem dM_follow_49 : decode cM_follow 49 = .ok (.iload 4, 2) := by decide +kernel
theorem dM_follow_51 : decode cM_follow 51 = .ok (.iconst 3, 1) := by decide +kernel
theorem dM_follow_52 : decode cM_follow 52 = .ok (.if_icmp .eq 10, 3) := by decide +kernel
theorem dM_follow_55 : decode cM_follow 55 = .ok (.aload_n 0, 1) := by decide +kernel
theorem dM_follow_56 : decode cM_follow 56 = .ok (.bipush 8, 2) := by decide +kernel
theorem dM_follow_58 : decode cM_follow 58 = .ok (.iload_n 3, 1) := by decide +kernel
theorem dM_follow_59 : decode cM_follow 59 = .ok (.invokevirtual 68, 3) := by decide +kernel
theorem dM_follow_62 : decode cM_follow 62 = .ok (.aload_n 0, 1) := by decide +kernel
theorem dM_follow_63 : decode cM_follow 63 = .ok (.getfield 56, 3) := by decide +kernel
theorem dM_follow_66 : decode cM_follow 66 = .ok (.ifCond .ne 26, 3) := by decide +kernel
theorem dM_follow_69 : decode cM_follow 69 = .ok (.aload_n 0, 1) := by decide +kernel
theorem dM_follow_70 : decode cM_follow 70 = .ok (.getfield 62, 3) := by decide +kernel
theorem dM_follow_73 : decode cM_follow 73 = .ok (.iload 4, 2) := by decide +kernel
theorem dM_follow_75 : decode cM_follow 75 = .ok (.iadd, 1) := by decide +kernel
theorem dM_follow_76 : decode cM_follow 76 = .ok (.aload_n 0, 1) := by decide +kernel
theorem dM_follow_77 : decode cM_follow 77 = .ok (.getfield 65, 3) := by decide +kernel
theorem dM_follow_80 : decode cM_follow 80 = .ok (.if_icmp .le 12, 3) := by decide +kernel
theorem dM_follow_83 : decode cM_follow 83 = .ok (.aload_n 0, 1) := by decide +kernel
theorem dM_follow_84 : decode cM_follow 84 = .ok (.iconst 1, 1) := by decide +kernel
theorem dM_follow_85 : decode cM_follow 85 = .ok (.aload_n 0, 1) := by decide +kernel
theorem dM_follow_86 : decode cM_follow 86 = .ok (.getfield 65, 3) := by decide +kernel
theorem dM_follow_89 : decode cM_follow 89 = .ok (.invokevirtual 68, 3) := by decide +kernel
theorem dM_follow_92 : decode cM_follow 92 = .ok (.aload_n 0, 1) := by decide +kernel
theorem dM_follow_93 : decode cM_follow 93 = .ok (.getfield 56, 3) := by decide +kernel
theorem dM_follow_96 : decode cM_follow 96 = .ok (.ifCond .le 4, 3) := by decide +kernel
theorem dM_follow_99 : decode cM_follow 99 = .ok (.return_, 1) := by decide +kernel
theorem dM_follow_100 : decode cM_follow 100 = .ok (.aload_n 0, 1) := by decide +kernel
theorem dM_follow_101 : decode cM_follow 101 = .ok (.getfield 31, 3) := by decide +kernel
theorem dM_follow_104 : decode cM_follow 104 = .ok (.iload_n 1, 1) := by decide +kernel
theorem dM_follow_105 : decode cM_follow 105 = .ok (.iload 4, 2) := by decide +kernel
theorem dM_follow_107 : decode cM_follow 107 = .ok (.iastore, 1) := by decide +kernel
theorem dM_follow_108 : decode cM_follow 108 = .ok (.aload_n 0, 1) := by decide +kernel
theorem dM_follow_109 : decode cM_follow 109 = .ok (.getfield 62, 3) := by decide +kernel
theorem dM_follow_112 : decode cM_follow 112 = .ok (.istore_n 3, 1) := by decide +kernel
theorem dM_follow_113 : decode cM_follow 113 = .ok (.iconst 0, 1) := by decide +kernel
theorem dM_follow_114 : decode cM_follow 114 = .ok (.istore 5, 2) := by decide +kernel
theorem dM_follow_116 : decode cM_follow 116 = .ok (.iload 5, 2) := by decide +kernel
theorem dM_follow_118 : decode cM_follow 118 = .ok (.iload 4, 2) := by decide +kernel
theorem dM_follow_120 : decode cM_follow 120 = .ok (.if_icmp .ge 33, 3) := by decide +kernel
theorem dM_follow_123 : decode cM_follow 123 = .ok (.aload_n 0, 1) := by decide +kernel
theorem dM_follow_124 : decode cM_follow 124 = .ok (.getfield 40, 3) := by decide +kernel
theorem dM_follow_127 : decode cM_follow 127 = .ok (.aload_n 0, 1) := by decide +kernel
theorem dM_follow_128 : decode cM_follow 128 = .ok (.getfield 98, 3) := by decide +kernel
theorem dM_follow_131 : decode cM_follow 131 = .ok (.iload 5, 2) := by decide +kernel
theorem dM_follow_133 : decode cM_follow 133 = .ok (.iadd, 1) := by decide +kernel
theorem dM_follow_134 : decode cM_follow 134 = .ok (.aload_n 0, 1) := by decide +kernel
theorem dM_follow_135 : decode cM_follow 135 = .ok (.getfield 7, 3) := by decide +kernel
theorem dM_follow_138 : decode cM_follow 138 = .ok (.aload_n 0, 1) := by decide +kernel
theorem dM_follow_139 : decode cM_follow 139 = .ok (.getfield 62, 3) := by decide +kernel
theorem dM_follow_142 : decode cM_follow 142 = .ok (.iload 5, 2) := by decide +kernel
theorem dM_follow_144 : decode cM_follow 144 = .ok (.iadd, 1) := by decide +kernel
theorem dM_follow_145 : decode cM_follow 145 = .ok (.iaload, 1) := by decide +kernel
theorem dM_follow_146 : decode cM_follow 146 = .ok (.iastore, 1) := by decide +kernel
theorem dM_follow_147 : decode cM_follow 147 = .ok (.iinc 5 1, 3) := by decide +kernel
theorem dM_follow_150 : decode cM_follow 150 = .ok (.goto (-34), 3) := by decide +kernel
theorem dM_follow_153 : decode cM_follow 153 = .ok (.aload_n 0, 1) := by decide +kernel
theorem dM_follow_154 : decode cM_follow 154 = .ok (.dup, 1) := by decide +kernel
theorem dM_follow_155 : decode cM_follow 155 = .ok (.getfield 62, 3) := by decide +kernel
theorem dM_follow_158 : decode cM_follow 158 = .ok (.iload 4, 2) := by decide +kernel
theorem dM_follow_160 : decode cM_follow 160 = .ok (.iadd, 1) := by decide +kernel
theorem dM_follow_161 : decode cM_follow 161 = .ok (.putfield 62, 3) := by decide +kernel
theorem dM_follow_164 : decode cM_follow 164 = .ok (.iload_n 2, 1) := by decide +kernel
theorem dM_follow_165 : decode cM_follow 165 = .ok (.bipush 81, 2) := by decide +kernel
theorem dM_follow_167 : decode cM_follow 167 = .ok (.if_icmp .ne 18, 3) := by decide +kernel
theorem dM_follow_170 : decode cM_follow 170 = .ok (.aload_n 0, 1) := by decide +kernel
theorem dM_follow_171 : decode cM_follow 171 = .ok (.iload_n 1, 1) := by decide +kernel
theorem dM_follow_172 : decode cM_follow 172 = .ok (.invokevirtual 133, 3) := by decide +kernel
theorem dM_follow_175 : decode cM_follow 175 = .ok (.ifCond .ne 10, 3) := by decide +kernel
theorem dM_follow_178 : decode cM_follow 178 = .ok (.aload_n 0, 1) := by decide +kernel
theorem dM_follow_179 : decode cM_follow 179 = .ok (.bipush 8, 2) := by decide +kernel
theorem dM_follow_181 : decode cM_follow 181 = .ok (.iload_n 3, 1) := by decide +kernel
theorem dM_follow_182 : decode cM_follow 182 = .ok (.invokevirtual 68, 3) := by decide +kernel
theorem dM_follow_185 : decode cM_follow 185 = .ok (.return_, 1) := by decide +kernel
def lM_follow_116 : Nat → (Nat → Int32) → (Nat → Nat → Int32) → Int32 → Int32 → Int32 → Int32 → Int32 → Option ((Nat → Int32) × (Nat → Nat → Int32))
  | 0 => fun _ _ _ _ _ _ _ => none
  | k + 1 => fun iv av x1 x2 x3 x4 x5 => if x4 ≤ x5 then (if x2 = (81 : Int32) then ((fM_tempo (upd iv 2 ((iv 2) + x4)) av x1).bind fun (r3, iv3, av3) => if r3 = 0 then ((fM_fail iv3 av3 (8 : Int32) x3).bind fun (iv5, av5) => some (iv5, av5)) else (some (iv3, av3))) else (some (upd iv 2 ((iv 2) + x4), av))) else (if ((iv 2) + x5) < 0 ∨ 12000 ≤ ((iv 2) + x5).toNatClampNeg then none else (if ((iv 11) + x5) < 0 ∨ 20100 ≤ ((iv 11) + x5).toNatClampNeg then none else (lM_follow_116 k iv (up2 av 10 ((iv 11) + x5).toNatClampNeg (av 0 ((iv 2) + x5).toNatClampNeg)) x1 x2 x3 x4 (x5 + 1))))
def jM_follow_92 (iv : Nat → Int32) (av : Nat → Nat → Int32) (x1 : Int32) (x2 : Int32) (x4 : Int32) : Option ((Nat → Int32) × (Nat → Nat → Int32)) := if (iv 4) ≤ 0 then (if x1 < 0 ∨ 1001 ≤ x1.toNatClampNeg then none else (lM_follow_116 FU iv (up2 av 7 x1.toNatClampNeg x4) x1 x2 (iv 2) x4 (0 : Int32))) else (some (iv, av))
def jM_follow_62 (iv : Nat → Int32) (av : Nat → Nat → Int32) (x1 : Int32) (x2 : Int32) (x4 : Int32) : Option ((Nat → Int32) × (Nat → Nat → Int32)) := if (iv 4) = 0 then (if ((iv 2) + x4) ≤ (iv 3) then (jM_follow_92 iv av x1 x2 x4) else ((fM_fail iv av (1 : Int32) (iv 3)).bind fun (iv3, av3) => jM_follow_92 iv3 av3 x1 x2 x4)) else (jM_follow_92 iv av x1 x2 x4)
def jM_follow_36 (iv : Nat → Int32) (av : Nat → Nat → Int32) (x1 : Int32) (x2 : Int32) (x3 : Int32) (x4 : Int32) : Option ((Nat → Int32) × (Nat → Nat → Int32)) := if (iv 4) = 0 then (if x2 = (81 : Int32) then (if x4 = (3 : Int32) then (jM_follow_62 iv av x1 x2 x4) else ((fM_fail iv av (8 : Int32) x3).bind fun (iv4, av4) => jM_follow_62 iv4 av4 x1 x2 x4)) else (jM_follow_62 iv av x1 x2 x4)) else (jM_follow_62 iv av x1 x2 x4)
def fM_follow (iv : Nat → Int32) (av : Nat → Nat → Int32) (x1 : Int32) (x2 : Int32) : Option ((Nat → Int32) × (Nat → Nat → Int32)) := (fM_number iv av).bind fun (r1, iv1, av1) => if (iv1 4) = 0 then (if x2 = (47 : Int32) then (if r1 ≤ 0 then (jM_follow_36 iv1 av1 x1 x2 (iv 2) r1) else ((fM_fail iv1 av1 (7 : Int32) (iv 2)).bind fun (iv5, av5) => jM_follow_36 iv5 av5 x1 x2 (iv 2) r1)) else (jM_follow_36 iv1 av1 x1 x2 (iv 2) r1)) else (jM_follow_36 iv1 av1 x1 x2 (iv 2) r1)
set_option maxHeartbeats 4000000 in
set_option maxRecDepth 100000 in
theorem wM_follow_116 {p : Program} {l : Launch} {e : Env} {s : State} {m : MethodId} {args : Array Value} {below : List Frame} {meth : Method} {c : Code} {g : gT} {q : Nat} {ad : Nat → Nat} {X : va_W} {rv : Option Value} {iv' : Nat → Int32} {av' : Nat → Nat → Int32} (C : mCx p m c cM_follow 6 s args g "MidiDeskModel") (hr : meth.sig.returnType = none) (hlk : meth.locks = false) (hrv : rv = none) (k : Nat) : ∀ (iv : Nat → Int32) (av : Nat → Nat → Int32) (x1 : Int32) (x2 : Int32) (x3 : Int32) (x4 : Int32) (x5 : Int32) (H : Heap) (locs : List Loc) (ls : Array Slot), lv_has ls 6 [(0, .ref q), (1, .int x1), (2, .int x2), (3, .int x3), (4, .int x4), (5, .int x5)] → mWd g (mA g q ad X s.heap.size) s.heap q ad X iv av H locs → lM_follow_116 k iv av x1 x2 x3 x4 x5 = some (iv', av') → mG p l e rM_follow s m args below meth c g q ad X rv iv' av' H locs 0 0 (F0 m 116 ls []) := by
  induction k with
  | zero => intro iv av x1 x2 x3 x4 x5 H locs ls hl hw hf; cases hf
  | succ k ih =>
    intro iv av x1 x2 x3 x4 x5 H locs ls hl hw hf
    have hf : (if x4 ≤ x5 then (if x2 = (81 : Int32) then ((fM_tempo (upd iv 2 ((iv 2) + x4)) av x1).bind fun (r3, iv3, av3) => if r3 = 0 then ((fM_fail iv3 av3 (8 : Int32) x3).bind fun (iv5, av5) => some (iv5, av5)) else (some (iv3, av3))) else (some (upd iv 2 ((iv 2) + x4), av))) else (if ((iv 2) + x5) < 0 ∨ 12000 ≤ ((iv 2) + x5).toNatClampNeg then none else (if ((iv 11) + x5) < 0 ∨ 20100 ≤ ((iv 11) + x5).toNatClampNeg then none else (lM_follow_116 k iv (up2 av 10 ((iv 11) + x5).toNatClampNeg (av 0 ((iv 2) + x5).toNatClampNeg)) x1 x2 x3 x4 (x5 + 1))))) = some (iv', av') := hf
    refine lv_iload C.1.1 C.1.2.1 dM_follow_116 (lv_at hl 5 rfl) ?_
    refine lv_iload C.1.1 C.1.2.1 dM_follow_118 (lv_at hl 4 rfl) ?_
    refine lv_icmp_ge (tgt := 153) C.1.1 C.1.2.1 dM_follow_120 (by decide) (fun c1 => ?_) (fun c1 => ?_)
    · have hf := ts_t hf c1
      refine lv_aload_n C.1.1 C.1.2.1 dM_follow_153 rfl (lv_at hl 0 rfl) ?_
      refine lv_dup C.1.1 C.1.2.1 dM_follow_154 rfl ?_
      refine mg_at C hw dM_follow_155 ?_
      refine lv_iload C.1.1 C.1.2.1 dM_follow_158 (lv_at hl 4 rfl) ?_
      refine lv_iadd C.1.1 C.1.2.1 dM_follow_160 ?_
      refine mp_at C hw dM_follow_161 (fun H locs hw => ?_)
      refine lv_iload_n C.1.1 C.1.2.1 dM_follow_164 rfl (lv_at hl 2 rfl) ?_
      refine lv_bipush (v := (81 : Int32)) C.1.1 C.1.2.1 dM_follow_165 (by decide) ?_
      refine lv_icmp_ne (tgt := 185) C.1.1 C.1.2.1 dM_follow_167 (by decide) (fun c2 => ?_) (fun c2 => ?_)
      · have hf := ts_f hf c2
        exact m_retv C hr hlk hrv hw hf ⟨Nat.le_of_ble_eq_true rfl, Nat.le_of_ble_eq_true rfl⟩ dM_follow_185
      · have hf := ts_t hf c2
        refine lv_aload_n C.1.1 C.1.2.1 dM_follow_170 rfl (lv_at hl 0 rfl) ?_
        refine lv_iload_n C.1.1 C.1.2.1 dM_follow_171 rfl (lv_at hl 1 rfl) ?_
        obtain ⟨⟨r3, iv3, av3⟩, g3, hf⟩ := ts_b hf
        dsimp only at hf
        refine m_callV (rest := []) (As := [.int x1]) (rv := (some (.int r3))) C hl.1 hw (cM_tempo_met g3) (callW_of (rm := rM_tempo) 1 C.1.2.2.2.2 gw_844 gw_846 gw_34 gw_55 gw_847 kM_tempo ⟨Nat.le_of_ble_eq_true rfl, Nat.le_of_ble_eq_true rfl⟩) rfl rfl (Nat.le_of_ble_eq_true rfl) dM_follow_172 ⟨Nat.le_of_ble_eq_true rfl, Nat.le_of_ble_eq_true rfl⟩ (fun H locs hw => ?_)
        refine W.eq (g2 := F0 m 175 ls [.int r3]) rfl ?_
        refine lv_if_ne (tgt := 185) C.1.1 C.1.2.1 dM_follow_175 (by decide) (fun c4 => ?_) (fun c4 => ?_)
        · have hf := ts_f hf c4
          exact m_retv C hr hlk hrv hw hf ⟨Nat.le_of_ble_eq_true rfl, Nat.le_of_ble_eq_true rfl⟩ dM_follow_185
        · have hf := ts_t hf c4
          refine lv_aload_n C.1.1 C.1.2.1 dM_follow_178 rfl (lv_at hl 0 rfl) ?_
          refine lv_bipush (v := (8 : Int32)) C.1.1 C.1.2.1 dM_follow_179 (by decide) ?_
          refine lv_iload_n C.1.1 C.1.2.1 dM_follow_181 rfl (lv_at hl 3 rfl) ?_
          obtain ⟨⟨iv5, av5⟩, g5, hf⟩ := ts_b hf
          dsimp only at hf
          refine m_callV (rest := []) (As := [.int (8 : Int32), .int x3]) (rv := none) C hl.1 hw (cM_fail_met g5) (callW_of (rm := rM_fail) 2 C.1.2.2.2.2 gw_812 gw_814 gw_28 gw_55 gw_815 kM_fail ⟨Nat.le_of_ble_eq_true rfl, Nat.le_of_ble_eq_true rfl⟩) rfl rfl (Nat.le_of_ble_eq_true rfl) dM_follow_182 ⟨Nat.le_of_ble_eq_true rfl, Nat.le_of_ble_eq_true rfl⟩ (fun H locs hw => ?_)
          refine W.eq (g2 := F0 m 185 ls []) rfl ?_
          exact m_retv C hr hlk hrv hw hf ⟨Nat.le_of_ble_eq_true rfl, Nat.le_of_ble_eq_true rfl⟩ dM_follow_185
    · have hf := ts_f hf c1
      refine lv_aload_n C.1.1 C.1.2.1 dM_follow_123 rfl (lv_at hl 0 rfl) ?_
      refine mg_bytes C hw dM_follow_124 ?_
      refine lv_aload_n C.1.1 C.1.2.1 dM_follow_127 rfl (lv_at hl 0 rfl) ?_
      refine mg_many C hw dM_follow_128 ?_
      refine lv_iload C.1.1 C.1.2.1 dM_follow_131 (lv_at hl 5 rfl) ?_
      refine lv_iadd C.1.1 C.1.2.1 dM_follow_133 ?_
      refine lv_aload_n C.1.1 C.1.2.1 dM_follow_134 rfl (lv_at hl 0 rfl) ?_
      refine mg_input C hw dM_follow_135 ?_
      refine lv_aload_n C.1.1 C.1.2.1 dM_follow_138 rfl (lv_at hl 0 rfl) ?_
      refine mg_at C hw dM_follow_139 ?_
      refine lv_iload C.1.1 C.1.2.1 dM_follow_142 (lv_at hl 5 rfl) ?_
      refine lv_iadd C.1.1 C.1.2.1 dM_follow_144 ?_
      obtain ⟨h6, hf⟩ := ts_g hf
      refine ma_input C hw h6 dM_follow_145 ?_
      obtain ⟨h7, hf⟩ := ts_g hf
      refine ms_bytes C hw h7 dM_follow_146 (fun H locs hw => ?_)
      refine lv_iinc (v := x5 + 1) (lv' := [(5, .int (x5 + 1)), (0, .ref q), (1, .int x1), (2, .int x2), (3, .int x3), (4, .int x4)]) C.1.1 C.1.2.1 dM_follow_147 hl (k := 5) rfl rfl (by decide) rfl (fun ls hl => ?_)
      refine lv_goto (tgt := 116) C.1.1 C.1.2.1 dM_follow_150 (by decide) ?_
      exact ih iv (up2 av 10 ((iv 11) + x5).toNatClampNeg (av 0 ((iv 2) + x5).toNatClampNeg)) x1 x2 x3 x4 (x5 + 1) _ _ ls (lv_sub hl [1, 2, 3, 4, 5, 0] rfl) hw hf
set_option maxHeartbeats 4000000 in
set_option maxRecDepth 100000 in
theorem wM_follow_92 {p : Program} {l : Launch} {e : Env} {s : State} {m : MethodId} {args : Array Value} {below : List Frame} {meth : Method} {c : Code} {g : gT} {q : Nat} {ad : Nat → Nat} {X : va_W} {rv : Option Value} {iv' : Nat → Int32} {av' : Nat → Nat → Int32} (C : mCx p m c cM_follow 6 s args g "MidiDeskModel") (hr : meth.sig.returnType = none) (hlk : meth.locks = false) (hrv : rv = none) (iv : Nat → Int32) (av : Nat → Nat → Int32) (x1 : Int32) (x2 : Int32) (x4 : Int32) (H : Heap) (locs : List Loc) (ls : Array Slot) (hl : lv_has ls 6 [(0, .ref q), (1, .int x1), (2, .int x2), (4, .int x4)]) (hw : mWd g (mA g q ad X s.heap.size) s.heap q ad X iv av H locs) (hf : jM_follow_92 iv av x1 x2 x4 = some (iv', av')) : mG p l e rM_follow s m args below meth c g q ad X rv iv' av' H locs 0 0 (F0 m 92 ls []) := by
  unfold jM_follow_92 at hf
  refine lv_aload_n C.1.1 C.1.2.1 dM_follow_92 rfl (lv_at hl 0 rfl) ?_
  refine mg_fault C hw dM_follow_93 ?_
  refine lv_if_le (tgt := 100) C.1.1 C.1.2.1 dM_follow_96 (by decide) (fun c1 => ?_) (fun c1 => ?_)
  · have hf := ts_t hf c1
    refine lv_aload_n C.1.1 C.1.2.1 dM_follow_100 rfl (lv_at hl 0 rfl) ?_
    refine mg_counts C hw dM_follow_101 ?_
    refine lv_iload_n C.1.1 C.1.2.1 dM_follow_104 rfl (lv_at hl 1 rfl) ?_
    refine lv_iload C.1.1 C.1.2.1 dM_follow_105 (lv_at hl 3 rfl) ?_
    obtain ⟨h2, hf⟩ := ts_g hf
    refine ms_counts C hw h2 dM_follow_107 (fun H locs hw => ?_)
    refine lv_aload_n C.1.1 C.1.2.1 dM_follow_108 rfl (lv_at hl 0 rfl) ?_
    refine mg_at C hw dM_follow_109 ?_
    refine lv_istore_n (lv' := [(3, .int (iv 2)), (0, .ref q), (1, .int x1), (2, .int x2), (4, .int x4)]) C.1.1 C.1.2.1 dM_follow_112 rfl hl (by decide) rfl (fun ls hl => ?_)
    refine lv_iconst (v := (0 : Int32)) C.1.1 C.1.2.1 dM_follow_113 (by decide) ?_
    refine lv_istore (lv' := [(5, .int (0 : Int32)), (3, .int (iv 2)), (0, .ref q), (1, .int x1), (2, .int x2), (4, .int x4)]) C.1.1 C.1.2.1 dM_follow_114 hl (by decide) rfl (fun ls hl => ?_)
    exact wM_follow_116 C hr hlk hrv FU iv (up2 av 7 x1.toNatClampNeg x4) x1 x2 (iv 2) x4 (0 : Int32) _ _ ls (lv_sub hl [2, 3, 4, 1, 5, 0] rfl) hw hf
  · have hf := ts_f hf c1
    exact m_retv C hr hlk hrv hw hf ⟨Nat.le_of_ble_eq_true rfl, Nat.le_of_ble_eq_true rfl⟩ dM_follow_99
set_option maxHeartbeats 4000000 in
set_option maxRecDepth 100000 in
theorem wM_follow_62 {p : Program} {l : Launch} {e : Env} {s : State} {m : MethodId} {args : Array Value} {below : List Frame} {meth : Method} {c : Code} {g : gT} {q : Nat} {ad : Nat → Nat} {X : va_W} {rv : Option Value} {iv' : Nat → Int32} {av' : Nat → Nat → Int32} (C : mCx p m c cM_follow 6 s args g "MidiDeskModel") (hr : meth.sig.returnType = none) (hlk : meth.locks = false) (hrv : rv = none) (iv : Nat → Int32) (av : Nat → Nat → Int32) (x1 : Int32) (x2 : Int32) (x4 : Int32) (H : Heap) (locs : List Loc) (ls : Array Slot) (hl : lv_has ls 6 [(0, .ref q), (1, .int x1), (2, .int x2), (4, .int x4)]) (hw : mWd g (mA g q ad X s.heap.size) s.heap q ad X iv av H locs) (hf : jM_follow_62 iv av x1 x2 x4 = some (iv', av')) : mG p l e rM_follow s m args below meth c g q ad X rv iv' av' H locs 0 0 (F0 m 62 ls []) := by
  unfold jM_follow_62 at hf
  refine lv_aload_n C.1.1 C.1.2.1 dM_follow_62 rfl (lv_at hl 0 rfl) ?_
  refine mg_fault C hw dM_follow_63 ?_
  refine lv_if_ne (tgt := 92) C.1.1 C.1.2.1 dM_follow_66 (by decide) (fun c1 => ?_) (fun c1 => ?_)
  · have hf := ts_f hf c1
    exact wM_follow_92 C hr hlk hrv iv av x1 x2 x4 _ _ ls (lv_sub hl [0, 1, 2, 3] rfl) hw hf
  · have hf := ts_t hf c1
    refine lv_aload_n C.1.1 C.1.2.1 dM_follow_69 rfl (lv_at hl 0 rfl) ?_
    refine mg_at C hw dM_follow_70 ?_
    refine lv_iload C.1.1 C.1.2.1 dM_follow_73 (lv_at hl 3 rfl) ?_
    refine lv_iadd C.1.1 C.1.2.1 dM_follow_75 ?_
    refine lv_aload_n C.1.1 C.1.2.1 dM_follow_76 rfl (lv_at hl 0 rfl) ?_
    refine mg_end C hw dM_follow_77 ?_
    refine lv_icmp_le (tgt := 92) C.1.1 C.1.2.1 dM_follow_80 (by decide) (fun c2 => ?_) (fun c2 => ?_)
    · have hf := ts_t hf c2
      exact wM_follow_92 C hr hlk hrv iv av x1 x2 x4 _ _ ls (lv_sub hl [0, 1, 2, 3] rfl) hw hf
    · have hf := ts_f hf c2
      refine lv_aload_n C.1.1 C.1.2.1 dM_follow_83 rfl (lv_at hl 0 rfl) ?_
      refine lv_iconst (v := (1 : Int32)) C.1.1 C.1.2.1 dM_follow_84 (by decide) ?_
      refine lv_aload_n C.1.1 C.1.2.1 dM_follow_85 rfl (lv_at hl 0 rfl) ?_
      refine mg_end C hw dM_follow_86 ?_
      obtain ⟨⟨iv3, av3⟩, g3, hf⟩ := ts_b hf
      dsimp only at hf
      refine m_callV (rest := []) (As := [.int (1 : Int32), .int (iv 3)]) (rv := none) C hl.1 hw (cM_fail_met g3) (callW_of (rm := rM_fail) 2 C.1.2.2.2.2 gw_812 gw_814 gw_28 gw_55 gw_815 kM_fail ⟨Nat.le_of_ble_eq_true rfl, Nat.le_of_ble_eq_true rfl⟩) rfl rfl (Nat.le_of_ble_eq_true rfl) dM_follow_89 ⟨Nat.le_of_ble_eq_true rfl, Nat.le_of_ble_eq_true rfl⟩ (fun H locs hw => ?_)
      refine W.eq (g2 := F0 m 92 ls []) rfl ?_
      exact wM_follow_92 C hr hlk hrv iv3 av3 x1 x2 x4 _ _ ls (lv_sub hl [0, 1, 2, 3] rfl) hw hf
set_option maxHeartbeats 4000000 in
set_option maxRecDepth 100000 in
theorem wM_follow_36 {p : Program} {l : Launch} {e : Env} {s : State} {m : MethodId} {args : Array Value} {below : List Frame} {meth : Method} {c : Code} {g : gT} {q : Nat} {ad : Nat → Nat} {X : va_W} {rv : Option Value} {iv' : Nat → Int32} {av' : Nat → Nat → Int32} (C : mCx p m c cM_follow 6 s args g "MidiDeskModel") (hr : meth.sig.returnType = none) (hlk : meth.locks = false) (hrv : rv = none) (iv : Nat → Int32) (av : Nat → Nat → Int32) (x1 : Int32) (x2 : Int32) (x3 : Int32) (x4 : Int32) (H : Heap) (locs : List Loc) (ls : Array Slot) (hl : lv_has ls 6 [(0, .ref q), (1, .int x1), (2, .int x2), (3, .int x3), (4, .int x4)]) (hw : mWd g (mA g q ad X s.heap.size) s.heap q ad X iv av H locs) (hf : jM_follow_36 iv av x1 x2 x3 x4 = some (iv', av')) : mG p l e rM_follow s m args below meth c g q ad X rv iv' av' H locs 0 0 (F0 m 36 ls []) := by
  unfold jM_follow_36 at hf
  refine lv_aload_n C.1.1 C.1.2.1 dM_follow_36 rfl (lv_at hl 0 rfl) ?_
  refine mg_fault C hw dM_follow_37 ?_
  refine lv_if_ne (tgt := 62) C.1.1 C.1.2.1 dM_follow_40 (by decide) (fun c1 => ?_) (fun c1 => ?_)
  · have hf := ts_f hf c1
    exact wM_follow_62 C hr hlk hrv iv av x1 x2 x4 _ _ ls (lv_sub hl [0, 1, 2, 4] rfl) hw hf
  · have hf := ts_t hf c1
    refine lv_iload_n C.1.1 C.1.2.1 dM_follow_43 rfl (lv_at hl 2 rfl) ?_
    refine lv_bipush (v := (81 : Int32)) C.1.1 C.1.2.1 dM_follow_44 (by decide) ?_
    refine lv_icmp_ne (tgt := 62) C.1.1 C.1.2.1 dM_follow_46 (by decide) (fun c2 => ?_) (fun c2 => ?_)
    · have hf := ts_f hf c2
      exact wM_follow_62 C hr hlk hrv iv av x1 x2 x4 _ _ ls (lv_sub hl [0, 1, 2, 4] rfl) hw hf
    · have hf := ts_t hf c2
      refine lv_iload C.1.1 C.1.2.1 dM_follow_49 (lv_at hl 4 rfl) ?_
      refine lv_iconst (v := (3 : Int32)) C.1.1 C.1.2.1 dM_follow_51 (by decide) ?_
      refine lv_icmp_eq (tgt := 62) C.1.1 C.1.2.1 dM_follow_52 (by decide) (fun c3 => ?_) (fun c3 => ?_)
      · have hf := ts_t hf c3
        exact wM_follow_62 C hr hlk hrv iv av x1 x2 x4 _ _ ls (lv_sub hl [0, 1, 2, 4] rfl) hw hf
      · have hf := ts_f hf c3
        refine lv_aload_n C.1.1 C.1.2.1 dM_follow_55 rfl (lv_at hl 0 rfl) ?_
        refine lv_bipush (v := (8 : Int32)) C.1.1 C.1.2.1 dM_follow_56 (by decide) ?_
        refine lv_iload_n C.1.1 C.1.2.1 dM_follow_58 rfl (lv_at hl 3 rfl) ?_
        obtain ⟨⟨iv4, av4⟩, g4, hf⟩ := ts_b hf
        dsimp only at hf
        refine m_callV (rest := []) (As := [.int (8 : Int32), .int x3]) (rv := none) C hl.1 hw (cM_fail_met g4) (callW_of (rm := rM_fail) 2 C.1.2.2.2.2 gw_812 gw_814 gw_28 gw_55 gw_815 kM_fail ⟨Nat.le_of_ble_eq_true rfl, Nat.le_of_ble_eq_true rfl⟩) rfl rfl (Nat.le_of_ble_eq_true rfl) dM_follow_59 ⟨Nat.le_of_ble_eq_true rfl, Nat.le_of_ble_eq_true rfl⟩ (fun H locs hw => ?_)
        refine W.eq (g2 := F0 m 62 ls []) rfl ?_
        exact wM_follow_62 C hr hlk hrv iv4 av4 x1 x2 x4 _ _ ls (lv_sub hl [0, 1, 2, 4] rfl) hw hf
set_option maxHeartbeats 4000000 in
set_option maxRecDepth 100000 in
theorem cM_follow_met {l : Launch} {g : gT} {q : Nat} {ad : Nat → Nat} {X : va_W} {iv iv' : Nat → Int32} {av av' : Nat → Nat → Int32} {x1 : Int32} {x2 : Int32} (hf : fM_follow iv av x1 x2 = some (iv', av')) : mMet l yM_follow cM_follow 6 none rM_follow g q ad X iv av [.ref q, .int x1, .int x2] none iv' av' := by
  refine m_entry (by decide) (Nat.le_of_ble_eq_true rfl) ?_
  intro p e s m args below meth c ls C hr hlk hnm hl hw
  have hrv : (none : Option Value) = none := rfl
  have C : mCx p m c cM_follow 6 s args g "MidiDeskModel" := C
  have hl : lv_has ls 6 [(0, .ref q), (1, .int x1), (2, .int x2)] := hl
  unfold fM_follow at hf
  refine lv_aload_n C.1.1 C.1.2.1 dM_follow_0 rfl (lv_at hl 0 rfl) ?_
  refine mg_at C hw dM_follow_1 ?_
  refine lv_istore_n (lv' := [(3, .int (iv 2)), (0, .ref q), (1, .int x1), (2, .int x2)]) C.1.1 C.1.2.1 dM_follow_4 rfl hl (by decide) rfl (fun ls hl => ?_)
  refine lv_aload_n C.1.1 C.1.2.1 dM_follow_5 rfl (lv_at hl 1 rfl) ?_
  obtain ⟨⟨r1, iv1, av1⟩, g1, hf⟩ := ts_b hf
  dsimp only at hf
  refine m_callV (rest := []) (As := []) (rv := (some (.int r1))) C hl.1 hw (cM_number_met g1) (callW_of (rm := rM_number) 0 C.1.2.2.2.2 gw_827 gw_829 gw_30 gw_55 gw_830 kM_number ⟨Nat.le_of_ble_eq_true rfl, Nat.le_of_ble_eq_true rfl⟩) rfl rfl (Nat.le_of_ble_eq_true rfl) dM_follow_6 ⟨Nat.le_of_ble_eq_true rfl, Nat.le_of_ble_eq_true rfl⟩ (fun H locs hw => ?_)
  refine W.eq (g2 := F0 m 9 ls [.int r1]) rfl ?_
  refine lv_istore (lv' := [(4, .int r1), (3, .int (iv 2)), (0, .ref q), (1, .int x1), (2, .int x2)]) C.1.1 C.1.2.1 dM_follow_9 hl (by decide) rfl (fun ls hl => ?_)
  refine lv_aload_n C.1.1 C.1.2.1 dM_follow_11 rfl (lv_at hl 2 rfl) ?_
  refine mg_fault C hw dM_follow_12 ?_
  refine lv_if_ne (tgt := 36) C.1.1 C.1.2.1 dM_follow_15 (by decide) (fun c2 => ?_) (fun c2 => ?_)
  · have hf := ts_f hf c2
    exact wM_follow_36 C hr hlk hrv iv1 av1 x1 x2 (iv 2) r1 _ _ ls (lv_sub hl [2, 3, 4, 1, 0] rfl) hw hf
  · have hf := ts_t hf c2
    refine lv_iload_n C.1.1 C.1.2.1 dM_follow_18 rfl (lv_at hl 4 rfl) ?_
    refine lv_bipush (v := (47 : Int32)) C.1.1 C.1.2.1 dM_follow_19 (by decide) ?_
    refine lv_icmp_ne (tgt := 36) C.1.1 C.1.2.1 dM_follow_21 (by decide) (fun c3 => ?_) (fun c3 => ?_)
    · have hf := ts_f hf c3
      exact wM_follow_36 C hr hlk hrv iv1 av1 x1 x2 (iv 2) r1 _ _ ls (lv_sub hl [2, 3, 4, 1, 0] rfl) hw hf
    · have hf := ts_t hf c3
      refine lv_iload C.1.1 C.1.2.1 dM_follow_24 (lv_at hl 0 rfl) ?_
      refine lv_if_le (tgt := 36) C.1.1 C.1.2.1 dM_follow_26 (by decide) (fun c4 => ?_) (fun c4 => ?_)
      · have hf := ts_t hf c4
        exact wM_follow_36 C hr hlk hrv iv1 av1 x1 x2 (iv 2) r1 _ _ ls (lv_sub hl [2, 3, 4, 1, 0] rfl) hw hf
      · have hf := ts_f hf c4
        refine lv_aload_n C.1.1 C.1.2.1 dM_follow_29 rfl (lv_at hl 2 rfl) ?_
        refine lv_bipush (v := (7 : Int32)) C.1.1 C.1.2.1 dM_follow_30 (by decide) ?_
        refine lv_iload_n C.1.1 C.1.2.1 dM_follow_32 rfl (lv_at hl 1 rfl) ?_
        obtain ⟨⟨iv5, av5⟩, g5, hf⟩ := ts_b hf
        dsimp only at hf
        refine m_callV (rest := []) (As := [.int (7 : Int32), .int (iv 2)]) (rv := none) C hl.1 hw (cM_fail_met g5) (callW_of (rm := rM_fail) 2 C.1.2.2.2.2 gw_812 gw_814 gw_28 gw_55 gw_815 kM_fail ⟨Nat.le_of_ble_eq_true rfl, Nat.le_of_ble_eq_true rfl⟩) rfl rfl (Nat.le_of_ble_eq_true rfl) dM_follow_33 ⟨Nat.le_of_ble_eq_true rfl, Nat.le_of_ble_eq_true rfl⟩ (fun H locs hw => ?_)
        refine W.eq (g2 := F0 m 36 ls []) rfl ?_
        exact wM_follow_36 C hr hlk hrv iv5 av5 x1 x2 (iv 2) r1 _ _ ls (lv_sub hl [2, 3, 4, 1, 0] rfl) hw hf
abbrev cM_eventIn : ByteArray := prog_8_method_13_code
abbrev yM_eventIn : MethodName := ⟨"MidiDeskModel", "event", "(IIII)Z"⟩
theorem kM_eventIn : yM_eventIn.cls ≠ "java/lang/invoke/MethodHandle" ∧ yM_eventIn.cls ≠ "java/lang/invoke/VarHandle" ∧ (parseMethodDescriptor yM_eventIn.desc).map (fun d => d.parameters.length) = some 4 := by decide +kernel
abbrev rM_eventIn : Room := { frames := 4, cells := 0, slots := 0, locals := 95 }
theorem dM_eventIn_0 : decode cM_eventIn 0 = .ok (.aload_n 0, 1) := by decide +kernel
theorem dM_eventIn_1 : decode cM_eventIn 1 = .ok (.getfield 95, 3) := by decide +kernel
theorem dM_eventIn_4 : decode cM_eventIn 4 = .ok (.istore 5, 2) := by decide +kernel
theorem dM_eventIn_6 : decode cM_eventIn 6 = .ok (.aload_n 0, 1) := by decide +kernel
theorem dM_eventIn_7 : decode cM_eventIn 7 = .ok (.getfield 22, 3) := by decide +kernel
theorem dM_eventIn_10 : decode cM_eventIn 10 = .ok (.iload 5, 2) := by decide +kernel
theorem dM_eventIn_12 : decode cM_eventIn 12 = .ok (.iload_n 3, 1) := by decide +kernel
theorem dM_eventIn_13 : decode cM_eventIn 13 = .ok (.sipush 240, 3) := by decide +kernel
theorem dM_eventIn_16 : decode cM_eventIn 16 = .ok (.if_icmp .eq 10, 3) := by decide +kernel
theorem dM_eventIn_19 : decode cM_eventIn 19 = .ok (.iload_n 3, 1) := by decide +kernel
theorem dM_eventIn_20 : decode cM_eventIn 20 = .ok (.sipush 247, 3) := by decide +kernel
theorem dM_eventIn_23 : decode cM_eventIn 23 = .ok (.if_icmp .ne 7, 3) := by decide +kernel
theorem dM_eventIn_26 : decode cM_eventIn 26 = .ok (.iconst (-1), 1) := by decide +kernel
theorem dM_eventIn_27 : decode cM_eventIn 27 = .ok (.goto 7, 3) := by decide +kernel
theorem dM_eventIn_30 : decode cM_eventIn 30 = .ok (.aload_n 0, 1) := by decide +kernel
theorem dM_eventIn_31 : decode cM_eventIn 31 = .ok (.invokevirtual 127, 3) := by decide +kernel
theorem dM_eventIn_34 : decode cM_eventIn 34 = .ok (.iastore, 1) := by decide +kernel
theorem dM_eventIn_35 : decode cM_eventIn 35 = .ok (.aload_n 0, 1) := by decide +kernel
theorem dM_eventIn_36 : decode cM_eventIn 36 = .ok (.getfield 25, 3) := by decide +kernel
theorem dM_eventIn_39 : decode cM_eventIn 39 = .ok (.iload 5, 2) := by decide +kernel
theorem dM_eventIn_41 : decode cM_eventIn 41 = .ok (.iload_n 3, 1) := by decide +kernel
theorem dM_eventIn_42 : decode cM_eventIn 42 = .ok (.sipush 192, 3) := by decide +kernel
theorem dM_eventIn_45 : decode cM_eventIn 45 = .ok (.if_icmp .lt 17, 3) := by decide +kernel
theorem dM_eventIn_48 : decode cM_eventIn 48 = .ok (.iload_n 3, 1) := by decide +kernel
theorem dM_eventIn_49 : decode cM_eventIn 49 = .ok (.sipush 223, 3) := by decide +kernel
theorem dM_eventIn_52 : decode cM_eventIn 52 = .ok (.if_icmp .le 17, 3) := by decide +kernel
theorem dM_eventIn_55 : decode cM_eventIn 55 = .ok (.iload_n 3, 1) := by decide +kernel
theorem dM_eventIn_56 : decode cM_eventIn 56 = .ok (.sipush 240, 3) := by decide +kernel
theorem dM_eventIn_59 : decode cM_eventIn 59 = .ok (.if_icmp .ge 10, 3) := by decide +kernel
theorem dM_eventIn_62 : decode cM_eventIn 62 = .ok (.aload_n 0, 1) := by decide +kernel
theorem dM_eventIn_63 : decode cM_eventIn 63 = .ok (.invokevirtual 127, 3) := by decide +kernel
theorem dM_eventIn_66 : decode cM_eventIn 66 = .ok (.goto 4, 3) := by decide +kernel
theorem dM_eventIn_69 : decode cM_eventIn 69 = .ok (.iconst (-1), 1) := by decide +kernel
theorem dM_eventIn_70 : decode cM_eventIn 70 = .ok (.iastore, 1) := by decide +kernel
theorem dM_eventIn_71 : decode cM_eventIn 71 = .ok (.aload_n 0, 1) := by decide +kernel
theorem dM_eventIn_72 : decode cM_eventIn 72 = .ok (.getfield 31, 3) := by decide +kernel
theorem dM_eventIn_75 : decode cM_eventIn 75 = .ok (.iload 5, 2) := by decide +kernel
theorem dM_eventIn_77 : decode cM_eventIn 77 = .ok (.iconst (-1), 1) := by decide +kernel
theorem dM_eventIn_78 : decode cM_eventIn 78 = .ok (.iastore, 1) := by decide +kernel
theorem dM_eventIn_79 : decode cM_eventIn 79 = .ok (.aload_n 0, 1) := by decide +kernel
theorem dM_eventIn_80 : decode cM_eventIn 80 = .ok (.getfield 28, 3) := by decide +kernel
theorem dM_eventIn_83 : decode cM_eventIn 83 = .ok (.iload 5, 2) := by decide +kernel
theorem dM_eventIn_85 : decode cM_eventIn 85 = .ok (.aload_n 0, 1) := by decide +kernel
theorem dM_eventIn_86 : decode cM_eventIn 86 = .ok (.getfield 98, 3) := by decide +kernel
theorem dM_eventIn_89 : decode cM_eventIn 89 = .ok (.iastore, 1) := by decide +kernel
theorem dM_eventIn_90 : decode cM_eventIn 90 = .ok (.iload_n 3, 1) := by decide +kernel
theorem dM_eventIn_91 : decode cM_eventIn 91 = .ok (.sipush 239, 3) := by decide +kernel
theorem dM_eventIn_94 : decode cM_eventIn 94 = .ok (.if_icmp .le 27, 3) := by decide +kernel
theorem dM_eventIn_97 : decode cM_eventIn 97 = .ok (.aload_n 0, 1) := by decide +kernel
theorem dM_eventIn_98 : decode cM_eventIn 98 = .ok (.iload 5, 2) := by decide +kernel
theorem dM_eventIn_100 : decode cM_eventIn 100 = .ok (.iload_n 3, 1) := by decide +kernel
theorem dM_eventIn_101 : decode cM_eventIn 101 = .ok (.sipush 255, 3) := by decide +kernel
theorem dM_eventIn_104 : decode cM_eventIn 104 = .ok (.if_icmp .ne 13, 3) := by decide +kernel
theorem dM_eventIn_107 : decode cM_eventIn 107 = .ok (.aload_n 0, 1) := by decide +kernel
theorem dM_eventIn_108 : decode cM_eventIn 108 = .ok (.getfield 22, 3) := by decide +kernel
theorem dM_eventIn_111 : decode cM_eventIn 111 = .ok (.iload 5, 2) := by decide +kernel
theorem dM_eventIn_113 : decode cM_eventIn 113 = .ok (.iaload, 1) := by decide +kernel
theorem dM_eventIn_114 : decode cM_eventIn 114 = .ok (.goto 4, 3) := by decide +kernel
theorem dM_eventIn_117 : decode cM_eventIn 117 = .ok (.iconst (-1), 1) := by decide +kernel
theorem dM_eventIn_118 : decode cM_eventIn 118 = .ok (.invokevirtual 130, 3) := by decide +kernel
theorem dM_eventIn_121 : decode cM_eventIn 121 = .ok (.aload_n 0, 1) := by decide +kernel
theorem dM_eventIn_122 : decode cM_eventIn 122 = .ok (.getfield 56, 3) := by decide +kernel
theorem dM_eventIn_125 : decode cM_eventIn 125 = .ok (.ifCond .le 5, 3) := by decide +kernel
theorem dM_eventIn_128 : decode cM_eventIn 128 = .ok (.iconst 0, 1) := by decide +kernel
theorem dM_eventIn_129 : decode cM_eventIn 129 = .ok (.ireturn, 1) := by decide +kernel
theorem dM_eventIn_130 : decode cM_eventIn 130 = .ok (.iload_n 3, 1) := by decide +kernel
theorem dM_eventIn_131 : decode cM_eventIn 131 = .ok (.sipush 255, 3) := by decide +kernel
theorem dM_eventIn_134 : decode cM_eventIn 134 = .ok (.if_icmp .ne 38, 3) := by decide +kernel
theorem dM_eventIn_137 : decode cM_eventIn 137 = .ok (.aload_n 0, 1) := by decide +kernel
theorem dM_eventIn_138 : decode cM_eventIn 138 = .ok (.getfield 22, 3) := by decide +kernel
theorem dM_eventIn_141 : decode cM_eventIn 141 = .ok (.iload 5, 2) := by decide +kernel
theorem dM_eventIn_143 : decode cM_eventIn 143 = .ok (.iaload, 1) := by decide +kernel
theorem dM_eventIn_144 : decode cM_eventIn 144 = .ok (.bipush 47, 2) := by decide +kernel
theorem dM_eventIn_146 : decode cM_eventIn 146 = .ok (.if_icmp .ne 26, 3) := by decide +kernel
theorem dM_eventIn_149 : decode cM_eventIn 149 = .ok (.aload_n 0, 1) := by decide +kernel
theorem dM_eventIn_150 : decode cM_eventIn 150 = .ok (.getfield 62, 3) := by decide +kernel
theorem dM_eventIn_153 : decode cM_eventIn 153 = .ok (.aload_n 0, 1) := by decide +kernel
theorem dM_eventIn_154 : decode cM_eventIn 154 = .ok (.getfield 65, 3) := by decide +kernel
theorem dM_eventIn_157 : decode cM_eventIn 157 = .ok (.if_icmp .ge 13, 3) := by decide +kernel
theorem dM_eventIn_160 : decode cM_eventIn 160 = .ok (.aload_n 0, 1) := by decide +kernel
theorem dM_eventIn_161 : decode cM_eventIn 161 = .ok (.bipush 7, 2) := by decide +kernel
theorem dM_eventIn_163 : decode cM_eventIn 163 = .ok (.aload_n 0, 1) := by decide +kernel
theorem dM_eventIn_164 : decode cM_eventIn 164 = .ok (.getfield 62, 3) := by decide +kernel
theorem dM_eventIn_167 : decode cM_eventIn 167 = .ok (.invokevirtual 68, 3) := by decide +kernel
theorem dM_eventIn_170 : decode cM_eventIn 170 = .ok (.iconst 0, 1) := by decide +kernel
theorem dM_eventIn_171 : decode cM_eventIn 171 = .ok (.ireturn, 1) := by decide +kernel
theorem dM_eventIn_172 : decode cM_eventIn 172 = .ok (.aload_n 0, 1) := by decide +kernel
theorem dM_eventIn_173 : decode cM_eventIn 173 = .ok (.getfield 13, 3) := by decide +kernel
theorem dM_eventIn_176 : decode cM_eventIn 176 = .ok (.iload 5, 2) := by decide +kernel
theorem dM_eventIn_178 : decode cM_eventIn 178 = .ok (.iload_n 2, 1) := by decide +kernel
theorem dM_eventIn_179 : decode cM_eventIn 179 = .ok (.iastore, 1) := by decide +kernel
theorem dM_eventIn_180 : decode cM_eventIn 180 = .ok (.aload_n 0, 1) := by decide +kernel
theorem dM_eventIn_181 : decode cM_eventIn 181 = .ok (.getfield 16, 3) := by decide +kernel
theorem dM_eventIn_184 : decode cM_eventIn 184 = .ok (.iload 5, 2) := by decide +kernel
theorem dM_eventIn_186 : decode cM_eventIn 186 = .ok (.iload_n 1, 1) := by decide +kernel
theorem dM_eventIn_187 : decode cM_eventIn 187 = .ok (.iastore, 1) := by decide +kernel
theorem dM_eventIn_188 : decode cM_eventIn 188 = .ok (.aload_n 0, 1) := by decide +kernel
theorem dM_eventIn_189 : decode cM_eventIn 189 = .ok (.getfield 19, 3) := by decide +kernel
theorem dM_eventIn_192 : decode cM_eventIn 192 = .ok (.iload 5, 2) := by decide +kernel
theorem dM_eventIn_194 : decode cM_eventIn 194 = .ok (.iload_n 3, 1) := by decide +kernel
theorem dM_eventIn_195 : decode cM_eventIn 195 = .ok (.iastore, 1) := by decide +kernel
theorem dM_eventIn_196 : decode cM_eventIn 196 = .ok (.aload_n 0, 1) := by decide +kernel
theorem dM_eventIn_197 : decode cM_eventIn 197 = .ok (.dup, 1) := by decide +kernel
theorem dM_eventIn_198 : decode cM_eventIn 198 = .ok (.getfield 95, 3) := by decide +kernel
theorem dM_eventIn_201 : decode cM_eventIn 201 = .ok (.iconst 1, 1) := by decide +kernel
theorem dM_eventIn_202 : decode cM_eventIn 202 = .ok (.iadd, 1) := by decide +kernel
theorem dM_eventIn_203 : decode cM_eventIn 203 = .ok (.putfield 95, 3) := by decide +kernel
theorem dM_eventIn_206 : decode cM_eventIn 206 = .ok (.aload_n 0, 1) := by decide +kernel
theorem dM_eventIn_207 : decode cM_eventIn 207 = .ok (.dup, 1) := by decide +kernel
theorem dM_eventIn_208 : decode cM_eventIn 208 = .ok (.getfield 98, 3) := by decide +kernel
theorem dM_eventIn_211 : decode cM_eventIn 211 = .ok (.iload_n 3, 1) := by decide +kernel
theorem dM_eventIn_212 : decode cM_eventIn 212 = .ok (.sipush 239, 3) := by decide +kernel
theorem dM_eventIn_215 : decode cM_eventIn 215 = .ok (.if_icmp .le 13, 3) := by decide +kernel
theorem dM_eventIn_218 : decode cM_eventIn 218 = .ok (.aload_n 0, 1) := by decide +kernel
theorem dM_eventIn_219 : decode cM_eventIn 219 = .ok (.getfield 31, 3) := by decide +kernel
theorem dM_eventIn_222 : decode cM_eventIn 222 = .ok (.iload 5, 2) := by decide +kernel
theorem dM_eventIn_224 : decode cM_eventIn 224 = .ok (.iaload, 1) := by decide +kernel
theorem dM_eventIn_225 : decode cM_eventIn 225 = .ok (.goto 4, 3) := by decide +kernel
theorem dM_eventIn_228 : decode cM_eventIn 228 = .ok (.iconst 0, 1) := by decide +kernel
theorem dM_eventIn_229 : decode cM_eventIn 229 = .ok (.iadd, 1) := by decide +kernel
theorem dM_eventIn_230 : decode cM_eventIn 230 = .ok (.putfield 98, 3) := by decide +kernel
theorem dM_eventIn_233 : decode cM_eventIn 233 = .ok (.aload_n 0, 1) := by decide +kernel
theorem dM_eventIn_234 : decode cM_eventIn 234 = .ok (.getfield 95, 3) := by decide +kernel
theorem dM_eventIn_237 : decode cM_eventIn 237 = .ok (.sipush 1000, 3) := by decide +kernel
theorem dM_eventIn_240 : decode cM_eventIn 240 = .ok (.if_icmp .gt 13, 3) := by decide +kernel
theorem dM_eventIn_243 : decode cM_eventIn 243 = .ok (.aload_n 0, 1) := by decide +kernel
theorem dM_eventIn_244 : decode cM_eventIn 244 = .ok (.getfield 98, 3) := by decide +kernel
theorem dM_eventIn_247 : decode cM_eventIn 247 = .ok (.sipush 8000, 3) := by decide +kernel
theorem dM_eventIn_250 : decode cM_eventIn 250 = .ok (.if_icmp .le 11, 3) := by decide +kernel
theorem dM_eventIn_253 : decode cM_eventIn 253 = .ok (.aload_n 0, 1) := by decide +kernel
theorem dM_eventIn_254 : decode cM_eventIn 254 = .ok (.bipush 9, 2) := by decide +kernel
theorem dM_eventIn_256 : decode cM_eventIn 256 = .ok (.iload 4, 2) := by decide +kernel
theorem dM_eventIn_258 : decode cM_eventIn 258 = .ok (.invokevirtual 68, 3) := by decide +kernel
theorem dM_eventIn_261 : decode cM_eventIn 261 = .ok (.iconst 1, 1) := by decide +kernel
theorem dM_eventIn_262 : decode cM_eventIn 262 = .ok (.ireturn, 1) := by decide +kernel
def jM_eventIn_253 (iv : Nat → Int32) (av : Nat → Nat → Int32) (x4 : Int32) : Option (Int32 × (Nat → Int32) × (Nat → Nat → Int32)) := (fM_fail iv av (9 : Int32) x4).bind fun (iv1, av1) => some ((1 : Int32), iv1, av1)
def jM_eventIn_229 (iv : Nat → Int32) (av : Nat → Nat → Int32) (x4 : Int32) (s1 : Int32) (s2 : Int32) : Option (Int32 × (Nat → Int32) × (Nat → Nat → Int32)) := if (1000 : Int32) < ((upd iv 11 (s1 + s2)) 10) then (jM_eventIn_253 (upd iv 11 (s1 + s2)) av x4) else (if ((upd iv 11 (s1 + s2)) 11) ≤ (8000 : Int32) then (some ((1 : Int32), upd iv 11 (s1 + s2), av)) else (jM_eventIn_253 (upd iv 11 (s1 + s2)) av x4))
def jM_eventIn_172 (iv : Nat → Int32) (av : Nat → Nat → Int32) (x1 : Int32) (x2 : Int32) (x3 : Int32) (x4 : Int32) (x5 : Int32) : Option (Int32 × (Nat → Int32) × (Nat → Nat → Int32)) := if x5 < 0 ∨ 1001 ≤ x5.toNatClampNeg then none else (if x5 < 0 ∨ 1001 ≤ x5.toNatClampNeg then none else (if x5 < 0 ∨ 1001 ≤ x5.toNatClampNeg then none else (if x3 ≤ (239 : Int32) then (jM_eventIn_229 (upd iv 10 ((iv 10) + (1 : Int32))) (up2 (up2 (up2 av 1 x5.toNatClampNeg x2) 2 x5.toNatClampNeg x1) 3 x5.toNatClampNeg x3) x4 ((upd iv 10 ((iv 10) + (1 : Int32))) 11) (0 : Int32)) else (if x5 < 0 ∨ 1001 ≤ x5.toNatClampNeg then none else (jM_eventIn_229 (upd iv 10 ((iv 10) + (1 : Int32))) (up2 (up2 (up2 av 1 x5.toNatClampNeg x2) 2 x5.toNatClampNeg x1) 3 x5.toNatClampNeg x3) x4 ((upd iv 10 ((iv 10) + (1 : Int32))) 11) ((up2 (up2 (up2 av 1 x5.toNatClampNeg x2) 2 x5.toNatClampNeg x1) 3 x5.toNatClampNeg x3) 7 x5.toNatClampNeg))))))
def jM_eventIn_121 (iv : Nat → Int32) (av : Nat → Nat → Int32) (x1 : Int32) (x2 : Int32) (x3 : Int32) (x4 : Int32) (x5 : Int32) : Option (Int32 × (Nat → Int32) × (Nat → Nat → Int32)) := if (iv 4) ≤ 0 then (if x3 = (255 : Int32) then (if x5 < 0 ∨ 1001 ≤ x5.toNatClampNeg then none else (if (av 4 x5.toNatClampNeg) = (47 : Int32) then (if (iv 3) ≤ (iv 2) then (some ((0 : Int32), iv, av)) else ((fM_fail iv av (7 : Int32) (iv 2)).bind fun (iv6, av6) => some ((0 : Int32), iv6, av6))) else (jM_eventIn_172 iv av x1 x2 x3 x4 x5))) else (jM_eventIn_172 iv av x1 x2 x3 x4 x5)) else (some ((0 : Int32), iv, av))
def jM_eventIn_118 (iv : Nat → Int32) (av : Nat → Nat → Int32) (x1 : Int32) (x2 : Int32) (x3 : Int32) (x4 : Int32) (x5 : Int32) (s1 : Int32) (s2 : Int32) : Option (Int32 × (Nat → Int32) × (Nat → Nat → Int32)) := (fM_follow iv av s1 s2).bind fun (iv1, av1) => jM_eventIn_121 iv1 av1 x1 x2 x3 x4 x5
def jM_eventIn_70 (iv : Nat → Int32) (av : Nat → Nat → Int32) (x1 : Int32) (x2 : Int32) (x3 : Int32) (x4 : Int32) (x5 : Int32) (s1 : Int32) (s2 : Int32) : Option (Int32 × (Nat → Int32) × (Nat → Nat → Int32)) := if s1 < 0 ∨ 1001 ≤ s1.toNatClampNeg then none else (if x5 < 0 ∨ 1001 ≤ x5.toNatClampNeg then none else (if x5 < 0 ∨ 1001 ≤ x5.toNatClampNeg then none else (if x3 ≤ (239 : Int32) then (jM_eventIn_121 iv (up2 (up2 (up2 av 5 s1.toNatClampNeg s2) 7 x5.toNatClampNeg (-1 : Int32)) 6 x5.toNatClampNeg (iv 11)) x1 x2 x3 x4 x5) else (if x3 = (255 : Int32) then (if x5 < 0 ∨ 1001 ≤ x5.toNatClampNeg then none else (jM_eventIn_118 iv (up2 (up2 (up2 av 5 s1.toNatClampNeg s2) 7 x5.toNatClampNeg (-1 : Int32)) 6 x5.toNatClampNeg (iv 11)) x1 x2 x3 x4 x5 x5 ((up2 (up2 (up2 av 5 s1.toNatClampNeg s2) 7 x5.toNatClampNeg (-1 : Int32)) 6 x5.toNatClampNeg (iv 11)) 4 x5.toNatClampNeg))) else (jM_eventIn_118 iv (up2 (up2 (up2 av 5 s1.toNatClampNeg s2) 7 x5.toNatClampNeg (-1 : Int32)) 6 x5.toNatClampNeg (iv 11)) x1 x2 x3 x4 x5 x5 (-1 : Int32))))))
def jM_eventIn_69 (iv : Nat → Int32) (av : Nat → Nat → Int32) (x1 : Int32) (x2 : Int32) (x3 : Int32) (x4 : Int32) (x5 : Int32) (s1 : Int32) : Option (Int32 × (Nat → Int32) × (Nat → Nat → Int32)) := jM_eventIn_70 iv av x1 x2 x3 x4 x5 s1 (-1 : Int32)
def jM_eventIn_62 (iv : Nat → Int32) (av : Nat → Nat → Int32) (x1 : Int32) (x2 : Int32) (x3 : Int32) (x4 : Int32) (x5 : Int32) (s1 : Int32) : Option (Int32 × (Nat → Int32) × (Nat → Nat → Int32)) := (fM_small iv av).bind fun (r1, iv1, av1) => jM_eventIn_70 iv1 av1 x1 x2 x3 x4 x5 s1 r1
def jM_eventIn_34 (iv : Nat → Int32) (av : Nat → Nat → Int32) (x1 : Int32) (x2 : Int32) (x3 : Int32) (x4 : Int32) (x5 : Int32) (s1 : Int32) (s2 : Int32) : Option (Int32 × (Nat → Int32) × (Nat → Nat → Int32)) := if s1 < 0 ∨ 1001 ≤ s1.toNatClampNeg then none else (if x3 < (192 : Int32) then (jM_eventIn_62 iv (up2 av 4 s1.toNatClampNeg s2) x1 x2 x3 x4 x5 x5) else (if x3 ≤ (223 : Int32) then (jM_eventIn_69 iv (up2 av 4 s1.toNatClampNeg s2) x1 x2 x3 x4 x5 x5) else (if (240 : Int32) ≤ x3 then (jM_eventIn_69 iv (up2 av 4 s1.toNatClampNeg s2) x1 x2 x3 x4 x5 x5) else (jM_eventIn_62 iv (up2 av 4 s1.toNatClampNeg s2) x1 x2 x3 x4 x5 x5))))
def jM_eventIn_26 (iv : Nat → Int32) (av : Nat → Nat → Int32) (x1 : Int32) (x2 : Int32) (x3 : Int32) (x4 : Int32) (x5 : Int32) (s1 : Int32) : Option (Int32 × (Nat → Int32) × (Nat → Nat → Int32)) := jM_eventIn_34 iv av x1 x2 x3 x4 x5 s1 (-1 : Int32)
def fM_eventIn (iv : Nat → Int32) (av : Nat → Nat → Int32) (x1 : Int32) (x2 : Int32) (x3 : Int32) (x4 : Int32) : Option (Int32 × (Nat → Int32) × (Nat → Nat → Int32)) := if x3 = (240 : Int32) then (jM_eventIn_26 iv av x1 x2 x3 x4 (iv 10) (iv 10)) else (if x3 = (247 : Int32) then (jM_eventIn_26 iv av x1 x2 x3 x4 (iv 10) (iv 10)) else ((fM_small iv av).bind fun (r3, iv3, av3) => jM_eventIn_34 iv3 av3 x1 x2 x3 x4 (iv 10) (iv 10) r3))
set_option maxHeartbeats 4000000 in
set_option maxRecDepth 100000 in
theorem wM_eventIn_253 {p : Program} {l : Launch} {e : Env} {s : State} {m : MethodId} {args : Array Value} {below : List Frame} {meth : Method} {c : Code} {g : gT} {q : Nat} {ad : Nat → Nat} {X : va_W} {rv : Option Value} {iv' : Nat → Int32} {av' : Nat → Nat → Int32} {r' : Int32} (C : mCx p m c cM_eventIn 6 s args g "MidiDeskModel") (hr : meth.sig.returnType = (some .boolean)) (hlk : meth.locks = false) (hrv : rv = some (.int r')) (iv : Nat → Int32) (av : Nat → Nat → Int32) (x4 : Int32) (H : Heap) (locs : List Loc) (ls : Array Slot) (hl : lv_has ls 6 [(0, .ref q), (4, .int x4)]) (hw : mWd g (mA g q ad X s.heap.size) s.heap q ad X iv av H locs) (hf : jM_eventIn_253 iv av x4 = some (r', iv', av')) : mG p l e rM_eventIn s m args below meth c g q ad X rv iv' av' H locs 0 0 (F0 m 253 ls []) := by
  unfold jM_eventIn_253 at hf
  refine lv_aload_n C.1.1 C.1.2.1 dM_eventIn_253 rfl (lv_at hl 0 rfl) ?_
  refine lv_bipush (v := (9 : Int32)) C.1.1 C.1.2.1 dM_eventIn_254 (by decide) ?_
  refine lv_iload C.1.1 C.1.2.1 dM_eventIn_256 (lv_at hl 1 rfl) ?_
  obtain ⟨⟨iv1, av1⟩, g1, hf⟩ := ts_b hf
  dsimp only at hf
  refine m_callV (rest := []) (As := [.int (9 : Int32), .int x4]) (rv := none) C hl.1 hw (cM_fail_met g1) (callW_of (rm := rM_fail) 2 C.1.2.2.2.2 gw_812 gw_814 gw_28 gw_55 gw_815 kM_fail ⟨Nat.le_of_ble_eq_true rfl, Nat.le_of_ble_eq_true rfl⟩) rfl rfl (Nat.le_of_ble_eq_true rfl) dM_eventIn_258 ⟨Nat.le_of_ble_eq_true rfl, Nat.le_of_ble_eq_true rfl⟩ (fun H locs hw => ?_)
  refine W.eq (g2 := F0 m 261 ls []) rfl ?_
  refine lv_iconst (v := (1 : Int32)) C.1.1 C.1.2.1 dM_eventIn_261 (by decide) ?_
  exact m_retz C hr hlk hrv hw (Or.inr rfl) hf ⟨Nat.le_of_ble_eq_true rfl, Nat.le_of_ble_eq_true rfl⟩ dM_eventIn_262
set_option maxHeartbeats 4000000 in
set_option maxRecDepth 100000 in
theorem wM_eventIn_229 {p : Program} {l : Launch} {e : Env} {s : State} {m : MethodId} {args : Array Value} {below : List Frame} {meth : Method} {c : Code} {g : gT} {q : Nat} {ad : Nat → Nat} {X : va_W} {rv : Option Value} {iv' : Nat → Int32} {av' : Nat → Nat → Int32} {r' : Int32} (C : mCx p m c cM_eventIn 6 s args g "MidiDeskModel") (hr : meth.sig.returnType = (some .boolean)) (hlk : meth.locks = false) (hrv : rv = some (.int r')) (iv : Nat → Int32) (av : Nat → Nat → Int32) (x4 : Int32) (s1 : Int32) (s2 : Int32) (H : Heap) (locs : List Loc) (ls : Array Slot) (hl : lv_has ls 6 [(0, .ref q), (4, .int x4)]) (hw : mWd g (mA g q ad X s.heap.size) s.heap q ad X iv av H locs) (hf : jM_eventIn_229 iv av x4 s1 s2 = some (r', iv', av')) : mG p l e rM_eventIn s m args below meth c g q ad X rv iv' av' H locs 0 0 (F0 m 229 ls [.int s2, .int s1, .ref q]) := by
  unfold jM_eventIn_229 at hf
  refine lv_iadd C.1.1 C.1.2.1 dM_eventIn_229 ?_
  refine mp_many C hw dM_eventIn_230 (fun H locs hw => ?_)
  refine lv_aload_n C.1.1 C.1.2.1 dM_eventIn_233 rfl (lv_at hl 0 rfl) ?_
  refine mg_events C hw dM_eventIn_234 ?_
  refine lv_sipush (v := (1000 : Int32)) C.1.1 C.1.2.1 dM_eventIn_237 (by decide) ?_
  refine lv_icmp_gt (tgt := 253) C.1.1 C.1.2.1 dM_eventIn_240 (by decide) (fun c1 => ?_) (fun c1 => ?_)
  · have hf := ts_t hf c1
    exact wM_eventIn_253 C hr hlk hrv (upd iv 11 (s1 + s2)) av x4 _ _ ls (lv_sub hl [0, 1] rfl) hw hf
  · have hf := ts_f hf c1
    refine lv_aload_n C.1.1 C.1.2.1 dM_eventIn_243 rfl (lv_at hl 0 rfl) ?_
    refine mg_many C hw dM_eventIn_244 ?_
    refine lv_sipush (v := (8000 : Int32)) C.1.1 C.1.2.1 dM_eventIn_247 (by decide) ?_
    refine lv_icmp_le (tgt := 261) C.1.1 C.1.2.1 dM_eventIn_250 (by decide) (fun c2 => ?_) (fun c2 => ?_)
    · have hf := ts_t hf c2
      refine lv_iconst (v := (1 : Int32)) C.1.1 C.1.2.1 dM_eventIn_261 (by decide) ?_
      exact m_retz C hr hlk hrv hw (Or.inr rfl) hf ⟨Nat.le_of_ble_eq_true rfl, Nat.le_of_ble_eq_true rfl⟩ dM_eventIn_262
    · have hf := ts_f hf c2
      exact wM_eventIn_253 C hr hlk hrv (upd iv 11 (s1 + s2)) av x4 _ _ ls (lv_sub hl [0, 1] rfl) hw hf
set_option maxHeartbeats 4000000 in
set_option maxRecDepth 100000 in
theorem wM_eventIn_172 {p : Program} {l : Launch} {e : Env} {s : State} {m : MethodId} {args : Array Value} {below : List Frame} {meth : Method} {c : Code} {g : gT} {q : Nat} {ad : Nat → Nat} {X : va_W} {rv : Option Value} {iv' : Nat → Int32} {av' : Nat → Nat → Int32} {r' : Int32} (C : mCx p m c cM_eventIn 6 s args g "MidiDeskModel") (hr : meth.sig.returnType = (some .boolean)) (hlk : meth.locks = false) (hrv : rv = some (.int r')) (iv : Nat → Int32) (av : Nat → Nat → Int32) (x1 : Int32) (x2 : Int32) (x3 : Int32) (x4 : Int32) (x5 : Int32) (H : Heap) (locs : List Loc) (ls : Array Slot) (hl : lv_has ls 6 [(0, .ref q), (1, .int x1), (2, .int x2), (3, .int x3), (4, .int x4), (5, .int x5)]) (hw : mWd g (mA g q ad X s.heap.size) s.heap q ad X iv av H locs) (hf : jM_eventIn_172 iv av x1 x2 x3 x4 x5 = some (r', iv', av')) : mG p l e rM_eventIn s m args below meth c g q ad X rv iv' av' H locs 0 0 (F0 m 172 ls []) := by
  unfold jM_eventIn_172 at hf
  refine lv_aload_n C.1.1 C.1.2.1 dM_eventIn_172 rfl (lv_at hl 0 rfl) ?_
  refine mg_ticks C hw dM_eventIn_173 ?_
  refine lv_iload C.1.1 C.1.2.1 dM_eventIn_176 (lv_at hl 5 rfl) ?_
  refine lv_iload_n C.1.1 C.1.2.1 dM_eventIn_178 rfl (lv_at hl 2 rfl) ?_
  obtain ⟨h1, hf⟩ := ts_g hf
  refine ms_ticks C hw h1 dM_eventIn_179 (fun H locs hw => ?_)
  refine lv_aload_n C.1.1 C.1.2.1 dM_eventIn_180 rfl (lv_at hl 0 rfl) ?_
  refine mg_trackOf C hw dM_eventIn_181 ?_
  refine lv_iload C.1.1 C.1.2.1 dM_eventIn_184 (lv_at hl 5 rfl) ?_
  refine lv_iload_n C.1.1 C.1.2.1 dM_eventIn_186 rfl (lv_at hl 1 rfl) ?_
  obtain ⟨h2, hf⟩ := ts_g hf
  refine ms_trackOf C hw h2 dM_eventIn_187 (fun H locs hw => ?_)
  refine lv_aload_n C.1.1 C.1.2.1 dM_eventIn_188 rfl (lv_at hl 0 rfl) ?_
  refine mg_status C hw dM_eventIn_189 ?_
  refine lv_iload C.1.1 C.1.2.1 dM_eventIn_192 (lv_at hl 5 rfl) ?_
  refine lv_iload_n C.1.1 C.1.2.1 dM_eventIn_194 rfl (lv_at hl 3 rfl) ?_
  obtain ⟨h3, hf⟩ := ts_g hf
  refine ms_status C hw h3 dM_eventIn_195 (fun H locs hw => ?_)
  refine lv_aload_n C.1.1 C.1.2.1 dM_eventIn_196 rfl (lv_at hl 0 rfl) ?_
  refine lv_dup C.1.1 C.1.2.1 dM_eventIn_197 rfl ?_
  refine mg_events C hw dM_eventIn_198 ?_
  refine lv_iconst (v := (1 : Int32)) C.1.1 C.1.2.1 dM_eventIn_201 (by decide) ?_
  refine lv_iadd C.1.1 C.1.2.1 dM_eventIn_202 ?_
  refine mp_events C hw dM_eventIn_203 (fun H locs hw => ?_)
  refine lv_aload_n C.1.1 C.1.2.1 dM_eventIn_206 rfl (lv_at hl 0 rfl) ?_
  refine lv_dup C.1.1 C.1.2.1 dM_eventIn_207 rfl ?_
  refine mg_many C hw dM_eventIn_208 ?_
  refine lv_iload_n C.1.1 C.1.2.1 dM_eventIn_211 rfl (lv_at hl 3 rfl) ?_
  refine lv_sipush (v := (239 : Int32)) C.1.1 C.1.2.1 dM_eventIn_212 (by decide) ?_
  refine lv_icmp_le (tgt := 228) C.1.1 C.1.2.1 dM_eventIn_215 (by decide) (fun c4 => ?_) (fun c4 => ?_)
  · have hf := ts_t hf c4
    refine lv_iconst (v := (0 : Int32)) C.1.1 C.1.2.1 dM_eventIn_228 (by decide) ?_
    exact wM_eventIn_229 C hr hlk hrv (upd iv 10 ((iv 10) + (1 : Int32))) (up2 (up2 (up2 av 1 x5.toNatClampNeg x2) 2 x5.toNatClampNeg x1) 3 x5.toNatClampNeg x3) x4 ((upd iv 10 ((iv 10) + (1 : Int32))) 11) (0 : Int32) _ _ ls (lv_sub hl [0, 4] rfl) hw hf
  · have hf := ts_f hf c4
    refine lv_aload_n C.1.1 C.1.2.1 dM_eventIn_218 rfl (lv_at hl 0 rfl) ?_
    refine mg_counts C hw dM_eventIn_219 ?_
    refine lv_iload C.1.1 C.1.2.1 dM_eventIn_222 (lv_at hl 5 rfl) ?_
    obtain ⟨h5, hf⟩ := ts_g hf
    refine ma_counts C hw h5 dM_eventIn_224 ?_
    refine lv_goto (tgt := 229) C.1.1 C.1.2.1 dM_eventIn_225 (by decide) ?_
    exact wM_eventIn_229 C hr hlk hrv (upd iv 10 ((iv 10) + (1 : Int32))) (up2 (up2 (up2 av 1 x5.toNatClampNeg x2) 2 x5.toNatClampNeg x1) 3 x5.toNatClampNeg x3) x4 ((upd iv 10 ((iv 10) + (1 : Int32))) 11) ((up2 (up2 (up2 av 1 x5.toNatClampNeg x2) 2 x5.toNatClampNeg x1) 3 x5.toNatClampNeg x3) 7 x5.toNatClampNeg) _ _ ls (lv_sub hl [0, 4] rfl) hw hf
set_option maxHeartbeats 4000000 in
set_option maxRecDepth 100000 in
theorem wM_eventIn_121 {p : Program} {l : Launch} {e : Env} {s : State} {m : MethodId} {args : Array Value} {below : List Frame} {meth : Method} {c : Code} {g : gT} {q : Nat} {ad : Nat → Nat} {X : va_W} {rv : Option Value} {iv' : Nat → Int32} {av' : Nat → Nat → Int32} {r' : Int32} (C : mCx p m c cM_eventIn 6 s args g "MidiDeskModel") (hr : meth.sig.returnType = (some .boolean)) (hlk : meth.locks = false) (hrv : rv = some (.int r')) (iv : Nat → Int32) (av : Nat → Nat → Int32) (x1 : Int32) (x2 : Int32) (x3 : Int32) (x4 : Int32) (x5 : Int32) (H : Heap) (locs : List Loc) (ls : Array Slot) (hl : lv_has ls 6 [(0, .ref q), (1, .int x1), (2, .int x2), (3, .int x3), (4, .int x4), (5, .int x5)]) (hw : mWd g (mA g q ad X s.heap.size) s.heap q ad X iv av H locs) (hf : jM_eventIn_121 iv av x1 x2 x3 x4 x5 = some (r', iv', av')) : mG p l e rM_eventIn s m args below meth c g q ad X rv iv' av' H locs 0 0 (F0 m 121 ls []) := by
  unfold jM_eventIn_121 at hf
  refine lv_aload_n C.1.1 C.1.2.1 dM_eventIn_121 rfl (lv_at hl 0 rfl) ?_
  refine mg_fault C hw dM_eventIn_122 ?_
  refine lv_if_le (tgt := 130) C.1.1 C.1.2.1 dM_eventIn_125 (by decide) (fun c1 => ?_) (fun c1 => ?_)
  · have hf := ts_t hf c1
    refine lv_iload_n C.1.1 C.1.2.1 dM_eventIn_130 rfl (lv_at hl 3 rfl) ?_
    refine lv_sipush (v := (255 : Int32)) C.1.1 C.1.2.1 dM_eventIn_131 (by decide) ?_
    refine lv_icmp_ne (tgt := 172) C.1.1 C.1.2.1 dM_eventIn_134 (by decide) (fun c2 => ?_) (fun c2 => ?_)
    · have hf := ts_f hf c2
      exact wM_eventIn_172 C hr hlk hrv iv av x1 x2 x3 x4 x5 _ _ ls (lv_sub hl [0, 1, 2, 3, 4, 5] rfl) hw hf
    · have hf := ts_t hf c2
      refine lv_aload_n C.1.1 C.1.2.1 dM_eventIn_137 rfl (lv_at hl 0 rfl) ?_
      refine mg_first C hw dM_eventIn_138 ?_
      refine lv_iload C.1.1 C.1.2.1 dM_eventIn_141 (lv_at hl 5 rfl) ?_
      obtain ⟨h3, hf⟩ := ts_g hf
      refine ma_first C hw h3 dM_eventIn_143 ?_
      refine lv_bipush (v := (47 : Int32)) C.1.1 C.1.2.1 dM_eventIn_144 (by decide) ?_
      refine lv_icmp_ne (tgt := 172) C.1.1 C.1.2.1 dM_eventIn_146 (by decide) (fun c4 => ?_) (fun c4 => ?_)
      · have hf := ts_f hf c4
        exact wM_eventIn_172 C hr hlk hrv iv av x1 x2 x3 x4 x5 _ _ ls (lv_sub hl [0, 1, 2, 3, 4, 5] rfl) hw hf
      · have hf := ts_t hf c4
        refine lv_aload_n C.1.1 C.1.2.1 dM_eventIn_149 rfl (lv_at hl 0 rfl) ?_
        refine mg_at C hw dM_eventIn_150 ?_
        refine lv_aload_n C.1.1 C.1.2.1 dM_eventIn_153 rfl (lv_at hl 0 rfl) ?_
        refine mg_end C hw dM_eventIn_154 ?_
        refine lv_icmp_ge (tgt := 170) C.1.1 C.1.2.1 dM_eventIn_157 (by decide) (fun c5 => ?_) (fun c5 => ?_)
        · have hf := ts_t hf c5
          refine lv_iconst (v := (0 : Int32)) C.1.1 C.1.2.1 dM_eventIn_170 (by decide) ?_
          exact m_retz C hr hlk hrv hw (Or.inl rfl) hf ⟨Nat.le_of_ble_eq_true rfl, Nat.le_of_ble_eq_true rfl⟩ dM_eventIn_171
        · have hf := ts_f hf c5
          refine lv_aload_n C.1.1 C.1.2.1 dM_eventIn_160 rfl (lv_at hl 0 rfl) ?_
          refine lv_bipush (v := (7 : Int32)) C.1.1 C.1.2.1 dM_eventIn_161 (by decide) ?_
          refine lv_aload_n C.1.1 C.1.2.1 dM_eventIn_163 rfl (lv_at hl 0 rfl) ?_
          refine mg_at C hw dM_eventIn_164 ?_
          obtain ⟨⟨iv6, av6⟩, g6, hf⟩ := ts_b hf
          dsimp only at hf
          refine m_callV (rest := []) (As := [.int (7 : Int32), .int (iv 2)]) (rv := none) C hl.1 hw (cM_fail_met g6) (callW_of (rm := rM_fail) 2 C.1.2.2.2.2 gw_812 gw_814 gw_28 gw_55 gw_815 kM_fail ⟨Nat.le_of_ble_eq_true rfl, Nat.le_of_ble_eq_true rfl⟩) rfl rfl (Nat.le_of_ble_eq_true rfl) dM_eventIn_167 ⟨Nat.le_of_ble_eq_true rfl, Nat.le_of_ble_eq_true rfl⟩ (fun H locs hw => ?_)
          refine W.eq (g2 := F0 m 170 ls []) rfl ?_
          refine lv_iconst (v := (0 : Int32)) C.1.1 C.1.2.1 dM_eventIn_170 (by decide) ?_
          exact m_retz C hr hlk hrv hw (Or.inl rfl) hf ⟨Nat.le_of_ble_eq_true rfl, Nat.le_of_ble_eq_true rfl⟩ dM_eventIn_171
  · have hf := ts_f hf c1
    refine lv_iconst (v := (0 : Int32)) C.1.1 C.1.2.1 dM_eventIn_128 (by decide) ?_
    exact m_retz C hr hlk hrv hw (Or.inl rfl) hf ⟨Nat.le_of_ble_eq_true rfl, Nat.le_of_ble_eq_true rfl⟩ dM_eventIn_129
set_option maxHeartbeats 4000000 in
set_option maxRecDepth 100000 in
theorem wM_eventIn_118 {p : Program} {l : Launch} {e : Env} {s : State} {m : MethodId} {args : Array Value} {below : List Frame} {meth : Method} {c : Code} {g : gT} {q : Nat} {ad : Nat → Nat} {X : va_W} {rv : Option Value} {iv' : Nat → Int32} {av' : Nat → Nat → Int32} {r' : Int32} (C : mCx p m c cM_eventIn 6 s args g "MidiDeskModel") (hr : meth.sig.returnType = (some .boolean)) (hlk : meth.locks = false) (hrv : rv = some (.int r')) (iv : Nat → Int32) (av : Nat → Nat → Int32) (x1 : Int32) (x2 : Int32) (x3 : Int32) (x4 : Int32) (x5 : Int32) (s1 : Int32) (s2 : Int32) (H : Heap) (locs : List Loc) (ls : Array Slot) (hl : lv_has ls 6 [(0, .ref q), (1, .int x1), (2, .int x2), (3, .int x3), (4, .int x4), (5, .int x5)]) (hw : mWd g (mA g q ad X s.heap.size) s.heap q ad X iv av H locs) (hf : jM_eventIn_118 iv av x1 x2 x3 x4 x5 s1 s2 = some (r', iv', av')) : mG p l e rM_eventIn s m args below meth c g q ad X rv iv' av' H locs 0 0 (F0 m 118 ls [.int s2, .int s1, .ref q]) := by
  unfold jM_eventIn_118 at hf
  obtain ⟨⟨iv1, av1⟩, g1, hf⟩ := ts_b hf
  dsimp only at hf
  refine m_callV (rest := []) (As := [.int s1, .int s2]) (rv := none) C hl.1 hw (cM_follow_met g1) (callW_of (rm := rM_follow) 2 C.1.2.2.2.2 gw_840 gw_842 gw_33 gw_55 gw_843 kM_follow ⟨Nat.le_of_ble_eq_true rfl, Nat.le_of_ble_eq_true rfl⟩) rfl rfl (Nat.le_of_ble_eq_true rfl) dM_eventIn_118 ⟨Nat.le_of_ble_eq_true rfl, Nat.le_of_ble_eq_true rfl⟩ (fun H locs hw => ?_)
  refine W.eq (g2 := F0 m 121 ls []) rfl ?_
  exact wM_eventIn_121 C hr hlk hrv iv1 av1 x1 x2 x3 x4 x5 _ _ ls (lv_sub hl [0, 1, 2, 3, 4, 5] rfl) hw hf
set_option maxHeartbeats 4000000 in
set_option maxRecDepth 100000 in
theorem wM_eventIn_70 {p : Program} {l : Launch} {e : Env} {s : State} {m : MethodId} {args : Array Value} {below : List Frame} {meth : Method} {c : Code} {g : gT} {q : Nat} {ad : Nat → Nat} {X : va_W} {rv : Option Value} {iv' : Nat → Int32} {av' : Nat → Nat → Int32} {r' : Int32} (C : mCx p m c cM_eventIn 6 s args g "MidiDeskModel") (hr : meth.sig.returnType = (some .boolean)) (hlk : meth.locks = false) (hrv : rv = some (.int r')) (iv : Nat → Int32) (av : Nat → Nat → Int32) (x1 : Int32) (x2 : Int32) (x3 : Int32) (x4 : Int32) (x5 : Int32) (s1 : Int32) (s2 : Int32) (H : Heap) (locs : List Loc) (ls : Array Slot) (hl : lv_has ls 6 [(0, .ref q), (1, .int x1), (2, .int x2), (3, .int x3), (4, .int x4), (5, .int x5)]) (hw : mWd g (mA g q ad X s.heap.size) s.heap q ad X iv av H locs) (hf : jM_eventIn_70 iv av x1 x2 x3 x4 x5 s1 s2 = some (r', iv', av')) : mG p l e rM_eventIn s m args below meth c g q ad X rv iv' av' H locs 0 0 (F0 m 70 ls [.int s2, .int s1, .ref (ad 5)]) := by
  unfold jM_eventIn_70 at hf
  obtain ⟨h1, hf⟩ := ts_g hf
  refine ms_second C hw h1 dM_eventIn_70 (fun H locs hw => ?_)
  refine lv_aload_n C.1.1 C.1.2.1 dM_eventIn_71 rfl (lv_at hl 0 rfl) ?_
  refine mg_counts C hw dM_eventIn_72 ?_
  refine lv_iload C.1.1 C.1.2.1 dM_eventIn_75 (lv_at hl 5 rfl) ?_
  refine lv_iconst (v := (-1 : Int32)) C.1.1 C.1.2.1 dM_eventIn_77 (by decide) ?_
  obtain ⟨h2, hf⟩ := ts_g hf
  refine ms_counts C hw h2 dM_eventIn_78 (fun H locs hw => ?_)
  refine lv_aload_n C.1.1 C.1.2.1 dM_eventIn_79 rfl (lv_at hl 0 rfl) ?_
  refine mg_from C hw dM_eventIn_80 ?_
  refine lv_iload C.1.1 C.1.2.1 dM_eventIn_83 (lv_at hl 5 rfl) ?_
  refine lv_aload_n C.1.1 C.1.2.1 dM_eventIn_85 rfl (lv_at hl 0 rfl) ?_
  refine mg_many C hw dM_eventIn_86 ?_
  obtain ⟨h3, hf⟩ := ts_g hf
  refine ms_from C hw h3 dM_eventIn_89 (fun H locs hw => ?_)
  refine lv_iload_n C.1.1 C.1.2.1 dM_eventIn_90 rfl (lv_at hl 3 rfl) ?_
  refine lv_sipush (v := (239 : Int32)) C.1.1 C.1.2.1 dM_eventIn_91 (by decide) ?_
  refine lv_icmp_le (tgt := 121) C.1.1 C.1.2.1 dM_eventIn_94 (by decide) (fun c4 => ?_) (fun c4 => ?_)
  · have hf := ts_t hf c4
    exact wM_eventIn_121 C hr hlk hrv iv (up2 (up2 (up2 av 5 s1.toNatClampNeg s2) 7 x5.toNatClampNeg (-1 : Int32)) 6 x5.toNatClampNeg (iv 11)) x1 x2 x3 x4 x5 _ _ ls (lv_sub hl [0, 1, 2, 3, 4, 5] rfl) hw hf
  · have hf := ts_f hf c4
    refine lv_aload_n C.1.1 C.1.2.1 dM_eventIn_97 rfl (lv_at hl 0 rfl) ?_
    refine lv_iload C.1.1 C.1.2.1 dM_eventIn_98 (lv_at hl 5 rfl) ?_
    refine lv_iload_n C.1.1 C.1.2.1 dM_eventIn_100 rfl (lv_at hl 3 rfl) ?_
    refine lv_sipush (v := (255 : Int32)) C.1.1 C.1.2.1 dM_eventIn_101 (by decide) ?_
    refine lv_icmp_ne (tgt := 117) C.1.1 C.1.2.1 dM_eventIn_104 (by decide) (fun c5 => ?_) (fun c5 => ?_)
    · have hf := ts_f hf c5
      refine lv_iconst (v := (-1 : Int32)) C.1.1 C.1.2.1 dM_eventIn_117 (by decide) ?_
      exact wM_eventIn_118 C hr hlk hrv iv (up2 (up2 (up2 av 5 s1.toNatClampNeg s2) 7 x5.toNatClampNeg (-1 : Int32)) 6 x5.toNatClampNeg (iv 11)) x1 x2 x3 x4 x5 x5 (-1 : Int32) _ _ ls (lv_sub hl [0, 1, 2, 3, 4, 5] rfl) hw hf
    · have hf := ts_t hf c5
      refine lv_aload_n C.1.1 C.1.2.1 dM_eventIn_107 rfl (lv_at hl 0 rfl) ?_
      refine mg_first C hw dM_eventIn_108 ?_
      refine lv_iload C.1.1 C.1.2.1 dM_eventIn_111 (lv_at hl 5 rfl) ?_
      obtain ⟨h6, hf⟩ := ts_g hf
      refine ma_first C hw h6 dM_eventIn_113 ?_
      refine lv_goto (tgt := 118) C.1.1 C.1.2.1 dM_eventIn_114 (by decide) ?_
      exact wM_eventIn_118 C hr hlk hrv iv (up2 (up2 (up2 av 5 s1.toNatClampNeg s2) 7 x5.toNatClampNeg (-1 : Int32)) 6 x5.toNatClampNeg (iv 11)) x1 x2 x3 x4 x5 x5 ((up2 (up2 (up2 av 5 s1.toNatClampNeg s2) 7 x5.toNatClampNeg (-1 : Int32)) 6 x5.toNatClampNeg (iv 11)) 4 x5.toNatClampNeg) _ _ ls (lv_sub hl [0, 1, 2, 3, 4, 5] rfl) hw hf
set_option maxHeartbeats 4000000 in
set_option maxRecDepth 100000 in
theorem wM_eventIn_69 {p : Program} {l : Launch} {e : Env} {s : State} {m : MethodId} {args : Array Value} {below : List Frame} {meth : Method} {c : Code} {g : gT} {q : Nat} {ad : Nat → Nat} {X : va_W} {rv : Option Value} {iv' : Nat → Int32} {av' : Nat → Nat → Int32} {r' : Int32} (C : mCx p m c cM_eventIn 6 s args g "MidiDeskModel") (hr : meth.sig.returnType = (some .boolean)) (hlk : meth.locks = false) (hrv : rv = some (.int r')) (iv : Nat → Int32) (av : Nat → Nat → Int32) (x1 : Int32) (x2 : Int32) (x3 : Int32) (x4 : Int32) (x5 : Int32) (s1 : Int32) (H : Heap) (locs : List Loc) (ls : Array Slot) (hl : lv_has ls 6 [(0, .ref q), (1, .int x1), (2, .int x2), (3, .int x3), (4, .int x4), (5, .int x5)]) (hw : mWd g (mA g q ad X s.heap.size) s.heap q ad X iv av H locs) (hf : jM_eventIn_69 iv av x1 x2 x3 x4 x5 s1 = some (r', iv', av')) : mG p l e rM_eventIn s m args below meth c g q ad X rv iv' av' H locs 0 0 (F0 m 69 ls [.int s1, .ref (ad 5)]) := by
  unfold jM_eventIn_69 at hf
  refine lv_iconst (v := (-1 : Int32)) C.1.1 C.1.2.1 dM_eventIn_69 (by decide) ?_
  exact wM_eventIn_70 C hr hlk hrv iv av x1 x2 x3 x4 x5 s1 (-1 : Int32) _ _ ls (lv_sub hl [0, 1, 2, 3, 4, 5] rfl) hw hf
set_option maxHeartbeats 4000000 in
set_option maxRecDepth 100000 in
theorem wM_eventIn_62 {p : Program} {l : Launch} {e : Env} {s : State} {m : MethodId} {args : Array Value} {below : List Frame} {meth : Method} {c : Code} {g : gT} {q : Nat} {ad : Nat → Nat} {X : va_W} {rv : Option Value} {iv' : Nat → Int32} {av' : Nat → Nat → Int32} {r' : Int32} (C : mCx p m c cM_eventIn 6 s args g "MidiDeskModel") (hr : meth.sig.returnType = (some .boolean)) (hlk : meth.locks = false) (hrv : rv = some (.int r')) (iv : Nat → Int32) (av : Nat → Nat → Int32) (x1 : Int32) (x2 : Int32) (x3 : Int32) (x4 : Int32) (x5 : Int32) (s1 : Int32) (H : Heap) (locs : List Loc) (ls : Array Slot) (hl : lv_has ls 6 [(0, .ref q), (1, .int x1), (2, .int x2), (3, .int x3), (4, .int x4), (5, .int x5)]) (hw : mWd g (mA g q ad X s.heap.size) s.heap q ad X iv av H locs) (hf : jM_eventIn_62 iv av x1 x2 x3 x4 x5 s1 = some (r', iv', av')) : mG p l e rM_eventIn s m args below meth c g q ad X rv iv' av' H locs 0 0 (F0 m 62 ls [.int s1, .ref (ad 5)]) := by
  unfold jM_eventIn_62 at hf
  refine lv_aload_n C.1.1 C.1.2.1 dM_eventIn_62 rfl (lv_at hl 0 rfl) ?_
  obtain ⟨⟨r1, iv1, av1⟩, g1, hf⟩ := ts_b hf
  dsimp only at hf
  refine m_callV (rest := [.int s1, .ref (ad 5)]) (As := []) (rv := (some (.int r1))) C hl.1 hw (cM_small_met g1) (callW_of (rm := rM_small) 0 C.1.2.2.2.2 gw_836 gw_838 gw_32 gw_55 gw_839 kM_small ⟨Nat.le_of_ble_eq_true rfl, Nat.le_of_ble_eq_true rfl⟩) rfl rfl (Nat.le_of_ble_eq_true rfl) dM_eventIn_63 ⟨Nat.le_of_ble_eq_true rfl, Nat.le_of_ble_eq_true rfl⟩ (fun H locs hw => ?_)
  refine W.eq (g2 := F0 m 66 ls [.int r1, .int s1, .ref (ad 5)]) rfl ?_
  refine lv_goto (tgt := 70) C.1.1 C.1.2.1 dM_eventIn_66 (by decide) ?_
  exact wM_eventIn_70 C hr hlk hrv iv1 av1 x1 x2 x3 x4 x5 s1 r1 _ _ ls (lv_sub hl [0, 1, 2, 3, 4, 5] rfl) hw hf
set_option maxHeartbeats 4000000 in
set_option maxRecDepth 100000 in
theorem wM_eventIn_34 {p : Program} {l : Launch} {e : Env} {s : State} {m : MethodId} {args : Array Value} {below : List Frame} {meth : Method} {c : Code} {g : gT} {q : Nat} {ad : Nat → Nat} {X : va_W} {rv : Option Value} {iv' : Nat → Int32} {av' : Nat → Nat → Int32} {r' : Int32} (C : mCx p m c cM_eventIn 6 s args g "MidiDeskModel") (hr : meth.sig.returnType = (some .boolean)) (hlk : meth.locks = false) (hrv : rv = some (.int r')) (iv : Nat → Int32) (av : Nat → Nat → Int32) (x1 : Int32) (x2 : Int32) (x3 : Int32) (x4 : Int32) (x5 : Int32) (s1 : Int32) (s2 : Int32) (H : Heap) (locs : List Loc) (ls : Array Slot) (hl : lv_has ls 6 [(0, .ref q), (1, .int x1), (2, .int x2), (3, .int x3), (4, .int x4), (5, .int x5)]) (hw : mWd g (mA g q ad X s.heap.size) s.heap q ad X iv av H locs) (hf : jM_eventIn_34 iv av x1 x2 x3 x4 x5 s1 s2 = some (r', iv', av')) : mG p l e rM_eventIn s m args below meth c g q ad X rv iv' av' H locs 0 0 (F0 m 34 ls [.int s2, .int s1, .ref (ad 4)]) := by
  unfold jM_eventIn_34 at hf
  obtain ⟨h1, hf⟩ := ts_g hf
  refine ms_first C hw h1 dM_eventIn_34 (fun H locs hw => ?_)
  refine lv_aload_n C.1.1 C.1.2.1 dM_eventIn_35 rfl (lv_at hl 0 rfl) ?_
  refine mg_second C hw dM_eventIn_36 ?_
  refine lv_iload C.1.1 C.1.2.1 dM_eventIn_39 (lv_at hl 5 rfl) ?_
  refine lv_iload_n C.1.1 C.1.2.1 dM_eventIn_41 rfl (lv_at hl 3 rfl) ?_
  refine lv_sipush (v := (192 : Int32)) C.1.1 C.1.2.1 dM_eventIn_42 (by decide) ?_
  refine lv_icmp_lt (tgt := 62) C.1.1 C.1.2.1 dM_eventIn_45 (by decide) (fun c2 => ?_) (fun c2 => ?_)
  · have hf := ts_t hf c2
    exact wM_eventIn_62 C hr hlk hrv iv (up2 av 4 s1.toNatClampNeg s2) x1 x2 x3 x4 x5 x5 _ _ ls (lv_sub hl [0, 1, 2, 3, 4, 5] rfl) hw hf
  · have hf := ts_f hf c2
    refine lv_iload_n C.1.1 C.1.2.1 dM_eventIn_48 rfl (lv_at hl 3 rfl) ?_
    refine lv_sipush (v := (223 : Int32)) C.1.1 C.1.2.1 dM_eventIn_49 (by decide) ?_
    refine lv_icmp_le (tgt := 69) C.1.1 C.1.2.1 dM_eventIn_52 (by decide) (fun c3 => ?_) (fun c3 => ?_)
    · have hf := ts_t hf c3
      exact wM_eventIn_69 C hr hlk hrv iv (up2 av 4 s1.toNatClampNeg s2) x1 x2 x3 x4 x5 x5 _ _ ls (lv_sub hl [0, 1, 2, 3, 4, 5] rfl) hw hf
    · have hf := ts_f hf c3
      refine lv_iload_n C.1.1 C.1.2.1 dM_eventIn_55 rfl (lv_at hl 3 rfl) ?_
      refine lv_sipush (v := (240 : Int32)) C.1.1 C.1.2.1 dM_eventIn_56 (by decide) ?_
      refine lv_icmp_ge (tgt := 69) C.1.1 C.1.2.1 dM_eventIn_59 (by decide) (fun c4 => ?_) (fun c4 => ?_)
      · have hf := ts_t hf c4
        exact wM_eventIn_69 C hr hlk hrv iv (up2 av 4 s1.toNatClampNeg s2) x1 x2 x3 x4 x5 x5 _ _ ls (lv_sub hl [0, 1, 2, 3, 4, 5] rfl) hw hf
      · have hf := ts_f hf c4
        exact wM_eventIn_62 C hr hlk hrv iv (up2 av 4 s1.toNatClampNeg s2) x1 x2 x3 x4 x5 x5 _ _ ls (lv_sub hl [0, 1, 2, 3, 4, 5] rfl) hw hf
set_option maxHeartbeats 4000000 in
set_option maxRecDepth 100000 in
theorem wM_eventIn_26 {p : Program} {l : Launch} {e : Env} {s : State} {m : MethodId} {args : Array Value} {below : List Frame} {meth : Method} {c : Code} {g : gT} {q : Nat} {ad : Nat → Nat} {X : va_W} {rv : Option Value} {iv' : Nat → Int32} {av' : Nat → Nat → Int32} {r' : Int32} (C : mCx p m c cM_eventIn 6 s args g "MidiDeskModel") (hr : meth.sig.returnType = (some .boolean)) (hlk : meth.locks = false) (hrv : rv = some (.int r')) (iv : Nat → Int32) (av : Nat → Nat → Int32) (x1 : Int32) (x2 : Int32) (x3 : Int32) (x4 : Int32) (x5 : Int32) (s1 : Int32) (H : Heap) (locs : List Loc) (ls : Array Slot) (hl : lv_has ls 6 [(0, .ref q), (1, .int x1), (2, .int x2), (3, .int x3), (4, .int x4), (5, .int x5)]) (hw : mWd g (mA g q ad X s.heap.size) s.heap q ad X iv av H locs) (hf : jM_eventIn_26 iv av x1 x2 x3 x4 x5 s1 = some (r', iv', av')) : mG p l e rM_eventIn s m args below meth c g q ad X rv iv' av' H locs 0 0 (F0 m 26 ls [.int s1, .ref (ad 4)]) := by
  unfold jM_eventIn_26 at hf
  refine lv_iconst (v := (-1 : Int32)) C.1.1 C.1.2.1 dM_eventIn_26 (by decide) ?_
  refine lv_goto (tgt := 34) C.1.1 C.1.2.1 dM_eventIn_27 (by decide) ?_
  exact wM_eventIn_34 C hr hlk hrv iv av x1 x2 x3 x4 x5 s1 (-1 : Int32) _ _ ls (lv_sub hl [0, 1, 2, 3, 4, 5] rfl) hw hf
set_option maxHeartbeats 4000000 in
set_option maxRecDepth 100000 in
theorem cM_eventIn_met {l : Launch} {g : gT} {q : Nat} {ad : Nat → Nat} {X : va_W} {iv iv' : Nat → Int32} {av av' : Nat → Nat → Int32} {x1 : Int32} {x2 : Int32} {x3 : Int32} {x4 : Int32} {r' : Int32} (hf : fM_eventIn iv av x1 x2 x3 x4 = some (r', iv', av')) : mMet l yM_eventIn cM_eventIn 6 (some .boolean) rM_eventIn g q ad X iv av [.ref q, .int x1, .int x2, .int x3, .int x4] (some (.int r')) iv' av' := by
  refine m_entry (by decide) (Nat.le_of_ble_eq_true rfl) ?_
  intro p e s m args below meth c ls C hr hlk hnm hl hw
  have hrv : ((some (.int r')) : Option Value) = (some (.int r')) := rfl
  have C : mCx p m c cM_eventIn 6 s args g "MidiDeskModel" := C
  have hl : lv_has ls 6 [(0, .ref q), (1, .int x1), (2, .int x2), (3, .int x3), (4, .int x4)] := hl
  unfold fM_eventIn at hf
  refine lv_aload_n C.1.1 C.1.2.1 dM_eventIn_0 rfl (lv_at hl 0 rfl) ?_
  refine mg_events C hw dM_eventIn_1 ?_
  refine lv_istore (lv' := [(5, .int (iv 10)), (0, .ref q), (1, .int x1), (2, .int x2), (3, .int x3), (4, .int x4)]) C.1.1 C.1.2.1 dM_eventIn_4 hl (by decide) rfl (fun ls hl => ?_)
  refine lv_aload_n C.1.1 C.1.2.1 dM_eventIn_6 rfl (lv_at hl 1 rfl) ?_
  refine mg_first C hw dM_eventIn_7 ?_
  refine lv_iload C.1.1 C.1.2.1 dM_eventIn_10 (lv_at hl 0 rfl) ?_
  refine lv_iload_n C.1.1 C.1.2.1 dM_eventIn_12 rfl (lv_at hl 4 rfl) ?_
  refine lv_sipush (v := (240 : Int32)) C.1.1 C.1.2.1 dM_eventIn_13 (by decide) ?_
  refine lv_icmp_eq (tgt := 26) C.1.1 C.1.2.1 dM_eventIn_16 (by decide) (fun c1 => ?_) (fun c1 => ?_)
  · have hf := ts_t hf c1
    exact wM_eventIn_26 C hr hlk hrv iv av x1 x2 x3 x4 (iv 10) (iv 10) _ _ ls (lv_sub hl [1, 2, 3, 4, 5, 0] rfl) hw hf
  · have hf := ts_f hf c1
    refine lv_iload_n C.1.1 C.1.2.1 dM_eventIn_19 rfl (lv_at hl 4 rfl) ?_
    refine lv_sipush (v := (247 : Int32)) C.1.1 C.1.2.1 dM_eventIn_20 (by decide) ?_
    refine lv_icmp_ne (tgt := 30) C.1.1 C.1.2.1 dM_eventIn_23 (by decide) (fun c2 => ?_) (fun c2 => ?_)
    · have hf := ts_f hf c2
      refine lv_aload_n C.1.1 C.1.2.1 dM_eventIn_30 rfl (lv_at hl 1 rfl) ?_
      obtain ⟨⟨r3, iv3, av3⟩, g3, hf⟩ := ts_b hf
      dsimp only at hf
      refine m_callV (rest := [.int (iv 10), .ref (ad 4)]) (As := []) (rv := (some (.int r3))) C hl.1 hw (cM_small_met g3) (callW_of (rm := rM_small) 0 C.1.2.2.2.2 gw_836 gw_838 gw_32 gw_55 gw_839 kM_small ⟨Nat.le_of_ble_eq_true rfl, Nat.le_of_ble_eq_true rfl⟩) rfl rfl (Nat.le_of_ble_eq_true rfl) dM_eventIn_31 ⟨Nat.le_of_ble_eq_true rfl, Nat.le_of_ble_eq_true rfl⟩ (fun H locs hw => ?_)
      refine W.eq (g2 := F0 m 34 ls [.int r3, .int (iv 10), .ref (ad 4)]) rfl ?_
      exact wM_eventIn_34 C hr hlk hrv iv3 av3 x1 x2 x3 x4 (iv 10) (iv 10) r3 _ _ ls (lv_sub hl [1, 2, 3, 4, 5, 0] rfl) hw hf
    · have hf := ts_t hf c2
      exact wM_eventIn_26 C hr hlk hrv iv av x1 x2 x3 x4 (iv 10) (iv 10) _ _ ls (lv_sub hl [1, 2, 3, 4, 5, 0] rfl) hw hf
