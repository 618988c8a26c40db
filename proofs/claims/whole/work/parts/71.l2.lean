theorem in_k {i k L : Nat} (h : i + k < L) (hL : L ≤ 2048) : vp_in (nt i + @OfNat.ofNat Int32 k Int32.instOfNat) L := by
  rw [show (@OfNat.ofNat Int32 k Int32.instOfNat) = nt k from rfl, nt_add]
  exact ixN h (by omega)
theorem Bud.up {h cells slots j a b} (B : Bud h cells slots j) (ha : a ≤ 2) (hb : b ≤ 7013) : Bud h (cells + a) (slots + b) (j + 1) := by
  obtain ⟨h1, h2⟩ := B
  exact ⟨by omega, by omega⟩
theorem Bud.up0 {h cells slots j} (B : Bud h cells slots j) : Bud h cells slots (j + 1) := B.up (a := 0) (b := 0) (by omega) (by omega)
theorem lg_self (x : Int64) : lg_cmp x x = 0 := by
  unfold lg_cmp
  rw [if_neg (by exact Int64.lt_irrefl), if_pos rfl]
/-- the reference's boolean -/
theorem lv_bool2 {p : Program} {l : Launch} {e : Env} {R : Room} {s : State} {m : MethodId} {args : Array Value} {below : List Frame} {meth : Method} {c : Code} {H : Heap} {locs : List Loc} {cells slots : Nat} {Q : State → Prop} {g : gT} {nL : Nat} {ls : Array Slot} {rest : List Value} {x x2 : Int32} (C : mCx p m c code nL s args g "MidiDeskLaw") (hx : x2 = if x = 0 then 0 else 1) (d1 : decode code 619 = .ok (.ifCond .eq 7, 3)) (d2 : decode code 622 = .ok (.iconst 1, 1)) (d3 : decode code 623 = .ok (.goto 4, 3)) (d4 : decode code 626 = .ok (.iconst 0, 1))
    (k : W p l e R s m args below meth c H locs cells slots Q (F0 m 627 ls (.int x2 :: rest))) : W p l e R s m args below meth c H locs cells slots Q (F0 m 619 ls (.int x :: rest)) := by
  refine lv_if_eq (tgt := 626) C.1.1 C.1.2.1 d1 (by decide) (fun w => ?_) (fun w => ?_)
  · refine lv_iconst (v := 0) C.1.1 C.1.2.1 d4 (by decide) ?_
    rw [if_pos w] at hx; rw [hx] at k; exact k
  · refine lv_iconst (v := 1) C.1.1 C.1.2.1 d2 (by decide) ?_
    refine lv_goto (tgt := 627) C.1.1 C.1.2.1 d3 (by decide) ?_
    rw [if_neg w] at hx; rw [hx] at k; exact k

theorem gw_975 : (Jvm.Cond.constantLong "MidiDeskLaw" (39 : Nat) (4294967295 : Int64)) ∈ gw := gw_in 975 (by decide +kernel) (by decide +kernel)
theorem gw_151 : (Jvm.Cond.methodLink "MidiDeskLaw" (41 : Nat) ({ cls := "MidiDesk", name := "feed", desc := "(JI)I" } : Jvm.MethodName)) ∈ gw := gw_in 151 (by decide +kernel) (by decide +kernel)
theorem gw_152 : (Jvm.Cond.instanceMethod ({ cls := "MidiDesk", name := "feed", desc := "(JI)I" } : Jvm.MethodName)) ∈ gw := gw_in 152 (by decide +kernel) (by decide +kernel)
theorem gw_153 : (Jvm.Cond.selects "MidiDesk" ({ cls := "MidiDesk", name := "feed", desc := "(JI)I" } : Jvm.MethodName) ({ cls := "MidiDesk", name := "feed", desc := "(JI)I" } : Jvm.MethodName)) ∈ gw := gw_in 153 (by decide +kernel) (by decide +kernel)
theorem gw_154 : (Jvm.Cond.code ({ cls := "MidiDesk", name := "feed", desc := "(JI)I" } : Jvm.MethodName) prog_1_method_2_code (5 : Nat) (Option.some Jvm.ClassFile.FieldType.int)) ∈ gw := gw_in 154 (by decide +kernel) (by decide +kernel)
theorem gw_795 : (Jvm.Cond.methodLink "MidiDeskLaw" (45 : Nat) ({ cls := "MidiDeskModel", name := "feed", desc := "(JI)I" } : Jvm.MethodName)) ∈ gw := gw_in 795 (by decide +kernel) (by decide +kernel)
theorem gw_796 : (Jvm.Cond.instanceMethod ({ cls := "MidiDeskModel", name := "feed", desc := "(JI)I" } : Jvm.MethodName)) ∈ gw := gw_in 796 (by decide +kernel) (by decide +kernel)
theorem gw_797 : (Jvm.Cond.selects "MidiDeskModel" ({ cls := "MidiDeskModel", name := "feed", desc := "(JI)I" } : Jvm.MethodName) ({ cls := "MidiDeskModel", name := "feed", desc := "(JI)I" } : Jvm.MethodName)) ∈ gw := gw_in 797 (by decide +kernel) (by decide +kernel)
theorem gw_798 : (Jvm.Cond.code ({ cls := "MidiDeskModel", name := "feed", desc := "(JI)I" } : Jvm.MethodName) prog_8_method_4_code (5 : Nat) (Option.some Jvm.ClassFile.FieldType.int)) ∈ gw := gw_in 798 (by decide +kernel) (by decide +kernel)
theorem gw_179 : (Jvm.Cond.methodLink "MidiDeskLaw" (46 : Nat) ({ cls := "MidiDesk", name := "read", desc := "()I" } : Jvm.MethodName)) ∈ gw := gw_in 179 (by decide +kernel) (by decide +kernel)
theorem gw_180 : (Jvm.Cond.instanceMethod ({ cls := "MidiDesk", name := "read", desc := "()I" } : Jvm.MethodName)) ∈ gw := gw_in 180 (by decide +kernel) (by decide +kernel)
theorem gw_181 : (Jvm.Cond.selects "MidiDesk" ({ cls := "MidiDesk", name := "read", desc := "()I" } : Jvm.MethodName) ({ cls := "MidiDesk", name := "read", desc := "()I" } : Jvm.MethodName)) ∈ gw := gw_in 181 (by decide +kernel) (by decide +kernel)
theorem gw_182 : (Jvm.Cond.code ({ cls := "MidiDesk", name := "read", desc := "()I" } : Jvm.MethodName) prog_1_method_3_code (3 : Nat) (Option.some Jvm.ClassFile.FieldType.int)) ∈ gw := gw_in 182 (by decide +kernel) (by decide +kernel)
theorem gw_800 : (Jvm.Cond.methodLink "MidiDeskLaw" (50 : Nat) ({ cls := "MidiDeskModel", name := "read", desc := "()I" } : Jvm.MethodName)) ∈ gw := gw_in 800 (by decide +kernel) (by decide +kernel)
theorem gw_801 : (Jvm.Cond.instanceMethod ({ cls := "MidiDeskModel", name := "read", desc := "()I" } : Jvm.MethodName)) ∈ gw := gw_in 801 (by decide +kernel) (by decide +kernel)
theorem gw_802 : (Jvm.Cond.selects "MidiDeskModel" ({ cls := "MidiDeskModel", name := "read", desc := "()I" } : Jvm.MethodName) ({ cls := "MidiDeskModel", name := "read", desc := "()I" } : Jvm.MethodName)) ∈ gw := gw_in 802 (by decide +kernel) (by decide +kernel)
theorem gw_803 : (Jvm.Cond.code ({ cls := "MidiDeskModel", name := "read", desc := "()I" } : Jvm.MethodName) prog_8_method_10_code (6 : Nat) (Option.some Jvm.ClassFile.FieldType.int)) ∈ gw := gw_in 803 (by decide +kernel) (by decide +kernel)
theorem gw_393 : (Jvm.Cond.methodLink "MidiDeskLaw" (51 : Nat) ({ cls := "MidiDesk", name := "event", desc := "(II)I" } : Jvm.MethodName)) ∈ gw := gw_in 393 (by decide +kernel) (by decide +kernel)
theorem gw_394 : (Jvm.Cond.instanceMethod ({ cls := "MidiDesk", name := "event", desc := "(II)I" } : Jvm.MethodName)) ∈ gw := gw_in 394 (by decide +kernel) (by decide +kernel)
theorem gw_395 : (Jvm.Cond.selects "MidiDesk" ({ cls := "MidiDesk", name := "event", desc := "(II)I" } : Jvm.MethodName) ({ cls := "MidiDesk", name := "event", desc := "(II)I" } : Jvm.MethodName)) ∈ gw := gw_in 395 (by decide +kernel) (by decide +kernel)
theorem gw_396 : (Jvm.Cond.code ({ cls := "MidiDesk", name := "event", desc := "(II)I" } : Jvm.MethodName) prog_1_method_4_code (4 : Nat) (Option.some Jvm.ClassFile.FieldType.int)) ∈ gw := gw_in 396 (by decide +kernel) (by decide +kernel)
theorem gw_860 : (Jvm.Cond.methodLink "MidiDeskLaw" (54 : Nat) ({ cls := "MidiDeskModel", name := "event", desc := "(II)I" } : Jvm.MethodName)) ∈ gw := gw_in 860 (by decide +kernel) (by decide +kernel)
theorem gw_861 : (Jvm.Cond.instanceMethod ({ cls := "MidiDeskModel", name := "event", desc := "(II)I" } : Jvm.MethodName)) ∈ gw := gw_in 861 (by decide +kernel) (by decide +kernel)
theorem gw_862 : (Jvm.Cond.selects "MidiDeskModel" ({ cls := "MidiDeskModel", name := "event", desc := "(II)I" } : Jvm.MethodName) ({ cls := "MidiDeskModel", name := "event", desc := "(II)I" } : Jvm.MethodName)) ∈ gw := gw_in 862 (by decide +kernel) (by decide +kernel)
theorem gw_863 : (Jvm.Cond.code ({ cls := "MidiDeskModel", name := "event", desc := "(II)I" } : Jvm.MethodName) prog_8_method_21_code (4 : Nat) (Option.some Jvm.ClassFile.FieldType.int)) ∈ gw := gw_in 863 (by decide +kernel) (by decide +kernel)
theorem gw_401 : (Jvm.Cond.methodLink "MidiDeskLaw" (55 : Nat) ({ cls := "MidiDesk", name := "byteOf", desc := "(II)I" } : Jvm.MethodName)) ∈ gw := gw_in 401 (by decide +kernel) (by decide +kernel)
theorem gw_402 : (Jvm.Cond.instanceMethod ({ cls := "MidiDesk", name := "byteOf", desc := "(II)I" } : Jvm.MethodName)) ∈ gw := gw_in 402 (by decide +kernel) (by decide +kernel)
theorem gw_403 : (Jvm.Cond.selects "MidiDesk" ({ cls := "MidiDesk", name := "byteOf", desc := "(II)I" } : Jvm.MethodName) ({ cls := "MidiDesk", name := "byteOf", desc := "(II)I" } : Jvm.MethodName)) ∈ gw := gw_in 403 (by decide +kernel) (by decide +kernel)
theorem gw_404 : (Jvm.Cond.code ({ cls := "MidiDesk", name := "byteOf", desc := "(II)I" } : Jvm.MethodName) prog_1_method_5_code (4 : Nat) (Option.some Jvm.ClassFile.FieldType.int)) ∈ gw := gw_in 404 (by decide +kernel) (by decide +kernel)
theorem gw_868 : (Jvm.Cond.methodLink "MidiDeskLaw" (58 : Nat) ({ cls := "MidiDeskModel", name := "byteOf", desc := "(II)I" } : Jvm.MethodName)) ∈ gw := gw_in 868 (by decide +kernel) (by decide +kernel)
theorem gw_869 : (Jvm.Cond.instanceMethod ({ cls := "MidiDeskModel", name := "byteOf", desc := "(II)I" } : Jvm.MethodName)) ∈ gw := gw_in 869 (by decide +kernel) (by decide +kernel)
theorem gw_870 : (Jvm.Cond.selects "MidiDeskModel" ({ cls := "MidiDeskModel", name := "byteOf", desc := "(II)I" } : Jvm.MethodName) ({ cls := "MidiDeskModel", name := "byteOf", desc := "(II)I" } : Jvm.MethodName)) ∈ gw := gw_in 870 (by decide +kernel) (by decide +kernel)
theorem gw_871 : (Jvm.Cond.code ({ cls := "MidiDeskModel", name := "byteOf", desc := "(II)I" } : Jvm.MethodName) prog_8_method_22_code (3 : Nat) (Option.some Jvm.ClassFile.FieldType.int)) ∈ gw := gw_in 871 (by decide +kernel) (by decide +kernel)
theorem gw_406 : (Jvm.Cond.methodLink "MidiDeskLaw" (71 : Nat) ({ cls := "MidiDesk", name := "length", desc := "(I)I" } : Jvm.MethodName)) ∈ gw := gw_in 406 (by decide +kernel) (by decide +kernel)
theorem gw_407 : (Jvm.Cond.instanceMethod ({ cls := "MidiDesk", name := "length", desc := "(I)I" } : Jvm.MethodName)) ∈ gw := gw_in 407 (by decide +kernel) (by decide +kernel)
theorem gw_408 : (Jvm.Cond.selects "MidiDesk" ({ cls := "MidiDesk", name := "length", desc := "(I)I" } : Jvm.MethodName) ({ cls := "MidiDesk", name := "length", desc := "(I)I" } : Jvm.MethodName)) ∈ gw := gw_in 408 (by decide +kernel) (by decide +kernel)
theorem gw_409 : (Jvm.Cond.code ({ cls := "MidiDesk", name := "length", desc := "(I)I" } : Jvm.MethodName) prog_1_method_8_code (2 : Nat) (Option.some Jvm.ClassFile.FieldType.int)) ∈ gw := gw_in 409 (by decide +kernel) (by decide +kernel)
theorem gw_901 : (Jvm.Cond.methodLink "MidiDeskLaw" (74 : Nat) ({ cls := "MidiDeskModel", name := "length", desc := "(I)I" } : Jvm.MethodName)) ∈ gw := gw_in 901 (by decide +kernel) (by decide +kernel)
theorem gw_902 : (Jvm.Cond.instanceMethod ({ cls := "MidiDeskModel", name := "length", desc := "(I)I" } : Jvm.MethodName)) ∈ gw := gw_in 902 (by decide +kernel) (by decide +kernel)
theorem gw_903 : (Jvm.Cond.selects "MidiDeskModel" ({ cls := "MidiDeskModel", name := "length", desc := "(I)I" } : Jvm.MethodName) ({ cls := "MidiDeskModel", name := "length", desc := "(I)I" } : Jvm.MethodName)) ∈ gw := gw_in 903 (by decide +kernel) (by decide +kernel)
theorem gw_904 : (Jvm.Cond.code ({ cls := "MidiDeskModel", name := "length", desc := "(I)I" } : Jvm.MethodName) prog_8_method_29_code (5 : Nat) (Option.some Jvm.ClassFile.FieldType.int)) ∈ gw := gw_in 904 (by decide +kernel) (by decide +kernel)
theorem gw_427 : (Jvm.Cond.methodLink "MidiDeskLaw" (89 : Nat) ({ cls := "MidiDesk", name := "written", desc := "(I)I" } : Jvm.MethodName)) ∈ gw := gw_in 427 (by decide +kernel) (by decide +kernel)
theorem gw_428 : (Jvm.Cond.instanceMethod ({ cls := "MidiDesk", name := "written", desc := "(I)I" } : Jvm.MethodName)) ∈ gw := gw_in 428 (by decide +kernel) (by decide +kernel)
theorem gw_429 : (Jvm.Cond.selects "MidiDesk" ({ cls := "MidiDesk", name := "written", desc := "(I)I" } : Jvm.MethodName) ({ cls := "MidiDesk", name := "written", desc := "(I)I" } : Jvm.MethodName)) ∈ gw := gw_in 429 (by decide +kernel) (by decide +kernel)
theorem gw_430 : (Jvm.Cond.code ({ cls := "MidiDesk", name := "written", desc := "(I)I" } : Jvm.MethodName) prog_1_method_13_code (2 : Nat) (Option.some Jvm.ClassFile.FieldType.int)) ∈ gw := gw_in 430 (by decide +kernel) (by decide +kernel)
theorem gw_959 : (Jvm.Cond.methodLink "MidiDeskLaw" (92 : Nat) ({ cls := "MidiDeskModel", name := "written", desc := "(I)I" } : Jvm.MethodName)) ∈ gw := gw_in 959 (by decide +kernel) (by decide +kernel)
theorem gw_960 : (Jvm.Cond.instanceMethod ({ cls := "MidiDeskModel", name := "written", desc := "(I)I" } : Jvm.MethodName)) ∈ gw := gw_in 960 (by decide +kernel) (by decide +kernel)
theorem gw_961 : (Jvm.Cond.selects "MidiDeskModel" ({ cls := "MidiDeskModel", name := "written", desc := "(I)I" } : Jvm.MethodName) ({ cls := "MidiDeskModel", name := "written", desc := "(I)I" } : Jvm.MethodName)) ∈ gw := gw_in 961 (by decide +kernel) (by decide +kernel)
theorem gw_962 : (Jvm.Cond.code ({ cls := "MidiDeskModel", name := "written", desc := "(I)I" } : Jvm.MethodName) prog_8_method_40_code (2 : Nat) (Option.some Jvm.ClassFile.FieldType.int)) ∈ gw := gw_in 962 (by decide +kernel) (by decide +kernel)
theorem gw_431 : (Jvm.Cond.methodLink "MidiDeskLaw" (93 : Nat) ({ cls := "MidiDesk", name := "back", desc := "()I" } : Jvm.MethodName)) ∈ gw := gw_in 431 (by decide +kernel) (by decide +kernel)
theorem gw_432 : (Jvm.Cond.instanceMethod ({ cls := "MidiDesk", name := "back", desc := "()I" } : Jvm.MethodName)) ∈ gw := gw_in 432 (by decide +kernel) (by decide +kernel)
theorem gw_433 : (Jvm.Cond.selects "MidiDesk" ({ cls := "MidiDesk", name := "back", desc := "()I" } : Jvm.MethodName) ({ cls := "MidiDesk", name := "back", desc := "()I" } : Jvm.MethodName)) ∈ gw := gw_in 433 (by decide +kernel) (by decide +kernel)
theorem gw_434 : (Jvm.Cond.code ({ cls := "MidiDesk", name := "back", desc := "()I" } : Jvm.MethodName) prog_1_method_14_code (3 : Nat) (Option.some Jvm.ClassFile.FieldType.int)) ∈ gw := gw_in 434 (by decide +kernel) (by decide +kernel)
theorem gw_963 : (Jvm.Cond.methodLink "MidiDeskLaw" (96 : Nat) ({ cls := "MidiDeskModel", name := "back", desc := "()I" } : Jvm.MethodName)) ∈ gw := gw_in 963 (by decide +kernel) (by decide +kernel)
theorem gw_964 : (Jvm.Cond.instanceMethod ({ cls := "MidiDeskModel", name := "back", desc := "()I" } : Jvm.MethodName)) ∈ gw := gw_in 964 (by decide +kernel) (by decide +kernel)
theorem gw_965 : (Jvm.Cond.selects "MidiDeskModel" ({ cls := "MidiDeskModel", name := "back", desc := "()I" } : Jvm.MethodName) ({ cls := "MidiDeskModel", name := "back", desc := "()I" } : Jvm.MethodName)) ∈ gw := gw_in 965 (by decide +kernel) (by decide +kernel)
theorem gw_966 : (Jvm.Cond.code ({ cls := "MidiDeskModel", name := "back", desc := "()I" } : Jvm.MethodName) prog_8_method_41_code (2 : Nat) (Option.some Jvm.ClassFile.FieldType.int)) ∈ gw := gw_in 966 (by decide +kernel) (by decide +kernel)
theorem gw_435 : (Jvm.Cond.methodLink "MidiDeskLaw" (97 : Nat) ({ cls := "MidiDesk", name := "count", desc := "(I)I" } : Jvm.MethodName)) ∈ gw := gw_in 435 (by decide +kernel) (by decide +kernel)
theorem gw_436 : (Jvm.Cond.instanceMethod ({ cls := "MidiDesk", name := "count", desc := "(I)I" } : Jvm.MethodName)) ∈ gw := gw_in 436 (by decide +kernel) (by decide +kernel)
theorem gw_437 : (Jvm.Cond.selects "MidiDesk" ({ cls := "MidiDesk", name := "count", desc := "(I)I" } : Jvm.MethodName) ({ cls := "MidiDesk", name := "count", desc := "(I)I" } : Jvm.MethodName)) ∈ gw := gw_in 437 (by decide +kernel) (by decide +kernel)
theorem gw_438 : (Jvm.Cond.code ({ cls := "MidiDesk", name := "count", desc := "(I)I" } : Jvm.MethodName) prog_1_method_15_code (2 : Nat) (Option.some Jvm.ClassFile.FieldType.int)) ∈ gw := gw_in 438 (by decide +kernel) (by decide +kernel)
theorem gw_967 : (Jvm.Cond.methodLink "MidiDeskLaw" (100 : Nat) ({ cls := "MidiDeskModel", name := "count", desc := "(I)I" } : Jvm.MethodName)) ∈ gw := gw_in 967 (by decide +kernel) (by decide +kernel)
theorem gw_968 : (Jvm.Cond.instanceMethod ({ cls := "MidiDeskModel", name := "count", desc := "(I)I" } : Jvm.MethodName)) ∈ gw := gw_in 968 (by decide +kernel) (by decide +kernel)
theorem gw_969 : (Jvm.Cond.selects "MidiDeskModel" ({ cls := "MidiDeskModel", name := "count", desc := "(I)I" } : Jvm.MethodName) ({ cls := "MidiDeskModel", name := "count", desc := "(I)I" } : Jvm.MethodName)) ∈ gw := gw_in 969 (by decide +kernel) (by decide +kernel)
theorem gw_970 : (Jvm.Cond.code ({ cls := "MidiDeskModel", name := "count", desc := "(I)I" } : Jvm.MethodName) prog_8_method_43_code (2 : Nat) (Option.some Jvm.ClassFile.FieldType.int)) ∈ gw := gw_in 970 (by decide +kernel) (by decide +kernel)
theorem dW_0 : decode code 0 = .ok (.new 8, 3) := by decide +kernel
theorem dW_3 : decode code 3 = .ok (.dup, 1) := by decide +kernel
theorem dW_4 : decode code 4 = .ok (.invokespecial 35, 3) := by decide +kernel
theorem dW_7 : decode code 7 = .ok (.astore_n 1, 1) := by decide +kernel
theorem dW_8 : decode code 8 = .ok (.new 36, 3) := by decide +kernel
theorem dW_11 : decode code 11 = .ok (.dup, 1) := by decide +kernel
theorem dW_12 : decode code 12 = .ok (.invokespecial 38, 3) := by decide +kernel
theorem dW_15 : decode code 15 = .ok (.astore_n 2, 1) := by decide +kernel
theorem dW_16 : decode code 16 = .ok (.iconst 1, 1) := by decide +kernel
theorem dW_17 : decode code 17 = .ok (.newarray .long, 2) := by decide +kernel
theorem dW_19 : decode code 19 = .ok (.astore_n 3, 1) := by decide +kernel
theorem dW_20 : decode code 20 = .ok (.iconst 0, 1) := by decide +kernel
theorem dW_21 : decode code 21 = .ok (.istore 4, 2) := by decide +kernel
theorem dW_23 : decode code 23 = .ok (.iload 4, 2) := by decide +kernel
theorem dW_25 : decode code 25 = .ok (.aload_n 0, 1) := by decide +kernel
theorem dW_26 : decode code 26 = .ok (.arraylength, 1) := by decide +kernel
theorem dW_27 : decode code 27 = .ok (.iconst 4, 1) := by decide +kernel
theorem dW_28 : decode code 28 = .ok (.isub, 1) := by decide +kernel
theorem dW_29 : decode code 29 = .ok (.if_icmp .gt 703, 3) := by decide +kernel
theorem dW_32 : decode code 32 = .ok (.aload_n 0, 1) := by decide +kernel
theorem dW_33 : decode code 33 = .ok (.iload 4, 2) := by decide +kernel
theorem dW_35 : decode code 35 = .ok (.iaload, 1) := by decide +kernel
theorem dW_36 : decode code 36 = .ok (.bipush 15, 2) := by decide +kernel
theorem dW_38 : decode code 38 = .ok (.iand, 1) := by decide +kernel
theorem dW_39 : decode code 39 = .ok (.tableswitch 687 0 13 #[69, 138, 151, 188, 225, 280, 335, 360, 428, 484, 540, 624, 649, 662], 69) := by decide +kernel
theorem dW_108 : decode code 108 = .ok (.aload_n 1, 1) := by decide +kernel
theorem dW_109 : decode code 109 = .ok (.aload_n 0, 1) := by decide +kernel
theorem dW_110 : decode code 110 = .ok (.iload 4, 2) := by decide +kernel
theorem dW_112 : decode code 112 = .ok (.iconst 1, 1) := by decide +kernel
theorem dW_113 : decode code 113 = .ok (.iadd, 1) := by decide +kernel
theorem dW_114 : decode code 114 = .ok (.iaload, 1) := by decide +kernel
theorem dW_115 : decode code 115 = .ok (.i2l, 1) := by decide +kernel
theorem dW_116 : decode code 116 = .ok (.bipush 32, 2) := by decide +kernel
theorem dW_118 : decode code 118 = .ok (.lshl, 1) := by decide +kernel
theorem dW_119 : decode code 119 = .ok (.aload_n 0, 1) := by decide +kernel
theorem dW_120 : decode code 120 = .ok (.iload 4, 2) := by decide +kernel
theorem dW_122 : decode code 122 = .ok (.iconst 2, 1) := by decide +kernel
theorem dW_123 : decode code 123 = .ok (.iadd, 1) := by decide +kernel
theorem dW_124 : decode code 124 = .ok (.iaload, 1) := by decide +kernel
theorem dW_125 : decode code 125 = .ok (.i2l, 1) := by decide +kernel
theorem dW_126 : decode code 126 = .ok (.ldc2_w 39, 3) := by decide +kernel
theorem dW_129 : decode code 129 = .ok (.land, 1) := by decide +kernel
theorem dW_130 : decode code 130 = .ok (.lor, 1) := by decide +kernel
theorem dW_131 : decode code 131 = .ok (.aload_n 0, 1) := by decide +kernel
theorem dW_132 : decode code 132 = .ok (.iload 4, 2) := by decide +kernel
theorem dW_134 : decode code 134 = .ok (.iconst 3, 1) := by decide +kernel
theorem dW_135 : decode code 135 = .ok (.iadd, 1) := by decide +kernel
theorem dW_136 : decode code 136 = .ok (.iaload, 1) := by decide +kernel
theorem dW_137 : decode code 137 = .ok (.invokevirtual 41, 3) := by decide +kernel
theorem dW_140 : decode code 140 = .ok (.aload_n 2, 1) := by decide +kernel
theorem dW_141 : decode code 141 = .ok (.aload_n 0, 1) := by decide +kernel
theorem dW_142 : decode code 142 = .ok (.iload 4, 2) := by decide +kernel
theorem dW_144 : decode code 144 = .ok (.iconst 1, 1) := by decide +kernel
theorem dW_145 : decode code 145 = .ok (.iadd, 1) := by decide +kernel
theorem dW_146 : decode code 146 = .ok (.iaload, 1) := by decide +kernel
theorem dW_147 : decode code 147 = .ok (.i2l, 1) := by decide +kernel
theorem dW_148 : decode code 148 = .ok (.bipush 32, 2) := by decide +kernel
theorem dW_150 : decode code 150 = .ok (.lshl, 1) := by decide +kernel
theorem dW_151 : decode code 151 = .ok (.aload_n 0, 1) := by decide +kernel
theorem dW_152 : decode code 152 = .ok (.iload 4, 2) := by decide +kernel
theorem dW_154 : decode code 154 = .ok (.iconst 2, 1) := by decide +kernel
theorem dW_155 : decode code 155 = .ok (.iadd, 1) := by decide +kernel
theorem dW_156 : decode code 156 = .ok (.iaload, 1) := by decide +kernel
theorem dW_157 : decode code 157 = .ok (.i2l, 1) := by decide +kernel
theorem dW_158 : decode code 158 = .ok (.ldc2_w 39, 3) := by decide +kernel
theorem dW_161 : decode code 161 = .ok (.land, 1) := by decide +kernel
theorem dW_162 : decode code 162 = .ok (.lor, 1) := by decide +kernel
theorem dW_163 : decode code 163 = .ok (.aload_n 0, 1) := by decide +kernel
theorem dW_164 : decode code 164 = .ok (.iload 4, 2) := by decide +kernel
theorem dW_166 : decode code 166 = .ok (.iconst 3, 1) := by decide +kernel
theorem dW_167 : decode code 167 = .ok (.iadd, 1) := by decide +kernel
theorem dW_168 : decode code 168 = .ok (.iaload, 1) := by decide +kernel
theorem dW_169 : decode code 169 = .ok (.invokevirtual 45, 3) := by decide +kernel
theorem dW_172 : decode code 172 = .ok (.if_icmp .eq 554, 3) := by decide +kernel
theorem dW_175 : decode code 175 = .ok (.iconst 0, 1) := by decide +kernel
theorem dW_176 : decode code 176 = .ok (.ireturn, 1) := by decide +kernel
theorem dW_177 : decode code 177 = .ok (.aload_n 1, 1) := by decide +kernel
theorem dW_178 : decode code 178 = .ok (.invokevirtual 46, 3) := by decide +kernel
theorem dW_181 : decode code 181 = .ok (.aload_n 2, 1) := by decide +kernel
theorem dW_182 : decode code 182 = .ok (.invokevirtual 50, 3) := by decide +kernel
theorem dW_185 : decode code 185 = .ok (.if_icmp .eq 541, 3) := by decide +kernel
theorem dW_188 : decode code 188 = .ok (.iconst 0, 1) := by decide +kernel
theorem dW_189 : decode code 189 = .ok (.ireturn, 1) := by decide +kernel
theorem dW_190 : decode code 190 = .ok (.aload_n 1, 1) := by decide +kernel
theorem dW_191 : decode code 191 = .ok (.aload_n 0, 1) := by decide +kernel
theorem dW_192 : decode code 192 = .ok (.iload 4, 2) := by decide +kernel
theorem dW_194 : decode code 194 = .ok (.iconst 1, 1) := by decide +kernel
theorem dW_195 : decode code 195 = .ok (.iadd, 1) := by decide +kernel
theorem dW_196 : decode code 196 = .ok (.iaload, 1) := by decide +kernel
theorem dW_197 : decode code 197 = .ok (.aload_n 0, 1) := by decide +kernel
theorem dW_198 : decode code 198 = .ok (.iload 4, 2) := by decide +kernel
theorem dW_200 : decode code 200 = .ok (.iconst 2, 1) := by decide +kernel
theorem dW_201 : decode code 201 = .ok (.iadd, 1) := by decide +kernel
theorem dW_202 : decode code 202 = .ok (.iaload, 1) := by decide +kernel
theorem dW_203 : decode code 203 = .ok (.invokevirtual 51, 3) := by decide +kernel
theorem dW_206 : decode code 206 = .ok (.aload_n 2, 1) := by decide +kernel
theorem dW_207 : decode code 207 = .ok (.aload_n 0, 1) := by decide +kernel
theorem dW_208 : decode code 208 = .ok (.iload 4, 2) := by decide +kernel
theorem dW_210 : decode code 210 = .ok (.iconst 1, 1) := by decide +kernel
theorem dW_211 : decode code 211 = .ok (.iadd, 1) := by decide +kernel
theorem dW_212 : decode code 212 = .ok (.iaload, 1) := by decide +kernel
theorem dW_213 : decode code 213 = .ok (.aload_n 0, 1) := by decide +kernel
theorem dW_214 : decode code 214 = .ok (.iload 4, 2) := by decide +kernel
theorem dW_216 : decode code 216 = .ok (.iconst 2, 1) := by decide +kernel
theorem dW_217 : decode code 217 = .ok (.iadd, 1) := by decide +kernel
theorem dW_218 : decode code 218 = .ok (.iaload, 1) := by decide +kernel
theorem dW_219 : decode code 219 = .ok (.invokevirtual 54, 3) := by decide +kernel
theorem dW_222 : decode code 222 = .ok (.if_icmp .eq 504, 3) := by decide +kernel
theorem dW_225 : decode code 225 = .ok (.iconst 0, 1) := by decide +kernel
theorem dW_226 : decode code 226 = .ok (.ireturn, 1) := by decide +kernel
theorem dW_227 : decode code 227 = .ok (.aload_n 1, 1) := by decide +kernel
theorem dW_228 : decode code 228 = .ok (.aload_n 0, 1) := by decide +kernel
theorem dW_229 : decode code 229 = .ok (.iload 4, 2) := by decide +kernel
theorem dW_231 : decode code 231 = .ok (.iconst 1, 1) := by decide +kernel
theorem dW_232 : decode code 232 = .ok (.iadd, 1) := by decide +kernel
theorem dW_233 : decode code 233 = .ok (.iaload, 1) := by decide +kernel
theorem dW_234 : decode code 234 = .ok (.aload_n 0, 1) := by decide +kernel
theorem dW_235 : decode code 235 = .ok (.iload 4, 2) := by decide +kernel
theorem dW_237 : decode code 237 = .ok (.iconst 2, 1) := by decide +kernel
theorem dW_238 : decode code 238 = .ok (.iadd, 1) := by decide +kernel
theorem dW_239 : decode code 239 = .ok (.iaload, 1) := by decide +kernel
theorem dW_240 : decode code 240 = .ok (.invokevirtual 55, 3) := by decide +kernel
theorem dW_243 : decode code 243 = .ok (.aload_n 2, 1) := by decide +kernel
theorem dW_244 : decode code 244 = .ok (.aload_n 0, 1) := by decide +kernel
theorem dW_245 : decode code 245 = .ok (.iload 4, 2) := by decide +kernel
theorem dW_247 : decode code 247 = .ok (.iconst 1, 1) := by decide +kernel
theorem dW_248 : decode code 248 = .ok (.iadd, 1) := by decide +kernel
theorem dW_249 : decode code 249 = .ok (.iaload, 1) := by decide +kernel
theorem dW_250 : decode code 250 = .ok (.aload_n 0, 1) := by decide +kernel
theorem dW_251 : decode code 251 = .ok (.iload 4, 2) := by decide +kernel
theorem dW_253 : decode code 253 = .ok (.iconst 2, 1) := by decide +kernel
theorem dW_254 : decode code 254 = .ok (.iadd, 1) := by decide +kernel
theorem dW_255 : decode code 255 = .ok (.iaload, 1) := by decide +kernel
theorem dW_256 : decode code 256 = .ok (.invokevirtual 58, 3) := by decide +kernel
theorem dW_259 : decode code 259 = .ok (.if_icmp .eq 467, 3) := by decide +kernel
theorem dW_262 : decode code 262 = .ok (.iconst 0, 1) := by decide +kernel
theorem dW_263 : decode code 263 = .ok (.ireturn, 1) := by decide +kernel
theorem dW_264 : decode code 264 = .ok (.aload_n 1, 1) := by decide +kernel
theorem dW_265 : decode code 265 = .ok (.aload_n 0, 1) := by decide +kernel
theorem dW_266 : decode code 266 = .ok (.iload 4, 2) := by decide +kernel
theorem dW_268 : decode code 268 = .ok (.iconst 1, 1) := by decide +kernel
theorem dW_269 : decode code 269 = .ok (.iadd, 1) := by decide +kernel
theorem dW_270 : decode code 270 = .ok (.iaload, 1) := by decide +kernel
theorem dW_271 : decode code 271 = .ok (.aload_n 3, 1) := by decide +kernel
theorem dW_272 : decode code 272 = .ok (.invokestatic 59, 3) := by decide +kernel
theorem dW_275 : decode code 275 = .ok (.istore 5, 2) := by decide +kernel
theorem dW_277 : decode code 277 = .ok (.aload_n 2, 1) := by decide +kernel
theorem dW_278 : decode code 278 = .ok (.aload_n 0, 1) := by decide +kernel
theorem dW_279 : decode code 279 = .ok (.iload 4, 2) := by decide +kernel
theorem dW_281 : decode code 281 = .ok (.iconst 1, 1) := by decide +kernel
theorem dW_282 : decode code 282 = .ok (.iadd, 1) := by decide +kernel
theorem dW_283 : decode code 283 = .ok (.iaload, 1) := by decide +kernel
theorem dW_284 : decode code 284 = .ok (.invokevirtual 64, 3) := by decide +kernel
theorem dW_287 : decode code 287 = .ok (.lstore 6, 2) := by decide +kernel
theorem dW_289 : decode code 289 = .ok (.aload_n 2, 1) := by decide +kernel
theorem dW_290 : decode code 290 = .ok (.invokevirtual 65, 3) := by decide +kernel
theorem dW_293 : decode code 293 = .ok (.iload 5, 2) := by decide +kernel
theorem dW_295 : decode code 295 = .ok (.if_icmp .eq 5, 3) := by decide +kernel
theorem dW_298 : decode code 298 = .ok (.iconst 0, 1) := by decide +kernel
theorem dW_299 : decode code 299 = .ok (.ireturn, 1) := by decide +kernel
theorem dW_300 : decode code 300 = .ok (.iload 5, 2) := by decide +kernel
theorem dW_302 : decode code 302 = .ok (.ifCond .ne 14, 3) := by decide +kernel
theorem dW_305 : decode code 305 = .ok (.aload_n 3, 1) := by decide +kernel
theorem dW_306 : decode code 306 = .ok (.iconst 0, 1) := by decide +kernel
theorem dW_307 : decode code 307 = .ok (.laload, 1) := by decide +kernel
theorem dW_308 : decode code 308 = .ok (.lload 6, 2) := by decide +kernel
theorem dW_310 : decode code 310 = .ok (.lcmp, 1) := by decide +kernel
theorem dW_311 : decode code 311 = .ok (.ifCond .eq 5, 3) := by decide +kernel
theorem dW_314 : decode code 314 = .ok (.iconst 0, 1) := by decide +kernel
theorem dW_315 : decode code 315 = .ok (.ireturn, 1) := by decide +kernel
theorem dW_316 : decode code 316 = .ok (.goto 410, 3) := by decide +kernel
theorem dW_319 : decode code 319 = .ok (.aload_n 1, 1) := by decide +kernel
theorem dW_320 : decode code 320 = .ok (.aload_n 0, 1) := by decide +kernel
theorem dW_321 : decode code 321 = .ok (.iload 4, 2) := by decide +kernel
theorem dW_323 : decode code 323 = .ok (.iconst 1, 1) := by decide +kernel
theorem dW_324 : decode code 324 = .ok (.iadd, 1) := by decide +kernel
theorem dW_325 : decode code 325 = .ok (.iaload, 1) := by decide +kernel
theorem dW_326 : decode code 326 = .ok (.aload_n 3, 1) := by decide +kernel
theorem dW_327 : decode code 327 = .ok (.invokestatic 68, 3) := by decide +kernel
theorem dW_330 : decode code 330 = .ok (.istore 5, 2) := by decide +kernel
theorem dW_332 : decode code 332 = .ok (.aload_n 2, 1) := by decide +kernel
theorem dW_333 : decode code 333 = .ok (.aload_n 0, 1) := by decide +kernel
theorem dW_334 : decode code 334 = .ok (.iload 4, 2) := by decide +kernel
theorem dW_336 : decode code 336 = .ok (.iconst 1, 1) := by decide +kernel
theorem dW_337 : decode code 337 = .ok (.iadd, 1) := by decide +kernel
theorem dW_338 : decode code 338 = .ok (.iaload, 1) := by decide +kernel
theorem dW_339 : decode code 339 = .ok (.invokevirtual 70, 3) := by decide +kernel
theorem dW_342 : decode code 342 = .ok (.lstore 6, 2) := by decide +kernel
theorem dW_344 : decode code 344 = .ok (.aload_n 2, 1) := by decide +kernel
theorem dW_345 : decode code 345 = .ok (.invokevirtual 65, 3) := by decide +kernel
theorem dW_348 : decode code 348 = .ok (.iload 5, 2) := by decide +kernel
theorem dW_350 : decode code 350 = .ok (.if_icmp .eq 5, 3) := by decide +kernel
theorem dW_353 : decode code 353 = .ok (.iconst 0, 1) := by decide +kernel
theorem dW_354 : decode code 354 = .ok (.ireturn, 1) := by decide +kernel
theorem dW_355 : decode code 355 = .ok (.iload 5, 2) := by decide +kernel
theorem dW_357 : decode code 357 = .ok (.ifCond .ne 14, 3) := by decide +kernel
theorem dW_360 : decode code 360 = .ok (.aload_n 3, 1) := by decide +kernel
theorem dW_361 : decode code 361 = .ok (.iconst 0, 1) := by decide +kernel
theorem dW_362 : decode code 362 = .ok (.laload, 1) := by decide +kernel
theorem dW_363 : decode code 363 = .ok (.lload 6, 2) := by decide +kernel
theorem dW_365 : decode code 365 = .ok (.lcmp, 1) := by decide +kernel
theorem dW_366 : decode code 366 = .ok (.ifCond .eq 5, 3) := by decide +kernel
theorem dW_369 : decode code 369 = .ok (.iconst 0, 1) := by decide +kernel
theorem dW_370 : decode code 370 = .ok (.ireturn, 1) := by decide +kernel
theorem dW_371 : decode code 371 = .ok (.goto 355, 3) := by decide +kernel
theorem dW_374 : decode code 374 = .ok (.aload_n 1, 1) := by decide +kernel
theorem dW_375 : decode code 375 = .ok (.aload_n 0, 1) := by decide +kernel
theorem dW_376 : decode code 376 = .ok (.iload 4, 2) := by decide +kernel
theorem dW_378 : decode code 378 = .ok (.iconst 1, 1) := by decide +kernel
theorem dW_379 : decode code 379 = .ok (.iadd, 1) := by decide +kernel
theorem dW_380 : decode code 380 = .ok (.iaload, 1) := by decide +kernel
theorem dW_381 : decode code 381 = .ok (.invokevirtual 71, 3) := by decide +kernel
theorem dW_384 : decode code 384 = .ok (.aload_n 2, 1) := by decide +kernel
theorem dW_385 : decode code 385 = .ok (.aload_n 0, 1) := by decide +kernel
theorem dW_386 : decode code 386 = .ok (.iload 4, 2) := by decide +kernel
theorem dW_388 : decode code 388 = .ok (.iconst 1, 1) := by decide +kernel
theorem dW_389 : decode code 389 = .ok (.iadd, 1) := by decide +kernel
theorem dW_390 : decode code 390 = .ok (.iaload, 1) := by decide +kernel
theorem dW_391 : decode code 391 = .ok (.invokevirtual 74, 3) := by decide +kernel
theorem dW_394 : decode code 394 = .ok (.if_icmp .eq 332, 3) := by decide +kernel
theorem dW_397 : decode code 397 = .ok (.iconst 0, 1) := by decide +kernel
theorem dW_398 : decode code 398 = .ok (.ireturn, 1) := by decide +kernel
theorem dW_399 : decode code 399 = .ok (.aload_n 1, 1) := by decide +kernel
theorem dW_400 : decode code 400 = .ok (.aload_n 0, 1) := by decide +kernel
theorem dW_401 : decode code 401 = .ok (.iload 4, 2) := by decide +kernel
theorem dW_403 : decode code 403 = .ok (.iconst 1, 1) := by decide +kernel
theorem dW_404 : decode code 404 = .ok (.iadd, 1) := by decide +kernel
theorem dW_405 : decode code 405 = .ok (.iaload, 1) := by decide +kernel
theorem dW_406 : decode code 406 = .ok (.aload_n 0, 1) := by decide +kernel
theorem dW_407 : decode code 407 = .ok (.iload 4, 2) := by decide +kernel
theorem dW_409 : decode code 409 = .ok (.iconst 2, 1) := by decide +kernel
theorem dW_410 : decode code 410 = .ok (.iadd, 1) := by decide +kernel
theorem dW_411 : decode code 411 = .ok (.iaload, 1) := by decide +kernel
theorem dW_412 : decode code 412 = .ok (.aload_n 3, 1) := by decide +kernel
theorem dW_413 : decode code 413 = .ok (.invokestatic 75, 3) := by decide +kernel
theorem dW_416 : decode code 416 = .ok (.istore 5, 2) := by decide +kernel
theorem dW_418 : decode code 418 = .ok (.aload_n 2, 1) := by decide +kernel
theorem dW_419 : decode code 419 = .ok (.aload_n 0, 1) := by decide +kernel
theorem dW_420 : decode code 420 = .ok (.iload 4, 2) := by decide +kernel
theorem dW_422 : decode code 422 = .ok (.iconst 1, 1) := by decide +kernel
theorem dW_423 : decode code 423 = .ok (.iadd, 1) := by decide +kernel
theorem dW_424 : decode code 424 = .ok (.iaload, 1) := by decide +kernel
theorem dW_425 : decode code 425 = .ok (.aload_n 0, 1) := by decide +kernel
theorem dW_426 : decode code 426 = .ok (.iload 4, 2) := by decide +kernel
theorem dW_428 : decode code 428 = .ok (.iconst 2, 1) := by decide +kernel
theorem dW_429 : decode code 429 = .ok (.iadd, 1) := by decide +kernel
theorem dW_430 : decode code 430 = .ok (.iaload, 1) := by decide +kernel
theorem dW_431 : decode code 431 = .ok (.invokevirtual 78, 3) := by decide +kernel
theorem dW_434 : decode code 434 = .ok (.istore 6, 2) := by decide +kernel
theorem dW_436 : decode code 436 = .ok (.aload_n 2, 1) := by decide +kernel
theorem dW_437 : decode code 437 = .ok (.invokevirtual 65, 3) := by decide +kernel
theorem dW_440 : decode code 440 = .ok (.iload 5, 2) := by decide +kernel
theorem dW_442 : decode code 442 = .ok (.if_icmp .eq 5, 3) := by decide +kernel
theorem dW_445 : decode code 445 = .ok (.iconst 0, 1) := by decide +kernel
theorem dW_446 : decode code 446 = .ok (.ireturn, 1) := by decide +kernel
theorem dW_447 : decode code 447 = .ok (.iload 5, 2) := by decide +kernel
theorem dW_449 : decode code 449 = .ok (.ifCond .ne 15, 3) := by decide +kernel
theorem dW_452 : decode code 452 = .ok (.aload_n 3, 1) := by decide +kernel
theorem dW_453 : decode code 453 = .ok (.iconst 0, 1) := by decide +kernel
theorem dW_454 : decode code 454 = .ok (.laload, 1) := by decide +kernel
theorem dW_455 : decode code 455 = .ok (.iload 6, 2) := by decide +kernel
theorem dW_457 : decode code 457 = .ok (.i2l, 1) := by decide +kernel
theorem dW_458 : decode code 458 = .ok (.lcmp, 1) := by decide +kernel
theorem dW_459 : decode code 459 = .ok (.ifCond .eq 5, 3) := by decide +kernel
theorem dW_462 : decode code 462 = .ok (.iconst 0, 1) := by decide +kernel
theorem dW_463 : decode code 463 = .ok (.ireturn, 1) := by decide +kernel
theorem dW_464 : decode code 464 = .ok (.goto 262, 3) := by decide +kernel
theorem dW_467 : decode code 467 = .ok (.aload_n 1, 1) := by decide +kernel
theorem dW_468 : decode code 468 = .ok (.aload_n 0, 1) := by decide +kernel
theorem dW_469 : decode code 469 = .ok (.iload 4, 2) := by decide +kernel
theorem dW_471 : decode code 471 = .ok (.iconst 1, 1) := by decide +kernel
theorem dW_472 : decode code 472 = .ok (.iadd, 1) := by decide +kernel
theorem dW_473 : decode code 473 = .ok (.iaload, 1) := by decide +kernel
theorem dW_474 : decode code 474 = .ok (.aload_n 3, 1) := by decide +kernel
theorem dW_475 : decode code 475 = .ok (.invokestatic 79, 3) := by decide +kernel
theorem dW_478 : decode code 478 = .ok (.istore 5, 2) := by decide +kernel
theorem dW_480 : decode code 480 = .ok (.aload_n 2, 1) := by decide +kernel
theorem dW_481 : decode code 481 = .ok (.aload_n 0, 1) := by decide +kernel
theorem dW_482 : decode code 482 = .ok (.iload 4, 2) := by decide +kernel
theorem dW_484 : decode code 484 = .ok (.iconst 1, 1) := by decide +kernel
theorem dW_485 : decode code 485 = .ok (.iadd, 1) := by decide +kernel
theorem dW_486 : decode code 486 = .ok (.iaload, 1) := by decide +kernel
theorem dW_487 : decode code 487 = .ok (.invokevirtual 81, 3) := by decide +kernel
theorem dW_490 : decode code 490 = .ok (.istore 6, 2) := by decide +kernel
theorem dW_492 : decode code 492 = .ok (.aload_n 2, 1) := by decide +kernel
theorem dW_493 : decode code 493 = .ok (.invokevirtual 65, 3) := by decide +kernel
theorem dW_496 : decode code 496 = .ok (.iload 5, 2) := by decide +kernel
theorem dW_498 : decode code 498 = .ok (.if_icmp .eq 5, 3) := by decide +kernel
theorem dW_501 : decode code 501 = .ok (.iconst 0, 1) := by decide +kernel
theorem dW_502 : decode code 502 = .ok (.ireturn, 1) := by decide +kernel
theorem dW_503 : decode code 503 = .ok (.iload 5, 2) := by decide +kernel
theorem dW_505 : decode code 505 = .ok (.ifCond .ne 15, 3) := by decide +kernel
theorem dW_508 : decode code 508 = .ok (.aload_n 3, 1) := by decide +kernel
theorem dW_509 : decode code 509 = .ok (.iconst 0, 1) := by decide +kernel
theorem dW_510 : decode code 510 = .ok (.laload, 1) := by decide +kernel
theorem dW_511 : decode code 511 = .ok (.iload 6, 2) := by decide +kernel
theorem dW_513 : decode code 513 = .ok (.i2l, 1) := by decide +kernel
theorem dW_514 : decode code 514 = .ok (.lcmp, 1) := by decide +kernel
theorem dW_515 : decode code 515 = .ok (.ifCond .eq 5, 3) := by decide +kernel
theorem dW_518 : decode code 518 = .ok (.iconst 0, 1) := by decide +kernel
theorem dW_519 : decode code 519 = .ok (.ireturn, 1) := by decide +kernel
theorem dW_520 : decode code 520 = .ok (.goto 206, 3) := by decide +kernel
theorem dW_523 : decode code 523 = .ok (.aload_n 1, 1) := by decide +kernel
theorem dW_524 : decode code 524 = .ok (.aload_n 0, 1) := by decide +kernel
theorem dW_525 : decode code 525 = .ok (.iload 4, 2) := by decide +kernel
theorem dW_527 : decode code 527 = .ok (.iconst 1, 1) := by decide +kernel
theorem dW_528 : decode code 528 = .ok (.iadd, 1) := by decide +kernel
theorem dW_529 : decode code 529 = .ok (.iaload, 1) := by decide +kernel
theorem dW_530 : decode code 530 = .ok (.aload_n 3, 1) := by decide +kernel
theorem dW_531 : decode code 531 = .ok (.invokestatic 82, 3) := by decide +kernel
theorem dW_534 : decode code 534 = .ok (.istore 5, 2) := by decide +kernel
theorem dW_536 : decode code 536 = .ok (.aload_n 2, 1) := by decide +kernel
theorem dW_537 : decode code 537 = .ok (.aload_n 0, 1) := by decide +kernel
theorem dW_538 : decode code 538 = .ok (.iload 4, 2) := by decide +kernel
theorem dW_540 : decode code 540 = .ok (.iconst 1, 1) := by decide +kernel
theorem dW_541 : decode code 541 = .ok (.iadd, 1) := by decide +kernel
theorem dW_542 : decode code 542 = .ok (.iaload, 1) := by decide +kernel
theorem dW_543 : decode code 543 = .ok (.invokevirtual 84, 3) := by decide +kernel
theorem dW_546 : decode code 546 = .ok (.istore 6, 2) := by decide +kernel
theorem dW_548 : decode code 548 = .ok (.aload_n 2, 1) := by decide +kernel
theorem dW_549 : decode code 549 = .ok (.invokevirtual 65, 3) := by decide +kernel
theorem dW_552 : decode code 552 = .ok (.iload 5, 2) := by decide +kernel
theorem dW_554 : decode code 554 = .ok (.if_icmp .eq 5, 3) := by decide +kernel
theorem dW_557 : decode code 557 = .ok (.iconst 0, 1) := by decide +kernel
theorem dW_558 : decode code 558 = .ok (.ireturn, 1) := by decide +kernel
theorem dW_559 : decode code 559 = .ok (.iload 5, 2) := by decide +kernel
theorem dW_561 : decode code 561 = .ok (.ifCond .ne 15, 3) := by decide +kernel
theorem dW_564 : decode code 564 = .ok (.aload_n 3, 1) := by decide +kernel
theorem dW_565 : decode code 565 = .ok (.iconst 0, 1) := by decide +kernel
theorem dW_566 : decode code 566 = .ok (.laload, 1) := by decide +kernel
theorem dW_567 : decode code 567 = .ok (.iload 6, 2) := by decide +kernel
theorem dW_569 : decode code 569 = .ok (.i2l, 1) := by decide +kernel
theorem dW_570 : decode code 570 = .ok (.lcmp, 1) := by decide +kernel
theorem dW_571 : decode code 571 = .ok (.ifCond .eq 5, 3) := by decide +kernel
theorem dW_574 : decode code 574 = .ok (.iconst 0, 1) := by decide +kernel
theorem dW_575 : decode code 575 = .ok (.ireturn, 1) := by decide +kernel
theorem dW_576 : decode code 576 = .ok (.goto 150, 3) := by decide +kernel
theorem dW_579 : decode code 579 = .ok (.aload_n 1, 1) := by decide +kernel
theorem dW_580 : decode code 580 = .ok (.aload_n 0, 1) := by decide +kernel
theorem dW_581 : decode code 581 = .ok (.iload 4, 2) := by decide +kernel
theorem dW_583 : decode code 583 = .ok (.iconst 1, 1) := by decide +kernel
theorem dW_584 : decode code 584 = .ok (.iadd, 1) := by decide +kernel
theorem dW_585 : decode code 585 = .ok (.iaload, 1) := by decide +kernel
theorem dW_586 : decode code 586 = .ok (.aload_n 0, 1) := by decide +kernel
theorem dW_587 : decode code 587 = .ok (.iload 4, 2) := by decide +kernel
theorem dW_589 : decode code 589 = .ok (.iconst 2, 1) := by decide +kernel
theorem dW_590 : decode code 590 = .ok (.iadd, 1) := by decide +kernel
theorem dW_591 : decode code 591 = .ok (.iaload, 1) := by decide +kernel
theorem dW_592 : decode code 592 = .ok (.ifCond .eq 7, 3) := by decide +kernel
theorem dW_595 : decode code 595 = .ok (.iconst 1, 1) := by decide +kernel
theorem dW_596 : decode code 596 = .ok (.goto 4, 3) := by decide +kernel
theorem dW_599 : decode code 599 = .ok (.iconst 0, 1) := by decide +kernel
theorem dW_600 : decode code 600 = .ok (.aload_n 3, 1) := by decide +kernel
theorem dW_601 : decode code 601 = .ok (.invokestatic 85, 3) := by decide +kernel
theorem dW_604 : decode code 604 = .ok (.istore 5, 2) := by decide +kernel
theorem dW_606 : decode code 606 = .ok (.aload_n 2, 1) := by decide +kernel
theorem dW_607 : decode code 607 = .ok (.aload_n 0, 1) := by decide +kernel
theorem dW_608 : decode code 608 = .ok (.iload 4, 2) := by decide +kernel
theorem dW_610 : decode code 610 = .ok (.iconst 1, 1) := by decide +kernel
theorem dW_611 : decode code 611 = .ok (.iadd, 1) := by decide +kernel
theorem dW_612 : decode code 612 = .ok (.iaload, 1) := by decide +kernel
theorem dW_613 : decode code 613 = .ok (.aload_n 0, 1) := by decide +kernel
theorem dW_614 : decode code 614 = .ok (.iload 4, 2) := by decide +kernel
theorem dW_616 : decode code 616 = .ok (.iconst 2, 1) := by decide +kernel
theorem dW_617 : decode code 617 = .ok (.iadd, 1) := by decide +kernel
theorem dW_618 : decode code 618 = .ok (.iaload, 1) := by decide +kernel
theorem dW_619 : decode code 619 = .ok (.ifCond .eq 7, 3) := by decide +kernel
theorem dW_622 : decode code 622 = .ok (.iconst 1, 1) := by decide +kernel
theorem dW_623 : decode code 623 = .ok (.goto 4, 3) := by decide +kernel
theorem dW_626 : decode code 626 = .ok (.iconst 0, 1) := by decide +kernel
theorem dW_627 : decode code 627 = .ok (.invokevirtual 88, 3) := by decide +kernel
theorem dW_630 : decode code 630 = .ok (.istore 6, 2) := by decide +kernel
theorem dW_632 : decode code 632 = .ok (.aload_n 2, 1) := by decide +kernel
theorem dW_633 : decode code 633 = .ok (.invokevirtual 65, 3) := by decide +kernel
theorem dW_636 : decode code 636 = .ok (.iload 5, 2) := by decide +kernel
theorem dW_638 : decode code 638 = .ok (.if_icmp .eq 5, 3) := by decide +kernel
theorem dW_641 : decode code 641 = .ok (.iconst 0, 1) := by decide +kernel
theorem dW_642 : decode code 642 = .ok (.ireturn, 1) := by decide +kernel
theorem dW_643 : decode code 643 = .ok (.iload 5, 2) := by decide +kernel
theorem dW_645 : decode code 645 = .ok (.ifCond .ne 15, 3) := by decide +kernel
theorem dW_648 : decode code 648 = .ok (.aload_n 3, 1) := by decide +kernel
theorem dW_649 : decode code 649 = .ok (.iconst 0, 1) := by decide +kernel
theorem dW_650 : decode code 650 = .ok (.laload, 1) := by decide +kernel
theorem dW_651 : decode code 651 = .ok (.iload 6, 2) := by decide +kernel
theorem dW_653 : decode code 653 = .ok (.i2l, 1) := by decide +kernel
theorem dW_654 : decode code 654 = .ok (.lcmp, 1) := by decide +kernel
theorem dW_655 : decode code 655 = .ok (.ifCond .eq 5, 3) := by decide +kernel
theorem dW_658 : decode code 658 = .ok (.iconst 0, 1) := by decide +kernel
theorem dW_659 : decode code 659 = .ok (.ireturn, 1) := by decide +kernel
theorem dW_660 : decode code 660 = .ok (.goto 66, 3) := by decide +kernel
theorem dW_663 : decode code 663 = .ok (.aload_n 1, 1) := by decide +kernel
theorem dW_664 : decode code 664 = .ok (.aload_n 0, 1) := by decide +kernel
theorem dW_665 : decode code 665 = .ok (.iload 4, 2) := by decide +kernel
theorem dW_667 : decode code 667 = .ok (.iconst 1, 1) := by decide +kernel
theorem dW_668 : decode code 668 = .ok (.iadd, 1) := by decide +kernel
theorem dW_669 : decode code 669 = .ok (.iaload, 1) := by decide +kernel
theorem dW_670 : decode code 670 = .ok (.invokevirtual 89, 3) := by decide +kernel
theorem dW_673 : decode code 673 = .ok (.aload_n 2, 1) := by decide +kernel
theorem dW_674 : decode code 674 = .ok (.aload_n 0, 1) := by decide +kernel
theorem dW_675 : decode code 675 = .ok (.iload 4, 2) := by decide +kernel
theorem dW_677 : decode code 677 = .ok (.iconst 1, 1) := by decide +kernel
theorem dW_678 : decode code 678 = .ok (.iadd, 1) := by decide +kernel
theorem dW_679 : decode code 679 = .ok (.iaload, 1) := by decide +kernel
theorem dW_680 : decode code 680 = .ok (.invokevirtual 92, 3) := by decide +kernel
theorem dW_683 : decode code 683 = .ok (.if_icmp .eq 43, 3) := by decide +kernel
theorem dW_686 : decode code 686 = .ok (.iconst 0, 1) := by decide +kernel
theorem dW_687 : decode code 687 = .ok (.ireturn, 1) := by decide +kernel
theorem dW_688 : decode code 688 = .ok (.aload_n 1, 1) := by decide +kernel
theorem dW_689 : decode code 689 = .ok (.invokevirtual 93, 3) := by decide +kernel
theorem dW_692 : decode code 692 = .ok (.aload_n 2, 1) := by decide +kernel
theorem dW_693 : decode code 693 = .ok (.invokevirtual 96, 3) := by decide +kernel
theorem dW_696 : decode code 696 = .ok (.if_icmp .eq 30, 3) := by decide +kernel
theorem dW_699 : decode code 699 = .ok (.iconst 0, 1) := by decide +kernel
theorem dW_700 : decode code 700 = .ok (.ireturn, 1) := by decide +kernel
theorem dW_701 : decode code 701 = .ok (.aload_n 1, 1) := by decide +kernel
theorem dW_702 : decode code 702 = .ok (.aload_n 0, 1) := by decide +kernel
theorem dW_703 : decode code 703 = .ok (.iload 4, 2) := by decide +kernel
theorem dW_705 : decode code 705 = .ok (.iconst 1, 1) := by decide +kernel
theorem dW_706 : decode code 706 = .ok (.iadd, 1) := by decide +kernel
theorem dW_707 : decode code 707 = .ok (.iaload, 1) := by decide +kernel
theorem dW_708 : decode code 708 = .ok (.invokevirtual 97, 3) := by decide +kernel
theorem dW_711 : decode code 711 = .ok (.aload_n 2, 1) := by decide +kernel
theorem dW_712 : decode code 712 = .ok (.aload_n 0, 1) := by decide +kernel
theorem dW_713 : decode code 713 = .ok (.iload 4, 2) := by decide +kernel
theorem dW_715 : decode code 715 = .ok (.iconst 1, 1) := by decide +kernel
theorem dW_716 : decode code 716 = .ok (.iadd, 1) := by decide +kernel
theorem dW_717 : decode code 717 = .ok (.iaload, 1) := by decide +kernel
theorem dW_718 : decode code 718 = .ok (.invokevirtual 100, 3) := by decide +kernel
theorem dW_721 : decode code 721 = .ok (.if_icmp .eq 5, 3) := by decide +kernel
theorem dW_724 : decode code 724 = .ok (.iconst 0, 1) := by decide +kernel
theorem dW_725 : decode code 725 = .ok (.ireturn, 1) := by decide +kernel
theorem dW_726 : decode code 726 = .ok (.iinc 4 4, 3) := by decide +kernel
theorem dW_729 : decode code 729 = .ok (.goto (-706), 3) := by decide +kernel
theorem dW_732 : decode code 732 = .ok (.iconst 1, 1) := by decide +kernel
theorem dW_733 : decode code 733 = .ok (.ireturn, 1) := by decide +kernel
set_option maxHeartbeats 4000000 in
set_option maxRecDepth 100000 in
theorem case_feed {p : Program} {l : Launch} {e : Env} {s : State} {m : MethodId} {below : List Frame} {meth : Method} {c : Code} {g : gT} {b L : Nat} {xs : Nat → Int32} {Q : State → Prop} {qq am : Nat → Nat} {qo q : Nat} {i j : Nat} (C : mCx p m c code 8 s #[Value.ref b] g "MidiDeskLaw") (hX : va_X b L xs s s.heap) (hbl : b < s.heap.size) (hE0 : kE (fun q : Nat => s.heap.size ≤ q) s s.heap) (hno : nC s) (hfl : l.flags = flags0) (hi : i + 4 ≤ L) (hL : L ≤ 2048) (hj : j < 512) {ad ea : Nat → Nat} {h : cH} {z : cZ} {f : Nat → Int64} {iv : Nat → Int32} {av : Nat → Nat → Int32} {H : Heap} {locs : List Loc} {cells slots : Nat} {ls : Array Slot} (hw : cWd g (fun q : Nat => s.heap.size ≤ q) s.heap qq ad ea h (lX g qo f q am iv av) z H locs) (r : Rel h z iv av) (hl : lv_has ls 8 [(0, .ref b), (1, .ref (qq 0)), (2, .ref q), (3, .ref qo), (4, .int (nt i))]) (B : Bud h cells slots j) (kk : ∀ (ad ea : Nat → Nat) (h : cH) (z : cZ) (f : Nat → Int64) (iv : Nat → Int32) (av : Nat → Nat → Int32) (H : Heap) (locs : List Loc) (cells slots : Nat) (ls : Array Slot), cWd g (fun q : Nat => s.heap.size ≤ q) s.heap qq ad ea h (lX g qo f q am iv av) z H locs → Rel h z iv av → lv_has ls 8 [(0, .ref b), (1, .ref (qq 0)), (2, .ref q), (3, .ref qo), (4, .int (nt i))] → Bud h cells slots (j + 1) → W p l e room_1 s m #[Value.ref b] below meth c H locs cells slots Q (F0 m 726 ls [])) : W p l e room_1 s m #[Value.ref b] below meth c H locs cells slots Q (F0 m 108 ls []) := by
  have hbA : ¬ (fun q : Nat => s.heap.size ≤ q) b := Nat.not_le.mpr hbl
  have in1 : vp_in (nt i + 1) L := in_k (k := 1) (by omega) (by omega)
  have in2 : vp_in (nt i + 2) L := in_k (k := 2) (by omega) (by omega)
  have in3 : vp_in (nt i + 3) L := in_k (k := 3) (by omega) (by omega)
  obtain ⟨v, h', z', iv', av', eC, eM, r', gg⟩ := r_feed r ((Int32.toInt64 (xs (nt i + 1).toNatClampNeg) <<< (Int32.toInt64 32 &&& 63)) ||| (Int32.toInt64 (xs (nt i + 2).toNatClampNeg) &&& 4294967295)) (xs (nt i + 3).toNatClampNeg)
  obtain ⟨rm1, rm2, rm3⟩ := Bud.gr r.ci r'.ci (by omega) B (gr0 gg) (oD_feed eC) (by omega) (by omega)
  refine lv_aload_n C.1.1 C.1.2.1 dW_108 rfl (lv_at hl 1 rfl) ?_
  refine lv_aload_n C.1.1 C.1.2.1 dW_109 rfl (lv_at hl 0 rfl) ?_
  refine lv_iload C.1.1 C.1.2.1 dW_110 (lv_at hl 4 rfl) ?_
  refine lv_iconst (v := 1) C.1.1 C.1.2.1 dW_112 (by decide) ?_
  refine lv_iadd C.1.1 C.1.2.1 dW_113 ?_
  refine va_sld C.1.1 C.1.2.1 hX hbl hbA hw.2.2.1 in1 dW_114 ?_
  refine lv_i2l (v := Int32.toInt64 (xs (nt i + 1).toNatClampNeg)) C.1.1 C.1.2.1 dW_115 rfl ?_
  refine lv_bipush (v := 32) C.1.1 C.1.2.1 dW_116 (by decide) ?_
  refine lv_lshl (v := ((Int32.toInt64 (xs (nt i + 1).toNatClampNeg)) <<< (Int32.toInt64 32 &&& 63))) C.1.1 C.1.2.1 dW_118 rfl ?_
  refine lv_aload_n C.1.1 C.1.2.1 dW_119 rfl (lv_at hl 0 rfl) ?_
  refine lv_iload C.1.1 C.1.2.1 dW_120 (lv_at hl 4 rfl) ?_
  refine lv_iconst (v := 2) C.1.1 C.1.2.1 dW_122 (by decide) ?_
  refine lv_iadd C.1.1 C.1.2.1 dW_123 ?_
  refine va_sld C.1.1 C.1.2.1 hX hbl hbA hw.2.2.1 in2 dW_124 ?_
  refine lv_i2l (v := Int32.toInt64 (xs (nt i + 2).toNatClampNeg)) C.1.1 C.1.2.1 dW_125 rfl ?_
  refine lv_ldc2 C.1.1 C.1.2.1 C.1.2.2.2.1 (C.1.2.2.2.2 _ gw_975) dW_126 ?_
  refine lv_land C.1.1 C.1.2.1 dW_129 ?_
  refine lv_lor C.1.1 C.1.2.1 dW_130 ?_
  refine lv_aload_n C.1.1 C.1.2.1 dW_131 rfl (lv_at hl 0 rfl) ?_
  refine lv_iload C.1.1 C.1.2.1 dW_132 (lv_at hl 4 rfl) ?_
  refine lv_iconst (v := 3) C.1.1 C.1.2.1 dW_134 (by decide) ?_
  refine lv_iadd C.1.1 C.1.2.1 dW_135 ?_
  refine va_sld C.1.1 C.1.2.1 hX hbl hbA hw.2.2.1 in3 dW_136 ?_
  refine c_callAA (rest := []) (As := [.long (((Int32.toInt64 (xs (nt i + 1).toNatClampNeg)) <<< (Int32.toInt64 32 &&& 63)) ||| ((Int32.toInt64 (xs (nt i + 2).toNatClampNeg)) &&& 4294967295)), .int (xs (nt i + 3).toNatClampNeg)]) (b := qq 0) C hl.1 hw (cD_feed_met eC) (callW_of (rm := rmA frD_feed loD_feed h h') (C := "MidiDesk") 2 C.1.2.2.2.2 gw_151 gw_152 gw_153 gw_52 gw_154 kD_feed ⟨(Nat.le_of_ble_eq_true rfl), (Nat.le_of_ble_eq_true rfl)⟩) (c_recv_desk C.2 hw) rfl rfl (Nat.le_of_ble_eq_true rfl) dW_137 rm1 (fun ad' H1 locs1 hw => ?_)
  refine W.eq (g2 := F0 m 140 ls [.int v]) rfl ?_
  refine lv_aload_n C.1.1 C.1.2.1 dW_140 rfl (lv_at hl 2 rfl) ?_
  refine lv_aload_n C.1.1 C.1.2.1 dW_141 rfl (lv_at hl 0 rfl) ?_
  refine lv_iload C.1.1 C.1.2.1 dW_142 (lv_at hl 4 rfl) ?_
  refine lv_iconst (v := 1) C.1.1 C.1.2.1 dW_144 (by decide) ?_
  refine lv_iadd C.1.1 C.1.2.1 dW_145 ?_
  refine va_sld C.1.1 C.1.2.1 hX hbl hbA hw.2.2.1 in1 dW_146 ?_
  refine lv_i2l (v := Int32.toInt64 (xs (nt i + 1).toNatClampNeg)) C.1.1 C.1.2.1 dW_147 rfl ?_
  refine lv_bipush (v := 32) C.1.1 C.1.2.1 dW_148 (by decide) ?_
  refine lv_lshl (v := ((Int32.toInt64 (xs (nt i + 1).toNatClampNeg)) <<< (Int32.toInt64 32 &&& 63))) C.1.1 C.1.2.1 dW_150 rfl ?_
  refine lv_aload_n C.1.1 C.1.2.1 dW_151 rfl (lv_at hl 0 rfl) ?_
  refine lv_iload C.1.1 C.1.2.1 dW_152 (lv_at hl 4 rfl) ?_
  refine lv_iconst (v := 2) C.1.1 C.1.2.1 dW_154 (by decide) ?_
  refine lv_iadd C.1.1 C.1.2.1 dW_155 ?_
  refine va_sld C.1.1 C.1.2.1 hX hbl hbA hw.2.2.1 in2 dW_156 ?_
  refine lv_i2l (v := Int32.toInt64 (xs (nt i + 2).toNatClampNeg)) C.1.1 C.1.2.1 dW_157 rfl ?_
  refine lv_ldc2 C.1.1 C.1.2.1 C.1.2.2.2.1 (C.1.2.2.2.2 _ gw_975) dW_158 ?_
  refine lv_land C.1.1 C.1.2.1 dW_161 ?_
  refine lv_lor C.1.1 C.1.2.1 dW_162 ?_
  refine lv_aload_n C.1.1 C.1.2.1 dW_163 rfl (lv_at hl 0 rfl) ?_
  refine lv_iload C.1.1 C.1.2.1 dW_164 (lv_at hl 4 rfl) ?_
  refine lv_iconst (v := 3) C.1.1 C.1.2.1 dW_166 (by decide) ?_
  refine lv_iadd C.1.1 C.1.2.1 dW_167 ?_
  refine va_sld C.1.1 C.1.2.1 hX hbl hbA hw.2.2.1 in3 dW_168 ?_
  refine mL_call (rest := [.int v]) (As := [.long (((Int32.toInt64 (xs (nt i + 1).toNatClampNeg)) <<< (Int32.toInt64 32 &&& 63)) ||| ((Int32.toInt64 (xs (nt i + 2).toNatClampNeg)) &&& 4294967295)), .int (xs (nt i + 3).toNatClampNeg)]) C hl.1 hw (cM_feed_met eM) (callW_of (rm := rM_feed) (C := "MidiDeskModel") 2 C.1.2.2.2.2 gw_795 gw_796 gw_797 gw_55 gw_798 kM_feed ⟨(Nat.le_of_ble_eq_true rfl), (Nat.le_of_ble_eq_true rfl)⟩) rfl rfl (Nat.le_of_ble_eq_true rfl) dW_169 rm1 (fun H2 locs2 hw => ?_)
  refine W.eq (g2 := F0 m 172 ls [.int v, .int v]) rfl ?_
  refine lv_icmp_eq (tgt := 726) C.1.1 C.1.2.1 dW_172 (by decide) (fun _ => ?_) (fun w => absurd rfl w)
  exact kk _ _ _ _ _ _ _ _ _ _ _ _ hw r' hl ⟨show _ ≤ _ from Nat.le_trans rm2 (by omega), show _ ≤ _ from Nat.le_trans rm3 (by omega)⟩
set_option maxHeartbeats 4000000 in
set_option maxRecDepth 100000 in
theorem case_read {p : Program} {l : Launch} {e : Env} {s : State} {m : MethodId} {below : List Frame} {meth : Method} {c : Code} {g : gT} {b L : Nat} {xs : Nat → Int32} {Q : State → Prop} {qq am : Nat → Nat} {qo q : Nat} {i j : Nat} (C : mCx p m c code 8 s #[Value.ref b] g "MidiDeskLaw") (hX : va_X b L xs s s.heap) (hbl : b < s.heap.size) (hE0 : kE (fun q : Nat => s.heap.size ≤ q) s s.heap) (hno : nC s) (hfl : l.flags = flags0) (hi : i + 4 ≤ L) (hL : L ≤ 2048) (hj : j < 512) {ad ea : Nat → Nat} {h : cH} {z : cZ} {f : Nat → Int64} {iv : Nat → Int32} {av : Nat → Nat → Int32} {H : Heap} {locs : List Loc} {cells slots : Nat} {ls : Array Slot} (hw : cWd g (fun q : Nat => s.heap.size ≤ q) s.heap qq ad ea h (lX g qo f q am iv av) z H locs) (r : Rel h z iv av) (hl : lv_has ls 8 [(0, .ref b), (1, .ref (qq 0)), (2, .ref q), (3, .ref qo), (4, .int (nt i))]) (B : Bud h cells slots j) (kk : ∀ (ad ea : Nat → Nat) (h : cH) (z : cZ) (f : Nat → Int64) (iv : Nat → Int32) (av : Nat → Nat → Int32) (H : Heap) (locs : List Loc) (cells slots : Nat) (ls : Array Slot), cWd g (fun q : Nat => s.heap.size ≤ q) s.heap qq ad ea h (lX g qo f q am iv av) z H locs → Rel h z iv av → lv_has ls 8 [(0, .ref b), (1, .ref (qq 0)), (2, .ref q), (3, .ref qo), (4, .int (nt i))] → Bud h cells slots (j + 1) → W p l e room_1 s m #[Value.ref b] below meth c H locs cells slots Q (F0 m 726 ls [])) : W p l e room_1 s m #[Value.ref b] below meth c H locs cells slots Q (F0 m 177 ls []) := by
  have hbA : ¬ (fun q : Nat => s.heap.size ≤ q) b := Nat.not_le.mpr hbl
  have in1 : vp_in (nt i + 1) L := in_k (k := 1) (by omega) (by omega)
  have in2 : vp_in (nt i + 2) L := in_k (k := 2) (by omega) (by omega)
  have in3 : vp_in (nt i + 3) L := in_k (k := 3) (by omega) (by omega)
  obtain ⟨v, h', z', iv', av', eC, eM, e0, r', gg⟩ := r_read r
  obtain ⟨rm1, rm2, rm3⟩ := Bud.gr r.ci r'.ci (by omega) B gg (oD_read eC) (by omega) (by omega)
  refine lv_aload_n C.1.1 C.1.2.1 dW_177 rfl (lv_at hl 1 rfl) ?_
  refine c_callA (rest := []) (As := []) (b := qq 0) C hl.1 hw (cD_read_met eC) (callW_of (rm := rmA frD_read loD_read h h') (C := "MidiDesk") 0 C.1.2.2.2.2 gw_179 gw_180 gw_181 gw_52 gw_182 kD_read ⟨(Nat.le_of_ble_eq_true rfl), (Nat.le_of_ble_eq_true rfl)⟩) (c_recv_desk C.2 hw) rfl rfl (Nat.le_of_ble_eq_true rfl) dW_178 rm1 (fun ad' ea' H1 locs1 _ hw => ?_)
  refine W.eq (g2 := F0 m 181 ls [.int v]) rfl ?_
  refine lv_aload_n C.1.1 C.1.2.1 dW_181 rfl (lv_at hl 2 rfl) ?_
  refine mL_call (rest := [.int v]) (As := []) C hl.1 hw (cM_read_met eM) (callW_of (rm := rM_read) (C := "MidiDeskModel") 0 C.1.2.2.2.2 gw_800 gw_801 gw_802 gw_55 gw_803 kM_read ⟨(Nat.le_of_ble_eq_true rfl), (Nat.le_of_ble_eq_true rfl)⟩) rfl rfl (Nat.le_of_ble_eq_true rfl) dW_182 rm1 (fun H2 locs2 hw => ?_)
  refine W.eq (g2 := F0 m 185 ls [.int v, .int v]) rfl ?_
  refine lv_icmp_eq (tgt := 726) C.1.1 C.1.2.1 dW_185 (by decide) (fun _ => ?_) (fun w => absurd rfl w)
  exact kk _ _ _ _ _ _ _ _ _ _ _ _ hw r' hl ⟨show _ ≤ _ from Nat.le_trans rm2 (by omega), show _ ≤ _ from Nat.le_trans rm3 (by omega)⟩
set_option maxHeartbeats 4000000 in
set_option maxRecDepth 100000 in
theorem case_event {p : Program} {l : Launch} {e : Env} {s : State} {m : MethodId} {below : List Frame} {meth : Method} {c : Code} {g : gT} {b L : Nat} {xs : Nat → Int32} {Q : State → Prop} {qq am : Nat → Nat} {qo q : Nat} {i j : Nat} (C : mCx p m c code 8 s #[Value.ref b] g "MidiDeskLaw") (hX : va_X b L xs s s.heap) (hbl : b < s.heap.size) (hE0 : kE (fun q : Nat => s.heap.size ≤ q) s s.heap) (hno : nC s) (hfl : l.flags = flags0) (hi : i + 4 ≤ L) (hL : L ≤ 2048) (hj : j < 512) {ad ea : Nat → Nat} {h : cH} {z : cZ} {f : Nat → Int64} {iv : Nat → Int32} {av : Nat → Nat → Int32} {H : Heap} {locs : List Loc} {cells slots : Nat} {ls : Array Slot} (hw : cWd g (fun q : Nat => s.heap.size ≤ q) s.heap qq ad ea h (lX g qo f q am iv av) z H locs) (r : Rel h z iv av) (hl : lv_has ls 8 [(0, .ref b), (1, .ref (qq 0)), (2, .ref q), (3, .ref qo), (4, .int (nt i))]) (B : Bud h cells slots j) (kk : ∀ (ad ea : Nat → Nat) (h : cH) (z : cZ) (f : Nat → Int64) (iv : Nat → Int32) (av : Nat → Nat → Int32) (H : Heap) (locs : List Loc) (cells slots : Nat) (ls : Array Slot), cWd g (fun q : Nat => s.heap.size ≤ q) s.heap qq ad ea h (lX g qo f q am iv av) z H locs → Rel h z iv av → lv_has ls 8 [(0, .ref b), (1, .ref (qq 0)), (2, .ref q), (3, .ref qo), (4, .int (nt i))] → Bud h cells slots (j + 1) → W p l e room_1 s m #[Value.ref b] below meth c H locs cells slots Q (F0 m 726 ls [])) : W p l e room_1 s m #[Value.ref b] below meth c H locs cells slots Q (F0 m 190 ls []) := by
  have hbA : ¬ (fun q : Nat => s.heap.size ≤ q) b := Nat.not_le.mpr hbl
  have in1 : vp_in (nt i + 1) L := in_k (k := 1) (by omega) (by omega)
  have in2 : vp_in (nt i + 2) L := in_k (k := 2) (by omega) (by omega)
  have in3 : vp_in (nt i + 3) L := in_k (k := 3) (by omega) (by omega)
  obtain ⟨v, eC, eM⟩ := r_event r (xs (nt i + 1).toNatClampNeg) (xs (nt i + 2).toNatClampNeg)
  refine lv_aload_n C.1.1 C.1.2.1 dW_190 rfl (lv_at hl 1 rfl) ?_
  refine lv_aload_n C.1.1 C.1.2.1 dW_191 rfl (lv_at hl 0 rfl) ?_
  refine lv_iload C.1.1 C.1.2.1 dW_192 (lv_at hl 4 rfl) ?_
  refine lv_iconst (v := 1) C.1.1 C.1.2.1 dW_194 (by decide) ?_
  refine lv_iadd C.1.1 C.1.2.1 dW_195 ?_
  refine va_sld C.1.1 C.1.2.1 hX hbl hbA hw.2.2.1 in1 dW_196 ?_
  refine lv_aload_n C.1.1 C.1.2.1 dW_197 rfl (lv_at hl 0 rfl) ?_
  refine lv_iload C.1.1 C.1.2.1 dW_198 (lv_at hl 4 rfl) ?_
  refine lv_iconst (v := 2) C.1.1 C.1.2.1 dW_200 (by decide) ?_
  refine lv_iadd C.1.1 C.1.2.1 dW_201 ?_
  refine va_sld C.1.1 C.1.2.1 hX hbl hbA hw.2.2.1 in2 dW_202 ?_
  refine c_callV (rest := []) (As := [.int (xs (nt i + 1).toNatClampNeg), .int (xs (nt i + 2).toNatClampNeg)]) (b := qq 0) C hl.1 hw (cD_event_met eC) rfl (callW_of (rm := rD_event) (C := "MidiDesk") 2 C.1.2.2.2.2 gw_393 gw_394 gw_395 gw_52 gw_396 kD_event ⟨(Nat.le_of_ble_eq_true rfl), (Nat.le_of_ble_eq_true rfl)⟩) (c_recv_desk C.2 hw) rfl rfl (Nat.le_of_ble_eq_true rfl) dW_203 (B.room (a := 0) (b := 0) r.ci (by omega) (by omega) (by omega)) (fun H1 locs1 hw => ?_)
  refine W.eq (g2 := F0 m 206 ls [.int v]) rfl ?_
  refine lv_aload_n C.1.1 C.1.2.1 dW_206 rfl (lv_at hl 2 rfl) ?_
  refine lv_aload_n C.1.1 C.1.2.1 dW_207 rfl (lv_at hl 0 rfl) ?_
  refine lv_iload C.1.1 C.1.2.1 dW_208 (lv_at hl 4 rfl) ?_
  refine lv_iconst (v := 1) C.1.1 C.1.2.1 dW_210 (by decide) ?_
  refine lv_iadd C.1.1 C.1.2.1 dW_211 ?_
  refine va_sld C.1.1 C.1.2.1 hX hbl hbA hw.2.2.1 in1 dW_212 ?_
  refine lv_aload_n C.1.1 C.1.2.1 dW_213 rfl (lv_at hl 0 rfl) ?_
  refine lv_iload C.1.1 C.1.2.1 dW_214 (lv_at hl 4 rfl) ?_
  refine lv_iconst (v := 2) C.1.1 C.1.2.1 dW_216 (by decide) ?_
  refine lv_iadd C.1.1 C.1.2.1 dW_217 ?_
  refine va_sld C.1.1 C.1.2.1 hX hbl hbA hw.2.2.1 in2 dW_218 ?_
  refine mL_call (rest := [.int v]) (As := [.int (xs (nt i + 1).toNatClampNeg), .int (xs (nt i + 2).toNatClampNeg)]) C hl.1 hw (cM_event_met eM) (callW_of (rm := rM_event) (C := "MidiDeskModel") 2 C.1.2.2.2.2 gw_860 gw_861 gw_862 gw_55 gw_863 kM_event ⟨(Nat.le_of_ble_eq_true rfl), (Nat.le_of_ble_eq_true rfl)⟩) rfl rfl (Nat.le_of_ble_eq_true rfl) dW_219 (B.room (a := 0) (b := 0) r.ci (by omega) (by omega) (by omega)) (fun H2 locs2 hw => ?_)
  refine W.eq (g2 := F0 m 222 ls [.int v, .int v]) rfl ?_
  refine lv_icmp_eq (tgt := 726) C.1.1 C.1.2.1 dW_222 (by decide) (fun _ => ?_) (fun w => absurd rfl w)
  exact kk _ _ _ _ _ _ _ _ _ _ _ _ hw r.thr hl B.up0
set_option maxHeartbeats 4000000 in
set_option maxRecDepth 100000 in
theorem case_byteOf {p : Program} {l : Launch} {e : Env} {s : State} {m : MethodId} {below : List Frame} {meth : Method} {c : Code} {g : gT} {b L : Nat} {xs : Nat → Int32} {Q : State → Prop} {qq am : Nat → Nat} {qo q : Nat} {i j : Nat} (C : mCx p m c code 8 s #[Value.ref b] g "MidiDeskLaw") (hX : va_X b L xs s s.heap) (hbl : b < s.heap.size) (hE0 : kE (fun q : Nat => s.heap.size ≤ q) s s.heap) (hno : nC s) (hfl : l.flags = flags0) (hi : i + 4 ≤ L) (hL : L ≤ 2048) (hj : j < 512) {ad ea : Nat → Nat} {h : cH} {z : cZ} {f : Nat → Int64} {iv : Nat → Int32} {av : Nat → Nat → Int32} {H : Heap} {locs : List Loc} {cells slots : Nat} {ls : Array Slot} (hw : cWd g (fun q : Nat => s.heap.size ≤ q) s.heap qq ad ea h (lX g qo f q am iv av) z H locs) (r : Rel h z iv av) (hl : lv_has ls 8 [(0, .ref b), (1, .ref (qq 0)), (2, .ref q), (3, .ref qo), (4, .int (nt i))]) (B : Bud h cells slots j) (kk : ∀ (ad ea : Nat → Nat) (h : cH) (z : cZ) (f : Nat → Int64) (iv : Nat → Int32) (av : Nat → Nat → Int32) (H : Heap) (locs : List Loc) (cells slots : Nat) (ls : Array Slot), cWd g (fun q : Nat => s.heap.size ≤ q) s.heap qq ad ea h (lX g qo f q am iv av) z H locs → Rel h z iv av → lv_has ls 8 [(0, .ref b), (1, .ref (qq 0)), (2, .ref q), (3, .ref qo), (4, .int (nt i))] → Bud h cells slots (j + 1) → W p l e room_1 s m #[Value.ref b] below meth c H locs cells slots Q (F0 m 726 ls [])) : W p l e room_1 s m #[Value.ref b] below meth c H locs cells slots Q (F0 m 227 ls []) := by
  have hbA : ¬ (fun q : Nat => s.heap.size ≤ q) b := Nat.not_le.mpr hbl
  have in1 : vp_in (nt i + 1) L := in_k (k := 1) (by omega) (by omega)
  have in2 : vp_in (nt i + 2) L := in_k (k := 2) (by omega) (by omega)
  have in3 : vp_in (nt i + 3) L := in_k (k := 3) (by omega) (by omega)
  obtain ⟨v, eC, eM⟩ := r_byteOf r (xs (nt i + 1).toNatClampNeg) (xs (nt i + 2).toNatClampNeg)
  refine lv_aload_n C.1.1 C.1.2.1 dW_227 rfl (lv_at hl 1 rfl) ?_
  refine lv_aload_n C.1.1 C.1.2.1 dW_228 rfl (lv_at hl 0 rfl) ?_
  refine lv_iload C.1.1 C.1.2.1 dW_229 (lv_at hl 4 rfl) ?_
  refine lv_iconst (v := 1) C.1.1 C.1.2.1 dW_231 (by decide) ?_
  refine lv_iadd C.1.1 C.1.2.1 dW_232 ?_
  refine va_sld C.1.1 C.1.2.1 hX hbl hbA hw.2.2.1 in1 dW_233 ?_
  refine lv_aload_n C.1.1 C.1.2.1 dW_234 rfl (lv_at hl 0 rfl) ?_
  refine lv_iload C.1.1 C.1.2.1 dW_235 (lv_at hl 4 rfl) ?_
  refine lv_iconst (v := 2) C.1.1 C.1.2.1 dW_237 (by decide) ?_
  refine lv_iadd C.1.1 C.1.2.1 dW_238 ?_
  refine va_sld C.1.1 C.1.2.1 hX hbl hbA hw.2.2.1 in2 dW_239 ?_
  refine c_callV (rest := []) (As := [.int (xs (nt i + 1).toNatClampNeg), .int (xs (nt i + 2).toNatClampNeg)]) (b := qq 0) C hl.1 hw (cD_byteOf_met eC) rfl (callW_of (rm := rD_byteOf) (C := "MidiDesk") 2 C.1.2.2.2.2 gw_401 gw_402 gw_403 gw_52 gw_404 kD_byteOf ⟨(Nat.le_of_ble_eq_true rfl), (Nat.le_of_ble_eq_true rfl)⟩) (c_recv_desk C.2 hw) rfl rfl (Nat.le_of_ble_eq_true rfl) dW_240 (B.room (a := 0) (b := 0) r.ci (by omega) (by omega) (by omega)) (fun H1 locs1 hw => ?_)
  refine W.eq (g2 := F0 m 243 ls [.int v]) rfl ?_
  refine lv_aload_n C.1.1 C.1.2.1 dW_243 rfl (lv_at hl 2 rfl) ?_
  refine lv_aload_n C.1.1 C.1.2.1 dW_244 rfl (lv_at hl 0 rfl) ?_
  refine lv_iload C.1.1 C.1.2.1 dW_245 (lv_at hl 4 rfl) ?_
  refine lv_iconst (v := 1) C.1.1 C.1.2.1 dW_247 (by decide) ?_
  refine lv_iadd C.1.1 C.1.2.1 dW_248 ?_
  refine va_sld C.1.1 C.1.2.1 hX hbl hbA hw.2.2.1 in1 dW_249 ?_
  refine lv_aload_n C.1.1 C.1.2.1 dW_250 rfl (lv_at hl 0 rfl) ?_
  refine lv_iload C.1.1 C.1.2.1 dW_251 (lv_at hl 4 rfl) ?_
  refine lv_iconst (v := 2) C.1.1 C.1.2.1 dW_253 (by decide) ?_
  refine lv_iadd C.1.1 C.1.2.1 dW_254 ?_
  refine va_sld C.1.1 C.1.2.1 hX hbl hbA hw.2.2.1 in2 dW_255 ?_
  refine mL_call (rest := [.int v]) (As := [.int (xs (nt i + 1).toNatClampNeg), .int (xs (nt i + 2).toNatClampNeg)]) C hl.1 hw (cM_byteOf_met eM) (callW_of (rm := rM_byteOf) (C := "MidiDeskModel") 2 C.1.2.2.2.2 gw_868 gw_869 gw_870 gw_55 gw_871 kM_byteOf ⟨(Nat.le_of_ble_eq_true rfl), (Nat.le_of_ble_eq_true rfl)⟩) rfl rfl (Nat.le_of_ble_eq_true rfl) dW_256 (B.room (a := 0) (b := 0) r.ci (by omega) (by omega) (by omega)) (fun H2 locs2 hw => ?_)
  refine W.eq (g2 := F0 m 259 ls [.int v, .int v]) rfl ?_
  refine lv_icmp_eq (tgt := 726) C.1.1 C.1.2.1 dW_259 (by decide) (fun _ => ?_) (fun w => absurd rfl w)
  exact kk _ _ _ _ _ _ _ _ _ _ _ _ hw r.thr hl B.up0
set_option maxHeartbeats 4000000 in
set_option maxRecDepth 100000 in
theorem case_length {p : Program} {l : Launch} {e : Env} {s : State} {m : MethodId} {below : List Frame} {meth : Method} {c : Code} {g : gT} {b L : Nat} {xs : Nat → Int32} {Q : State → Prop} {qq am : Nat → Nat} {qo q : Nat} {i j : Nat} (C : mCx p m c code 8 s #[Value.ref b] g "MidiDeskLaw") (hX : va_X b L xs s s.heap) (hbl : b < s.heap.size) (hE0 : kE (fun q : Nat => s.heap.size ≤ q) s s.heap) (hno : nC s) (hfl : l.flags = flags0) (hi : i + 4 ≤ L) (hL : L ≤ 2048) (hj : j < 512) {ad ea : Nat → Nat} {h : cH} {z : cZ} {f : Nat → Int64} {iv : Nat → Int32} {av : Nat → Nat → Int32} {H : Heap} {locs : List Loc} {cells slots : Nat} {ls : Array Slot} (hw : cWd g (fun q : Nat => s.heap.size ≤ q) s.heap qq ad ea h (lX g qo f q am iv av) z H locs) (r : Rel h z iv av) (hl : lv_has ls 8 [(0, .ref b), (1, .ref (qq 0)), (2, .ref q), (3, .ref qo), (4, .int (nt i))]) (B : Bud h cells slots j) (kk : ∀ (ad ea : Nat → Nat) (h : cH) (z : cZ) (f : Nat → Int64) (iv : Nat → Int32) (av : Nat → Nat → Int32) (H : Heap) (locs : List Loc) (cells slots : Nat) (ls : Array Slot), cWd g (fun q : Nat => s.heap.size ≤ q) s.heap qq ad ea h (lX g qo f q am iv av) z H locs → Rel h z iv av → lv_has ls 8 [(0, .ref b), (1, .ref (qq 0)), (2, .ref q), (3, .ref qo), (4, .int (nt i))] → Bud h cells slots (j + 1) → W p l e room_1 s m #[Value.ref b] below meth c H locs cells slots Q (F0 m 726 ls [])) : W p l e room_1 s m #[Value.ref b] below meth c H locs cells slots Q (F0 m 374 ls []) := by
  have hbA : ¬ (fun q : Nat => s.heap.size ≤ q) b := Nat.not_le.mpr hbl
  have in1 : vp_in (nt i + 1) L := in_k (k := 1) (by omega) (by omega)
  have in2 : vp_in (nt i + 2) L := in_k (k := 2) (by omega) (by omega)
  have in3 : vp_in (nt i + 3) L := in_k (k := 3) (by omega) (by omega)
  obtain ⟨v, eC, eM⟩ := r_length r (xs (nt i + 1).toNatClampNeg)
  refine lv_aload_n C.1.1 C.1.2.1 dW_374 rfl (lv_at hl 1 rfl) ?_
  refine lv_aload_n C.1.1 C.1.2.1 dW_375 rfl (lv_at hl 0 rfl) ?_
  refine lv_iload C.1.1 C.1.2.1 dW_376 (lv_at hl 4 rfl) ?_
  refine lv_iconst (v := 1) C.1.1 C.1.2.1 dW_378 (by decide) ?_
  refine lv_iadd C.1.1 C.1.2.1 dW_379 ?_
  refine va_sld C.1.1 C.1.2.1 hX hbl hbA hw.2.2.1 in1 dW_380 ?_
  refine c_callV (rest := []) (As := [.int (xs (nt i + 1).toNatClampNeg)]) (b := qq 0) C hl.1 hw (cD_length_met eC) rfl (callW_of (rm := rD_length) (C := "MidiDesk") 1 C.1.2.2.2.2 gw_406 gw_407 gw_408 gw_52 gw_409 kD_length ⟨(Nat.le_of_ble_eq_true rfl), (Nat.le_of_ble_eq_true rfl)⟩) (c_recv_desk C.2 hw) rfl rfl (Nat.le_of_ble_eq_true rfl) dW_381 (B.room (a := 0) (b := 0) r.ci (by omega) (by omega) (by omega)) (fun H1 locs1 hw => ?_)
  refine W.eq (g2 := F0 m 384 ls [.int v]) rfl ?_
  refine lv_aload_n C.1.1 C.1.2.1 dW_384 rfl (lv_at hl 2 rfl) ?_
  refine lv_aload_n C.1.1 C.1.2.1 dW_385 rfl (lv_at hl 0 rfl) ?_
  refine lv_iload C.1.1 C.1.2.1 dW_386 (lv_at hl 4 rfl) ?_
  refine lv_iconst (v := 1) C.1.1 C.1.2.1 dW_388 (by decide) ?_
  refine lv_iadd C.1.1 C.1.2.1 dW_389 ?_
  refine va_sld C.1.1 C.1.2.1 hX hbl hbA hw.2.2.1 in1 dW_390 ?_
  refine mL_call (rest := [.int v]) (As := [.int (xs (nt i + 1).toNatClampNeg)]) C hl.1 hw (cM_length_met eM) (callW_of (rm := rM_length) (C := "MidiDeskModel") 1 C.1.2.2.2.2 gw_901 gw_902 gw_903 gw_55 gw_904 kM_length ⟨(Nat.le_of_ble_eq_true rfl), (Nat.le_of_ble_eq_true rfl)⟩) rfl rfl (Nat.le_of_ble_eq_true rfl) dW_391 (B.room (a := 0) (b := 0) r.ci (by omega) (by omega) (by omega)) (fun H2 locs2 hw => ?_)
  refine W.eq (g2 := F0 m 394 ls [.int v, .int v]) rfl ?_
  refine lv_icmp_eq (tgt := 726) C.1.1 C.1.2.1 dW_394 (by decide) (fun _ => ?_) (fun w => absurd rfl w)
  exact kk _ _ _ _ _ _ _ _ _ _ _ _ hw r.thr hl B.up0
set_option maxHeartbeats 4000000 in
set_option maxRecDepth 100000 in
theorem case_written {p : Program} {l : Launch} {e : Env} {s : State} {m : MethodId} {below : List Frame} {meth : Method} {c : Code} {g : gT} {b L : Nat} {xs : Nat → Int32} {Q : State → Prop} {qq am : Nat → Nat} {qo q : Nat} {i j : Nat} (C : mCx p m c code 8 s #[Value.ref b] g "MidiDeskLaw") (hX : va_X b L xs s s.heap) (hbl : b < s.heap.size) (hE0 : kE (fun q : Nat => s.heap.size ≤ q) s s.heap) (hno : nC s) (hfl : l.flags = flags0) (hi : i + 4 ≤ L) (hL : L ≤ 2048) (hj : j < 512) {ad ea : Nat → Nat} {h : cH} {z : cZ} {f : Nat → Int64} {iv : Nat → Int32} {av : Nat → Nat → Int32} {H : Heap} {locs : List Loc} {cells slots : Nat} {ls : Array Slot} (hw : cWd g (fun q : Nat => s.heap.size ≤ q) s.heap qq ad ea h (lX g qo f q am iv av) z H locs) (r : Rel h z iv av) (hl : lv_has ls 8 [(0, .ref b), (1, .ref (qq 0)), (2, .ref q), (3, .ref qo), (4, .int (nt i))]) (B : Bud h cells slots j) (kk : ∀ (ad ea : Nat → Nat) (h : cH) (z : cZ) (f : Nat → Int64) (iv : Nat → Int32) (av : Nat → Nat → Int32) (H : Heap) (locs : List Loc) (cells slots : Nat) (ls : Array Slot), cWd g (fun q : Nat => s.heap.size ≤ q) s.heap qq ad ea h (lX g qo f q am iv av) z H locs → Rel h z iv av → lv_has ls 8 [(0, .ref b), (1, .ref (qq 0)), (2, .ref q), (3, .ref qo), (4, .int (nt i))] → Bud h cells slots (j + 1) → W p l e room_1 s m #[Value.ref b] below meth c H locs cells slots Q (F0 m 726 ls [])) : W p l e room_1 s m #[Value.ref b] below meth c H locs cells slots Q (F0 m 663 ls []) := by
  have hbA : ¬ (fun q : Nat => s.heap.size ≤ q) b := Nat.not_le.mpr hbl
  have in1 : vp_in (nt i + 1) L := in_k (k := 1) (by omega) (by omega)
  have in2 : vp_in (nt i + 2) L := in_k (k := 2) (by omega) (by omega)
  have in3 : vp_in (nt i + 3) L := in_k (k := 3) (by omega) (by omega)
  obtain ⟨v, eC, eM⟩ := r_written r (xs (nt i + 1).toNatClampNeg)
  refine lv_aload_n C.1.1 C.1.2.1 dW_663 rfl (lv_at hl 1 rfl) ?_
  refine lv_aload_n C.1.1 C.1.2.1 dW_664 rfl (lv_at hl 0 rfl) ?_
  refine lv_iload C.1.1 C.1.2.1 dW_665 (lv_at hl 4 rfl) ?_
  refine lv_iconst (v := 1) C.1.1 C.1.2.1 dW_667 (by decide) ?_
  refine lv_iadd C.1.1 C.1.2.1 dW_668 ?_
  refine va_sld C.1.1 C.1.2.1 hX hbl hbA hw.2.2.1 in1 dW_669 ?_
  refine c_callV (rest := []) (As := [.int (xs (nt i + 1).toNatClampNeg)]) (b := qq 0) C hl.1 hw (cD_written_met eC) rfl (callW_of (rm := rD_written) (C := "MidiDesk") 1 C.1.2.2.2.2 gw_427 gw_428 gw_429 gw_52 gw_430 kD_written ⟨(Nat.le_of_ble_eq_true rfl), (Nat.le_of_ble_eq_true rfl)⟩) (c_recv_desk C.2 hw) rfl rfl (Nat.le_of_ble_eq_true rfl) dW_670 (B.room (a := 0) (b := 0) r.ci (by omega) (by omega) (by omega)) (fun H1 locs1 hw => ?_)
  refine W.eq (g2 := F0 m 673 ls [.int v]) rfl ?_
  refine lv_aload_n C.1.1 C.1.2.1 dW_673 rfl (lv_at hl 2 rfl) ?_
  refine lv_aload_n C.1.1 C.1.2.1 dW_674 rfl (lv_at hl 0 rfl) ?_
  refine lv_iload C.1.1 C.1.2.1 dW_675 (lv_at hl 4 rfl) ?_
  refine lv_iconst (v := 1) C.1.1 C.1.2.1 dW_677 (by decide) ?_
  refine lv_iadd C.1.1 C.1.2.1 dW_678 ?_
  refine va_sld C.1.1 C.1.2.1 hX hbl hbA hw.2.2.1 in1 dW_679 ?_
  refine mL_call (rest := [.int v]) (As := [.int (xs (nt i + 1).toNatClampNeg)]) C hl.1 hw (cM_written_met eM) (callW_of (rm := rM_written) (C := "MidiDeskModel") 1 C.1.2.2.2.2 gw_959 gw_960 gw_961 gw_55 gw_962 kM_written ⟨(Nat.le_of_ble_eq_true rfl), (Nat.le_of_ble_eq_true rfl)⟩) rfl rfl (Nat.le_of_ble_eq_true rfl) dW_680 (B.room (a := 0) (b := 0) r.ci (by omega) (by omega) (by omega)) (fun H2 locs2 hw => ?_)
  refine W.eq (g2 := F0 m 683 ls [.int v, .int v]) rfl ?_
  refine lv_icmp_eq (tgt := 726) C.1.1 C.1.2.1 dW_683 (by decide) (fun _ => ?_) (fun w => absurd rfl w)
  exact kk _ _ _ _ _ _ _ _ _ _ _ _ hw r.thr hl B.up0
set_option maxHeartbeats 4000000 in
set_option maxRecDepth 100000 in
theorem case_back {p : Program} {l : Launch} {e : Env} {s : State} {m : MethodId} {below : List Frame} {meth : Method} {c : Code} {g : gT} {b L : Nat} {xs : Nat → Int32} {Q : State → Prop} {qq am : Nat → Nat} {qo q : Nat} {i j : Nat} (C : mCx p m c code 8 s #[Value.ref b] g "MidiDeskLaw") (hX : va_X b L xs s s.heap) (hbl : b < s.heap.size) (hE0 : kE (fun q : Nat => s.heap.size ≤ q) s s.heap) (hno : nC s) (hfl : l.flags = flags0) (hi : i + 4 ≤ L) (hL : L ≤ 2048) (hj : j < 512) {ad ea : Nat → Nat} {h : cH} {z : cZ} {f : Nat → Int64} {iv : Nat → Int32} {av : Nat → Nat → Int32} {H : Heap} {locs : List Loc} {cells slots : Nat} {ls : Array Slot} (hw : cWd g (fun q : Nat => s.heap.size ≤ q) s.heap qq ad ea h (lX g qo f q am iv av) z H locs) (r : Rel h z iv av) (hl : lv_has ls 8 [(0, .ref b), (1, .ref (qq 0)), (2, .ref q), (3, .ref qo), (4, .int (nt i))]) (B : Bud h cells slots j) (kk : ∀ (ad ea : Nat → Nat) (h : cH) (z : cZ) (f : Nat → Int64) (iv : Nat → Int32) (av : Nat → Nat → Int32) (H : Heap) (locs : List Loc) (cells slots : Nat) (ls : Array Slot), cWd g (fun q : Nat => s.heap.size ≤ q) s.heap qq ad ea h (lX g qo f q am iv av) z H locs → Rel h z iv av → lv_has ls 8 [(0, .ref b), (1, .ref (qq 0)), (2, .ref q), (3, .ref qo), (4, .int (nt i))] → Bud h cells slots (j + 1) → W p l e room_1 s m #[Value.ref b] below meth c H locs cells slots Q (F0 m 726 ls [])) : W p l e room_1 s m #[Value.ref b] below meth c H locs cells slots Q (F0 m 688 ls []) := by
  have hbA : ¬ (fun q : Nat => s.heap.size ≤ q) b := Nat.not_le.mpr hbl
  have in1 : vp_in (nt i + 1) L := in_k (k := 1) (by omega) (by omega)
  have in2 : vp_in (nt i + 2) L := in_k (k := 2) (by omega) (by omega)
  have in3 : vp_in (nt i + 3) L := in_k (k := 3) (by omega) (by omega)
  obtain ⟨v, h', z', iv', av', eC, eM, r', gg⟩ := r_back r 
  obtain ⟨rm1, rm2, rm3⟩ := Bud.gr r.ci r'.ci (by omega) B (gr0 gg) (oD_back eC) (by omega) (by omega)
  refine lv_aload_n C.1.1 C.1.2.1 dW_688 rfl (lv_at hl 1 rfl) ?_
  refine c_callAA (rest := []) (As := []) (b := qq 0) C hl.1 hw (cD_back_met eC) (callW_of (rm := rmA frD_back loD_back h h') (C := "MidiDesk") 0 C.1.2.2.2.2 gw_431 gw_432 gw_433 gw_52 gw_434 kD_back ⟨(Nat.le_of_ble_eq_true rfl), (Nat.le_of_ble_eq_true rfl)⟩) (c_recv_desk C.2 hw) rfl rfl (Nat.le_of_ble_eq_true rfl) dW_689 rm1 (fun ad' H1 locs1 hw => ?_)
  refine W.eq (g2 := F0 m 692 ls [.int v]) rfl ?_
  refine lv_aload_n C.1.1 C.1.2.1 dW_692 rfl (lv_at hl 2 rfl) ?_
  refine mL_call (rest := [.int v]) (As := []) C hl.1 hw (cM_back_met eM) (callW_of (rm := rM_back) (C := "MidiDeskModel") 0 C.1.2.2.2.2 gw_963 gw_964 gw_965 gw_55 gw_966 kM_back ⟨(Nat.le_of_ble_eq_true rfl), (Nat.le_of_ble_eq_true rfl)⟩) rfl rfl (Nat.le_of_ble_eq_true rfl) dW_693 rm1 (fun H2 locs2 hw => ?_)
  refine W.eq (g2 := F0 m 696 ls [.int v, .int v]) rfl ?_
  refine lv_icmp_eq (tgt := 726) C.1.1 C.1.2.1 dW_696 (by decide) (fun _ => ?_) (fun w => absurd rfl w)
  exact kk _ _ _ _ _ _ _ _ _ _ _ _ hw r' hl ⟨show _ ≤ _ from Nat.le_trans rm2 (by omega), show _ ≤ _ from Nat.le_trans rm3 (by omega)⟩
set_option maxHeartbeats 4000000 in
set_option maxRecDepth 100000 in
theorem case_count {p : Program} {l : Launch} {e : Env} {s : State} {m : MethodId} {below : List Frame} {meth : Method} {c : Code} {g : gT} {b L : Nat} {xs : Nat → Int32} {Q : State → Prop} {qq am : Nat → Nat} {qo q : Nat} {i j : Nat} (C : mCx p m c code 8 s #[Value.ref b] g "MidiDeskLaw") (hX : va_X b L xs s s.heap) (hbl : b < s.heap.size) (hE0 : kE (fun q : Nat => s.heap.size ≤ q) s s.heap) (hno : nC s) (hfl : l.flags = flags0) (hi : i + 4 ≤ L) (hL : L ≤ 2048) (hj : j < 512) {ad ea : Nat → Nat} {h : cH} {z : cZ} {f : Nat → Int64} {iv : Nat → Int32} {av : Nat → Nat → Int32} {H : Heap} {locs : List Loc} {cells slots : Nat} {ls : Array Slot} (hw : cWd g (fun q : Nat => s.heap.size ≤ q) s.heap qq ad ea h (lX g qo f q am iv av) z H locs) (r : Rel h z iv av) (hl : lv_has ls 8 [(0, .ref b), (1, .ref (qq 0)), (2, .ref q), (3, .ref qo), (4, .int (nt i))]) (B : Bud h cells slots j) (kk : ∀ (ad ea : Nat → Nat) (h : cH) (z : cZ) (f : Nat → Int64) (iv : Nat → Int32) (av : Nat → Nat → Int32) (H : Heap) (locs : List Loc) (cells slots : Nat) (ls : Array Slot), cWd g (fun q : Nat => s.heap.size ≤ q) s.heap qq ad ea h (lX g qo f q am iv av) z H locs → Rel h z iv av → lv_has ls 8 [(0, .ref b), (1, .ref (qq 0)), (2, .ref q), (3, .ref qo), (4, .int (nt i))] → Bud h cells slots (j + 1) → W p l e room_1 s m #[Value.ref b] below meth c H locs cells slots Q (F0 m 726 ls [])) : W p l e room_1 s m #[Value.ref b] below meth c H locs cells slots Q (F0 m 701 ls []) := by
  have hbA : ¬ (fun q : Nat => s.heap.size ≤ q) b := Nat.not_le.mpr hbl
  have in1 : vp_in (nt i + 1) L := in_k (k := 1) (by omega) (by omega)
  have in2 : vp_in (nt i + 2) L := in_k (k := 2) (by omega) (by omega)
  have in3 : vp_in (nt i + 3) L := in_k (k := 3) (by omega) (by omega)
  obtain ⟨v, eC, eM⟩ := r_count r (xs (nt i + 1).toNatClampNeg)
  refine lv_aload_n C.1.1 C.1.2.1 dW_701 rfl (lv_at hl 1 rfl) ?_
  refine lv_aload_n C.1.1 C.1.2.1 dW_702 rfl (lv_at hl 0 rfl) ?_
  refine lv_iload C.1.1 C.1.2.1 dW_703 (lv_at hl 4 rfl) ?_
  refine lv_iconst (v := 1) C.1.1 C.1.2.1 dW_705 (by decide) ?_
  refine lv_iadd C.1.1 C.1.2.1 dW_706 ?_
  refine va_sld C.1.1 C.1.2.1 hX hbl hbA hw.2.2.1 in1 dW_707 ?_
  refine c_callV (rest := []) (As := [.int (xs (nt i + 1).toNatClampNeg)]) (b := qq 0) C hl.1 hw (cD_count_met eC) rfl (callW_of (rm := rD_count) (C := "MidiDesk") 1 C.1.2.2.2.2 gw_435 gw_436 gw_437 gw_52 gw_438 kD_count ⟨(Nat.le_of_ble_eq_true rfl), (Nat.le_of_ble_eq_true rfl)⟩) (c_recv_desk C.2 hw) rfl rfl (Nat.le_of_ble_eq_true rfl) dW_708 (B.room (a := 0) (b := 0) r.ci (by omega) (by omega) (by omega)) (fun H1 locs1 hw => ?_)
  refine W.eq (g2 := F0 m 711 ls [.int v]) rfl ?_
  refine lv_aload_n C.1.1 C.1.2.1 dW_711 rfl (lv_at hl 2 rfl) ?_
  refine lv_aload_n C.1.1 C.1.2.1 dW_712 rfl (lv_at hl 0 rfl) ?_
  refine lv_iload C.1.1 C.1.2.1 dW_713 (lv_at hl 4 rfl) ?_
  refine lv_iconst (v := 1) C.1.1 C.1.2.1 dW_715 (by decide) ?_
  refine lv_iadd C.1.1 C.1.2.1 dW_716 ?_
  refine va_sld C.1.1 C.1.2.1 hX hbl hbA hw.2.2.1 in1 dW_717 ?_
  refine mL_call (rest := [.int v]) (As := [.int (xs (nt i + 1).toNatClampNeg)]) C hl.1 hw (cM_count_met eM) (callW_of (rm := rM_count) (C := "MidiDeskModel") 1 C.1.2.2.2.2 gw_967 gw_968 gw_969 gw_55 gw_970 kM_count ⟨(Nat.le_of_ble_eq_true rfl), (Nat.le_of_ble_eq_true rfl)⟩) rfl rfl (Nat.le_of_ble_eq_true rfl) dW_718 (B.room (a := 0) (b := 0) r.ci (by omega) (by omega) (by omega)) (fun H2 locs2 hw => ?_)
  refine W.eq (g2 := F0 m 721 ls [.int v, .int v]) rfl ?_
  refine lv_icmp_eq (tgt := 726) C.1.1 C.1.2.1 dW_721 (by decide) (fun _ => ?_) (fun w => absurd rfl w)
  exact kk _ _ _ _ _ _ _ _ _ _ _ _ hw r.thr hl B.up0
