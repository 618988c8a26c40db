section
-- ===== PART A: goes FIRST, ahead of the names: the tables' words, and 'selects' of the private methods out of them =====
/-- a private method of a class that the tables say can be made, by its rows of tables_1 -/
def lw_okq (q : MethodName × Nat) : Prop := (q.1.cls ≠ "java/lang/invoke/MethodHandle" ∧ q.1.cls ≠ "java/lang/invoke/VarHandle") ∧ Cond.instantiable q.1.cls q.2 ∈ tables_1 ∧ Cond.privateMethod q.1 ∈ tables_1 ∧ Cond.instanceMethod q.1 ∈ tables_1
theorem lw_p0 : lw_okq (⟨"MidiDesk$Parser", "head", "()V"⟩, 13) := ⟨⟨by decide +kernel, by decide +kernel⟩, List.mem_of_getElem? (i := 133) (by decide +kernel), List.mem_of_getElem? (i := 192) (by decide +kernel), List.mem_of_getElem? (i := 193) (by decide +kernel)⟩
theorem lw_p1 : lw_okq (⟨"MidiDesk$Parser", "fixed", "(I)J"⟩, 13) := ⟨⟨by decide +kernel, by decide +kernel⟩, List.mem_of_getElem? (i := 133) (by decide +kernel), List.mem_of_getElem? (i := 196) (by decide +kernel), List.mem_of_getElem? (i := 197) (by decide +kernel)⟩
theorem lw_p2 : lw_okq (⟨"MidiDesk$Parser", "expect", "(ZII)V"⟩, 13) := ⟨⟨by decide +kernel, by decide +kernel⟩, List.mem_of_getElem? (i := 133) (by decide +kernel), List.mem_of_getElem? (i := 200) (by decide +kernel), List.mem_of_getElem? (i := 201) (by decide +kernel)⟩
theorem lw_p3 : lw_okq (⟨"MidiDesk$Parser", "beginsTrack", "()Z"⟩, 13) := ⟨⟨by decide +kernel, by decide +kernel⟩, List.mem_of_getElem? (i := 133) (by decide +kernel), List.mem_of_getElem? (i := 214) (by decide +kernel), List.mem_of_getElem? (i := 215) (by decide +kernel)⟩
theorem lw_p4 : lw_okq (⟨"MidiDesk$Parser", "track", "()V"⟩, 13) := ⟨⟨by decide +kernel, by decide +kernel⟩, List.mem_of_getElem? (i := 133) (by decide +kernel), List.mem_of_getElem? (i := 219) (by decide +kernel), List.mem_of_getElem? (i := 220) (by decide +kernel)⟩
theorem lw_p5 : lw_okq (⟨"MidiDesk$Parser", "oneEvent", "()V"⟩, 13) := ⟨⟨by decide +kernel, by decide +kernel⟩, List.mem_of_getElem? (i := 133) (by decide +kernel), List.mem_of_getElem? (i := 223) (by decide +kernel), List.mem_of_getElem? (i := 224) (by decide +kernel)⟩
theorem lw_p6 : lw_okq (⟨"MidiDesk$Parser", "number", "()I"⟩, 13) := ⟨⟨by decide +kernel, by decide +kernel⟩, List.mem_of_getElem? (i := 133) (by decide +kernel), List.mem_of_getElem? (i := 227) (by decide +kernel), List.mem_of_getElem? (i := 228) (by decide +kernel)⟩
theorem lw_p7 : lw_okq (⟨"MidiDesk$Parser", "status", "()I"⟩, 13) := ⟨⟨by decide +kernel, by decide +kernel⟩, List.mem_of_getElem? (i := 133) (by decide +kernel), List.mem_of_getElem? (i := 232) (by decide +kernel), List.mem_of_getElem? (i := 233) (by decide +kernel)⟩
theorem lw_p8 : lw_okq (⟨"MidiDesk$Parser", "channelEvent", "(I)V"⟩, 13) := ⟨⟨by decide +kernel, by decide +kernel⟩, List.mem_of_getElem? (i := 133) (by decide +kernel), List.mem_of_getElem? (i := 236) (by decide +kernel), List.mem_of_getElem? (i := 237) (by decide +kernel)⟩
theorem lw_p9 : lw_okq (⟨"MidiDesk$Parser", "lowByte", "()I"⟩, 13) := ⟨⟨by decide +kernel, by decide +kernel⟩, List.mem_of_getElem? (i := 133) (by decide +kernel), List.mem_of_getElem? (i := 240) (by decide +kernel), List.mem_of_getElem? (i := 241) (by decide +kernel)⟩
theorem lw_p10 : lw_okq (⟨"MidiDesk$Parser", "metaEvent", "()V"⟩, 13) := ⟨⟨by decide +kernel, by decide +kernel⟩, List.mem_of_getElem? (i := 133) (by decide +kernel), List.mem_of_getElem? (i := 247) (by decide +kernel), List.mem_of_getElem? (i := 248) (by decide +kernel)⟩
theorem lw_p11 : lw_okq (⟨"MidiDesk$Parser", "passData", "()V"⟩, 13) := ⟨⟨by decide +kernel, by decide +kernel⟩, List.mem_of_getElem? (i := 133) (by decide +kernel), List.mem_of_getElem? (i := 251) (by decide +kernel), List.mem_of_getElem? (i := 252) (by decide +kernel)⟩
theorem lw_p12 : lw_okq (⟨"MidiDesk$Parser", "exclusiveEvent", "()V"⟩, 13) := ⟨⟨by decide +kernel, by decide +kernel⟩, List.mem_of_getElem? (i := 133) (by decide +kernel), List.mem_of_getElem? (i := 255) (by decide +kernel), List.mem_of_getElem? (i := 256) (by decide +kernel)⟩
theorem lw_p13 : lw_okq (⟨"MidiDesk$Parser", "keep", "(I)V"⟩, 13) := ⟨⟨by decide +kernel, by decide +kernel⟩, List.mem_of_getElem? (i := 133) (by decide +kernel), List.mem_of_getElem? (i := 267) (by decide +kernel), List.mem_of_getElem? (i := 268) (by decide +kernel)⟩
theorem lw_p14 : lw_okq (⟨"MidiDesk$Score", "mergeRuns", "(III)V"⟩, 8) := ⟨⟨by decide +kernel, by decide +kernel⟩, List.mem_of_getElem? (i := 42) (by decide +kernel), List.mem_of_getElem? (i := 334) (by decide +kernel), List.mem_of_getElem? (i := 335) (by decide +kernel)⟩
theorem lw_p15 : lw_okq (⟨"MidiDesk", "headValue", "(I)I"⟩, 3) := ⟨⟨by decide +kernel, by decide +kernel⟩, List.mem_of_getElem? (i := 17) (by decide +kernel), List.mem_of_getElem? (i := 405) (by decide +kernel), List.mem_of_getElem? (i := 406) (by decide +kernel)⟩
def lw_privs_1 : List (MethodName × Nat) := [(⟨"MidiDesk$Parser", "head", "()V"⟩, 13), (⟨"MidiDesk$Parser", "fixed", "(I)J"⟩, 13), (⟨"MidiDesk$Parser", "expect", "(ZII)V"⟩, 13), (⟨"MidiDesk$Parser", "beginsTrack", "()Z"⟩, 13), (⟨"MidiDesk$Parser", "track", "()V"⟩, 13), (⟨"MidiDesk$Parser", "oneEvent", "()V"⟩, 13), (⟨"MidiDesk$Parser", "number", "()I"⟩, 13), (⟨"MidiDesk$Parser", "status", "()I"⟩, 13), (⟨"MidiDesk$Parser", "channelEvent", "(I)V"⟩, 13), (⟨"MidiDesk$Parser", "lowByte", "()I"⟩, 13), (⟨"MidiDesk$Parser", "metaEvent", "()V"⟩, 13), (⟨"MidiDesk$Parser", "passData", "()V"⟩, 13), (⟨"MidiDesk$Parser", "exclusiveEvent", "()V"⟩, 13), (⟨"MidiDesk$Parser", "keep", "(I)V"⟩, 13), (⟨"MidiDesk$Score", "mergeRuns", "(III)V"⟩, 8), (⟨"MidiDesk", "headValue", "(I)I"⟩, 3)]
theorem lw_r1 : ∀ q ∈ lw_privs_1, lw_okq q := List.forall_mem_cons.mpr ⟨lw_p0, List.forall_mem_cons.mpr ⟨lw_p1, List.forall_mem_cons.mpr ⟨lw_p2, List.forall_mem_cons.mpr ⟨lw_p3, List.forall_mem_cons.mpr ⟨lw_p4, List.forall_mem_cons.mpr ⟨lw_p5, List.forall_mem_cons.mpr ⟨lw_p6, List.forall_mem_cons.mpr ⟨lw_p7, List.forall_mem_cons.mpr ⟨lw_p8, List.forall_mem_cons.mpr ⟨lw_p9, List.forall_mem_cons.mpr ⟨lw_p10, List.forall_mem_cons.mpr ⟨lw_p11, List.forall_mem_cons.mpr ⟨lw_p12, List.forall_mem_cons.mpr ⟨lw_p13, List.forall_mem_cons.mpr ⟨lw_p14, List.forall_mem_cons.mpr ⟨lw_p15, fun _ h => absurd h List.not_mem_nil⟩⟩⟩⟩⟩⟩⟩⟩⟩⟩⟩⟩⟩⟩⟩⟩
theorem lw_p16 : lw_okq (⟨"MidiDesk$Score", "hasFrames", "()Z"⟩, 8) := ⟨⟨by decide +kernel, by decide +kernel⟩, List.mem_of_getElem? (i := 42) (by decide +kernel), List.mem_of_getElem? (i := 413) (by decide +kernel), List.mem_of_getElem? (i := 414) (by decide +kernel)⟩
theorem lw_p17 : lw_okq (⟨"MidiDesk$Score", "frames", "()I"⟩, 8) := ⟨⟨by decide +kernel, by decide +kernel⟩, List.mem_of_getElem? (i := 42) (by decide +kernel), List.mem_of_getElem? (i := 417) (by decide +kernel), List.mem_of_getElem? (i := 418) (by decide +kernel)⟩
theorem lw_p18 : lw_okq (⟨"MidiDesk", "needList", "()V"⟩, 3) := ⟨⟨by decide +kernel, by decide +kernel⟩, List.mem_of_getElem? (i := 17) (by decide +kernel), List.mem_of_getElem? (i := 430) (by decide +kernel), List.mem_of_getElem? (i := 431) (by decide +kernel)⟩
theorem lw_p19 : lw_okq (⟨"java/lang/Throwable", "fillInStackTrace", "(I)Ljava/lang/Throwable;"⟩, 6) := ⟨⟨by decide +kernel, by decide +kernel⟩, List.mem_of_getElem? (i := 471) (by decide +kernel), List.mem_of_getElem? (i := 469) (by decide +kernel), List.mem_of_getElem? (i := 470) (by decide +kernel)⟩
theorem lw_p20 : lw_okq (⟨"MidiDesk", "needTick", "(I)V"⟩, 3) := ⟨⟨by decide +kernel, by decide +kernel⟩, List.mem_of_getElem? (i := 17) (by decide +kernel), List.mem_of_getElem? (i := 501) (by decide +kernel), List.mem_of_getElem? (i := 502) (by decide +kernel)⟩
theorem lw_p21 : lw_okq (⟨"MidiDesk$Score", "tempoOf", "(LMidiDesk$Event;)I"⟩, 8) := ⟨⟨by decide +kernel, by decide +kernel⟩, List.mem_of_getElem? (i := 42) (by decide +kernel), List.mem_of_getElem? (i := 529) (by decide +kernel), List.mem_of_getElem? (i := 530) (by decide +kernel)⟩
theorem lw_p22 : lw_okq (⟨"MidiDesk$Printer", "putFixed", "(II)V"⟩, 5) := ⟨⟨by decide +kernel, by decide +kernel⟩, List.mem_of_getElem? (i := 601) (by decide +kernel), List.mem_of_getElem? (i := 629) (by decide +kernel), List.mem_of_getElem? (i := 630) (by decide +kernel)⟩
theorem lw_p23 : lw_okq (⟨"MidiDesk$Printer", "putTrack", "(I)V"⟩, 5) := ⟨⟨by decide +kernel, by decide +kernel⟩, List.mem_of_getElem? (i := 601) (by decide +kernel), List.mem_of_getElem? (i := 634) (by decide +kernel), List.mem_of_getElem? (i := 635) (by decide +kernel)⟩
theorem lw_p24 : lw_okq (⟨"MidiDesk$Printer", "putEvent", "(LMidiDesk$Event;)V"⟩, 5) := ⟨⟨by decide +kernel, by decide +kernel⟩, List.mem_of_getElem? (i := 601) (by decide +kernel), List.mem_of_getElem? (i := 641) (by decide +kernel), List.mem_of_getElem? (i := 642) (by decide +kernel)⟩
theorem lw_p25 : lw_okq (⟨"MidiDesk$Printer", "putNumber", "(I)V"⟩, 5) := ⟨⟨by decide +kernel, by decide +kernel⟩, List.mem_of_getElem? (i := 601) (by decide +kernel), List.mem_of_getElem? (i := 645) (by decide +kernel), List.mem_of_getElem? (i := 646) (by decide +kernel)⟩
theorem lw_p26 : lw_okq (⟨"MidiDeskModel", "head", "()V"⟩, 25) := ⟨⟨by decide +kernel, by decide +kernel⟩, List.mem_of_getElem? (i := 658) (by decide +kernel), List.mem_of_getElem? (i := 754) (by decide +kernel), List.mem_of_getElem? (i := 755) (by decide +kernel)⟩
theorem lw_p27 : lw_okq (⟨"MidiDeskModel", "taken", "(I)J"⟩, 25) := ⟨⟨by decide +kernel, by decide +kernel⟩, List.mem_of_getElem? (i := 658) (by decide +kernel), List.mem_of_getElem? (i := 758) (by decide +kernel), List.mem_of_getElem? (i := 759) (by decide +kernel)⟩
theorem lw_p28 : lw_okq (⟨"MidiDeskModel", "fail", "(II)V"⟩, 25) := ⟨⟨by decide +kernel, by decide +kernel⟩, List.mem_of_getElem? (i := 658) (by decide +kernel), List.mem_of_getElem? (i := 762) (by decide +kernel), List.mem_of_getElem? (i := 763) (by decide +kernel)⟩
theorem lw_p29 : lw_okq (⟨"MidiDeskModel", "track", "(I)V"⟩, 25) := ⟨⟨by decide +kernel, by decide +kernel⟩, List.mem_of_getElem? (i := 658) (by decide +kernel), List.mem_of_getElem? (i := 773) (by decide +kernel), List.mem_of_getElem? (i := 774) (by decide +kernel)⟩
theorem lw_p30 : lw_okq (⟨"MidiDeskModel", "number", "()I"⟩, 25) := ⟨⟨by decide +kernel, by decide +kernel⟩, List.mem_of_getElem? (i := 658) (by decide +kernel), List.mem_of_getElem? (i := 777) (by decide +kernel), List.mem_of_getElem? (i := 778) (by decide +kernel)⟩
theorem lw_p31 : lw_okq (⟨"MidiDeskModel", "event", "(IIII)Z"⟩, 25) := ⟨⟨by decide +kernel, by decide +kernel⟩, List.mem_of_getElem? (i := 658) (by decide +kernel), List.mem_of_getElem? (i := 782) (by decide +kernel), List.mem_of_getElem? (i := 783) (by decide +kernel)⟩
def lw_privs_2 : List (MethodName × Nat) := [(⟨"MidiDesk$Score", "hasFrames", "()Z"⟩, 8), (⟨"MidiDesk$Score", "frames", "()I"⟩, 8), (⟨"MidiDesk", "needList", "()V"⟩, 3), (⟨"java/lang/Throwable", "fillInStackTrace", "(I)Ljava/lang/Throwable;"⟩, 6), (⟨"MidiDesk", "needTick", "(I)V"⟩, 3), (⟨"MidiDesk$Score", "tempoOf", "(LMidiDesk$Event;)I"⟩, 8), (⟨"MidiDesk$Printer", "putFixed", "(II)V"⟩, 5), (⟨"MidiDesk$Printer", "putTrack", "(I)V"⟩, 5), (⟨"MidiDesk$Printer", "putEvent", "(LMidiDesk$Event;)V"⟩, 5), (⟨"MidiDesk$Printer", "putNumber", "(I)V"⟩, 5), (⟨"MidiDeskModel", "head", "()V"⟩, 25), (⟨"MidiDeskModel", "taken", "(I)J"⟩, 25), (⟨"MidiDeskModel", "fail", "(II)V"⟩, 25), (⟨"MidiDeskModel", "track", "(I)V"⟩, 25), (⟨"MidiDeskModel", "number", "()I"⟩, 25), (⟨"MidiDeskModel", "event", "(IIII)Z"⟩, 25)]
theorem lw_r2 : ∀ q ∈ lw_privs_2, lw_okq q := List.forall_mem_cons.mpr ⟨lw_p16, List.forall_mem_cons.mpr ⟨lw_p17, List.forall_mem_cons.mpr ⟨lw_p18, List.forall_mem_cons.mpr ⟨lw_p19, List.forall_mem_cons.mpr ⟨lw_p20, List.forall_mem_cons.mpr ⟨lw_p21, List.forall_mem_cons.mpr ⟨lw_p22, List.forall_mem_cons.mpr ⟨lw_p23, List.forall_mem_cons.mpr ⟨lw_p24, List.forall_mem_cons.mpr ⟨lw_p25, List.forall_mem_cons.mpr ⟨lw_p26, List.forall_mem_cons.mpr ⟨lw_p27, List.forall_mem_cons.mpr ⟨lw_p28, List.forall_mem_cons.mpr ⟨lw_p29, List.forall_mem_cons.mpr ⟨lw_p30, List.forall_mem_cons.mpr ⟨lw_p31, fun _ h => absurd h List.not_mem_nil⟩⟩⟩⟩⟩⟩⟩⟩⟩⟩⟩⟩⟩⟩⟩⟩
theorem lw_p32 : lw_okq (⟨"MidiDeskModel", "small", "()I"⟩, 25) := ⟨⟨by decide +kernel, by decide +kernel⟩, List.mem_of_getElem? (i := 658) (by decide +kernel), List.mem_of_getElem? (i := 786) (by decide +kernel), List.mem_of_getElem? (i := 787) (by decide +kernel)⟩
theorem lw_p33 : lw_okq (⟨"MidiDeskModel", "follow", "(II)V"⟩, 25) := ⟨⟨by decide +kernel, by decide +kernel⟩, List.mem_of_getElem? (i := 658) (by decide +kernel), List.mem_of_getElem? (i := 790) (by decide +kernel), List.mem_of_getElem? (i := 791) (by decide +kernel)⟩
theorem lw_p34 : lw_okq (⟨"MidiDeskModel", "tempo", "(I)I"⟩, 25) := ⟨⟨by decide +kernel, by decide +kernel⟩, List.mem_of_getElem? (i := 658) (by decide +kernel), List.mem_of_getElem? (i := 794) (by decide +kernel), List.mem_of_getElem? (i := 795) (by decide +kernel)⟩
theorem lw_p35 : lw_okq (⟨"MidiDeskModel", "sort", "()V"⟩, 25) := ⟨⟨by decide +kernel, by decide +kernel⟩, List.mem_of_getElem? (i := 658) (by decide +kernel), List.mem_of_getElem? (i := 798) (by decide +kernel), List.mem_of_getElem? (i := 799) (by decide +kernel)⟩
theorem lw_p36 : lw_okq (⟨"MidiDeskModel", "again", "()V"⟩, 25) := ⟨⟨by decide +kernel, by decide +kernel⟩, List.mem_of_getElem? (i := 658) (by decide +kernel), List.mem_of_getElem? (i := 802) (by decide +kernel), List.mem_of_getElem? (i := 803) (by decide +kernel)⟩
theorem lw_p37 : lw_okq (⟨"MidiDeskModel", "isBefore", "(II)Z"⟩, 25) := ⟨⟨by decide +kernel, by decide +kernel⟩, List.mem_of_getElem? (i := 658) (by decide +kernel), List.mem_of_getElem? (i := 806) (by decide +kernel), List.mem_of_getElem? (i := 807) (by decide +kernel)⟩
theorem lw_p38 : lw_okq (⟨"MidiDeskModel", "has", "(I)Z"⟩, 25) := ⟨⟨by decide +kernel, by decide +kernel⟩, List.mem_of_getElem? (i := 658) (by decide +kernel), List.mem_of_getElem? (i := 814) (by decide +kernel), List.mem_of_getElem? (i := 815) (by decide +kernel)⟩
theorem lw_p39 : lw_okq (⟨"MidiDeskModel", "fails", "(ZZ)Z"⟩, 25) := ⟨⟨by decide +kernel, by decide +kernel⟩, List.mem_of_getElem? (i := 658) (by decide +kernel), List.mem_of_getElem? (i := 827) (by decide +kernel), List.mem_of_getElem? (i := 828) (by decide +kernel)⟩
theorem lw_p40 : lw_okq (⟨"MidiDeskModel", "timed", "(I)J"⟩, 25) := ⟨⟨by decide +kernel, by decide +kernel⟩, List.mem_of_getElem? (i := 658) (by decide +kernel), List.mem_of_getElem? (i := 831) (by decide +kernel), List.mem_of_getElem? (i := 832) (by decide +kernel)⟩
theorem lw_p41 : lw_okq (⟨"MidiDeskModel", "isTempo", "(I)Z"⟩, 25) := ⟨⟨by decide +kernel, by decide +kernel⟩, List.mem_of_getElem? (i := 658) (by decide +kernel), List.mem_of_getElem? (i := 838) (by decide +kernel), List.mem_of_getElem? (i := 839) (by decide +kernel)⟩
theorem lw_p42 : lw_okq (⟨"MidiDeskModel", "parts", "()J"⟩, 25) := ⟨⟨by decide +kernel, by decide +kernel⟩, List.mem_of_getElem? (i := 658) (by decide +kernel), List.mem_of_getElem? (i := 842) (by decide +kernel), List.mem_of_getElem? (i := 843) (by decide +kernel)⟩
theorem lw_p43 : lw_okq (⟨"MidiDeskModel", "begins", "(I)Z"⟩, 25) := ⟨⟨by decide +kernel, by decide +kernel⟩, List.mem_of_getElem? (i := 658) (by decide +kernel), List.mem_of_getElem? (i := 855) (by decide +kernel), List.mem_of_getElem? (i := 856) (by decide +kernel)⟩
theorem lw_p44 : lw_okq (⟨"MidiDeskModel", "ends", "(I)Z"⟩, 25) := ⟨⟨by decide +kernel, by decide +kernel⟩, List.mem_of_getElem? (i := 658) (by decide +kernel), List.mem_of_getElem? (i := 859) (by decide +kernel), List.mem_of_getElem? (i := 860) (by decide +kernel)⟩
theorem lw_p45 : lw_okq (⟨"MidiDeskModel", "isNote", "(II)Z"⟩, 25) := ⟨⟨by decide +kernel, by decide +kernel⟩, List.mem_of_getElem? (i := 658) (by decide +kernel), List.mem_of_getElem? (i := 867) (by decide +kernel), List.mem_of_getElem? (i := 868) (by decide +kernel)⟩
theorem lw_p46 : lw_okq (⟨"MidiDeskModel", "put", "(II)V"⟩, 25) := ⟨⟨by decide +kernel, by decide +kernel⟩, List.mem_of_getElem? (i := 658) (by decide +kernel), List.mem_of_getElem? (i := 890) (by decide +kernel), List.mem_of_getElem? (i := 891) (by decide +kernel)⟩
theorem lw_p47 : lw_okq (⟨"MidiDeskModel", "put", "(I)V"⟩, 25) := ⟨⟨by decide +kernel, by decide +kernel⟩, List.mem_of_getElem? (i := 658) (by decide +kernel), List.mem_of_getElem? (i := 894) (by decide +kernel), List.mem_of_getElem? (i := 895) (by decide +kernel)⟩
def lw_privs_3 : List (MethodName × Nat) := [(⟨"MidiDeskModel", "small", "()I"⟩, 25), (⟨"MidiDeskModel", "follow", "(II)V"⟩, 25), (⟨"MidiDeskModel", "tempo", "(I)I"⟩, 25), (⟨"MidiDeskModel", "sort", "()V"⟩, 25), (⟨"MidiDeskModel", "again", "()V"⟩, 25), (⟨"MidiDeskModel", "isBefore", "(II)Z"⟩, 25), (⟨"MidiDeskModel", "has", "(I)Z"⟩, 25), (⟨"MidiDeskModel", "fails", "(ZZ)Z"⟩, 25), (⟨"MidiDeskModel", "timed", "(I)J"⟩, 25), (⟨"MidiDeskModel", "isTempo", "(I)Z"⟩, 25), (⟨"MidiDeskModel", "parts", "()J"⟩, 25), (⟨"MidiDeskModel", "begins", "(I)Z"⟩, 25), (⟨"MidiDeskModel", "ends", "(I)Z"⟩, 25), (⟨"MidiDeskModel", "isNote", "(II)Z"⟩, 25), (⟨"MidiDeskModel", "put", "(II)V"⟩, 25), (⟨"MidiDeskModel", "put", "(I)V"⟩, 25)]
theorem lw_r3 : ∀ q ∈ lw_privs_3, lw_okq q := List.forall_mem_cons.mpr ⟨lw_p32, List.forall_mem_cons.mpr ⟨lw_p33, List.forall_mem_cons.mpr ⟨lw_p34, List.forall_mem_cons.mpr ⟨lw_p35, List.forall_mem_cons.mpr ⟨lw_p36, List.forall_mem_cons.mpr ⟨lw_p37, List.forall_mem_cons.mpr ⟨lw_p38, List.forall_mem_cons.mpr ⟨lw_p39, List.forall_mem_cons.mpr ⟨lw_p40, List.forall_mem_cons.mpr ⟨lw_p41, List.forall_mem_cons.mpr ⟨lw_p42, List.forall_mem_cons.mpr ⟨lw_p43, List.forall_mem_cons.mpr ⟨lw_p44, List.forall_mem_cons.mpr ⟨lw_p45, List.forall_mem_cons.mpr ⟨lw_p46, List.forall_mem_cons.mpr ⟨lw_p47, fun _ h => absurd h List.not_mem_nil⟩⟩⟩⟩⟩⟩⟩⟩⟩⟩⟩⟩⟩⟩⟩⟩
theorem lw_p48 : lw_okq (⟨"MidiDeskModel", "putTrack", "(IZZ)V"⟩, 25) := ⟨⟨by decide +kernel, by decide +kernel⟩, List.mem_of_getElem? (i := 658) (by decide +kernel), List.mem_of_getElem? (i := 898) (by decide +kernel), List.mem_of_getElem? (i := 899) (by decide +kernel)⟩
theorem lw_p49 : lw_okq (⟨"MidiDeskModel", "putNumber", "(I)V"⟩, 25) := ⟨⟨by decide +kernel, by decide +kernel⟩, List.mem_of_getElem? (i := 658) (by decide +kernel), List.mem_of_getElem? (i := 903) (by decide +kernel), List.mem_of_getElem? (i := 904) (by decide +kernel)⟩
theorem lw_p50 : lw_okq (⟨"MidiDeskModel", "counted", "(Z)I"⟩, 25) := ⟨⟨by decide +kernel, by decide +kernel⟩, List.mem_of_getElem? (i := 658) (by decide +kernel), List.mem_of_getElem? (i := 921) (by decide +kernel), List.mem_of_getElem? (i := 922) (by decide +kernel)⟩
def lw_privs_4 : List (MethodName × Nat) := [(⟨"MidiDeskModel", "putTrack", "(IZZ)V"⟩, 25), (⟨"MidiDeskModel", "putNumber", "(I)V"⟩, 25), (⟨"MidiDeskModel", "counted", "(Z)I"⟩, 25)]
theorem lw_r4 : ∀ q ∈ lw_privs_4, lw_okq q := List.forall_mem_cons.mpr ⟨lw_p48, List.forall_mem_cons.mpr ⟨lw_p49, List.forall_mem_cons.mpr ⟨lw_p50, fun _ h => absurd h List.not_mem_nil⟩⟩⟩
def lw_privs : List (MethodName × Nat) := lw_privs_1 ++ (lw_privs_2 ++ (lw_privs_3 ++ (lw_privs_4)))
def lw_tbl : List Cond := k2_sels lw_privs ++ tables_1
theorem lw_privs_ok : ∀ q ∈ lw_privs, lw_okq q := by
  show ∀ q ∈ lw_privs_1 ++ (lw_privs_2 ++ (lw_privs_3 ++ (lw_privs_4))), lw_okq q
  exact List.forall_mem_append.mpr ⟨lw_r1, List.forall_mem_append.mpr ⟨lw_r2, List.forall_mem_append.mpr ⟨lw_r3, lw_r4⟩⟩⟩
end
section
theorem ts_t {α : Type} {c : Prop} [Decidable c] {a b : Option α} {r : α} (h : (if c then a else b) = some r) (hc : c) : a = some r := by rw [if_pos hc] at h; exact h
theorem ts_f {α : Type} {c : Prop} [Decidable c] {a b : Option α} {r : α} (h : (if c then a else b) = some r) (hc : ¬ c) : b = some r := by rw [if_neg hc] at h; exact h
theorem ts_g {α : Type} {c : Prop} [Decidable c] {a : Option α} {r : α} (h : (if c then none else a) = some r) : ¬ c ∧ a = some r := by
  by_cases hc : c
  · rw [if_pos hc] at h; cases h
  · rw [if_neg hc] at h; exact ⟨hc, h⟩
theorem ts_b {α β : Type} {o : Option α} {f : α → Option β} {b : β} (h : o.bind f = some b) : ∃ a, o = some a ∧ f a = some b := Option.bind_eq_some_iff.mp h
/-- the words that a call hands on: all of the tables that keep -/
def gw : List Cond := lw_tbl.filter goodWord
theorem gw_good : ∀ w ∈ gw, goodWord w = true := fun w h => (List.mem_filter.mp h).2
theorem gw_in {w : Cond} (i : Nat) (h : lw_tbl[i]? = some w) (hg : goodWord w = true) : w ∈ gw := List.mem_filter.mpr ⟨List.mem_of_getElem? h, hg⟩
theorem gw_GI {c : Cond} (hc : c ∈ gw) : GoodIn gw (c :: gw) := fun w hw => by
  have hm : w ∈ gw := (List.mem_cons.mp hw).elim (fun e => e ▸ hc) id
  exact ⟨hm, good_of_word (gw_good w hm)⟩
def is_nest : Cond → Bool
  | .fieldLinkNest .. => true
  | .methodLinkNest .. => true
  | _ => false
def nestw : List Cond := tables_1.filter is_nest
theorem nest_onT {w : Cond} (h : is_nest w = true) : w.onTables = true := by
  cases w <;> first | rfl | (simp [is_nest] at h)
theorem nest_warm {w : Cond} (h : is_nest w = true) {s U : State} (hW : s.WarmedH U.vm) (hZ : va_Nw w s) : va_Nw w U := by
  cases w <;> first | exact va_Nw.warmF hW hZ | exact va_Nw.warmM hW hZ | (simp [is_nest] at h)
/-- an array of counts, and of rows -/
def up2 (av : Nat → Nat → Int32) (k i : Nat) (x : Int32) : Nat → Nat → Int32 := fun a => if a = k then upd (av k) i x else av a
theorem va_D_map {A : Nat → Prop} {ws ws' : va_W} (e : ws.map Prod.fst = ws'.map Prod.fst) (h : va_D A ws) : va_D A ws' := by
  have key : ∀ (k : Nat) (q : Nat × va_E), ws'[k]? = some q → ∃ q0, ws[k]? = some q0 ∧ q0.1 = q.1 := by
    intro k q hk
    have h1 : (ws'.map Prod.fst)[k]? = some q.1 := by rw [List.getElem?_map, hk]; rfl
    rw [← e, List.getElem?_map] at h1
    cases hq : ws[k]? with
    | none => rw [hq] at h1; cases h1
    | some q0 => rw [hq] at h1; exact ⟨q0, rfl, Option.some.inj h1⟩
  refine ⟨fun i j x y hi hj hxy => ?_, fun k q hk => ?_⟩
  · obtain ⟨x0, h1, h2⟩ := key i x hi
    obtain ⟨y0, h3, h4⟩ := key j y hj
    exact h.1 i j x0 y0 h1 h3 (h2.trans (hxy.trans h4.symm))
  · obtain ⟨q0, h1, h2⟩ := key k q hk
    rw [← h2]; exact h.2 k q0 h1
theorem va_A_map {ws ws' : va_W} {sz : Nat} (e : ws.map Prod.fst = ws'.map Prod.fst) : va_A ws sz = va_A ws' sz := by
  have key : ∀ {a b : va_W}, a.map Prod.fst = b.map Prod.fst → ∀ q, va_A a sz q → va_A b sz q := by
    intro a b e q h
    rcases h with ⟨k, x, h⟩ | h
    · have h1 : (a.map Prod.fst)[k]? = some q := by rw [List.getElem?_map, h]; rfl
      rw [e, List.getElem?_map] at h1
      cases hq : b[k]? with
      | none => rw [hq] at h1; cases h1
      | some q0 =>
        rw [hq] at h1
        obtain ⟨z, w⟩ := q0
        have hz : z = q := Option.some.inj h1
        subst hz
        exact Or.inl ⟨k, w, hq⟩
    · exact Or.inr h
  funext q
  exact propext ⟨key e q, key e.symm q⟩

def R_Bytes : String := "MidiDesk$Bytes"
def F_Bytes : u_T := fun k => match k with
  | 0 => ("MidiDesk$Bytes", "most", "I", true)
  | 1 => ("MidiDesk$Bytes", "row", "[I", false)
  | _ => ("MidiDesk$Bytes", "size", "I", false)
def t_Bytes : Nat → FieldType := fun k => match k with
  | 0 => .int
  | 1 => .array .int
  | _ => .int
theorem n_Bytes : ∀ a, a < 3 → ∀ b, b < 3 → a ≠ b → (F_Bytes a).2.1 ≠ (F_Bytes b).2.1 := by decide +kernel
theorem t_Bytes_ok : ∀ k, k < 3 → parseFieldDescriptor (F_Bytes k).2.2.1 = some (t_Bytes k) := by decide +kernel
def R_Event : String := "MidiDesk$Event"
def F_Event : u_T := fun k => match k with
  | 0 => ("MidiDesk$Event", "tick", "I", false)
  | 1 => ("MidiDesk$Event", "track", "I", false)
  | 2 => ("MidiDesk$Event", "status", "I", false)
  | 3 => ("MidiDesk$Event", "first", "I", false)
  | 4 => ("MidiDesk$Event", "second", "I", false)
  | 5 => ("MidiDesk$Event", "start", "I", false)
  | _ => ("MidiDesk$Event", "size", "I", false)
def t_Event : Nat → FieldType := fun k => match k with
  | 0 => .int
  | 1 => .int
  | 2 => .int
  | 3 => .int
  | 4 => .int
  | 5 => .int
  | _ => .int
theorem n_Event : ∀ a, a < 7 → ∀ b, b < 7 → a ≠ b → (F_Event a).2.1 ≠ (F_Event b).2.1 := by decide +kernel
theorem t_Event_ok : ∀ k, k < 7 → parseFieldDescriptor (F_Event k).2.2.1 = some (t_Event k) := by decide +kernel
def R_Parser : String := "MidiDesk$Parser"
def F_Parser : u_T := fun k => match k with
  | 0 => ("MidiDesk$Parser", "input", "LMidiDesk$Bytes;", true)
  | 1 => ("MidiDesk$Parser", "score", "LMidiDesk$Score;", true)
  | 2 => ("MidiDesk$Parser", "pos", "I", false)
  | 3 => ("MidiDesk$Parser", "end", "I", false)
  | 4 => ("MidiDesk$Parser", "fault", "I", false)
  | 5 => ("MidiDesk$Parser", "tracksSeen", "I", false)
  | 6 => ("MidiDesk$Parser", "tick", "I", false)
  | 7 => ("MidiDesk$Parser", "running", "I", false)
  | 8 => ("MidiDesk$Parser", "ended", "Z", false)
  | 9 => ("MidiDesk$Parser", "first", "I", false)
  | 10 => ("MidiDesk$Parser", "second", "I", false)
  | 11 => ("MidiDesk$Parser", "start", "I", false)
  | _ => ("MidiDesk$Parser", "size", "I", false)
def t_Parser : Nat → FieldType := fun k => match k with
  | 0 => .object "MidiDesk$Bytes"
  | 1 => .object "MidiDesk$Score"
  | 2 => .int
  | 3 => .int
  | 4 => .int
  | 5 => .int
  | 6 => .int
  | 7 => .int
  | 8 => .boolean
  | 9 => .int
  | 10 => .int
  | 11 => .int
  | _ => .int
theorem n_Parser : ∀ a, a < 13 → ∀ b, b < 13 → a ≠ b → (F_Parser a).2.1 ≠ (F_Parser b).2.1 := by decide +kernel
theorem t_Parser_ok : ∀ k, k < 13 → parseFieldDescriptor (F_Parser k).2.2.1 = some (t_Parser k) := by decide +kernel
def R_Printer : String := "MidiDesk$Printer"
def F_Printer : u_T := fun k => match k with
  | 0 => ("MidiDesk$Printer", "score", "LMidiDesk$Score;", true)
  | 1 => ("MidiDesk$Printer", "output", "LMidiDesk$Bytes;", true)
  | 2 => ("MidiDesk$Printer", "brief", "Z", true)
  | 3 => ("MidiDesk$Printer", "tick", "I", false)
  | _ => ("MidiDesk$Printer", "running", "I", false)
def t_Printer : Nat → FieldType := fun k => match k with
  | 0 => .object "MidiDesk$Score"
  | 1 => .object "MidiDesk$Bytes"
  | 2 => .boolean
  | 3 => .int
  | _ => .int
theorem n_Printer : ∀ a, a < 5 → ∀ b, b < 5 → a ≠ b → (F_Printer a).2.1 ≠ (F_Printer b).2.1 := by decide +kernel
theorem t_Printer_ok : ∀ k, k < 5 → parseFieldDescriptor (F_Printer k).2.2.1 = some (t_Printer k) := by decide +kernel
def R_Score : String := "MidiDesk$Score"
def F_Score : u_T := fun k => match k with
  | 0 => ("MidiDesk$Score", "data", "LMidiDesk$Bytes;", true)
  | 1 => ("MidiDesk$Score", "present", "Z", false)
  | 2 => ("MidiDesk$Score", "format", "I", false)
  | 3 => ("MidiDesk$Score", "tracks", "I", false)
  | 4 => ("MidiDesk$Score", "division", "I", false)
  | 5 => ("MidiDesk$Score", "row", "[LMidiDesk$Event;", false)
  | 6 => ("MidiDesk$Score", "spare", "[LMidiDesk$Event;", false)
  | _ => ("MidiDesk$Score", "size", "I", false)
def t_Score : Nat → FieldType := fun k => match k with
  | 0 => .object "MidiDesk$Bytes"
  | 1 => .boolean
  | 2 => .int
  | 3 => .int
  | 4 => .int
  | 5 => .array (.object "MidiDesk$Event")
  | 6 => .array (.object "MidiDesk$Event")
  | _ => .int
theorem n_Score : ∀ a, a < 8 → ∀ b, b < 8 → a ≠ b → (F_Score a).2.1 ≠ (F_Score b).2.1 := by decide +kernel
theorem t_Score_ok : ∀ k, k < 8 → parseFieldDescriptor (F_Score k).2.2.1 = some (t_Score k) := by decide +kernel
def R_Desk : String := "MidiDesk"
def F_Desk : u_T := fun k => match k with
  | 0 => ("MidiDesk", "input", "LMidiDesk$Bytes;", true)
  | 1 => ("MidiDesk", "output", "LMidiDesk$Bytes;", true)
  | _ => ("MidiDesk", "score", "LMidiDesk$Score;", true)
def t_Desk : Nat → FieldType := fun k => match k with
  | 0 => .object "MidiDesk$Bytes"
  | 1 => .object "MidiDesk$Bytes"
  | _ => .object "MidiDesk$Score"
theorem n_Desk : ∀ a, a < 3 → ∀ b, b < 3 → a ≠ b → (F_Desk a).2.1 ≠ (F_Desk b).2.1 := by decide +kernel
theorem t_Desk_ok : ∀ k, k < 3 → parseFieldDescriptor (F_Desk k).2.2.1 = some (t_Desk k) := by decide +kernel
def R_Model : String := "MidiDeskModel"
def F_Model : u_T := fun k => match k with
  | 0 => ("MidiDeskModel", "thrown", "I", false)
  | 1 => ("MidiDeskModel", "input", "[I", true)
  | 2 => ("MidiDeskModel", "size", "I", false)
  | 3 => ("MidiDeskModel", "at", "I", false)
  | 4 => ("MidiDeskModel", "end", "I", false)
  | 5 => ("MidiDeskModel", "fault", "I", false)
  | 6 => ("MidiDeskModel", "place", "I", false)
  | 7 => ("MidiDeskModel", "there", "Z", false)
  | 8 => ("MidiDeskModel", "format", "I", false)
  | 9 => ("MidiDeskModel", "tracks", "I", false)
  | 10 => ("MidiDeskModel", "division", "I", false)
  | 11 => ("MidiDeskModel", "events", "I", false)
  | 12 => ("MidiDeskModel", "many", "I", false)
  | 13 => ("MidiDeskModel", "ticks", "[I", true)
  | 14 => ("MidiDeskModel", "trackOf", "[I", true)
  | 15 => ("MidiDeskModel", "status", "[I", true)
  | 16 => ("MidiDeskModel", "first", "[I", true)
  | 17 => ("MidiDeskModel", "second", "[I", true)
  | 18 => ("MidiDeskModel", "from", "[I", true)
  | 19 => ("MidiDeskModel", "counts", "[I", true)
  | 20 => ("MidiDeskModel", "order", "[I", true)
  | 21 => ("MidiDeskModel", "spare", "[I", true)
  | 22 => ("MidiDeskModel", "bytes", "[I", true)
  | 23 => ("MidiDeskModel", "written", "[I", true)
  | _ => ("MidiDeskModel", "writtenSize", "I", false)
def t_Model : Nat → FieldType := fun k => match k with
  | 0 => .int
  | 1 => .array .int
  | 2 => .int
  | 3 => .int
  | 4 => .int
  | 5 => .int
  | 6 => .int
  | 7 => .boolean
  | 8 => .int
  | 9 => .int
  | 10 => .int
  | 11 => .int
  | 12 => .int
  | 13 => .array .int
  | 14 => .array .int
  | 15 => .array .int
  | 16 => .array .int
  | 17 => .array .int
  | 18 => .array .int
  | 19 => .array .int
  | 20 => .array .int
  | 21 => .array .int
  | 22 => .array .int
  | 23 => .array .int
  | _ => .int
theorem n_Model : ∀ a, a < 25 → ∀ b, b < 25 → a ≠ b → (F_Model a).2.1 ≠ (F_Model b).2.1 := by decide +kernel
theorem t_Model_ok : ∀ k, k < 25 → parseFieldDescriptor (F_Model k).2.2.1 = some (t_Model k) := by decide +kernel
abbrev classes : List vw_C := [(R_Bytes, F_Bytes, 3), (R_Event, F_Event, 7), (R_Parser, F_Parser, 13), (R_Printer, F_Printer, 5), (R_Score, F_Score, 8), (R_Desk, F_Desk, 3), (R_Model, F_Model, 25)]
/-- the classes' numbers and slots, and the numbers of the array classes int[], long[], Event[] -/
abbrev gT : Type := va_G × ClassId × ClassId × ClassId
def kK (g : gT) (U : State) : Prop := va_K g.1 classes [(g.2.1, .int), (g.2.2.1, .long), (g.2.2.2, .object "MidiDesk$Event")] U ∧ (∀ w ∈ nestw, va_Nw w U) ∧ va_AO "MidiDesk$Event" U
theorem kK.moved {g : gT} {s U : State} (hW : s.WarmedH U.vm) (h : kK g s) : kK g U := ⟨va_K.moved hW.alike h.1, fun w hw => nest_warm (List.mem_filter.mp hw).2 hW (h.2.1 w hw), h.2.2.moved hW.alike⟩
theorem kK.same {g : gT} {s U : State} (e : s.vm = U.vm) (h : kK g s) : kK g U := ⟨va_K.moved (by rw [← e]; exact Vm.Alike.refl s.vm) h.1, fun w hw => va_Nw.same (nest_onT (List.mem_filter.mp hw).2) e (h.2.1 w hw), h.2.2.moved (by rw [← e]; exact Vm.Alike.refl s.vm)⟩
section CX
variable {p : Program} {l : Launch} {e : Env} {R : Room} {s : State} {m : MethodId} {args : Array Value} {below : List Frame} {meth : Method} {c : Code} {H : Heap} {locs : List Loc} {cells slots : Nat} {Q : State → Prop}
abbrev mCx (p : Program) (m : MethodId) (c : Code) (cc : ByteArray) (nL : Nat) (s : State) (args : Array Value) (g : gT) (own : String) : Prop := CallFix p m c cc nL s args gw own ∧ kK g s
theorem callW_of {own C : String} {index maxL : Nat} {y : MethodName} {bytes : ByteArray} {ret : Option FieldType} {rm : Room} (n : Nat) (ht : ∀ w ∈ gw, w.before args s = true) (h1 : Cond.methodLink own index y ∈ gw) (h2 : Cond.instanceMethod y ∈ gw) (h3 : Cond.selects C y y ∈ gw) (h4 : Cond.initialized y.cls ∈ gw) (h5 : Cond.code y bytes maxL ret ∈ gw)
    (hd : y.cls ≠ "java/lang/invoke/MethodHandle" ∧ y.cls ≠ "java/lang/invoke/VarHandle" ∧ (parseMethodDescriptor y.desc).map (fun d => d.parameters.length) = some n) (hR : rm.frames + 1 ≤ R.frames ∧ 8 + (maxL + 11) + rm.locals ≤ R.locals) :
    CallW R s args own C index y bytes maxL ret (Cond.code y bytes maxL ret :: gw) rm rm.cells rm.slots n :=
  ⟨callB_of n ht (gw_GI h5) rfl rfl rfl (ht _ h4) (ht _ h1) hd hR, ht _ h2, ht _ h3⟩
theorem callS_of {own : String} {index maxL : Nat} {y : MethodName} {bytes : ByteArray} {ret : Option FieldType} {rm : Room} (n : Nat) (ht : ∀ w ∈ gw, w.before args s = true) (h1 : Cond.methodLink own index y ∈ gw) (h2 : Cond.static y ∈ gw) (h4 : Cond.initialized y.cls ∈ gw) (h5 : Cond.code y bytes maxL ret ∈ gw)
    (hd : y.cls ≠ "java/lang/invoke/MethodHandle" ∧ y.cls ≠ "java/lang/invoke/VarHandle" ∧ (parseMethodDescriptor y.desc).map (fun d => d.parameters.length) = some n) (hR : rm.frames + 1 ≤ R.frames ∧ 8 + (maxL + 11) + rm.locals ≤ R.locals) :
    CallB R s args own index y bytes maxL ret (Cond.code y bytes maxL ret :: gw) rm rm.cells rm.slots n ∧ (Cond.static y).before args s = true :=
  ⟨callB_of n ht (gw_GI h5) rfl rfl rfl (ht _ h4) (ht _ h1) hd hR, ht _ h2⟩
variable {pc : Nat} {ls : Array Slot} {rest st0 : List Value} {A0 A1 : Nat → Prop} {H0 : Heap} {mc ms : Nat} {free : Addr → Prop}
theorem x_call {rv : Option Value} {B : Heap → Prop} (hr : va_Run p l e R s m args below meth c H locs cells slots mc ms (F0 m pc ls st0) rest (fun st oc t => (oc = .returned rv ∧ B t.heap) ∧ va_F A1 st t) free) (hS : va_S A0 H0 H locs) (hA : ∀ q, q < H.size → A1 q → A0 q) (hf : ∀ q, free q → A0 q)
    (kk : ∀ (H1 : Heap) (locs1 : List Loc), B H1 → va_S A0 H0 H1 locs1 → W p l e R s m args below meth c H1 locs1 (cells + mc) (slots + ms) Q (F0 m (pc + 3) ls (rv.toList ++ rest))) : W p l e R s m args below meth c H locs cells slots Q (F0 m pc ls st0) := by
  intro T hT X
  obtain ⟨v, st₀, t, T', L, h0, X', hL, e1, e2, ⟨⟨hv, hb⟩, hz, hk⟩, st⟩ := hr T hT X
  cases hv
  rw [h0] at hz hk
  obtain ⟨t2, a1, b1⟩ := kk T'.heap (locs ++ L) (by rw [e1]; exact hb)
    ⟨Nat.le_trans hS.1 (by rw [e1]; exact hz), fun q h1 h2 => by rw [e1, hk q (Nat.lt_of_lt_of_le h1 hS.1) (fun z => h2 (hA q (Nat.lt_of_lt_of_le h1 hS.1) z))]; exact hS.2.1 q h1 h2, fun q hq => by
      rcases List.mem_append.mp hq with h | h
      · exact hS.2.2 q h
      · exact hf _ (hL q h)⟩ T' rfl X'
  exact ⟨t2, st t2 a1, b1⟩
end CX
end
section
/-- the reference's cells: iv its int fields (0 thrown, 1 size, 2 at, 3 end, 4 fault, 5 place, 6 there, 7 format, 8 tracks, 9 division, 10 events, 11 many, 12 writtenSize), av its arrays (0 input, 1 ticks, 2 trackOf, 3 status, 4 first, 5 second, 6 from, 7 counts, 8 order, 9 spare, 10 bytes, 11 written) -/
def mfs (ad : Nat → Nat) (iv : Nat → Int32) : List Value := [.int (iv 0), .ref (ad 0), .int (iv 1), .int (iv 2), .int (iv 3), .int (iv 4), .int (iv 5), .int (iv 6), .int (iv 7), .int (iv 8), .int (iv 9), .int (iv 10), .int (iv 11), .ref (ad 1), .ref (ad 2), .ref (ad 3), .ref (ad 4), .ref (ad 5), .ref (ad 6), .ref (ad 7), .ref (ad 8), .ref (ad 9), .ref (ad 10), .ref (ad 11), .int (iv 12)]
def mw (g : gT) (q : Nat) (ad : Nat → Nat) (iv : Nat → Int32) (av : Nat → Nat → Int32) (X : va_W) : va_W := (q, .inr (6, mfs ad iv)) :: (ad 0, .inl (g.2.1, 12000, .inl (av 0))) :: (ad 1, .inl (g.2.1, 1001, .inl (av 1))) :: (ad 2, .inl (g.2.1, 1001, .inl (av 2))) :: (ad 3, .inl (g.2.1, 1001, .inl (av 3))) :: (ad 4, .inl (g.2.1, 1001, .inl (av 4))) :: (ad 5, .inl (g.2.1, 1001, .inl (av 5))) :: (ad 6, .inl (g.2.1, 1001, .inl (av 6))) :: (ad 7, .inl (g.2.1, 1001, .inl (av 7))) :: (ad 8, .inl (g.2.1, 1001, .inl (av 8))) :: (ad 9, .inl (g.2.1, 1001, .inl (av 9))) :: (ad 10, .inl (g.2.1, 20100, .inl (av 10))) :: (ad 11, .inl (g.2.1, 32768, .inl (av 11))) :: X
def mWd (g : gT) (A : Nat → Prop) (H0 : Heap) (q : Nat) (ad : Nat → Nat) (X : va_W) (iv : Nat → Int32) (av : Nat → Nat → Int32) (H : Heap) (locs : List Loc) : Prop := va_P g.1 classes (mw g q ad iv av X) H ∧ va_D A (mw g q ad iv av X) ∧ va_S A H0 H locs ∧ ∀ z, H0.size ≤ z → A z
theorem mw_map {g : gT} {q : Nat} {ad : Nat → Nat} {iv iv' : Nat → Int32} {av av' : Nat → Nat → Int32} {X : va_W} : (mw g q ad iv av X).map Prod.fst = (mw g q ad iv' av' X).map Prod.fst := rfl
abbrev mA (g : gT) (q : Nat) (ad : Nat → Nat) (X : va_W) (sz : Nat) : Nat → Prop := va_A (mw g q ad (fun _ => 0) (fun _ _ => 0) X) sz
def mPc (g : gT) (q : Nat) (ad : Nat → Nat) (X : va_W) (iv : Nat → Int32) (av : Nat → Nat → Int32) (vs : List Value) (sz : Nat) : Array Value → State → Prop := va_Pc vs (fun U => U.heap.size = sz ∧ kK g U ∧ va_P g.1 classes (mw g q ad iv av X) U.heap ∧ va_D (fun _ => True) (mw g q ad iv av X))
def mQc (g : gT) (q : Nat) (ad : Nat → Nat) (X : va_W) (rv : Option Value) (iv : Nat → Int32) (av : Nat → Nat → Int32) (sz : Nat) : Array Value → State → Outcome → State → Prop := fun _ st oc t => (oc = .returned rv ∧ va_P g.1 classes (mw g q ad iv av X) t.heap) ∧ va_F (mA g q ad X sz) st t
/-- a method's contract: from the reference's cells iv, av with the arguments vs it returns rv, and the cells are iv', av' -/
def mMet (l : Launch) (y : MethodName) (cc : ByteArray) (maxL : Nat) (ret : Option FieldType) (rm : Room) (g : gT) (q : Nat) (ad : Nat → Nat) (X : va_W) (iv : Nat → Int32) (av : Nat → Nat → Int32) (vs : List Value) (rv : Option Value) (iv' : Nat → Int32) (av' : Nat → Nat → Int32) : Prop :=
  ∀ sz : Nat, Met l y (.code y cc maxL ret :: gw) rm (mPc g q ad X iv av vs sz) (mQc g q ad X rv iv' av' sz) rm.cells rm.slots (mA g q ad X sz)
theorem mPc_blind {g : gT} {q : Nat} {ad : Nat → Nat} {X : va_W} {iv : Nat → Int32} {av : Nat → Nat → Int32} {vs : List Value} {sz : Nat} : FrameBlind (mPc g q ad X iv av vs sz) := fun a U gf mk h => ⟨h.1, h.2.1, kK.same (s := U) (U := U.calling gf mk a) rfl h.2.2.1, h.2.2.2.1, h.2.2.2.2⟩
/-- what the end of a walk must come to -/
abbrev mG (p : Program) (l : Launch) (e : Env) (R : Room) (s : State) (m : MethodId) (args : Array Value) (below : List Frame) (meth : Method) (c : Code) (g : gT) (q : Nat) (ad : Nat → Nat) (X : va_W) (rv : Option Value) (iv' : Nat → Int32) (av' : Nat → Nat → Int32) (H : Heap) (locs : List Loc) (cells slots : Nat) (f : JFrame) : Prop :=
  W p l e R s m args below meth c H locs cells slots (MQ below (mQc g q ad X rv iv' av' s.heap.size) args s R.cells R.slots (mA g q ad X s.heap.size)) f
theorem m_entry {l : Launch} {y : MethodName} {cc : ByteArray} {maxL : Nat} {ret : Option FieldType} {rm : Room} {g : gT} {q : Nat} {ad : Nat → Nat} {X : va_W} {iv iv' : Nat → Int32} {av av' : Nat → Nat → Int32} {vs : List Value} {rv : Option Value} (hy : plainName y.cls = true) (hn : (lg_sl vs).length ≤ maxL)
    (body : ∀ (p : Program) (e : Env) (s : State) (m : MethodId) (args : Array Value) (below : List Frame) (meth : Method) (c : Code) (ls : Array Slot), mCx p m c cc maxL s args g y.cls → meth.sig.returnType = ret → meth.locks = false → meth.name = y.name → lv_has ls maxL (lv_args 0 vs) → mWd g (mA g q ad X s.heap.size) s.heap q ad X iv av s.heap [] → mG p l e rm s m args below meth c g q ad X rv iv' av' s.heap [] 0 0 (F0 m 0 ls [])) :
    mMet l y cc maxL ret rm g q ad X iv av vs rv iv' av' := by
  intro sz
  refine Met.ofW (cc := cc) (maxL := maxL) (ret := ret) hy rfl ?_
  intro p e s m args below meth c s₁ B hml hv
  obtain ⟨rfl, hsz, hK, hP, hD0⟩ := hv
  subst hsz
  have hts := atoms_spec (ws := Cond.code y cc maxL ret :: gw) B.pre
  have hown : s.vm.findClass y.cls = some m.cls := findClass_of_methodNamed B.named
  have hl := lv_entry vs (n := maxL) hn
  rw [lg_entry_eq]
  exact body p e s m vs.toArray below meth c _ ⟨⟨B.exec, B.bytes, hml, hown, fun w hw => hts w (List.mem_cons_of_mem _ hw)⟩, hK⟩ B.returns B.notSynchronized (name_of_methodNamed B.named B.method).1 hl ⟨hP, va_D_map mw_map (hD0.self (sz := s.heap.size)) |> (fun h => by rw [show mA g q ad X s.heap.size = va_A (mw g q ad iv av X) s.heap.size from va_A_map mw_map]; exact h), va_S.rf, fun z hz => Or.inr hz⟩

theorem gw_715 : (Jvm.Cond.fieldLink "MidiDeskModel" (47 : Nat) "MidiDeskModel" "thrown" "I") ∈ gw := gw_in 715 (by decide +kernel) (by decide +kernel)
theorem gw_716 : (Jvm.Cond.fieldLink "MidiDeskModel" (7 : Nat) "MidiDeskModel" "input" "[I") ∈ gw := gw_in 716 (by decide +kernel) (by decide +kernel)
theorem gw_717 : (Jvm.Cond.fieldLink "MidiDeskModel" (51 : Nat) "MidiDeskModel" "size" "I") ∈ gw := gw_in 717 (by decide +kernel) (by decide +kernel)
theorem gw_718 : (Jvm.Cond.fieldLink "MidiDeskModel" (62 : Nat) "MidiDeskModel" "at" "I") ∈ gw := gw_in 718 (by decide +kernel) (by decide +kernel)
theorem gw_719 : (Jvm.Cond.fieldLink "MidiDeskModel" (65 : Nat) "MidiDeskModel" "end" "I") ∈ gw := gw_in 719 (by decide +kernel) (by decide +kernel)
theorem gw_720 : (Jvm.Cond.fieldLink "MidiDeskModel" (56 : Nat) "MidiDeskModel" "fault" "I") ∈ gw := gw_in 720 (by decide +kernel) (by decide +kernel)
theorem gw_721 : (Jvm.Cond.fieldLink "MidiDeskModel" (59 : Nat) "MidiDeskModel" "place" "I") ∈ gw := gw_in 721 (by decide +kernel) (by decide +kernel)
theorem gw_722 : (Jvm.Cond.fieldLink "MidiDeskModel" (110 : Nat) "MidiDeskModel" "there" "Z") ∈ gw := gw_in 722 (by decide +kernel) (by decide +kernel)
theorem gw_723 : (Jvm.Cond.fieldLink "MidiDeskModel" (82 : Nat) "MidiDeskModel" "format" "I") ∈ gw := gw_in 723 (by decide +kernel) (by decide +kernel)
theorem gw_724 : (Jvm.Cond.fieldLink "MidiDeskModel" (85 : Nat) "MidiDeskModel" "tracks" "I") ∈ gw := gw_in 724 (by decide +kernel) (by decide +kernel)
theorem gw_725 : (Jvm.Cond.fieldLink "MidiDeskModel" (88 : Nat) "MidiDeskModel" "division" "I") ∈ gw := gw_in 725 (by decide +kernel) (by decide +kernel)
theorem gw_726 : (Jvm.Cond.fieldLink "MidiDeskModel" (95 : Nat) "MidiDeskModel" "events" "I") ∈ gw := gw_in 726 (by decide +kernel) (by decide +kernel)
theorem gw_727 : (Jvm.Cond.fieldLink "MidiDeskModel" (98 : Nat) "MidiDeskModel" "many" "I") ∈ gw := gw_in 727 (by decide +kernel) (by decide +kernel)
theorem gw_728 : (Jvm.Cond.fieldLink "MidiDeskModel" (13 : Nat) "MidiDeskModel" "ticks" "[I") ∈ gw := gw_in 728 (by decide +kernel) (by decide +kernel)
theorem gw_729 : (Jvm.Cond.fieldLink "MidiDeskModel" (16 : Nat) "MidiDeskModel" "trackOf" "[I") ∈ gw := gw_in 729 (by decide +kernel) (by decide +kernel)
theorem gw_730 : (Jvm.Cond.fieldLink "MidiDeskModel" (19 : Nat) "MidiDeskModel" "status" "[I") ∈ gw := gw_in 730 (by decide +kernel) (by decide +kernel)
theorem gw_731 : (Jvm.Cond.fieldLink "MidiDeskModel" (22 : Nat) "MidiDeskModel" "first" "[I") ∈ gw := gw_in 731 (by decide +kernel) (by decide +kernel)
theorem gw_732 : (Jvm.Cond.fieldLink "MidiDeskModel" (25 : Nat) "MidiDeskModel" "second" "[I") ∈ gw := gw_in 732 (by decide +kernel) (by decide +kernel)
theorem gw_733 : (Jvm.Cond.fieldLink "MidiDeskModel" (28 : Nat) "MidiDeskModel" "from" "[I") ∈ gw := gw_in 733 (by decide +kernel) (by decide +kernel)
theorem gw_734 : (Jvm.Cond.fieldLink "MidiDeskModel" (31 : Nat) "MidiDeskModel" "counts" "[I") ∈ gw := gw_in 734 (by decide +kernel) (by decide +kernel)
theorem gw_735 : (Jvm.Cond.fieldLink "MidiDeskModel" (34 : Nat) "MidiDeskModel" "order" "[I") ∈ gw := gw_in 735 (by decide +kernel) (by decide +kernel)
theorem gw_736 : (Jvm.Cond.fieldLink "MidiDeskModel" (37 : Nat) "MidiDeskModel" "spare" "[I") ∈ gw := gw_in 736 (by decide +kernel) (by decide +kernel)
theorem gw_737 : (Jvm.Cond.fieldLink "MidiDeskModel" (40 : Nat) "MidiDeskModel" "bytes" "[I") ∈ gw := gw_in 737 (by decide +kernel) (by decide +kernel)
theorem gw_738 : (Jvm.Cond.fieldLink "MidiDeskModel" (44 : Nat) "MidiDeskModel" "written" "[I") ∈ gw := gw_in 738 (by decide +kernel) (by decide +kernel)
theorem gw_739 : (Jvm.Cond.fieldLink "MidiDeskModel" (187 : Nat) "MidiDeskModel" "writtenSize" "I") ∈ gw := gw_in 739 (by decide +kernel) (by decide +kernel)
theorem gw_740 : (Jvm.Cond.lays "MidiDeskModel" "MidiDeskModel" "thrown" "I") ∈ gw := gw_in 740 (by decide +kernel) (by decide +kernel)
theorem gw_742 : (Jvm.Cond.laysFinal "MidiDeskModel" "MidiDeskModel" "input" "[I") ∈ gw := gw_in 742 (by decide +kernel) (by decide +kernel)
theorem gw_744 : (Jvm.Cond.lays "MidiDeskModel" "MidiDeskModel" "size" "I") ∈ gw := gw_in 744 (by decide +kernel) (by decide +kernel)
theorem gw_746 : (Jvm.Cond.lays "MidiDeskModel" "MidiDeskModel" "at" "I") ∈ gw := gw_in 746 (by decide +kernel) (by decide +kernel)
theorem gw_748 : (Jvm.Cond.lays "MidiDeskModel" "MidiDeskModel" "end" "I") ∈ gw := gw_in 748 (by decide +kernel) (by decide +kernel)
theorem gw_750 : (Jvm.Cond.lays "MidiDeskModel" "MidiDeskModel" "fault" "I") ∈ gw := gw_in 750 (by decide +kernel) (by decide +kernel)
theorem gw_752 : (Jvm.Cond.lays "MidiDeskModel" "MidiDeskModel" "place" "I") ∈ gw := gw_in 752 (by decide +kernel) (by decide +kernel)
theorem gw_754 : (Jvm.Cond.lays "MidiDeskModel" "MidiDeskModel" "there" "Z") ∈ gw := gw_in 754 (by decide +kernel) (by decide +kernel)
theorem gw_756 : (Jvm.Cond.lays "MidiDeskModel" "MidiDeskModel" "format" "I") ∈ gw := gw_in 756 (by decide +kernel) (by decide +kernel)
theorem gw_758 : (Jvm.Cond.lays "MidiDeskModel" "MidiDeskModel" "tracks" "I") ∈ gw := gw_in 758 (by decide +kernel) (by decide +kernel)
theorem gw_760 : (Jvm.Cond.lays "MidiDeskModel" "MidiDeskModel" "division" "I") ∈ gw := gw_in 760 (by decide +kernel) (by decide +kernel)
theorem gw_762 : (Jvm.Cond.lays "MidiDeskModel" "MidiDeskModel" "events" "I") ∈ gw := gw_in 762 (by decide +kernel) (by decide +kernel)
theorem gw_764 : (Jvm.Cond.lays "MidiDeskModel" "MidiDeskModel" "many" "I") ∈ gw := gw_in 764 (by decide +kernel) (by decide +kernel)
theorem gw_766 : (Jvm.Cond.laysFinal "MidiDeskModel" "MidiDeskModel" "ticks" "[I") ∈ gw := gw_in 766 (by decide +kernel) (by decide +kernel)
theorem gw_768 : (Jvm.Cond.laysFinal "MidiDeskModel" "MidiDeskModel" "trackOf" "[I") ∈ gw := gw_in 768 (by decide +kernel) (by decide +kernel)
theorem gw_770 : (Jvm.Cond.laysFinal "MidiDeskModel" "MidiDeskModel" "status" "[I") ∈ gw := gw_in 770 (by decide +kernel) (by decide +kernel)
theorem gw_772 : (Jvm.Cond.laysFinal "MidiDeskModel" "MidiDeskModel" "first" "[I") ∈ gw := gw_in 772 (by decide +kernel) (by decide +kernel)
theorem gw_774 : (Jvm.Cond.laysFinal "MidiDeskModel" "MidiDeskModel" "second" "[I") ∈ gw := gw_in 774 (by decide +kernel) (by decide +kernel)
theorem gw_776 : (Jvm.Cond.laysFinal "MidiDeskModel" "MidiDeskModel" "from" "[I") ∈ gw := gw_in 776 (by decide +kernel) (by decide +kernel)
theorem gw_778 : (Jvm.Cond.laysFinal "MidiDeskModel" "MidiDeskModel" "counts" "[I") ∈ gw := gw_in 778 (by decide +kernel) (by decide +kernel)
theorem gw_780 : (Jvm.Cond.laysFinal "MidiDeskModel" "MidiDeskModel" "order" "[I") ∈ gw := gw_in 780 (by decide +kernel) (by decide +kernel)
theorem gw_782 : (Jvm.Cond.laysFinal "MidiDeskModel" "MidiDeskModel" "spare" "[I") ∈ gw := gw_in 782 (by decide +kernel) (by decide +kernel)
theorem gw_784 : (Jvm.Cond.laysFinal "MidiDeskModel" "MidiDeskModel" "bytes" "[I") ∈ gw := gw_in 784 (by decide +kernel) (by decide +kernel)
theorem gw_786 : (Jvm.Cond.laysFinal "MidiDeskModel" "MidiDeskModel" "written" "[I") ∈ gw := gw_in 786 (by decide +kernel) (by decide +kernel)
theorem gw_788 : (Jvm.Cond.lays "MidiDeskModel" "MidiDeskModel" "writtenSize" "I") ∈ gw := gw_in 788 (by decide +kernel) (by decide +kernel)
theorem i_Model : ∀ w ∈ u_ws R_Model F_Model 25, w ∈ gw := List.forall_mem_cons.mpr ⟨gw_740, List.forall_mem_cons.mpr ⟨gw_742, List.forall_mem_cons.mpr ⟨gw_744, List.forall_mem_cons.mpr ⟨gw_746, List.forall_mem_cons.mpr ⟨gw_748, List.forall_mem_cons.mpr ⟨gw_750, List.forall_mem_cons.mpr ⟨gw_752, List.forall_mem_cons.mpr ⟨gw_754, List.forall_mem_cons.mpr ⟨gw_756, List.forall_mem_cons.mpr ⟨gw_758, List.forall_mem_cons.mpr ⟨gw_760, List.forall_mem_cons.mpr ⟨gw_762, List.forall_mem_cons.mpr ⟨gw_764, List.forall_mem_cons.mpr ⟨gw_766, List.forall_mem_cons.mpr ⟨gw_768, List.forall_mem_cons.mpr ⟨gw_770, List.forall_mem_cons.mpr ⟨gw_772, List.forall_mem_cons.mpr ⟨gw_774, List.forall_mem_cons.mpr ⟨gw_776, List.forall_mem_cons.mpr ⟨gw_778, List.forall_mem_cons.mpr ⟨gw_780, List.forall_mem_cons.mpr ⟨gw_782, List.forall_mem_cons.mpr ⟨gw_784, List.forall_mem_cons.mpr ⟨gw_786, List.forall_mem_cons.mpr ⟨gw_788, fun _ h => absurd h List.not_mem_nil⟩⟩⟩⟩⟩⟩⟩⟩⟩⟩⟩⟩⟩⟩⟩⟩⟩⟩⟩⟩⟩⟩⟩⟩⟩
section MR
variable {p : Program} {l : Launch} {e : Env} {R : Room} {s : State} {m : MethodId} {args : Array Value} {below : List Frame} {meth : Method} {c : Code} {H : Heap} {locs : List Loc} {cells slots : Nat} {Q : State → Prop} {cc : ByteArray} {nL pc : Nat} {ls : Array Slot} {rest : List Value} {g : gT} {A : Nat → Prop} {H0 : Heap} {q : Nat} {ad : Nat → Nat} {X : va_W} {iv : Nat → Int32} {av : Nat → Nat → Int32}
theorem m_free {sz : Nat} (hw : mWd g A H0 q ad X iv av H locs) (hs : H.size = sz) : ∀ z, mA g q ad X sz z → A z := by
  subst hs
  intro z hz
  rcases hz with ⟨k, x, h⟩ | h
  · have e : (mw g q ad (fun _ => 0) (fun _ _ => 0) X).map Prod.fst = (mw g q ad iv av X).map Prod.fst := mw_map
    have h1 : ((mw g q ad iv av X).map Prod.fst)[k]? = some z := by rw [← e, List.getElem?_map, h]; rfl
    rw [List.getElem?_map] at h1
    cases hq : (mw g q ad iv av X)[k]? with
    | none => rw [hq] at h1; cases h1
    | some q0 =>
      rw [hq] at h1
      have := hw.2.1.2 k q0 hq
      rw [Option.some.inj h1] at this
      exact this
  · exact hw.2.2.2 z (Nat.le_trans hw.2.2.1.1 h)
theorem m_pre {vs : List Value} (hk : kK g s) (hw : mWd g A H0 q ad X iv av H locs) : ∀ U : State, U.heap = H → s.WarmedH U.vm → mPc g q ad X iv av vs H.size vs.toArray U := fun U hU hW => ⟨rfl, by rw [hU], kK.moved hW hk, by rw [hU]; exact hw.1, hw.2.1.weaken (fun _ _ _ _ => trivial)⟩
theorem m_recv (hk : kK g s) (hw : mWd g A H0 q ad X iv av H locs) : ∃ cellB : Cell, H[q]? = some cellB ∧ cellB.vm.isStatics = false ∧ s.vm.findClass "MidiDeskModel" = some cellB.cls := va_recv (ci := 6) (q0 := 0) hk.1 hw.1 rfl rfl
/-- a call of one of the reference's own methods -/
theorem m_callV {y : MethodName} {bytes : ByteArray} {maxL index n : Nat} {ret : Option FieldType} {rm : Room} {As : List Value} {rv : Option Value} {iv' : Nat → Int32} {av' : Nat → Nat → Int32} {st0 : List Value} (C : mCx p m c cc nL s args g "MidiDeskModel") (hl : ls.size = nL) (hw : mWd g A H0 q ad X iv av H locs)
    (hM : mMet l y bytes maxL ret rm g q ad X iv av (.ref q :: As) rv iv' av') (cw : CallW R s args "MidiDeskModel" "MidiDeskModel" index y bytes maxL ret (Cond.code y bytes maxL ret :: gw) rm rm.cells rm.slots n)
    (hn : As.length = n) (hst : st0 = As.reverse ++ .ref q :: rest) (hr : (rest.map fun v => v.category).sum ≤ 8) (hdg : decode cc pc = .ok (.invokevirtual index, 3)) (hf : cells + rm.cells ≤ R.cells ∧ slots + rm.slots ≤ R.slots)
    (kk : ∀ (H1 : Heap) (locs1 : List Loc), mWd g A H0 q ad X iv' av' H1 locs1 → W p l e R s m args below meth c H1 locs1 (cells + rm.cells) (slots + rm.slots) Q (F0 m (pc + 3) ls (rv.toList ++ rest))) : W p l e R s m args below meth c H locs cells slots Q (F0 m pc ls st0) := by
  refine x_call (B := fun h => va_P g.1 classes (mw g q ad iv' av' X) h) (rv := rv) (va_runV (As := As) (rest := rest) C.1 (hM H.size) cw ⟨mPc_blind, m_recv C.2 hw, m_pre C.2 hw⟩ rfl hn hl hst (lv_room hr) hdg hf) hw.2.2.1 (fun z _ h => m_free hw rfl z h) (m_free hw rfl) (fun H1 locs1 hB hS => kk H1 locs1 ⟨hB, va_D_map mw_map hw.2.1, hS, hw.2.2.2⟩)
theorem m_callS {y : MethodName} {bytes : ByteArray} {maxL index n : Nat} {ret : Option FieldType} {rm : Room} {As : List Value} {rv : Option Value} {iv' : Nat → Int32} {av' : Nat → Nat → Int32} {st0 : List Value} (C : mCx p m c cc nL s args g "MidiDeskModel") (hl : ls.size = nL) (hw : mWd g A H0 q ad X iv av H locs)
    (hM : mMet l y bytes maxL ret rm g q ad X iv av As rv iv' av') (cw : CallB R s args "MidiDeskModel" index y bytes maxL ret (Cond.code y bytes maxL ret :: gw) rm rm.cells rm.slots n ∧ (Cond.static y).before args s = true)
    (hn : As.length = n) (hst : st0 = As.reverse ++ rest) (hr : (rest.map fun v => v.category).sum ≤ 8) (hdg : decode cc pc = .ok (.invokestatic index, 3)) (hf : cells + rm.cells ≤ R.cells ∧ slots + rm.slots ≤ R.slots)
    (kk : ∀ (H1 : Heap) (locs1 : List Loc), mWd g A H0 q ad X iv' av' H1 locs1 → W p l e R s m args below meth c H1 locs1 (cells + rm.cells) (slots + rm.slots) Q (F0 m (pc + 3) ls (rv.toList ++ rest))) : W p l e R s m args below meth c H locs cells slots Q (F0 m pc ls st0) := by
  refine x_call (B := fun h => va_P g.1 classes (mw g q ad iv' av' X) h) (rv := rv) (va_runS (As := As) (rest := rest) C.1 (hM H.size) cw ⟨mPc_blind, m_pre C.2 hw⟩ rfl hn hl hst (lv_room hr) hdg hf) hw.2.2.1 (fun z _ h => m_free hw rfl z h) (m_free hw rfl) (fun H1 locs1 hB hS => kk H1 locs1 ⟨hB, va_D_map mw_map hw.2.1, hS, hw.2.2.2⟩)

theorem mg_thrown (C : mCx p m c cc nL s args g "MidiDeskModel") (hw : mWd g A H0 q ad X iv av H locs) (hdg : decode cc pc = .ok (.getfield 47, 3)) (kk : W p l e R s m args below meth c H locs cells slots Q (F0 m (pc + 3) ls (.int (iv 0) :: rest))) : W p l e R s m args below meth c H locs cells slots Q (F0 m pc ls (.ref q :: rest)) :=
  va_get (ci := 6) (C := R_Model) (T := F_Model) (N := 25) C.1.1 C.1.2.1 C.1.2.2.2.2 i_Model C.1.2.2.2.1 C.2.1 hw.1 0 rfl rfl 0 (by decide) (C.1.2.2.2.2 _ gw_715) (fun _ h => h) rfl hdg kk
theorem mp_thrown {x : Int32} (C : mCx p m c cc nL s args g "MidiDeskModel") (hw : mWd g A H0 q ad X iv av H locs) (hdg : decode cc pc = .ok (.putfield 47, 3)) (kk : ∀ (H1 : Heap) (locs1 : List Loc), mWd g A H0 q ad X (upd iv 0 x) av H1 locs1 → W p l e R s m args below meth c H1 locs1 cells slots Q (F0 m (pc + 3) ls rest)) : W p l e R s m args below meth c H locs cells slots Q (F0 m pc ls (.int x :: .ref q :: rest)) :=
  va_put (ci := 6) (ty := .int) (v := .int x) (C := R_Model) (T := F_Model) (N := 25) C.1.1 C.1.2.1 C.1.2.2.2.2 i_Model t_Model t_Model_ok n_Model C.1.2.2.2.1 C.2.1 hw.1 hw.2.1 hw.2.2.1 0 rfl rfl 0 (by decide) (C.1.2.2.2.2 _ gw_715) (fun _ h => h) rfl (by decide +kernel) rfl rfl (Nat.le_of_ble_eq_true rfl) hdg (fun H1 locs1 hP hD hS => kk H1 locs1 ⟨hP, hD, hS, hw.2.2.2⟩)
theorem mg_input (C : mCx p m c cc nL s args g "MidiDeskModel") (hw : mWd g A H0 q ad X iv av H locs) (hdg : decode cc pc = .ok (.getfield 7, 3)) (kk : W p l e R s m args below meth c H locs cells slots Q (F0 m (pc + 3) ls (.ref (ad 0) :: rest))) : W p l e R s m args below meth c H locs cells slots Q (F0 m pc ls (.ref q :: rest)) :=
  va_get (ci := 6) (C := R_Model) (T := F_Model) (N := 25) C.1.1 C.1.2.1 C.1.2.2.2.2 i_Model C.1.2.2.2.1 C.2.1 hw.1 0 rfl rfl 1 (by decide) (C.1.2.2.2.2 _ gw_716) (fun _ h => h) rfl hdg kk
theorem mg_size (C : mCx p m c cc nL s args g "MidiDeskModel") (hw : mWd g A H0 q ad X iv av H locs) (hdg : decode cc pc = .ok (.getfield 51, 3)) (kk : W p l e R s m args below meth c H locs cells slots Q (F0 m (pc + 3) ls (.int (iv 1) :: rest))) : W p l e R s m args below meth c H locs cells slots Q (F0 m pc ls (.ref q :: rest)) :=
  va_get (ci := 6) (C := R_Model) (T := F_Model) (N := 25) C.1.1 C.1.2.1 C.1.2.2.2.2 i_Model C.1.2.2.2.1 C.2.1 hw.1 0 rfl rfl 2 (by decide) (C.1.2.2.2.2 _ gw_717) (fun _ h => h) rfl hdg kk
theorem mp_size {x : Int32} (C : mCx p m c cc nL s args g "MidiDeskModel") (hw : mWd g A H0 q ad X iv av H locs) (hdg : decode cc pc = .ok (.putfield 51, 3)) (kk : ∀ (H1 : Heap) (locs1 : List Loc), mWd g A H0 q ad X (upd iv 1 x) av H1 locs1 → W p l e R s m args below meth c H1 locs1 cells slots Q (F0 m (pc + 3) ls rest)) : W p l e R s m args below meth c H locs cells slots Q (F0 m pc ls (.int x :: .ref q :: rest)) :=
  va_put (ci := 6) (ty := .int) (v := .int x) (C := R_Model) (T := F_Model) (N := 25) C.1.1 C.1.2.1 C.1.2.2.2.2 i_Model t_Model t_Model_ok n_Model C.1.2.2.2.1 C.2.1 hw.1 hw.2.1 hw.2.2.1 0 rfl rfl 2 (by decide) (C.1.2.2.2.2 _ gw_717) (fun _ h => h) rfl (by decide +kernel) rfl rfl (Nat.le_of_ble_eq_true rfl) hdg (fun H1 locs1 hP hD hS => kk H1 locs1 ⟨hP, hD, hS, hw.2.2.2⟩)
theorem mg_at (C : mCx p m c cc nL s args g "MidiDeskModel") (hw : mWd g A H0 q ad X iv av H locs) (hdg : decode cc pc = .ok (.getfield 62, 3)) (kk : W p l e R s m args below meth c H locs cells slots Q (F0 m (pc + 3) ls (.int (iv 2) :: rest))) : W p l e R s m args below meth c H locs cells slots Q (F0 m pc ls (.ref q :: rest)) :=
  va_get (ci := 6) (C := R_Model) (T := F_Model) (N := 25) C.1.1 C.1.2.1 C.1.2.2.2.2 i_Model C.1.2.2.2.1 C.2.1 hw.1 0 rfl rfl 3 (by decide) (C.1.2.2.2.2 _ gw_718) (fun _ h => h) rfl hdg kk
theorem mp_at {x : Int32} (C : mCx p m c cc nL s args g "MidiDeskModel") (hw : mWd g A H0 q ad X iv av H locs) (hdg : decode cc pc = .ok (.putfield 62, 3)) (kk : ∀ (H1 : Heap) (locs1 : List Loc), mWd g A H0 q ad X (upd iv 2 x) av H1 locs1 → W p l e R s m args below meth c H1 locs1 cells slots Q (F0 m (pc + 3) ls rest)) : W p l e R s m args below meth c H locs cells slots Q (F0 m pc ls (.int x :: .ref q :: rest)) :=
  va_put (ci := 6) (ty := .int) (v := .int x) (C := R_Model) (T := F_Model) (N := 25) C.1.1 C.1.2.1 C.1.2.2.2.2 i_Model t_Model t_Model_ok n_Model C.1.2.2.2.1 C.2.1 hw.1 hw.2.1 hw.2.2.1 0 rfl rfl 3 (by decide) (C.1.2.2.2.2 _ gw_718) (fun _ h => h) rfl (by decide +kernel) rfl rfl (Nat.le_of_ble_eq_true rfl) hdg (fun H1 locs1 hP hD hS => kk H1 locs1 ⟨hP, hD, hS, hw.2.2.2⟩)
theorem mg_end (C : mCx p m c cc nL s args g "MidiDeskModel") (hw : mWd g A H0 q ad X iv av H locs) (hdg : decode cc pc = .ok (.getfield 65, 3)) (kk : W p l e R s m args below meth c H locs cells slots Q (F0 m (pc + 3) ls (.int (iv 3) :: rest))) : W p l e R s m args below meth c H locs cells slots Q (F0 m pc ls (.ref q :: rest)) :=
  va_get (ci := 6) (C := R_Model) (T := F_Model) (N := 25) C.1.1 C.1.2.1 C.1.2.2.2.2 i_Model C.1.2.2.2.1 C.2.1 hw.1 0 rfl rfl 4 (by decide) (C.1.2.2.2.2 _ gw_719) (fun _ h => h) rfl hdg kk
theorem mp_end {x : Int32} (C : mCx p m c cc nL s args g "MidiDeskModel") (hw : mWd g A H0 q ad X iv av H locs) (hdg : decode cc pc = .ok (.putfield 65, 3)) (kk : ∀ (H1 : Heap) (locs1 : List Loc), mWd g A H0 q ad X (upd iv 3 x) av H1 locs1 → W p l e R s m args below meth c H1 locs1 cells slots Q (F0 m (pc + 3) ls rest)) : W p l e R s m args below meth c H locs cells slots Q (F0 m pc ls (.int x :: .ref q :: rest)) :=
  va_put (ci := 6) (ty := .int) (v := .int x) (C := R_Model) (T := F_Model) (N := 25) C.1.1 C.1.2.1 C.1.2.2.2.2 i_Model t_Model t_Model_ok n_Model C.1.2.2.2.1 C.2.1 hw.1 hw.2.1 hw.2.2.1 0 rfl rfl 4 (by decide) (C.1.2.2.2.2 _ gw_719) (fun _ h => h) rfl (by decide +kernel) rfl rfl (Nat.le_of_ble_eq_true rfl) hdg (fun H1 locs1 hP hD hS => kk H1 locs1 ⟨hP, hD, hS, hw.2.2.2⟩)
theorem mg_fault (C : mCx p m c cc nL s args g "MidiDeskModel") (hw : mWd g A H0 q ad X iv av H locs) (hdg : decode cc pc = .ok (.getfield 56, 3)) (kk : W p l e R s m args below meth c H locs cells slots Q (F0 m (pc + 3) ls (.int (iv 4) :: rest))) : W p l e R s m args below meth c H locs cells slots Q (F0 m pc ls (.ref q :: rest)) :=
  va_get (ci := 6) (C := R_Model) (T := F_Model) (N := 25) C.1.1 C.1.2.1 C.1.2.2.2.2 i_Model C.1.2.2.2.1 C.2.1 hw.1 0 rfl rfl 5 (by decide) (C.1.2.2.2.2 _ gw_720) (fun _ h => h) rfl hdg kk
theorem mp_fault {x : Int32} (C : mCx p m c cc nL s args g "MidiDeskModel") (hw : mWd g A H0 q ad X iv av H locs) (hdg : decode cc pc = .ok (.putfield 56, 3)) (kk : ∀ (H1 : Heap) (locs1 : List Loc), mWd g A H0 q ad X (upd iv 4 x) av H1 locs1 → W p l e R s m args below meth c H1 locs1 cells slots Q (F0 m (pc + 3) ls rest)) : W p l e R s m args below meth c H locs cells slots Q (F0 m pc ls (.int x :: .ref q :: rest)) :=
  va_put (ci := 6) (ty := .int) (v := .int x) (C := R_Model) (T := F_Model) (N := 25) C.1.1 C.1.2.1 C.1.2.2.2.2 i_Model t_Model t_Model_ok n_Model C.1.2.2.2.1 C.2.1 hw.1 hw.2.1 hw.2.2.1 0 rfl rfl 5 (by decide) (C.1.2.2.2.2 _ gw_720) (fun _ h => h) rfl (by decide +kernel) rfl rfl (Nat.le_of_ble_eq_true rfl) hdg (fun H1 locs1 hP hD hS => kk H1 locs1 ⟨hP, hD, hS, hw.2.2.2⟩)
theorem mg_place (C : mCx p m c cc nL s args g "MidiDeskModel") (hw : mWd g A H0 q ad X iv av H locs) (hdg : decode cc pc = .ok (.getfield 59, 3)) (kk : W p l e R s m args below meth c H locs cells slots Q (F0 m (pc + 3) ls (.int (iv 5) :: rest))) : W p l e R s m args below meth c H locs cells slots Q (F0 m pc ls (.ref q :: rest)) :=
  va_get (ci := 6) (C := R_Model) (T := F_Model) (N := 25) C.1.1 C.1.2.1 C.1.2.2.2.2 i_Model C.1.2.2.2.1 C.2.1 hw.1 0 rfl rfl 6 (by decide) (C.1.2.2.2.2 _ gw_721) (fun _ h => h) rfl hdg kk
theorem mp_place {x : Int32} (C : mCx p m c cc nL s args g "MidiDeskModel") (hw : mWd g A H0 q ad X iv av H locs) (hdg : decode cc pc = .ok (.putfield 59, 3)) (kk : ∀ (H1 : Heap) (locs1 : List Loc), mWd g A H0 q ad X (upd iv 5 x) av H1 locs1 → W p l e R s m args below meth c H1 locs1 cells slots Q (F0 m (pc + 3) ls rest)) : W p l e R s m args below meth c H locs cells slots Q (F0 m pc ls (.int x :: .ref q :: rest)) :=
  va_put (ci := 6) (ty := .int) (v := .int x) (C := R_Model) (T := F_Model) (N := 25) C.1.1 C.1.2.1 C.1.2.2.2.2 i_Model t_Model t_Model_ok n_Model C.1.2.2.2.1 C.2.1 hw.1 hw.2.1 hw.2.2.1 0 rfl rfl 6 (by decide) (C.1.2.2.2.2 _ gw_721) (fun _ h => h) rfl (by decide +kernel) rfl rfl (Nat.le_of_ble_eq_true rfl) hdg (fun H1 locs1 hP hD hS => kk H1 locs1 ⟨hP, hD, hS, hw.2.2.2⟩)
theorem mg_there (C : mCx p m c cc nL s args g "MidiDeskModel") (hw : mWd g A H0 q ad X iv av H locs) (hdg : decode cc pc = .ok (.getfield 110, 3)) (kk : W p l e R s m args below meth c H locs cells slots Q (F0 m (pc + 3) ls (.int (iv 6) :: rest))) : W p l e R s m args below meth c H locs cells slots Q (F0 m pc ls (.ref q :: rest)) :=
  va_get (ci := 6) (C := R_Model) (T := F_Model) (N := 25) C.1.1 C.1.2.1 C.1.2.2.2.2 i_Model C.1.2.2.2.1 C.2.1 hw.1 0 rfl rfl 7 (by decide) (C.1.2.2.2.2 _ gw_722) (fun _ h => h) rfl hdg kk
theorem mp_there {x : Int32} (C : mCx p m c cc nL s args g "MidiDeskModel") (hw : mWd g A H0 q ad X iv av H locs) (hz : x = 0 ∨ x = 1) (hdg : decode cc pc = .ok (.putfield 110, 3)) (kk : ∀ (H1 : Heap) (locs1 : List Loc), mWd g A H0 q ad X (upd iv 6 x) av H1 locs1 → W p l e R s m args below meth c H1 locs1 cells slots Q (F0 m (pc + 3) ls rest)) : W p l e R s m args below meth c H locs cells slots Q (F0 m pc ls (.int x :: .ref q :: rest)) :=
  va_put (ci := 6) (ty := .boolean) (v := .int x) (C := R_Model) (T := F_Model) (N := 25) C.1.1 C.1.2.1 C.1.2.2.2.2 i_Model t_Model t_Model_ok n_Model C.1.2.2.2.1 C.2.1 hw.1 hw.2.1 hw.2.2.1 0 rfl rfl 7 (by decide) (C.1.2.2.2.2 _ gw_722) (fun _ h => h) rfl (by decide +kernel) (by rcases hz with rfl | rfl <;> rfl) (by rcases hz with rfl | rfl <;> rfl) (Nat.le_of_ble_eq_true rfl) hdg (fun H1 locs1 hP hD hS => kk H1 locs1 ⟨hP, hD, hS, hw.2.2.2⟩)
theorem mg_format (C : mCx p m c cc nL s args g "MidiDeskModel") (hw : mWd g A H0 q ad X iv av H locs) (hdg : decode cc pc = .ok (.getfield 82, 3)) (kk : W p l e R s m args below meth c H locs cells slots Q (F0 m (pc + 3) ls (.int (iv 7) :: rest))) : W p l e R s m args below meth c H locs cells slots Q (F0 m pc ls (.ref q :: rest)) :=
  va_get (ci := 6) (C := R_Model) (T := F_Model) (N := 25) C.1.1 C.1.2.1 C.1.2.2.2.2 i_Model C.1.2.2.2.1 C.2.1 hw.1 0 rfl rfl 8 (by decide) (C.1.2.2.2.2 _ gw_723) (fun _ h => h) rfl hdg kk
theorem mp_format {x : Int32} (C : mCx p m c cc nL s args g "MidiDeskModel") (hw : mWd g A H0 q ad X iv av H locs) (hdg : decode cc pc = .ok (.putfield 82, 3)) (kk : ∀ (H1 : Heap) (locs1 : List Loc), mWd g A H0 q ad X (upd iv 7 x) av H1 locs1 → W p l e R s m args below meth c H1 locs1 cells slots Q (F0 m (pc + 3) ls rest)) : W p l e R s m args below meth c H locs cells slots Q (F0 m pc ls (.int x :: .ref q :: rest)) :=
  va_put (ci := 6) (ty := .int) (v := .int x) (C := R_Model) (T := F_Model) (N := 25) C.1.1 C.1.2.1 C.1.2.2.2.2 i_Model t_Model t_Model_ok n_Model C.1.2.2.2.1 C.2.1 hw.1 hw.2.1 hw.2.2.1 0 rfl rfl 8 (by decide) (C.1.2.2.2.2 _ gw_723) (fun _ h => h) rfl (by decide +kernel) rfl rfl (Nat.le_of_ble_eq_true rfl) hdg (fun H1 locs1 hP hD hS => kk H1 locs1 ⟨hP, hD, hS, hw.2.2.2⟩)
theorem mg_tracks (C : mCx p m c cc nL s args g "MidiDeskModel") (hw : mWd g A H0 q ad X iv av H locs) (hdg : decode cc pc = .ok (.getfield 85, 3)) (kk : W p l e R s m args below meth c H locs cells slots Q (F0 m (pc + 3) ls (.int (iv 8) :: rest))) : W p l e R s m args below meth c H locs cells slots Q (F0 m pc ls (.ref q :: rest)) :=
  va_get (ci := 6) (C := R_Model) (T := F_Model) (N := 25) C.1.1 C.1.2.1 C.1.2.2.2.2 i_Model C.1.2.2.2.1 C.2.1 hw.1 0 rfl rfl 9 (by decide) (C.1.2.2.2.2 _ gw_724) (fun _ h => h) rfl hdg kk
theorem mp_tracks {x : Int32} (C : mCx p m c cc nL s args g "MidiDeskModel") (hw : mWd g A H0 q ad X iv av H locs) (hdg : decode cc pc = .ok (.putfield 85, 3)) (kk : ∀ (H1 : Heap) (locs1 : List Loc), mWd g A H0 q ad X (upd iv 8 x) av H1 locs1 → W p l e R s m args below meth c H1 locs1 cells slots Q (F0 m (pc + 3) ls rest)) : W p l e R s m args below meth c H locs cells slots Q (F0 m pc ls (.int x :: .ref q :: rest)) :=
  va_put (ci := 6) (ty := .int) (v := .int x) (C := R_Model) (T := F_Model) (N := 25) C.1.1 C.1.2.1 C.1.2.2.2.2 i_Model t_Model t_Model_ok n_Model C.1.2.2.2.1 C.2.1 hw.1 hw.2.1 hw.2.2.1 0 rfl rfl 9 (by decide) (C.1.2.2.2.2 _ gw_724) (fun _ h => h) rfl (by decide +kernel) rfl rfl (Nat.le_of_ble_eq_true rfl) hdg (fun H1 locs1 hP hD hS => kk H1 locs1 ⟨hP, hD, hS, hw.2.2.2⟩)
theorem mg_division (C : mCx p m c cc nL s args g "MidiDeskModel") (hw : mWd g A H0 q ad X iv av H locs) (hdg : decode cc pc = .ok (.getfield 88, 3)) (kk : W p l e R s m args below meth c H locs cells slots Q (F0 m (pc + 3) ls (.int (iv 9) :: rest))) : W p l e R s m args below meth c H locs cells slots Q (F0 m pc ls (.ref q :: rest)) :=
  va_get (ci := 6) (C := R_Model) (T := F_Model) (N := 25) C.1.1 C.1.2.1 C.1.2.2.2.2 i_Model C.1.2.2.2.1 C.2.1 hw.1 0 rfl rfl 10 (by decide) (C.1.2.2.2.2 _ gw_725) (fun _ h => h) rfl hdg kk
theorem mp_division {x : Int32} (C : mCx p m c cc nL s args g "MidiDeskModel") (hw : mWd g A H0 q ad X iv av H locs) (hdg : decode cc pc = .ok (.putfield 88, 3)) (kk : ∀ (H1 : Heap) (locs1 : List Loc), mWd g A H0 q ad X (upd iv 9 x) av H1 locs1 → W p l e R s m args below meth c H1 locs1 cells slots Q (F0 m (pc + 3) ls rest)) : W p l e R s m args below meth c H locs cells slots Q (F0 m pc ls (.int x :: .ref q :: rest)) :=
  va_put (ci := 6) (ty := .int) (v := .int x) (C := R_Model) (T := F_Model) (N := 25) C.1.1 C.1.2.1 C.1.2.2.2.2 i_Model t_Model t_Model_ok n_Model C.1.2.2.2.1 C.2.1 hw.1 hw.2.1 hw.2.2.1 0 rfl rfl 10 (by decide) (C.1.2.2.2.2 _ gw_725) (fun _ h => h) rfl (by decide +kernel) rfl rfl (Nat.le_of_ble_eq_true rfl) hdg (fun H1 locs1 hP hD hS => kk H1 locs1 ⟨hP, hD, hS, hw.2.2.2⟩)
theorem mg_events (C : mCx p m c cc nL s args g "MidiDeskModel") (hw : mWd g A H0 q ad X iv av H locs) (hdg : decode cc pc = .ok (.getfield 95, 3)) (kk : W p l e R s m args below meth c H locs cells slots Q (F0 m (pc + 3) ls (.int (iv 10) :: rest))) : W p l e R s m args below meth c H locs cells slots Q (F0 m pc ls (.ref q :: rest)) :=
  va_get (ci := 6) (C := R_Model) (T := F_Model) (N := 25) C.1.1 C.1.2.1 C.1.2.2.2.2 i_Model C.1.2.2.2.1 C.2.1 hw.1 0 rfl rfl 11 (by decide) (C.1.2.2.2.2 _ gw_726) (fun _ h => h) rfl hdg kk
theorem mp_events {x : Int32} (C : mCx p m c cc nL s args g "MidiDeskModel") (hw : mWd g A H0 q ad X iv av H locs) (hdg : decode cc pc = .ok (.putfield 95, 3)) (kk : ∀ (H1 : Heap) (locs1 : List Loc), mWd g A H0 q ad X (upd iv 10 x) av H1 locs1 → W p l e R s m args below meth c H1 locs1 cells slots Q (F0 m (pc + 3) ls rest)) : W p l e R s m args below meth c H locs cells slots Q (F0 m pc ls (.int x :: .ref q :: rest)) :=
  va_put (ci := 6) (ty := .int) (v := .int x) (C := R_Model) (T := F_Model) (N := 25) C.1.1 C.1.2.1 C.1.2.2.2.2 i_Model t_Model t_Model_ok n_Model C.1.2.2.2.1 C.2.1 hw.1 hw.2.1 hw.2.2.1 0 rfl rfl 11 (by decide) (C.1.2.2.2.2 _ gw_726) (fun _ h => h) rfl (by decide +kernel) rfl rfl (Nat.le_of_ble_eq_true rfl) hdg (fun H1 locs1 hP hD hS => kk H1 locs1 ⟨hP, hD, hS, hw.2.2.2⟩)
theorem mg_many (C : mCx p m c cc nL s args g "MidiDeskModel") (hw : mWd g A H0 q ad X iv av H locs) (hdg : decode cc pc = .ok (.getfield 98, 3)) (kk : W p l e R s m args below meth c H locs cells slots Q (F0 m (pc + 3) ls (.int (iv 11) :: rest))) : W p l e R s m args below meth c H locs cells slots Q (F0 m pc ls (.ref q :: rest)) :=
  va_get (ci := 6) (C := R_Model) (T := F_Model) (N := 25) C.1.1 C.1.2.1 C.1.2.2.2.2 i_Model C.1.2.2.2.1 C.2.1 hw.1 0 rfl rfl 12 (by decide) (C.1.2.2.2.2 _ gw_727) (fun _ h => h) rfl hdg kk
theorem mp_many {x : Int32} (C : mCx p m c cc nL s args g "MidiDeskModel") (hw : mWd g A H0 q ad X iv av H locs) (hdg : decode cc pc = .ok (.putfield 98, 3)) (kk : ∀ (H1 : Heap) (locs1 : List Loc), mWd g A H0 q ad X (upd iv 11 x) av H1 locs1 → W p l e R s m args below meth c H1 locs1 cells slots Q (F0 m (pc + 3) ls rest)) : W p l e R s m args below meth c H locs cells slots Q (F0 m pc ls (.int x :: .ref q :: rest)) :=
  va_put (ci := 6) (ty := .int) (v := .int x) (C := R_Model) (T := F_Model) (N := 25) C.1.1 C.1.2.1 C.1.2.2.2.2 i_Model t_Model t_Model_ok n_Model C.1.2.2.2.1 C.2.1 hw.1 hw.2.1 hw.2.2.1 0 rfl rfl 12 (by decide) (C.1.2.2.2.2 _ gw_727) (fun _ h => h) rfl (by decide +kernel) rfl rfl (Nat.le_of_ble_eq_true rfl) hdg (fun H1 locs1 hP hD hS => kk H1 locs1 ⟨hP, hD, hS, hw.2.2.2⟩)
theorem mg_ticks (C : mCx p m c cc nL s args g "MidiDeskModel") (hw : mWd g A H0 q ad X iv av H locs) (hdg : decode cc pc = .ok (.getfield 13, 3)) (kk : W p l e R s m args below meth c H locs cells slots Q (F0 m (pc + 3) ls (.ref (ad 1) :: rest))) : W p l e R s m args below meth c H locs cells slots Q (F0 m pc ls (.ref q :: rest)) :=
  va_get (ci := 6) (C := R_Model) (T := F_Model) (N := 25) C.1.1 C.1.2.1 C.1.2.2.2.2 i_Model C.1.2.2.2.1 C.2.1 hw.1 0 rfl rfl 13 (by decide) (C.1.2.2.2.2 _ gw_728) (fun _ h => h) rfl hdg kk
theorem mg_trackOf (C : mCx p m c cc nL s args g "MidiDeskModel") (hw : mWd g A H0 q ad X iv av H locs) (hdg : decode cc pc = .ok (.getfield 16, 3)) (kk : W p l e R s m args below meth c H locs cells slots Q (F0 m (pc + 3) ls (.ref (ad 2) :: rest))) : W p l e R s m args below meth c H locs cells slots Q (F0 m pc ls (.ref q :: rest)) :=
  va_get (ci := 6) (C := R_Model) (T := F_Model) (N := 25) C.1.1 C.1.2.1 C.1.2.2.2.2 i_Model C.1.2.2.2.1 C.2.1 hw.1 0 rfl rfl 14 (by decide) (C.1.2.2.2.2 _ gw_729) (fun _ h => h) rfl hdg kk
theorem mg_status (C : mCx p m c cc nL s args g "MidiDeskModel") (hw : mWd g A H0 q ad X iv av H locs) (hdg : decode cc pc = .ok (.getfield 19, 3)) (kk : W p l e R s m args below meth c H locs cells slots Q (F0 m (pc + 3) ls (.ref (ad 3) :: rest))) : W p l e R s m args below meth c H locs cells slots Q (F0 m pc ls (.ref q :: rest)) :=
  va_get (ci := 6) (C := R_Model) (T := F_Model) (N := 25) C.1.1 C.1.2.1 C.1.2.2.2.2 i_Model C.1.2.2.2.1 C.2.1 hw.1 0 rfl rfl 15 (by decide) (C.1.2.2.2.2 _ gw_730) (fun _ h => h) rfl hdg kk
theorem mg_first (C : mCx p m c cc nL s args g "MidiDeskModel") (hw : mWd g A H0 q ad X iv av H locs) (hdg : decode cc pc = .ok (.getfield 22, 3)) (kk : W p l e R s m args below meth c H locs cells slots Q (F0 m (pc + 3) ls (.ref (ad 4) :: rest))) : W p l e R s m args below meth c H locs cells slots Q (F0 m pc ls (.ref q :: rest)) :=
  va_get (ci := 6) (C := R_Model) (T := F_Model) (N := 25) C.1.1 C.1.2.1 C.1.2.2.2.2 i_Model C.1.2.2.2.1 C.2.1 hw.1 0 rfl rfl 16 (by decide) (C.1.2.2.2.2 _ gw_731) (fun _ h => h) rfl hdg kk
theorem mg_second (C : mCx p m c cc nL s args g "MidiDeskModel") (hw : mWd g A H0 q ad X iv av H locs) (hdg : decode cc pc = .ok (.getfield 25, 3)) (kk : W p l e R s m args below meth c H locs cells slots Q (F0 m (pc + 3) ls (.ref (ad 5) :: rest))) : W p l e R s m args below meth c H locs cells slots Q (F0 m pc ls (.ref q :: rest)) :=
  va_get (ci := 6) (C := R_Model) (T := F_Model) (N := 25) C.1.1 C.1.2.1 C.1.2.2.2.2 i_Model C.1.2.2.2.1 C.2.1 hw.1 0 rfl rfl 17 (by decide) (C.1.2.2.2.2 _ gw_732) (fun _ h => h) rfl hdg kk
theorem mg_from (C : mCx p m c cc nL s args g "MidiDeskModel") (hw : mWd g A H0 q ad X iv av H locs) (hdg : decode cc pc = .ok (.getfield 28, 3)) (kk : W p l e R s m args below meth c H locs cells slots Q (F0 m (pc + 3) ls (.ref (ad 6) :: rest))) : W p l e R s m args below meth c H locs cells slots Q (F0 m pc ls (.ref q :: rest)) :=
  va_get (ci := 6) (C := R_Model) (T := F_Model) (N := 25) C.1.1 C.1.2.1 C.1.2.2.2.2 i_Model C.1.2.2.2.1 C.2.1 hw.1 0 rfl rfl 18 (by decide) (C.1.2.2.2.2 _ gw_733) (fun _ h => h) rfl hdg kk
theorem mg_counts (C : mCx p m c cc nL s args g "MidiDeskModel") (hw : mWd g A H0 q ad X iv av H locs) (hdg : decode cc pc = .ok (.getfield 31, 3)) (kk : W p l e R s m args below meth c H locs cells slots Q (F0 m (pc + 3) ls (.ref (ad 7) :: rest))) : W p l e R s m args below meth c H locs cells slots Q (F0 m pc ls (.ref q :: rest)) :=
  va_get (ci := 6) (C := R_Model) (T := F_Model) (N := 25) C.1.1 C.1.2.1 C.1.2.2.2.2 i_Model C.1.2.2.2.1 C.2.1 hw.1 0 rfl rfl 19 (by decide) (C.1.2.2.2.2 _ gw_734) (fun _ h => h) rfl hdg kk
theorem mg_order (C : mCx p m c cc nL s args g "MidiDeskModel") (hw : mWd g A H0 q ad X iv av H locs) (hdg : decode cc pc = .ok (.getfield 34, 3)) (kk : W p l e R s m args below meth c H locs cells slots Q (F0 m (pc + 3) ls (.ref (ad 8) :: rest))) : W p l e R s m args below meth c H locs cells slots Q (F0 m pc ls (.ref q :: rest)) :=
  va_get (ci := 6) (C := R_Model) (T := F_Model) (N := 25) C.1.1 C.1.2.1 C.1.2.2.2.2 i_Model C.1.2.2.2.1 C.2.1 hw.1 0 rfl rfl 20 (by decide) (C.1.2.2.2.2 _ gw_735) (fun _ h => h) rfl hdg kk
theorem mg_spare (C : mCx p m c cc nL s args g "MidiDeskModel") (hw : mWd g A H0 q ad X iv av H locs) (hdg : decode cc pc = .ok (.getfield 37, 3)) (kk : W p l e R s m args below meth c H locs cells slots Q (F0 m (pc + 3) ls (.ref (ad 9) :: rest))) : W p l e R s m args below meth c H locs cells slots Q (F0 m pc ls (.ref q :: rest)) :=
  va_get (ci := 6) (C := R_Model) (T := F_Model) (N := 25) C.1.1 C.1.2.1 C.1.2.2.2.2 i_Model C.1.2.2.2.1 C.2.1 hw.1 0 rfl rfl 21 (by decide) (C.1.2.2.2.2 _ gw_736) (fun _ h => h) rfl hdg kk
theorem mg_bytes (C : mCx p m c cc nL s args g "MidiDeskModel") (hw : mWd g A H0 q ad X iv av H locs) (hdg : decode cc pc = .ok (.getfield 40, 3)) (kk : W p l e R s m args below meth c H locs cells slots Q (F0 m (pc + 3) ls (.ref (ad 10) :: rest))) : W p l e R s m args below meth c H locs cells slots Q (F0 m pc ls (.ref q :: rest)) :=
  va_get (ci := 6) (C := R_Model) (T := F_Model) (N := 25) C.1.1 C.1.2.1 C.1.2.2.2.2 i_Model C.1.2.2.2.1 C.2.1 hw.1 0 rfl rfl 22 (by decide) (C.1.2.2.2.2 _ gw_737) (fun _ h => h) rfl hdg kk
theorem mg_written (C : mCx p m c cc nL s args g "MidiDeskModel") (hw : mWd g A H0 q ad X iv av H locs) (hdg : decode cc pc = .ok (.getfield 44, 3)) (kk : W p l e R s m args below meth c H locs cells slots Q (F0 m (pc + 3) ls (.ref (ad 11) :: rest))) : W p l e R s m args below meth c H locs cells slots Q (F0 m pc ls (.ref q :: rest)) :=
  va_get (ci := 6) (C := R_Model) (T := F_Model) (N := 25) C.1.1 C.1.2.1 C.1.2.2.2.2 i_Model C.1.2.2.2.1 C.2.1 hw.1 0 rfl rfl 23 (by decide) (C.1.2.2.2.2 _ gw_738) (fun _ h => h) rfl hdg kk
theorem mg_writtenSize (C : mCx p m c cc nL s args g "MidiDeskModel") (hw : mWd g A H0 q ad X iv av H locs) (hdg : decode cc pc = .ok (.getfield 187, 3)) (kk : W p l e R s m args below meth c H locs cells slots Q (F0 m (pc + 3) ls (.int (iv 12) :: rest))) : W p l e R s m args below meth c H locs cells slots Q (F0 m pc ls (.ref q :: rest)) :=
  va_get (ci := 6) (C := R_Model) (T := F_Model) (N := 25) C.1.1 C.1.2.1 C.1.2.2.2.2 i_Model C.1.2.2.2.1 C.2.1 hw.1 0 rfl rfl 24 (by decide) (C.1.2.2.2.2 _ gw_739) (fun _ h => h) rfl hdg kk
theorem mp_writtenSize {x : Int32} (C : mCx p m c cc nL s args g "MidiDeskModel") (hw : mWd g A H0 q ad X iv av H locs) (hdg : decode cc pc = .ok (.putfield 187, 3)) (kk : ∀ (H1 : Heap) (locs1 : List Loc), mWd g A H0 q ad X (upd iv 12 x) av H1 locs1 → W p l e R s m args below meth c H1 locs1 cells slots Q (F0 m (pc + 3) ls rest)) : W p l e R s m args below meth c H locs cells slots Q (F0 m pc ls (.int x :: .ref q :: rest)) :=
  va_put (ci := 6) (ty := .int) (v := .int x) (C := R_Model) (T := F_Model) (N := 25) C.1.1 C.1.2.1 C.1.2.2.2.2 i_Model t_Model t_Model_ok n_Model C.1.2.2.2.1 C.2.1 hw.1 hw.2.1 hw.2.2.1 0 rfl rfl 24 (by decide) (C.1.2.2.2.2 _ gw_739) (fun _ h => h) rfl (by decide +kernel) rfl rfl (Nat.le_of_ble_eq_true rfl) hdg (fun H1 locs1 hP hD hS => kk H1 locs1 ⟨hP, hD, hS, hw.2.2.2⟩)
theorem ma_input {i : Int32} (C : mCx p m c cc nL s args g "MidiDeskModel") (hw : mWd g A H0 q ad X iv av H locs) (hin : ¬ (i < 0 ∨ 12000 ≤ i.toNatClampNeg)) (hdg : decode cc pc = .ok (.iaload, 1)) (kk : W p l e R s m args below meth c H locs cells slots Q (F0 m (pc + 1) ls (.int (av 0 i.toNatClampNeg) :: rest))) : W p l e R s m args below meth c H locs cells slots Q (F0 m pc ls (.int i :: .ref (ad 0) :: rest)) :=
  va_iald C.1.1 C.1.2.1 C.2.1 hw.1 1 0 rfl rfl hin hdg kk
theorem ms_input {i x : Int32} (C : mCx p m c cc nL s args g "MidiDeskModel") (hw : mWd g A H0 q ad X iv av H locs) (hin : ¬ (i < 0 ∨ 12000 ≤ i.toNatClampNeg)) (hdg : decode cc pc = .ok (.iastore, 1)) (kk : ∀ (H1 : Heap) (locs1 : List Loc), mWd g A H0 q ad X iv (up2 av 0 i.toNatClampNeg x) H1 locs1 → W p l e R s m args below meth c H1 locs1 cells slots Q (F0 m (pc + 1) ls rest)) : W p l e R s m args below meth c H locs cells slots Q (F0 m pc ls (.int x :: .int i :: .ref (ad 0) :: rest)) :=
  va_iast C.1.1 C.1.2.1 C.2.1 hw.1 hw.2.1 hw.2.2.1 1 0 rfl rfl hin hdg (fun H1 locs1 hP hD hS => kk H1 locs1 ⟨hP, hD, hS, hw.2.2.2⟩)
theorem ma_ticks {i : Int32} (C : mCx p m c cc nL s args g "MidiDeskModel") (hw : mWd g A H0 q ad X iv av H locs) (hin : ¬ (i < 0 ∨ 1001 ≤ i.toNatClampNeg)) (hdg : decode cc pc = .ok (.iaload, 1)) (kk : W p l e R s m args below meth c H locs cells slots Q (F0 m (pc + 1) ls (.int (av 1 i.toNatClampNeg) :: rest))) : W p l e R s m args below meth c H locs cells slots Q (F0 m pc ls (.int i :: .ref (ad 1) :: rest)) :=
  va_iald C.1.1 C.1.2.1 C.2.1 hw.1 2 0 rfl rfl hin hdg kk
theorem ms_ticks {i x : Int32} (C : mCx p m c cc nL s args g "MidiDeskModel") (hw : mWd g A H0 q ad X iv av H locs) (hin : ¬ (i < 0 ∨ 1001 ≤ i.toNatClampNeg)) (hdg : decode cc pc = .ok (.iastore, 1)) (kk : ∀ (H1 : Heap) (locs1 : List Loc), mWd g A H0 q ad X iv (up2 av 1 i.toNatClampNeg x) H1 locs1 → W p l e R s m args below meth c H1 locs1 cells slots Q (F0 m (pc + 1) ls rest)) : W p l e R s m args below meth c H locs cells slots Q (F0 m pc ls (.int x :: .int i :: .ref (ad 1) :: rest)) :=
  va_iast C.1.1 C.1.2.1 C.2.1 hw.1 hw.2.1 hw.2.2.1 2 0 rfl rfl hin hdg (fun H1 locs1 hP hD hS => kk H1 locs1 ⟨hP, hD, hS, hw.2.2.2⟩)
theorem ma_trackOf {i : Int32} (C : mCx p m c cc nL s args g "MidiDeskModel") (hw : mWd g A H0 q ad X iv av H locs) (hin : ¬ (i < 0 ∨ 1001 ≤ i.toNatClampNeg)) (hdg : decode cc pc = .ok (.iaload, 1)) (kk : W p l e R s m args below meth c H locs cells slots Q (F0 m (pc + 1) ls (.int (av 2 i.toNatClampNeg) :: rest))) : W p l e R s m args below meth c H locs cells slots Q (F0 m pc ls (.int i :: .ref (ad 2) :: rest)) :=
  va_iald C.1.1 C.1.2.1 C.2.1 hw.1 3 0 rfl rfl hin hdg kk
theorem ms_trackOf {i x : Int32} (C : mCx p m c cc nL s args g "MidiDeskModel") (hw : mWd g A H0 q ad X iv av H locs) (hin : ¬ (i < 0 ∨ 1001 ≤ i.toNatClampNeg)) (hdg : decode cc pc = .ok (.iastore, 1)) (kk : ∀ (H1 : Heap) (locs1 : List Loc), mWd g A H0 q ad X iv (up2 av 2 i.toNatClampNeg x) H1 locs1 → W p l e R s m args below meth c H1 locs1 cells slots Q (F0 m (pc + 1) ls rest)) : W p l e R s m args below meth c H locs cells slots Q (F0 m pc ls (.int x :: .int i :: .ref (ad 2) :: rest)) :=
  va_iast C.1.1 C.1.2.1 C.2.1 hw.1 hw.2.1 hw.2.2.1 3 0 rfl rfl hin hdg (fun H1 locs1 hP hD hS => kk H1 locs1 ⟨hP, hD, hS, hw.2.2.2⟩)
theorem ma_status {i : Int32} (C : mCx p m c cc nL s args g "MidiDeskModel") (hw : mWd g A H0 q ad X iv av H locs) (hin : ¬ (i < 0 ∨ 1001 ≤ i.toNatClampNeg)) (hdg : decode cc pc = .ok (.iaload, 1)) (kk : W p l e R s m args below meth c H locs cells slots Q (F0 m (pc + 1) ls (.int (av 3 i.toNatClampNeg) :: rest))) : W p l e R s m args below meth c H locs cells slots Q (F0 m pc ls (.int i :: .ref (ad 3) :: rest)) :=
  va_iald C.1.1 C.1.2.1 C.2.1 hw.1 4 0 rfl rfl hin hdg kk
theorem ms_status {i x : Int32} (C : mCx p m c cc nL s args g "MidiDeskModel") (hw : mWd g A H0 q ad X iv av H locs) (hin : ¬ (i < 0 ∨ 1001 ≤ i.toNatClampNeg)) (hdg : decode cc pc = .ok (.iastore, 1)) (kk : ∀ (H1 : Heap) (locs1 : List Loc), mWd g A H0 q ad X iv (up2 av 3 i.toNatClampNeg x) H1 locs1 → W p l e R s m args below meth c H1 locs1 cells slots Q (F0 m (pc + 1) ls rest)) : W p l e R s m args below meth c H locs cells slots Q (F0 m pc ls (.int x :: .int i :: .ref (ad 3) :: rest)) :=
  va_iast C.1.1 C.1.2.1 C.2.1 hw.1 hw.2.1 hw.2.2.1 4 0 rfl rfl hin hdg (fun H1 locs1 hP hD hS => kk H1 locs1 ⟨hP, hD, hS, hw.2.2.2⟩)
theorem ma_first {i : Int32} (C : mCx p m c cc nL s args g "MidiDeskModel") (hw : mWd g A H0 q ad X iv av H locs) (hin : ¬ (i < 0 ∨ 1001 ≤ i.toNatClampNeg)) (hdg : decode cc pc = .ok (.iaload, 1)) (kk : W p l e R s m args below meth c H locs cells slots Q (F0 m (pc + 1) ls (.int (av 4 i.toNatClampNeg) :: rest))) : W p l e R s m args below meth c H locs cells slots Q (F0 m pc ls (.int i :: .ref (ad 4) :: rest)) :=
  va_iald C.1.1 C.1.2.1 C.2.1 hw.1 5 0 rfl rfl hin hdg kk
theorem ms_first {i x : Int32} (C : mCx p m c cc nL s args g "MidiDeskModel") (hw : mWd g A H0 q ad X iv av H locs) (hin : ¬ (i < 0 ∨ 1001 ≤ i.toNatClampNeg)) (hdg : decode cc pc = .ok (.iastore, 1)) (kk : ∀ (H1 : Heap) (locs1 : List Loc), mWd g A H0 q ad X iv (up2 av 4 i.toNatClampNeg x) H1 locs1 → W p l e R s m args below meth c H1 locs1 cells slots Q (F0 m (pc + 1) ls rest)) : W p l e R s m args below meth c H locs cells slots Q (F0 m pc ls (.int x :: .int i :: .ref (ad 4) :: rest)) :=
  va_iast C.1.1 C.1.2.1 C.2.1 hw.1 hw.2.1 hw.2.2.1 5 0 rfl rfl hin hdg (fun H1 locs1 hP hD hS => kk H1 locs1 ⟨hP, hD, hS, hw.2.2.2⟩)
theorem ma_second {i : Int32} (C : mCx p m c cc nL s args g "MidiDeskModel") (hw : mWd g A H0 q ad X iv av H locs) (hin : ¬ (i < 0 ∨ 1001 ≤ i.toNatClampNeg)) (hdg : decode cc pc = .ok (.iaload, 1)) (kk : W p l e R s m args below meth c H locs cells slots Q (F0 m (pc + 1) ls (.int (av 5 i.toNatClampNeg) :: rest))) : W p l e R s m args below meth c H locs cells slots Q (F0 m pc ls (.int i :: .ref (ad 5) :: rest)) :=
  va_iald C.1.1 C.1.2.1 C.2.1 hw.1 6 0 rfl rfl hin hdg kk
theorem ms_second {i x : Int32} (C : mCx p m c cc nL s args g "MidiDeskModel") (hw : mWd g A H0 q ad X iv av H locs) (hin : ¬ (i < 0 ∨ 1001 ≤ i.toNatClampNeg)) (hdg : decode cc pc = .ok (.iastore, 1)) (kk : ∀ (H1 : Heap) (locs1 : List Loc), mWd g A H0 q ad X iv (up2 av 5 i.toNatClampNeg x) H1 locs1 → W p l e R s m args below meth c H1 locs1 cells slots Q (F0 m (pc + 1) ls rest)) : W p l e R s m args below meth c H locs cells slots Q (F0 m pc ls (.int x :: .int i :: .ref (ad 5) :: rest)) :=
  va_iast C.1.1 C.1.2.1 C.2.1 hw.1 hw.2.1 hw.2.2.1 6 0 rfl rfl hin hdg (fun H1 locs1 hP hD hS => kk H1 locs1 ⟨hP, hD, hS, hw.2.2.2⟩)
theorem ma_from {i : Int32} (C : mCx p m c cc nL s args g "MidiDeskModel") (hw : mWd g A H0 q ad X iv av H locs) (hin : ¬ (i < 0 ∨ 1001 ≤ i.toNatClampNeg)) (hdg : decode cc pc = .ok (.iaload, 1)) (kk : W p l e R s m args below meth c H locs cells slots Q (F0 m (pc + 1) ls (.int (av 6 i.toNatClampNeg) :: rest))) : W p l e R s m args below meth c H locs cells slots Q (F0 m pc ls (.int i :: .ref (ad 6) :: rest)) :=
  va_iald C.1.1 C.1.2.1 C.2.1 hw.1 7 0 rfl rfl hin hdg kk
theorem ms_from {i x : Int32} (C : mCx p m c cc nL s args g "MidiDeskModel") (hw : mWd g A H0 q ad X iv av H locs) (hin : ¬ (i < 0 ∨ 1001 ≤ i.toNatClampNeg)) (hdg : decode cc pc = .ok (.iastore, 1)) (kk : ∀ (H1 : Heap) (locs1 : List Loc), mWd g A H0 q ad X iv (up2 av 6 i.toNatClampNeg x) H1 locs1 → W p l e R s m args below meth c H1 locs1 cells slots Q (F0 m (pc + 1) ls rest)) : W p l e R s m args below meth c H locs cells slots Q (F0 m pc ls (.int x :: .int i :: .ref (ad 6) :: rest)) :=
  va_iast C.1.1 C.1.2.1 C.2.1 hw.1 hw.2.1 hw.2.2.1 7 0 rfl rfl hin hdg (fun H1 locs1 hP hD hS => kk H1 locs1 ⟨hP, hD, hS, hw.2.2.2⟩)
theorem ma_counts {i : Int32} (C : mCx p m c cc nL s args g "MidiDeskModel") (hw : mWd g A H0 q ad X iv av H locs) (hin : ¬ (i < 0 ∨ 1001 ≤ i.toNatClampNeg)) (hdg : decode cc pc = .ok (.iaload, 1)) (kk : W p l e R s m args below meth c H locs cells slots Q (F0 m (pc + 1) ls (.int (av 7 i.toNatClampNeg) :: rest))) : W p l e R s m args below meth c H locs cells slots Q (F0 m pc ls (.int i :: .ref (ad 7) :: rest)) :=
  va_iald C.1.1 C.1.2.1 C.2.1 hw.1 8 0 rfl rfl hin hdg kk
theorem ms_counts {i x : Int32} (C : mCx p m c cc nL s args g "MidiDeskModel") (hw : mWd g A H0 q ad X iv av H locs) (hin : ¬ (i < 0 ∨ 1001 ≤ i.toNatClampNeg)) (hdg : decode cc pc = .ok (.iastore, 1)) (kk : ∀ (H1 : Heap) (locs1 : List Loc), mWd g A H0 q ad X iv (up2 av 7 i.toNatClampNeg x) H1 locs1 → W p l e R s m args below meth c H1 locs1 cells slots Q (F0 m (pc + 1) ls rest)) : W p l e R s m args below meth c H locs cells slots Q (F0 m pc ls (.int x :: .int i :: .ref (ad 7) :: rest)) :=
  va_iast C.1.1 C.1.2.1 C.2.1 hw.1 hw.2.1 hw.2.2.1 8 0 rfl rfl hin hdg (fun H1 locs1 hP hD hS => kk H1 locs1 ⟨hP, hD, hS, hw.2.2.2⟩)
theorem ma_order {i : Int32} (C : mCx p m c cc nL s args g "MidiDeskModel") (hw : mWd g A H0 q ad X iv av H locs) (hin : ¬ (i < 0 ∨ 1001 ≤ i.toNatClampNeg)) (hdg : decode cc pc = .ok (.iaload, 1)) (kk : W p l e R s m args below meth c H locs cells slots Q (F0 m (pc + 1) ls (.int (av 8 i.toNatClampNeg) :: rest))) : W p l e R s m args below meth c H locs cells slots Q (F0 m pc ls (.int i :: .ref (ad 8) :: rest)) :=
  va_iald C.1.1 C.1.2.1 C.2.1 hw.1 9 0 rfl rfl hin hdg kk
theorem ms_order {i x : Int32} (C : mCx p m c cc nL s args g "MidiDeskModel") (hw : mWd g A H0 q ad X iv av H locs) (hin : ¬ (i < 0 ∨ 1001 ≤ i.toNatClampNeg)) (hdg : decode cc pc = .ok (.iastore, 1)) (kk : ∀ (H1 : Heap) (locs1 : List Loc), mWd g A H0 q ad X iv (up2 av 8 i.toNatClampNeg x) H1 locs1 → W p l e R s m args below meth c H1 locs1 cells slots Q (F0 m (pc + 1) ls rest)) : W p l e R s m args below meth c H locs cells slots Q (F0 m pc ls (.int x :: .int i :: .ref (ad 8) :: rest)) :=
  va_iast C.1.1 C.1.2.1 C.2.1 hw.1 hw.2.1 hw.2.2.1 9 0 rfl rfl hin hdg (fun H1 locs1 hP hD hS => kk H1 locs1 ⟨hP, hD, hS, hw.2.2.2⟩)
theorem ma_spare {i : Int32} (C : mCx p m c cc nL s args g "MidiDeskModel") (hw : mWd g A H0 q ad X iv av H locs) (hin : ¬ (i < 0 ∨ 1001 ≤ i.toNatClampNeg)) (hdg : decode cc pc = .ok (.iaload, 1)) (kk : W p l e R s m args below meth c H locs cells slots Q (F0 m (pc + 1) ls (.int (av 9 i.toNatClampNeg) :: rest))) : W p l e R s m args below meth c H locs cells slots Q (F0 m pc ls (.int i :: .ref (ad 9) :: rest)) :=
  va_iald C.1.1 C.1.2.1 C.2.1 hw.1 10 0 rfl rfl hin hdg kk
theorem ms_spare {i x : Int32} (C : mCx p m c cc nL s args g "MidiDeskModel") (hw : mWd g A H0 q ad X iv av H locs) (hin : ¬ (i < 0 ∨ 1001 ≤ i.toNatClampNeg)) (hdg : decode cc pc = .ok (.iastore, 1)) (kk : ∀ (H1 : Heap) (locs1 : List Loc), mWd g A H0 q ad X iv (up2 av 9 i.toNatClampNeg x) H1 locs1 → W p l e R s m args below meth c H1 locs1 cells slots Q (F0 m (pc + 1) ls rest)) : W p l e R s m args below meth c H locs cells slots Q (F0 m pc ls (.int x :: .int i :: .ref (ad 9) :: rest)) :=
  va_iast C.1.1 C.1.2.1 C.2.1 hw.1 hw.2.1 hw.2.2.1 10 0 rfl rfl hin hdg (fun H1 locs1 hP hD hS => kk H1 locs1 ⟨hP, hD, hS, hw.2.2.2⟩)
theorem ma_bytes {i : Int32} (C : mCx p m c cc nL s args g "MidiDeskModel") (hw : mWd g A H0 q ad X iv av H locs) (hin : ¬ (i < 0 ∨ 20100 ≤ i.toNatClampNeg)) (hdg : decode cc pc = .ok (.iaload, 1)) (kk : W p l e R s m args below meth c H locs cells slots Q (F0 m (pc + 1) ls (.int (av 10 i.toNatClampNeg) :: rest))) : W p l e R s m args below meth c H locs cells slots Q (F0 m pc ls (.int i :: .ref (ad 10) :: rest)) :=
  va_iald C.1.1 C.1.2.1 C.2.1 hw.1 11 0 rfl rfl hin hdg kk
theorem ms_bytes {i x : Int32} (C : mCx p m c cc nL s args g "MidiDeskModel") (hw : mWd g A H0 q ad X iv av H locs) (hin : ¬ (i < 0 ∨ 20100 ≤ i.toNatClampNeg)) (hdg : decode cc pc = .ok (.iastore, 1)) (kk : ∀ (H1 : Heap) (locs1 : List Loc), mWd g A H0 q ad X iv (up2 av 10 i.toNatClampNeg x) H1 locs1 → W p l e R s m args below meth c H1 locs1 cells slots Q (F0 m (pc + 1) ls rest)) : W p l e R s m args below meth c H locs cells slots Q (F0 m pc ls (.int x :: .int i :: .ref (ad 10) :: rest)) :=
  va_iast C.1.1 C.1.2.1 C.2.1 hw.1 hw.2.1 hw.2.2.1 11 0 rfl rfl hin hdg (fun H1 locs1 hP hD hS => kk H1 locs1 ⟨hP, hD, hS, hw.2.2.2⟩)
theorem ma_written {i : Int32} (C : mCx p m c cc nL s args g "MidiDeskModel") (hw : mWd g A H0 q ad X iv av H locs) (hin : ¬ (i < 0 ∨ 32768 ≤ i.toNatClampNeg)) (hdg : decode cc pc = .ok (.iaload, 1)) (kk : W p l e R s m args below meth c H locs cells slots Q (F0 m (pc + 1) ls (.int (av 11 i.toNatClampNeg) :: rest))) : W p l e R s m args below meth c H locs cells slots Q (F0 m pc ls (.int i :: .ref (ad 11) :: rest)) :=
  va_iald C.1.1 C.1.2.1 C.2.1 hw.1 12 0 rfl rfl hin hdg kk
theorem ms_written {i x : Int32} (C : mCx p m c cc nL s args g "MidiDeskModel") (hw : mWd g A H0 q ad X iv av H locs) (hin : ¬ (i < 0 ∨ 32768 ≤ i.toNatClampNeg)) (hdg : decode cc pc = .ok (.iastore, 1)) (kk : ∀ (H1 : Heap) (locs1 : List Loc), mWd g A H0 q ad X iv (up2 av 11 i.toNatClampNeg x) H1 locs1 → W p l e R s m args below meth c H1 locs1 cells slots Q (F0 m (pc + 1) ls rest)) : W p l e R s m args below meth c H locs cells slots Q (F0 m pc ls (.int x :: .int i :: .ref (ad 11) :: rest)) :=
  va_iast C.1.1 C.1.2.1 C.2.1 hw.1 hw.2.1 hw.2.2.1 12 0 rfl rfl hin hdg (fun H1 locs1 hP hD hS => kk H1 locs1 ⟨hP, hD, hS, hw.2.2.2⟩)
theorem m_retv {rv : Option Value} {iv' : Nat → Int32} {av' : Nat → Nat → Int32} (C : mCx p m c cc nL s args g "MidiDeskModel") (hr : meth.sig.returnType = none) (hlk : meth.locks = false) (hrv : rv = none) (hw : mWd g (mA g q ad X s.heap.size) s.heap q ad X iv av H locs) (hf : some (iv, av) = some (iv', av')) (hc : cells ≤ R.cells ∧ slots ≤ R.slots) (hdg : decode cc pc = .ok (.return_, 1)) : mG p l e R s m args below meth c g q ad X rv iv' av' H locs cells slots (F0 m pc ls []) := by
  cases hf
  subst hrv
  refine W.widen (k := R.cells) (n := R.slots) hc.1 hc.2 ?_
  exact W.vret C.1.1 C.1.2.1 hr (fun t ht hW => ⟨⟨rfl, by rw [ht]; exact hw.1⟩, hw.2.2.1.F ht⟩) hw.2.2.1.2.2 hdg hlk
theorem m_reti {rv : Option Value} {iv' : Nat → Int32} {av' : Nat → Nat → Int32} {x r : Int32} (C : mCx p m c cc nL s args g "MidiDeskModel") (hr : meth.sig.returnType = some .int) (hlk : meth.locks = false) (hrv : rv = some (.int r)) (hw : mWd g (mA g q ad X s.heap.size) s.heap q ad X iv av H locs) (hf : some (x, iv, av) = some (r, iv', av')) (hc : cells ≤ R.cells ∧ slots ≤ R.slots) (hdg : decode cc pc = .ok (.ireturn, 1)) : mG p l e R s m args below meth c g q ad X rv iv' av' H locs cells slots (F0 m pc ls [.int x]) := by
  cases hf
  subst hrv
  refine W.widen (k := R.cells) (n := R.slots) hc.1 hc.2 ?_
  exact W.iret C.1.1 C.1.2.1 hr (fun t ht hW => ⟨⟨rfl, by rw [ht]; exact hw.1⟩, hw.2.2.1.F ht⟩) hw.2.2.1.2.2 hdg hlk
theorem m_retz {rv : Option Value} {iv' : Nat → Int32} {av' : Nat → Nat → Int32} {x r : Int32} (C : mCx p m c cc nL s args g "MidiDeskModel") (hr : meth.sig.returnType = some .boolean) (hlk : meth.locks = false) (hrv : rv = some (.int r)) (hw : mWd g (mA g q ad X s.heap.size) s.heap q ad X iv av H locs) (hx : x = 0 ∨ x = 1) (hf : some (x, iv, av) = some (r, iv', av')) (hc : cells ≤ R.cells ∧ slots ≤ R.slots) (hdg : decode cc pc = .ok (.ireturn, 1)) : mG p l e R s m args below meth c g q ad X rv iv' av' H locs cells slots (F0 m pc ls [.int x]) := by
  cases hf
  subst hrv
  refine W.widen (k := R.cells) (n := R.slots) hc.1 hc.2 ?_
  exact W.zret C.1.1 C.1.2.1 hr (by rcases hx with rfl | rfl <;> rfl) (fun t ht hW => ⟨⟨rfl, by rw [ht]; exact hw.1⟩, hw.2.2.1.F ht⟩) hw.2.2.1.2.2 hdg hlk
theorem m_retl {rv : Option Value} {iv' : Nat → Int32} {av' : Nat → Nat → Int32} {x r : Int64} (C : mCx p m c cc nL s args g "MidiDeskModel") (hr : meth.sig.returnType = some .long) (hlk : meth.locks = false) (hrv : rv = some (.long r)) (hw : mWd g (mA g q ad X s.heap.size) s.heap q ad X iv av H locs) (hf : some (x, iv, av) = some (r, iv', av')) (hc : cells ≤ R.cells ∧ slots ≤ R.slots) (hdg : decode cc pc = .ok (.lreturn, 1)) : mG p l e R s m args below meth c g q ad X rv iv' av' H locs cells slots (F0 m pc ls [.long x]) := by
  cases hf
  subst hrv
  refine W.widen (k := R.cells) (n := R.slots) hc.1 hc.2 ?_
  exact W.lret C.1.1 C.1.2.1 hr (fun t ht hW => ⟨⟨rfl, by rw [ht]; exact hw.1⟩, hw.2.2.1.F ht⟩) hw.2.2.1.2.2 hdg hlk
end MR
end
section
def FU : Nat := 1000000
theorem gw_26 : (Cond.selects "MidiDeskModel" ({ cls := "MidiDeskModel", name := "head", desc := "()V" } : Jvm.MethodName) ({ cls := "MidiDeskModel", name := "head", desc := "()V" } : Jvm.MethodName)) ∈ gw := gw_in 26 (by decide +kernel) (by decide +kernel)
theorem gw_27 : (Cond.selects "MidiDeskModel" ({ cls := "MidiDeskModel", name := "taken", desc := "(I)J" } : Jvm.MethodName) ({ cls := "MidiDeskModel", name := "taken", desc := "(I)J" } : Jvm.MethodName)) ∈ gw := gw_in 27 (by decide +kernel) (by decide +kernel)
theorem gw_28 : (Cond.selects "MidiDeskModel" ({ cls := "MidiDeskModel", name := "fail", desc := "(II)V" } : Jvm.MethodName) ({ cls := "MidiDeskModel", name := "fail", desc := "(II)V" } : Jvm.MethodName)) ∈ gw := gw_in 28 (by decide +kernel) (by decide +kernel)
theorem gw_29 : (Cond.selects "MidiDeskModel" ({ cls := "MidiDeskModel", name := "track", desc := "(I)V" } : Jvm.MethodName) ({ cls := "MidiDeskModel", name := "track", desc := "(I)V" } : Jvm.MethodName)) ∈ gw := gw_in 29 (by decide +kernel) (by decide +kernel)
theorem gw_30 : (Cond.selects "MidiDeskModel" ({ cls := "MidiDeskModel", name := "number", desc := "()I" } : Jvm.MethodName) ({ cls := "MidiDeskModel", name := "number", desc := "()I" } : Jvm.MethodName)) ∈ gw := gw_in 30 (by decide +kernel) (by decide +kernel)
theorem gw_31 : (Cond.selects "MidiDeskModel" ({ cls := "MidiDeskModel", name := "event", desc := "(IIII)Z" } : Jvm.MethodName) ({ cls := "MidiDeskModel", name := "event", desc := "(IIII)Z" } : Jvm.MethodName)) ∈ gw := gw_in 31 (by decide +kernel) (by decide +kernel)
theorem gw_32 : (Cond.selects "MidiDeskModel" ({ cls := "MidiDeskModel", name := "small", desc := "()I" } : Jvm.MethodName) ({ cls := "MidiDeskModel", name := "small", desc := "()I" } : Jvm.MethodName)) ∈ gw := gw_in 32 (by decide +kernel) (by decide +kernel)
theorem gw_33 : (Cond.selects "MidiDeskModel" ({ cls := "MidiDeskModel", name := "follow", desc := "(II)V" } : Jvm.MethodName) ({ cls := "MidiDeskModel", name := "follow", desc := "(II)V" } : Jvm.MethodName)) ∈ gw := gw_in 33 (by decide +kernel) (by decide +kernel)
theorem gw_34 : (Cond.selects "MidiDeskModel" ({ cls := "MidiDeskModel", name := "tempo", desc := "(I)I" } : Jvm.MethodName) ({ cls := "MidiDeskModel", name := "tempo", desc := "(I)I" } : Jvm.MethodName)) ∈ gw := gw_in 34 (by decide +kernel) (by decide +kernel)
theorem gw_35 : (Cond.selects "MidiDeskModel" ({ cls := "MidiDeskModel", name := "sort", desc := "()V" } : Jvm.MethodName) ({ cls := "MidiDeskModel", name := "sort", desc := "()V" } : Jvm.MethodName)) ∈ gw := gw_in 35 (by decide +kernel) (by decide +kernel)
theorem gw_36 : (Cond.selects "MidiDeskModel" ({ cls := "MidiDeskModel", name := "again", desc := "()V" } : Jvm.MethodName) ({ cls := "MidiDeskModel", name := "again", desc := "()V" } : Jvm.MethodName)) ∈ gw := gw_in 36 (by decide +kernel) (by decide +kernel)
theorem gw_37 : (Cond.selects "MidiDeskModel" ({ cls := "MidiDeskModel", name := "isBefore", desc := "(II)Z" } : Jvm.MethodName) ({ cls := "MidiDeskModel", name := "isBefore", desc := "(II)Z" } : Jvm.MethodName)) ∈ gw := gw_in 37 (by decide +kernel) (by decide +kernel)
theorem gw_38 : (Cond.selects "MidiDeskModel" ({ cls := "MidiDeskModel", name := "has", desc := "(I)Z" } : Jvm.MethodName) ({ cls := "MidiDeskModel", name := "has", desc := "(I)Z" } : Jvm.MethodName)) ∈ gw := gw_in 38 (by decide +kernel) (by decide +kernel)
theorem gw_39 : (Cond.selects "MidiDeskModel" ({ cls := "MidiDeskModel", name := "fails", desc := "(ZZ)Z" } : Jvm.MethodName) ({ cls := "MidiDeskModel", name := "fails", desc := "(ZZ)Z" } : Jvm.MethodName)) ∈ gw := gw_in 39 (by decide +kernel) (by decide +kernel)
theorem gw_40 : (Cond.selects "MidiDeskModel" ({ cls := "MidiDeskModel", name := "timed", desc := "(I)J" } : Jvm.MethodName) ({ cls := "MidiDeskModel", name := "timed", desc := "(I)J" } : Jvm.MethodName)) ∈ gw := gw_in 40 (by decide +kernel) (by decide +kernel)
theorem gw_41 : (Cond.selects "MidiDeskModel" ({ cls := "MidiDeskModel", name := "isTempo", desc := "(I)Z" } : Jvm.MethodName) ({ cls := "MidiDeskModel", name := "isTempo", desc := "(I)Z" } : Jvm.MethodName)) ∈ gw := gw_in 41 (by decide +kernel) (by decide +kernel)
theorem gw_42 : (Cond.selects "MidiDeskModel" ({ cls := "MidiDeskModel", name := "parts", desc := "()J" } : Jvm.MethodName) ({ cls := "MidiDeskModel", name := "parts", desc := "()J" } : Jvm.MethodName)) ∈ gw := gw_in 42 (by decide +kernel) (by decide +kernel)
theorem gw_43 : (Cond.selects "MidiDeskModel" ({ cls := "MidiDeskModel", name := "begins", desc := "(I)Z" } : Jvm.MethodName) ({ cls := "MidiDeskModel", name := "begins", desc := "(I)Z" } : Jvm.MethodName)) ∈ gw := gw_in 43 (by decide +kernel) (by decide +kernel)
theorem gw_44 : (Cond.selects "MidiDeskModel" ({ cls := "MidiDeskModel", name := "ends", desc := "(I)Z" } : Jvm.MethodName) ({ cls := "MidiDeskModel", name := "ends", desc := "(I)Z" } : Jvm.MethodName)) ∈ gw := gw_in 44 (by decide +kernel) (by decide +kernel)
theorem gw_45 : (Cond.selects "MidiDeskModel" ({ cls := "MidiDeskModel", name := "isNote", desc := "(II)Z" } : Jvm.MethodName) ({ cls := "MidiDeskModel", name := "isNote", desc := "(II)Z" } : Jvm.MethodName)) ∈ gw := gw_in 45 (by decide +kernel) (by decide +kernel)
theorem gw_46 : (Cond.selects "MidiDeskModel" ({ cls := "MidiDeskModel", name := "put", desc := "(II)V" } : Jvm.MethodName) ({ cls := "MidiDeskModel", name := "put", desc := "(II)V" } : Jvm.MethodName)) ∈ gw := gw_in 46 (by decide +kernel) (by decide +kernel)
theorem gw_47 : (Cond.selects "MidiDeskModel" ({ cls := "MidiDeskModel", name := "put", desc := "(I)V" } : Jvm.MethodName) ({ cls := "MidiDeskModel", name := "put", desc := "(I)V" } : Jvm.MethodName)) ∈ gw := gw_in 47 (by decide +kernel) (by decide +kernel)
theorem gw_48 : (Cond.selects "MidiDeskModel" ({ cls := "MidiDeskModel", name := "putTrack", desc := "(IZZ)V" } : Jvm.MethodName) ({ cls := "MidiDeskModel", name := "putTrack", desc := "(IZZ)V" } : Jvm.MethodName)) ∈ gw := gw_in 48 (by decide +kernel) (by decide +kernel)
theorem gw_49 : (Cond.selects "MidiDeskModel" ({ cls := "MidiDeskModel", name := "putNumber", desc := "(I)V" } : Jvm.MethodName) ({ cls := "MidiDeskModel", name := "putNumber", desc := "(I)V" } : Jvm.MethodName)) ∈ gw := gw_in 49 (by decide +kernel) (by decide +kernel)
theorem gw_50 : (Cond.selects "MidiDeskModel" ({ cls := "MidiDeskModel", name := "counted", desc := "(Z)I" } : Jvm.MethodName) ({ cls := "MidiDeskModel", name := "counted", desc := "(Z)I" } : Jvm.MethodName)) ∈ gw := gw_in 50 (by decide +kernel) (by decide +kernel)
theorem gw_55 : (Jvm.Cond.initialized "MidiDeskModel") ∈ gw := gw_in 55 (by decide +kernel) (by decide +kernel)
theorem gw_714 : (Jvm.Cond.constant "MidiDeskModel" (43 : Nat) (32768 : Int32)) ∈ gw := gw_in 714 (by decide +kernel) (by decide +kernel)
theorem gw_799 : (Jvm.Cond.constantLong "MidiDeskModel" (54 : Nat) (255 : Int64)) ∈ gw := gw_in 799 (by decide +kernel) (by decide +kernel)
theorem gw_804 : (Jvm.Cond.methodLink "MidiDeskModel" (101 : Nat) ({ cls := "MidiDeskModel", name := "head", desc := "()V" } : Jvm.MethodName)) ∈ gw := gw_in 804 (by decide +kernel) (by decide +kernel)
theorem gw_806 : (Jvm.Cond.instanceMethod ({ cls := "MidiDeskModel", name := "head", desc := "()V" } : Jvm.MethodName)) ∈ gw := gw_in 806 (by decide +kernel) (by decide +kernel)
theorem gw_807 : (Jvm.Cond.code ({ cls := "MidiDeskModel", name := "head", desc := "()V" } : Jvm.MethodName) prog_8_method_9_code (1 : Nat) (Option.none : Option Jvm.ClassFile.FieldType)) ∈ gw := gw_in 807 (by decide +kernel) (by decide +kernel)
theorem gw_808 : (Jvm.Cond.methodLink "MidiDeskModel" (74 : Nat) ({ cls := "MidiDeskModel", name := "taken", desc := "(I)J" } : Jvm.MethodName)) ∈ gw := gw_in 808 (by decide +kernel) (by decide +kernel)
theorem gw_810 : (Jvm.Cond.instanceMethod ({ cls := "MidiDeskModel", name := "taken", desc := "(I)J" } : Jvm.MethodName)) ∈ gw := gw_in 810 (by decide +kernel) (by decide +kernel)
theorem gw_811 : (Jvm.Cond.code ({ cls := "MidiDeskModel", name := "taken", desc := "(I)J" } : Jvm.MethodName) prog_8_method_6_code (5 : Nat) (Option.some Jvm.ClassFile.FieldType.long)) ∈ gw := gw_in 811 (by decide +kernel) (by decide +kernel)
theorem gw_812 : (Jvm.Cond.methodLink "MidiDeskModel" (68 : Nat) ({ cls := "MidiDeskModel", name := "fail", desc := "(II)V" } : Jvm.MethodName)) ∈ gw := gw_in 812 (by decide +kernel) (by decide +kernel)
theorem gw_814 : (Jvm.Cond.instanceMethod ({ cls := "MidiDeskModel", name := "fail", desc := "(II)V" } : Jvm.MethodName)) ∈ gw := gw_in 814 (by decide +kernel) (by decide +kernel)
theorem gw_815 : (Jvm.Cond.code ({ cls := "MidiDeskModel", name := "fail", desc := "(II)V" } : Jvm.MethodName) prog_8_method_5_code (3 : Nat) (Option.none : Option Jvm.ClassFile.FieldType)) ∈ gw := gw_in 815 (by decide +kernel) (by decide +kernel)
theorem gw_816 : (Jvm.Cond.constantLong "MidiDeskModel" (72 : Nat) (256 : Int64)) ∈ gw := gw_in 816 (by decide +kernel) (by decide +kernel)
theorem gw_817 : (Jvm.Cond.constantLong "MidiDeskModel" (78 : Nat) (1297377380 : Int64)) ∈ gw := gw_in 817 (by decide +kernel) (by decide +kernel)
theorem gw_818 : (Jvm.Cond.constantLong "MidiDeskModel" (80 : Nat) (6 : Int64)) ∈ gw := gw_in 818 (by decide +kernel) (by decide +kernel)
theorem gw_819 : (Jvm.Cond.methodLink "MidiDeskModel" (91 : Nat) ({ cls := "MidiDeskModel", name := "isDivision", desc := "(I)Z" } : Jvm.MethodName)) ∈ gw := gw_in 819 (by decide +kernel) (by decide +kernel)
theorem gw_820 : (Jvm.Cond.static ({ cls := "MidiDeskModel", name := "isDivision", desc := "(I)Z" } : Jvm.MethodName)) ∈ gw := gw_in 820 (by decide +kernel) (by decide +kernel)
theorem gw_821 : (Jvm.Cond.code ({ cls := "MidiDeskModel", name := "isDivision", desc := "(I)Z" } : Jvm.MethodName) prog_8_method_8_code (2 : Nat) (Option.some Jvm.ClassFile.FieldType.boolean)) ∈ gw := gw_in 821 (by decide +kernel) (by decide +kernel)
theorem gw_822 : (Jvm.Cond.constantLong "MidiDeskModel" (104 : Nat) (1297379947 : Int64)) ∈ gw := gw_in 822 (by decide +kernel) (by decide +kernel)
theorem gw_823 : (Jvm.Cond.methodLink "MidiDeskModel" (106 : Nat) ({ cls := "MidiDeskModel", name := "track", desc := "(I)V" } : Jvm.MethodName)) ∈ gw := gw_in 823 (by decide +kernel) (by decide +kernel)
theorem gw_825 : (Jvm.Cond.instanceMethod ({ cls := "MidiDeskModel", name := "track", desc := "(I)V" } : Jvm.MethodName)) ∈ gw := gw_in 825 (by decide +kernel) (by decide +kernel)
theorem gw_826 : (Jvm.Cond.code ({ cls := "MidiDeskModel", name := "track", desc := "(I)V" } : Jvm.MethodName) prog_8_method_11_code (8 : Nat) (Option.none : Option Jvm.ClassFile.FieldType)) ∈ gw := gw_in 826 (by decide +kernel) (by decide +kernel)
theorem gw_827 : (Jvm.Cond.methodLink "MidiDeskModel" (117 : Nat) ({ cls := "MidiDeskModel", name := "number", desc := "()I" } : Jvm.MethodName)) ∈ gw := gw_in 827 (by decide +kernel) (by decide +kernel)
theorem gw_829 : (Jvm.Cond.instanceMethod ({ cls := "MidiDeskModel", name := "number", desc := "()I" } : Jvm.MethodName)) ∈ gw := gw_in 829 (by decide +kernel) (by decide +kernel)
theorem gw_830 : (Jvm.Cond.code ({ cls := "MidiDeskModel", name := "number", desc := "()I" } : Jvm.MethodName) prog_8_method_7_code (5 : Nat) (Option.some Jvm.ClassFile.FieldType.int)) ∈ gw := gw_in 830 (by decide +kernel) (by decide +kernel)
theorem gw_831 : (Jvm.Cond.constantLong "MidiDeskModel" (121 : Nat) (268435455 : Int64)) ∈ gw := gw_in 831 (by decide +kernel) (by decide +kernel)
theorem gw_832 : (Jvm.Cond.methodLink "MidiDeskModel" (123 : Nat) ({ cls := "MidiDeskModel", name := "event", desc := "(IIII)Z" } : Jvm.MethodName)) ∈ gw := gw_in 832 (by decide +kernel) (by decide +kernel)
theorem gw_834 : (Jvm.Cond.instanceMethod ({ cls := "MidiDeskModel", name := "event", desc := "(IIII)Z" } : Jvm.MethodName)) ∈ gw := gw_in 834 (by decide +kernel) (by decide +kernel)
theorem gw_835 : (Jvm.Cond.code ({ cls := "MidiDeskModel", name := "event", desc := "(IIII)Z" } : Jvm.MethodName) prog_8_method_13_code (6 : Nat) (Option.some Jvm.ClassFile.FieldType.boolean)) ∈ gw := gw_in 835 (by decide +kernel) (by decide +kernel)
theorem gw_836 : (Jvm.Cond.methodLink "MidiDeskModel" (127 : Nat) ({ cls := "MidiDeskModel", name := "small", desc := "()I" } : Jvm.MethodName)) ∈ gw := gw_in 836 (by decide +kernel) (by decide +kernel)
theorem gw_838 : (Jvm.Cond.instanceMethod ({ cls := "MidiDeskModel", name := "small", desc := "()I" } : Jvm.MethodName)) ∈ gw := gw_in 838 (by decide +kernel) (by decide +kernel)
theorem gw_839 : (Jvm.Cond.code ({ cls := "MidiDeskModel", name := "small", desc := "()I" } : Jvm.MethodName) prog_8_method_12_code (3 : Nat) (Option.some Jvm.ClassFile.FieldType.int)) ∈ gw := gw_in 839 (by decide +kernel) (by decide +kernel)
theorem gw_840 : (Jvm.Cond.methodLink "MidiDeskModel" (130 : Nat) ({ cls := "MidiDeskModel", name := "follow", desc := "(II)V" } : Jvm.MethodName)) ∈ gw := gw_in 840 (by decide +kernel) (by decide +kernel)
theorem gw_842 : (Jvm.Cond.instanceMethod ({ cls := "MidiDeskModel", name := "follow", desc := "(II)V" } : Jvm.MethodName)) ∈ gw := gw_in 842 (by decide +kernel) (by decide +kernel)
theorem gw_843 : (Jvm.Cond.code ({ cls := "MidiDeskModel", name := "follow", desc := "(II)V" } : Jvm.MethodName) prog_8_method_14_code (6 : Nat) (Option.none : Option Jvm.ClassFile.FieldType)) ∈ gw := gw_in 843 (by decide +kernel) (by decide +kernel)
theorem gw_844 : (Jvm.Cond.methodLink "MidiDeskModel" (133 : Nat) ({ cls := "MidiDeskModel", name := "tempo", desc := "(I)I" } : Jvm.MethodName)) ∈ gw := gw_in 844 (by decide +kernel) (by decide +kernel)
theorem gw_846 : (Jvm.Cond.instanceMethod ({ cls := "MidiDeskModel", name := "tempo", desc := "(I)I" } : Jvm.MethodName)) ∈ gw := gw_in 846 (by decide +kernel) (by decide +kernel)
theorem gw_847 : (Jvm.Cond.code ({ cls := "MidiDeskModel", name := "tempo", desc := "(I)I" } : Jvm.MethodName) prog_8_method_15_code (2 : Nat) (Option.some Jvm.ClassFile.FieldType.int)) ∈ gw := gw_in 847 (by decide +kernel) (by decide +kernel)
theorem gw_848 : (Jvm.Cond.methodLink "MidiDeskModel" (114 : Nat) ({ cls := "MidiDeskModel", name := "sort", desc := "()V" } : Jvm.MethodName)) ∈ gw := gw_in 848 (by decide +kernel) (by decide +kernel)
theorem gw_850 : (Jvm.Cond.instanceMethod ({ cls := "MidiDeskModel", name := "sort", desc := "()V" } : Jvm.MethodName)) ∈ gw := gw_in 850 (by decide +kernel) (by decide +kernel)
theorem gw_851 : (Jvm.Cond.code ({ cls := "MidiDeskModel", name := "sort", desc := "()V" } : Jvm.MethodName) prog_8_method_17_code (2 : Nat) (Option.none : Option Jvm.ClassFile.FieldType)) ∈ gw := gw_in 851 (by decide +kernel) (by decide +kernel)
theorem gw_852 : (Jvm.Cond.methodLink "MidiDeskModel" (137 : Nat) ({ cls := "MidiDeskModel", name := "again", desc := "()V" } : Jvm.MethodName)) ∈ gw := gw_in 852 (by decide +kernel) (by decide +kernel)
theorem gw_854 : (Jvm.Cond.instanceMethod ({ cls := "MidiDeskModel", name := "again", desc := "()V" } : Jvm.MethodName)) ∈ gw := gw_in 854 (by decide +kernel) (by decide +kernel)
theorem gw_855 : (Jvm.Cond.code ({ cls := "MidiDeskModel", name := "again", desc := "()V" } : Jvm.MethodName) prog_8_method_19_code (4 : Nat) (Option.none : Option Jvm.ClassFile.FieldType)) ∈ gw := gw_in 855 (by decide +kernel) (by decide +kernel)
theorem gw_856 : (Jvm.Cond.methodLink "MidiDeskModel" (140 : Nat) ({ cls := "MidiDeskModel", name := "isBefore", desc := "(II)Z" } : Jvm.MethodName)) ∈ gw := gw_in 856 (by decide +kernel) (by decide +kernel)
theorem gw_858 : (Jvm.Cond.instanceMethod ({ cls := "MidiDeskModel", name := "isBefore", desc := "(II)Z" } : Jvm.MethodName)) ∈ gw := gw_in 858 (by decide +kernel) (by decide +kernel)
theorem gw_859 : (Jvm.Cond.code ({ cls := "MidiDeskModel", name := "isBefore", desc := "(II)Z" } : Jvm.MethodName) prog_8_method_18_code (3 : Nat) (Option.some Jvm.ClassFile.FieldType.boolean)) ∈ gw := gw_in 859 (by decide +kernel) (by decide +kernel)
theorem gw_864 : (Jvm.Cond.methodLink "MidiDeskModel" (144 : Nat) ({ cls := "MidiDeskModel", name := "has", desc := "(I)Z" } : Jvm.MethodName)) ∈ gw := gw_in 864 (by decide +kernel) (by decide +kernel)
theorem gw_866 : (Jvm.Cond.instanceMethod ({ cls := "MidiDeskModel", name := "has", desc := "(I)Z" } : Jvm.MethodName)) ∈ gw := gw_in 866 (by decide +kernel) (by decide +kernel)
theorem gw_867 : (Jvm.Cond.code ({ cls := "MidiDeskModel", name := "has", desc := "(I)Z" } : Jvm.MethodName) prog_8_method_20_code (2 : Nat) (Option.some Jvm.ClassFile.FieldType.boolean)) ∈ gw := gw_in 867 (by decide +kernel) (by decide +kernel)
theorem gw_876 : (Jvm.Cond.constant "MidiDeskModel" (157 : Nat) (268435455 : Int32)) ∈ gw := gw_in 876 (by decide +kernel) (by decide +kernel)
theorem gw_877 : (Jvm.Cond.methodLink "MidiDeskModel" (158 : Nat) ({ cls := "MidiDeskModel", name := "fails", desc := "(ZZ)Z" } : Jvm.MethodName)) ∈ gw := gw_in 877 (by decide +kernel) (by decide +kernel)
theorem gw_879 : (Jvm.Cond.instanceMethod ({ cls := "MidiDeskModel", name := "fails", desc := "(ZZ)Z" } : Jvm.MethodName)) ∈ gw := gw_in 879 (by decide +kernel) (by decide +kernel)
theorem gw_880 : (Jvm.Cond.code ({ cls := "MidiDeskModel", name := "fails", desc := "(ZZ)Z" } : Jvm.MethodName) prog_8_method_3_code (3 : Nat) (Option.some Jvm.ClassFile.FieldType.boolean)) ∈ gw := gw_in 880 (by decide +kernel) (by decide +kernel)
theorem gw_881 : (Jvm.Cond.methodLink "MidiDeskModel" (162 : Nat) ({ cls := "MidiDeskModel", name := "timed", desc := "(I)J" } : Jvm.MethodName)) ∈ gw := gw_in 881 (by decide +kernel) (by decide +kernel)
theorem gw_883 : (Jvm.Cond.instanceMethod ({ cls := "MidiDeskModel", name := "timed", desc := "(I)J" } : Jvm.MethodName)) ∈ gw := gw_in 883 (by decide +kernel) (by decide +kernel)
theorem gw_884 : (Jvm.Cond.code ({ cls := "MidiDeskModel", name := "timed", desc := "(I)J" } : Jvm.MethodName) prog_8_method_24_code (8 : Nat) (Option.some Jvm.ClassFile.FieldType.long)) ∈ gw := gw_in 884 (by decide +kernel) (by decide +kernel)
theorem gw_885 : (Jvm.Cond.constantLong "MidiDeskModel" (149 : Nat) (100100 : Int64)) ∈ gw := gw_in 885 (by decide +kernel) (by decide +kernel)
theorem gw_886 : (Jvm.Cond.constantLong "MidiDeskModel" (151 : Nat) (1000000 : Int64)) ∈ gw := gw_in 886 (by decide +kernel) (by decide +kernel)
theorem gw_887 : (Jvm.Cond.constant "MidiDeskModel" (153 : Nat) (500000 : Int32)) ∈ gw := gw_in 887 (by decide +kernel) (by decide +kernel)
theorem gw_888 : (Jvm.Cond.methodLink "MidiDeskModel" (154 : Nat) ({ cls := "MidiDeskModel", name := "isTempo", desc := "(I)Z" } : Jvm.MethodName)) ∈ gw := gw_in 888 (by decide +kernel) (by decide +kernel)
theorem gw_890 : (Jvm.Cond.instanceMethod ({ cls := "MidiDeskModel", name := "isTempo", desc := "(I)Z" } : Jvm.MethodName)) ∈ gw := gw_in 890 (by decide +kernel) (by decide +kernel)
theorem gw_891 : (Jvm.Cond.code ({ cls := "MidiDeskModel", name := "isTempo", desc := "(I)Z" } : Jvm.MethodName) prog_8_method_16_code (2 : Nat) (Option.some Jvm.ClassFile.FieldType.boolean)) ∈ gw := gw_in 891 (by decide +kernel) (by decide +kernel)
theorem gw_892 : (Jvm.Cond.methodLink "MidiDeskModel" (165 : Nat) ({ cls := "MidiDeskModel", name := "parts", desc := "()J" } : Jvm.MethodName)) ∈ gw := gw_in 892 (by decide +kernel) (by decide +kernel)
theorem gw_894 : (Jvm.Cond.instanceMethod ({ cls := "MidiDeskModel", name := "parts", desc := "()J" } : Jvm.MethodName)) ∈ gw := gw_in 894 (by decide +kernel) (by decide +kernel)
theorem gw_895 : (Jvm.Cond.code ({ cls := "MidiDeskModel", name := "parts", desc := "()J" } : Jvm.MethodName) prog_8_method_23_code (2 : Nat) (Option.some Jvm.ClassFile.FieldType.long)) ∈ gw := gw_in 895 (by decide +kernel) (by decide +kernel)
theorem gw_896 : (Jvm.Cond.constantLong "MidiDeskModel" (147 : Nat) (3 : Int64)) ∈ gw := gw_in 896 (by decide +kernel) (by decide +kernel)
theorem gw_905 : (Jvm.Cond.methodLink "MidiDeskModel" (169 : Nat) ({ cls := "MidiDeskModel", name := "begins", desc := "(I)Z" } : Jvm.MethodName)) ∈ gw := gw_in 905 (by decide +kernel) (by decide +kernel)
theorem gw_907 : (Jvm.Cond.instanceMethod ({ cls := "MidiDeskModel", name := "begins", desc := "(I)Z" } : Jvm.MethodName)) ∈ gw := gw_in 907 (by decide +kernel) (by decide +kernel)
theorem gw_908 : (Jvm.Cond.code ({ cls := "MidiDeskModel", name := "begins", desc := "(I)Z" } : Jvm.MethodName) prog_8_method_27_code (2 : Nat) (Option.some Jvm.ClassFile.FieldType.boolean)) ∈ gw := gw_in 908 (by decide +kernel) (by decide +kernel)
theorem gw_909 : (Jvm.Cond.methodLink "MidiDeskModel" (172 : Nat) ({ cls := "MidiDeskModel", name := "ends", desc := "(I)Z" } : Jvm.MethodName)) ∈ gw := gw_in 909 (by decide +kernel) (by decide +kernel)
theorem gw_911 : (Jvm.Cond.instanceMethod ({ cls := "MidiDeskModel", name := "ends", desc := "(I)Z" } : Jvm.MethodName)) ∈ gw := gw_in 911 (by decide +kernel) (by decide +kernel)
theorem gw_912 : (Jvm.Cond.code ({ cls := "MidiDeskModel", name := "ends", desc := "(I)Z" } : Jvm.MethodName) prog_8_method_28_code (2 : Nat) (Option.some Jvm.ClassFile.FieldType.boolean)) ∈ gw := gw_in 912 (by decide +kernel) (by decide +kernel)
theorem gw_917 : (Jvm.Cond.methodLink "MidiDeskModel" (175 : Nat) ({ cls := "MidiDeskModel", name := "isNote", desc := "(II)Z" } : Jvm.MethodName)) ∈ gw := gw_in 917 (by decide +kernel) (by decide +kernel)
theorem gw_919 : (Jvm.Cond.instanceMethod ({ cls := "MidiDeskModel", name := "isNote", desc := "(II)Z" } : Jvm.MethodName)) ∈ gw := gw_in 919 (by decide +kernel) (by decide +kernel)
theorem gw_920 : (Jvm.Cond.code ({ cls := "MidiDeskModel", name := "isNote", desc := "(II)Z" } : Jvm.MethodName) prog_8_method_31_code (3 : Nat) (Option.some Jvm.ClassFile.FieldType.boolean)) ∈ gw := gw_in 920 (by decide +kernel) (by decide +kernel)
theorem gw_921 : (Jvm.Cond.constantLong "MidiDeskModel" (178 : Nat) (128 : Int64)) ∈ gw := gw_in 921 (by decide +kernel) (by decide +kernel)
theorem gw_926 : (Jvm.Cond.constant "MidiDeskModel" (182 : Nat) (100000 : Int32)) ∈ gw := gw_in 926 (by decide +kernel) (by decide +kernel)
theorem gw_927 : (Jvm.Cond.methodLink "MidiDeskModel" (183 : Nat) ({ cls := "MidiDeskModel", name := "nearest", desc := "(II)J" } : Jvm.MethodName)) ∈ gw := gw_in 927 (by decide +kernel) (by decide +kernel)
theorem gw_928 : (Jvm.Cond.static ({ cls := "MidiDeskModel", name := "nearest", desc := "(II)J" } : Jvm.MethodName)) ∈ gw := gw_in 928 (by decide +kernel) (by decide +kernel)
theorem gw_929 : (Jvm.Cond.code ({ cls := "MidiDeskModel", name := "nearest", desc := "(II)J" } : Jvm.MethodName) prog_8_method_32_code (4 : Nat) (Option.some Jvm.ClassFile.FieldType.long)) ∈ gw := gw_in 929 (by decide +kernel) (by decide +kernel)
theorem gw_930 : (Jvm.Cond.constantLong "MidiDeskModel" (180 : Nat) (2 : Int64)) ∈ gw := gw_in 930 (by decide +kernel) (by decide +kernel)
theorem gw_939 : (Jvm.Cond.constant "MidiDeskModel" (201 : Nat) (1297377380 : Int32)) ∈ gw := gw_in 939 (by decide +kernel) (by decide +kernel)
theorem gw_940 : (Jvm.Cond.methodLink "MidiDeskModel" (195 : Nat) ({ cls := "MidiDeskModel", name := "put", desc := "(II)V" } : Jvm.MethodName)) ∈ gw := gw_in 940 (by decide +kernel) (by decide +kernel)
theorem gw_942 : (Jvm.Cond.instanceMethod ({ cls := "MidiDeskModel", name := "put", desc := "(II)V" } : Jvm.MethodName)) ∈ gw := gw_in 942 (by decide +kernel) (by decide +kernel)
theorem gw_943 : (Jvm.Cond.code ({ cls := "MidiDeskModel", name := "put", desc := "(II)V" } : Jvm.MethodName) prog_8_method_36_code (4 : Nat) (Option.none : Option Jvm.ClassFile.FieldType)) ∈ gw := gw_in 943 (by decide +kernel) (by decide +kernel)
theorem gw_944 : (Jvm.Cond.methodLink "MidiDeskModel" (190 : Nat) ({ cls := "MidiDeskModel", name := "put", desc := "(I)V" } : Jvm.MethodName)) ∈ gw := gw_in 944 (by decide +kernel) (by decide +kernel)
theorem gw_946 : (Jvm.Cond.instanceMethod ({ cls := "MidiDeskModel", name := "put", desc := "(I)V" } : Jvm.MethodName)) ∈ gw := gw_in 946 (by decide +kernel) (by decide +kernel)
theorem gw_947 : (Jvm.Cond.code ({ cls := "MidiDeskModel", name := "put", desc := "(I)V" } : Jvm.MethodName) prog_8_method_35_code (2 : Nat) (Option.none : Option Jvm.ClassFile.FieldType)) ∈ gw := gw_in 947 (by decide +kernel) (by decide +kernel)
theorem gw_948 : (Jvm.Cond.methodLink "MidiDeskModel" (202 : Nat) ({ cls := "MidiDeskModel", name := "putTrack", desc := "(IZZ)V" } : Jvm.MethodName)) ∈ gw := gw_in 948 (by decide +kernel) (by decide +kernel)
theorem gw_950 : (Jvm.Cond.instanceMethod ({ cls := "MidiDeskModel", name := "putTrack", desc := "(IZZ)V" } : Jvm.MethodName)) ∈ gw := gw_in 950 (by decide +kernel) (by decide +kernel)
theorem gw_951 : (Jvm.Cond.code ({ cls := "MidiDeskModel", name := "putTrack", desc := "(IZZ)V" } : Jvm.MethodName) prog_8_method_38_code (10 : Nat) (Option.none : Option Jvm.ClassFile.FieldType)) ∈ gw := gw_in 951 (by decide +kernel) (by decide +kernel)
theorem gw_952 : (Jvm.Cond.constant "MidiDeskModel" (194 : Nat) (1297379947 : Int32)) ∈ gw := gw_in 952 (by decide +kernel) (by decide +kernel)
theorem gw_953 : (Jvm.Cond.methodLink "MidiDeskModel" (197 : Nat) ({ cls := "MidiDeskModel", name := "putNumber", desc := "(I)V" } : Jvm.MethodName)) ∈ gw := gw_in 953 (by decide +kernel) (by decide +kernel)
theorem gw_955 : (Jvm.Cond.instanceMethod ({ cls := "MidiDeskModel", name := "putNumber", desc := "(I)V" } : Jvm.MethodName)) ∈ gw := gw_in 955 (by decide +kernel) (by decide +kernel)
theorem gw_956 : (Jvm.Cond.code ({ cls := "MidiDeskModel", name := "putNumber", desc := "(I)V" } : Jvm.MethodName) prog_8_method_37_code (4 : Nat) (Option.none : Option Jvm.ClassFile.FieldType)) ∈ gw := gw_in 956 (by decide +kernel) (by decide +kernel)
theorem gw_957 : (Jvm.Cond.constant "MidiDeskModel" (193 : Nat) (2097151 : Int32)) ∈ gw := gw_in 957 (by decide +kernel) (by decide +kernel)
theorem gw_958 : (Jvm.Cond.constant "MidiDeskModel" (200 : Nat) (16723712 : Int32)) ∈ gw := gw_in 958 (by decide +kernel) (by decide +kernel)
theorem gw_971 : (Jvm.Cond.methodLink "MidiDeskModel" (206 : Nat) ({ cls := "MidiDeskModel", name := "counted", desc := "(Z)I" } : Jvm.MethodName)) ∈ gw := gw_in 971 (by decide +kernel) (by decide +kernel)
theorem gw_973 : (Jvm.Cond.instanceMethod ({ cls := "MidiDeskModel", name := "counted", desc := "(Z)I" } : Jvm.MethodName)) ∈ gw := gw_in 973 (by decide +kernel) (by decide +kernel)
theorem gw_974 : (Jvm.Cond.code ({ cls := "MidiDeskModel", name := "counted", desc := "(Z)I" } : Jvm.MethodName) prog_8_method_42_code (4 : Nat) (Option.some Jvm.ClassFile.FieldType.int)) ∈ gw := gw_in 974 (by decide +kernel) (by decide +kernel)
end
section
/-- the state of the desk: int fields, int arrays, rows of events (by their numbers), events' fields -/
abbrev cZ : Type := (Nat → Int32) × (Nat → Nat → Int32) × (Nat → Nat → Option Nat) × (Nat → Nat → Int32)
/-- its shape: lengths of arrays, how many events were made, cells and slots that were made -/
abbrev cH : Type := (Nat → Nat) × Nat × Nat × Nat
def zi (z : cZ) : Nat → Int32 := z.1
def za (z : cZ) : Nat → Nat → Int32 := z.2.1
def zr (z : cZ) : Nat → Nat → Option Nat := z.2.2.1
def ze (z : cZ) : Nat → Nat → Int32 := z.2.2.2
def upr (f : Nat → Nat → Option Nat) (k i : Nat) (x : Option Nat) : Nat → Nat → Option Nat := fun a b => if a = k then (if b = i then x else f k b) else f a b
def upe (f : Nat → Nat → Int32) (j k : Nat) (x : Int32) : Nat → Nat → Int32 := fun a b => if a = j then (if b = k then x else f a b) else f a b
def zU (z : cZ) (k : Nat) (x : Int32) : cZ := (upd z.1 k x, z.2)
def zA (z : cZ) (k i : Nat) (x : Int32) : cZ := (z.1, up2 z.2.1 k i x, z.2.2)
def zR (z : cZ) (k i : Nat) (x : Option Nat) : cZ := (z.1, z.2.1, upr z.2.2.1 k i x, z.2.2.2)
def zE (z : cZ) (j k : Nat) (x : Int32) : cZ := (z.1, z.2.1, z.2.2.1, upe z.2.2.2 j k x)
def okr (n : Nat) : Option Nat → Bool
  | none => true
  | some j => decide (j < n)
def cevf (z : cZ) (j : Nat) : List Value := [.int (ze z j 0), .int (ze z j 1), .int (ze z j 2), .int (ze z j 3), .int (ze z j 4), .int (ze z j 5), .int (ze z j 6)]
def cev (ea : Nat → Nat) (z : cZ) (j : Nat) : Nat × va_E := (ea j, .inr (1, cevf z j))
def cpool (ea : Nat → Nat) (z : cZ) (n : Nat) : va_W := (List.range n).map (cev ea z)
/-- the cells of the desk: desk, input, output, data, score, their arrays, the rows of events; the events; others -/
def cw (g : gT) (qq ad ea : Nat → Nat) (h : cH) (z : cZ) (X : va_W) : va_W := (qq 0, .inr (5, [.ref (qq 1), .ref (qq 2), .ref (qq 4)])) :: (qq 1, .inr (0, [.int 12000, .ref (ad 0), .int (zi z 0)])) :: (qq 2, .inr (0, [.int 16384, .ref (ad 1), .int (zi z 1)])) :: (qq 3, .inr (0, [.int 8000, .ref (ad 2), .int (zi z 2)])) :: (qq 4, .inr (4, [.ref (qq 3), .int (zi z 3), .int (zi z 4), .int (zi z 5), .int (zi z 6), .ref (ad 3), .ref (ad 4), .int (zi z 7)])) :: (ad 0, .inl (g.2.1, h.1 0, .inl (za z 0))) :: (ad 1, .inl (g.2.1, h.1 1, .inl (za z 1))) :: (ad 2, .inl (g.2.1, h.1 2, .inl (za z 2))) :: (ad 3, .inl (g.2.2.2, h.1 3, .inr (.inr (.inr (.inr (fun t => Option.map ea (zr z 0 t))))))) :: (ad 4, .inl (g.2.2.2, h.1 4, .inr (.inr (.inr (.inr (fun t => Option.map ea (zr z 1 t))))))) :: (cpool ea z h.2.1 ++ X)
def pcell (qp : Nat) (qq : Nat → Nat) (pv : Nat → Int32) : Nat × va_E := (qp, .inr (2, [.ref (qq 1), .ref (qq 4), .int (pv 0), .int (pv 1), .int (pv 2), .int (pv 3), .int (pv 4), .int (pv 5), .int (pv 6), .int (pv 7), .int (pv 8), .int (pv 9), .int (pv 10)]))
def tcell (qp : Nat) (qq : Nat → Nat) (pv : Nat → Int32) : Nat × va_E := (qp, .inr (3, [.ref (qq 4), .ref (qq 2), .int (pv 0), .int (pv 1), .int (pv 2)]))
def cWd (g : gT) (A : Nat → Prop) (H0 : Heap) (qq ad ea : Nat → Nat) (h : cH) (X : va_W) (z : cZ) (H : Heap) (locs : List Loc) : Prop := va_P g.1 classes (cw g qq ad ea h z X) H ∧ va_D A (cw g qq ad ea h z X) ∧ va_S A H0 H locs ∧ ∀ y, H0.size ≤ y → A y
theorem cw_map {g : gT} {qq ad ea : Nat → Nat} {h : cH} {z z' : cZ} {X X' : va_W} (hX : X.map Prod.fst = X'.map Prod.fst) : (cw g qq ad ea h z X).map Prod.fst = (cw g qq ad ea h z' X').map Prod.fst := by
  simp only [cw, cpool, List.map_cons, List.map_append, List.map_map, hX]
  rfl
def z0 : cZ := (fun _ => 0, fun _ _ => 0, fun _ _ => none, fun _ _ => 0)
abbrev cA (g : gT) (qq ad ea : Nat → Nat) (h : cH) (X : va_W) (sz : Nat) : Nat → Prop := va_A (cw g qq ad ea h z0 X) sz
def cPc (g : gT) (qq ad ea : Nat → Nat) (h : cH) (X : va_W) (z : cZ) (vs : List Value) (sz : Nat) : Array Value → State → Prop := va_Pc vs (fun U => U.heap.size = sz ∧ kK g U ∧ va_P g.1 classes (cw g qq ad ea h z X) U.heap ∧ va_D (fun _ => True) (cw g qq ad ea h z X))
def cQn (g : gT) (qq ad ea : Nat → Nat) (h : cH) (X : va_W) (rv : Option Value) (X' : va_W) (z' : cZ) (sz : Nat) : Array Value → State → Outcome → State → Prop := fun _ st oc t => (oc = .returned rv ∧ va_P g.1 classes (cw g qq ad ea h z' X') t.heap) ∧ va_F (cA g qq ad ea h X sz) st t
/-- the contract of a method that makes nothing -/
def cMet (l : Launch) (y : MethodName) (cc : ByteArray) (maxL : Nat) (ret : Option FieldType) (rm : Room) (g : gT) (qq ad ea : Nat → Nat) (h : cH) (X : va_W) (z : cZ) (vs : List Value) (rv : Option Value) (X' : va_W) (z' : cZ) : Prop :=
  ∀ sz : Nat, Met l y (.code y cc maxL ret :: gw) rm (cPc g qq ad ea h X z vs sz) (cQn g qq ad ea h X rv X' z' sz) rm.cells rm.slots (cA g qq ad ea h X sz)
theorem cPc_blind {g : gT} {qq ad ea : Nat → Nat} {h : cH} {X : va_W} {z : cZ} {vs : List Value} {sz : Nat} : FrameBlind (cPc g qq ad ea h X z vs sz) := fun a U gf mk w => ⟨w.1, w.2.1, kK.same (s := U) (U := U.calling gf mk a) rfl w.2.2.1, w.2.2.2.1, w.2.2.2.2⟩
abbrev cG (p : Program) (l : Launch) (e : Env) (R : Room) (s : State) (m : MethodId) (args : Array Value) (below : List Frame) (meth : Method) (c : Code) (g : gT) (qq ad ea : Nat → Nat) (h : cH) (X : va_W) (rv : Option Value) (X' : va_W) (z' : cZ) (H : Heap) (locs : List Loc) (cells slots : Nat) (f : JFrame) : Prop :=
  W p l e R s m args below meth c H locs cells slots (MQ below (cQn g qq ad ea h X rv X' z' s.heap.size) args s R.cells R.slots (cA g qq ad ea h X s.heap.size)) f
theorem c_entry {l : Launch} {y : MethodName} {cc : ByteArray} {maxL : Nat} {ret : Option FieldType} {rm : Room} {g : gT} {qq ad ea : Nat → Nat} {h : cH} {X X' : va_W} {z z' : cZ} {vs : List Value} {rv : Option Value} (hy : plainName y.cls = true) (hn : (lg_sl vs).length ≤ maxL)
    (body : ∀ (p : Program) (e : Env) (s : State) (m : MethodId) (args : Array Value) (below : List Frame) (meth : Method) (c : Code) (ls : Array Slot), mCx p m c cc maxL s args g y.cls → meth.sig.returnType = ret → meth.locks = false → meth.name = y.name → lv_has ls maxL (lv_args 0 vs) → cWd g (cA g qq ad ea h X s.heap.size) s.heap qq ad ea h X z s.heap [] → cG p l e rm s m args below meth c g qq ad ea h X rv X' z' s.heap [] 0 0 (F0 m 0 ls [])) :
    cMet l y cc maxL ret rm g qq ad ea h X z vs rv X' z' := by
  intro sz
  refine Met.ofW (cc := cc) (maxL := maxL) (ret := ret) hy rfl ?_
  intro p e s m args below meth c s₁ B hml hv
  obtain ⟨rfl, hsz, hK, hP, hD0⟩ := hv
  subst hsz
  have hts := atoms_spec (ws := Cond.code y cc maxL ret :: gw) B.pre
  have hown : s.vm.findClass y.cls = some m.cls := findClass_of_methodNamed B.named
  have hl := lv_entry vs (n := maxL) hn
  rw [lg_entry_eq]
  have hAe : cA g qq ad ea h X s.heap.size = va_A (cw g qq ad ea h z X) s.heap.size := va_A_map (cw_map rfl)
  exact body p e s m vs.toArray below meth c _ ⟨⟨B.exec, B.bytes, hml, hown, fun w hw => hts w (List.mem_cons_of_mem _ hw)⟩, hK⟩ B.returns B.notSynchronized (name_of_methodNamed B.named B.method).1 hl ⟨hP, by rw [hAe]; exact hD0.self, va_S.rf, fun y hy => Or.inr hy⟩
theorem cw_ev {g : gT} {qq ad ea : Nat → Nat} {h : cH} {z : cZ} {X : va_W} {j : Nat} (hj : j < h.2.1) : (cw g qq ad ea h z X)[j + 10]? = some (cev ea z j) := by
  show (cpool ea z h.2.1 ++ X)[j]? = _
  rw [List.getElem?_append_left (by simp [cpool]; exact hj)]
  simp [cpool, hj]
theorem cev_ne {ea : Nat → Nat} {z : cZ} {i j k : Nat} {x : Int32} (hij : ¬ i = j) : cev ea (zE z j k x) i = cev ea z i := by
  simp [cev, cevf, zE, ze, upe, hij]
theorem cw_evset {g : gT} {qq ad ea : Nat → Nat} {h : cH} {z : cZ} {X : va_W} {j k : Nat} {x : Int32} : (cw g qq ad ea h z X).set (j + 10) (cev ea (zE z j k x) j) = (if j < h.2.1 then cw g qq ad ea h (zE z j k x) X else cw g qq ad ea h z (X.set (j - h.2.1) (cev ea (zE z j k x) j))) := by
  by_cases hj : j < h.2.1
  · rw [if_pos hj]
    have e : (cpool ea z h.2.1 ++ X).set j (cev ea (zE z j k x) j) = cpool ea (zE z j k x) h.2.1 ++ X := by
      rw [List.set_append_left _ _ (by simp [cpool]; exact hj)]
      congr 1
      apply List.ext_getElem?
      intro i
      by_cases hi : i = j
      · subst hi
        rw [List.getElem?_set_self (by simp [cpool]; exact hj)]
        simp [cpool, hj]
      · rw [List.getElem?_set_ne (Ne.symm hi)]
        by_cases hl : i < h.2.1
        · simp [cpool, hl, cev_ne hi]
        · simp [cpool, hl]
    show _ :: _ :: _ :: _ :: _ :: _ :: _ :: _ :: _ :: _ :: ((cpool ea z h.2.1 ++ X).set j (cev ea (zE z j k x) j)) = _
    rw [e]
    rfl
  · rw [if_neg hj]
    show _ :: _ :: _ :: _ :: _ :: _ :: _ :: _ :: _ :: _ :: ((cpool ea z h.2.1 ++ X).set j (cev ea (zE z j k x) j)) = _
    rw [List.set_append_right _ _ (by simp [cpool]; omega)]
    simp only [cpool, List.length_map, List.length_range]
    rfl
theorem cw_x {g : gT} {qq ad ea : Nat → Nat} {h : cH} {z : cZ} {X : va_W} {x : Nat × va_E} : (cw g qq ad ea h z (x :: X))[h.2.1 + 10]? = some x := by
  show (cpool ea z h.2.1 ++ x :: X)[h.2.1]? = _
  rw [List.getElem?_append_right (by simp [cpool])]
  simp [cpool]
theorem cw_xset {g : gT} {qq ad ea : Nat → Nat} {h : cH} {z : cZ} {X : va_W} {x x' : Nat × va_E} : (cw g qq ad ea h z (x :: X)).set (h.2.1 + 10) x' = cw g qq ad ea h z (x' :: X) := by
  show _ :: _ :: _ :: _ :: _ :: _ :: _ :: _ :: _ :: _ :: ((cpool ea z h.2.1 ++ x :: X).set h.2.1 x') = _
  rw [List.set_append_right _ _ (by simp [cpool])]
  simp only [cpool, List.length_map, List.length_range, Nat.sub_self, List.set_cons_zero]
  rfl
theorem rf_cat (r : Option Nat) : (va_rf r).category = 1 := by cases r <;> rfl
theorem gw_81 : (Jvm.Cond.fieldLink "MidiDesk$Bytes" (9 : Nat) "MidiDesk$Bytes" "most" "I") ∈ gw := gw_in 81 (by decide +kernel) (by decide +kernel)
theorem gw_82 : (Jvm.Cond.fieldLink "MidiDesk$Bytes" (15 : Nat) "MidiDesk$Bytes" "row" "[I") ∈ gw := gw_in 82 (by decide +kernel) (by decide +kernel)
theorem gw_83 : (Jvm.Cond.fieldLink "MidiDesk$Bytes" (19 : Nat) "MidiDesk$Bytes" "size" "I") ∈ gw := gw_in 83 (by decide +kernel) (by decide +kernel)
theorem gw_84 : (Jvm.Cond.laysFinal "MidiDesk$Bytes" "MidiDesk$Bytes" "most" "I") ∈ gw := gw_in 84 (by decide +kernel) (by decide +kernel)
theorem gw_86 : (Jvm.Cond.lays "MidiDesk$Bytes" "MidiDesk$Bytes" "row" "[I") ∈ gw := gw_in 86 (by decide +kernel) (by decide +kernel)
theorem gw_88 : (Jvm.Cond.lays "MidiDesk$Bytes" "MidiDesk$Bytes" "size" "I") ∈ gw := gw_in 88 (by decide +kernel) (by decide +kernel)
theorem gw_102 : (Jvm.Cond.fieldLink "MidiDesk$Score" (14 : Nat) "MidiDesk$Score" "data" "LMidiDesk$Bytes;") ∈ gw := gw_in 102 (by decide +kernel) (by decide +kernel)
theorem gw_106 : (Jvm.Cond.fieldLink "MidiDesk$Score" (29 : Nat) "MidiDesk$Score" "present" "Z") ∈ gw := gw_in 106 (by decide +kernel) (by decide +kernel)
theorem gw_111 : (Jvm.Cond.fieldLink "MidiDesk$Score" (116 : Nat) "MidiDesk$Score" "format" "I") ∈ gw := gw_in 111 (by decide +kernel) (by decide +kernel)
theorem gw_117 : (Jvm.Cond.fieldLink "MidiDesk$Score" (103 : Nat) "MidiDesk$Score" "division" "I") ∈ gw := gw_in 117 (by decide +kernel) (by decide +kernel)
theorem gw_119 : (Jvm.Cond.fieldLink "MidiDesk$Score" (22 : Nat) "MidiDesk$Score" "row" "[LMidiDesk$Event;") ∈ gw := gw_in 119 (by decide +kernel) (by decide +kernel)
theorem gw_120 : (Jvm.Cond.fieldLink "MidiDesk$Score" (26 : Nat) "MidiDesk$Score" "spare" "[LMidiDesk$Event;") ∈ gw := gw_in 120 (by decide +kernel) (by decide +kernel)
theorem gw_121 : (Jvm.Cond.fieldLink "MidiDesk$Score" (33 : Nat) "MidiDesk$Score" "size" "I") ∈ gw := gw_in 121 (by decide +kernel) (by decide +kernel)
theorem gw_124 : (Jvm.Cond.laysFinal "MidiDesk$Score" "MidiDesk$Score" "data" "LMidiDesk$Bytes;") ∈ gw := gw_in 124 (by decide +kernel) (by decide +kernel)
theorem gw_126 : (Jvm.Cond.lays "MidiDesk$Score" "MidiDesk$Score" "present" "Z") ∈ gw := gw_in 126 (by decide +kernel) (by decide +kernel)
theorem gw_128 : (Jvm.Cond.lays "MidiDesk$Score" "MidiDesk$Score" "format" "I") ∈ gw := gw_in 128 (by decide +kernel) (by decide +kernel)
theorem gw_130 : (Jvm.Cond.lays "MidiDesk$Score" "MidiDesk$Score" "tracks" "I") ∈ gw := gw_in 130 (by decide +kernel) (by decide +kernel)
theorem gw_132 : (Jvm.Cond.lays "MidiDesk$Score" "MidiDesk$Score" "division" "I") ∈ gw := gw_in 132 (by decide +kernel) (by decide +kernel)
theorem gw_134 : (Jvm.Cond.lays "MidiDesk$Score" "MidiDesk$Score" "row" "[LMidiDesk$Event;") ∈ gw := gw_in 134 (by decide +kernel) (by decide +kernel)
theorem gw_136 : (Jvm.Cond.lays "MidiDesk$Score" "MidiDesk$Score" "spare" "[LMidiDesk$Event;") ∈ gw := gw_in 136 (by decide +kernel) (by decide +kernel)
theorem gw_138 : (Jvm.Cond.lays "MidiDesk$Score" "MidiDesk$Score" "size" "I") ∈ gw := gw_in 138 (by decide +kernel) (by decide +kernel)
theorem gw_141 : (Jvm.Cond.fieldLink "MidiDesk" (14 : Nat) "MidiDesk" "input" "LMidiDesk$Bytes;") ∈ gw := gw_in 141 (by decide +kernel) (by decide +kernel)
theorem gw_142 : (Jvm.Cond.fieldLink "MidiDesk" (18 : Nat) "MidiDesk" "output" "LMidiDesk$Bytes;") ∈ gw := gw_in 142 (by decide +kernel) (by decide +kernel)
theorem gw_143 : (Jvm.Cond.fieldLink "MidiDesk" (24 : Nat) "MidiDesk" "score" "LMidiDesk$Score;") ∈ gw := gw_in 143 (by decide +kernel) (by decide +kernel)
theorem gw_144 : (Jvm.Cond.laysFinal "MidiDesk" "MidiDesk" "input" "LMidiDesk$Bytes;") ∈ gw := gw_in 144 (by decide +kernel) (by decide +kernel)
theorem gw_146 : (Jvm.Cond.laysFinal "MidiDesk" "MidiDesk" "output" "LMidiDesk$Bytes;") ∈ gw := gw_in 146 (by decide +kernel) (by decide +kernel)
theorem gw_148 : (Jvm.Cond.laysFinal "MidiDesk" "MidiDesk" "score" "LMidiDesk$Score;") ∈ gw := gw_in 148 (by decide +kernel) (by decide +kernel)
theorem gw_189 : (Jvm.Cond.fieldLink "MidiDesk$Parser" (9 : Nat) "MidiDesk$Parser" "input" "LMidiDesk$Bytes;") ∈ gw := gw_in 189 (by decide +kernel) (by decide +kernel)
theorem gw_190 : (Jvm.Cond.fieldLink "MidiDesk$Parser" (15 : Nat) "MidiDesk$Parser" "score" "LMidiDesk$Score;") ∈ gw := gw_in 190 (by decide +kernel) (by decide +kernel)
theorem gw_191 : (Jvm.Cond.fieldLink "MidiDesk$Parser" (40 : Nat) "MidiDesk$Parser" "pos" "I") ∈ gw := gw_in 191 (by decide +kernel) (by decide +kernel)
theorem gw_192 : (Jvm.Cond.fieldLink "MidiDesk$Parser" (30 : Nat) "MidiDesk$Parser" "end" "I") ∈ gw := gw_in 192 (by decide +kernel) (by decide +kernel)
theorem gw_193 : (Jvm.Cond.fieldLink "MidiDesk$Parser" (37 : Nat) "MidiDesk$Parser" "fault" "I") ∈ gw := gw_in 193 (by decide +kernel) (by decide +kernel)
theorem gw_194 : (Jvm.Cond.fieldLink "MidiDesk$Parser" (50 : Nat) "MidiDesk$Parser" "tracksSeen" "I") ∈ gw := gw_in 194 (by decide +kernel) (by decide +kernel)
theorem gw_195 : (Jvm.Cond.fieldLink "MidiDesk$Parser" (93 : Nat) "MidiDesk$Parser" "tick" "I") ∈ gw := gw_in 195 (by decide +kernel) (by decide +kernel)
theorem gw_196 : (Jvm.Cond.fieldLink "MidiDesk$Parser" (96 : Nat) "MidiDesk$Parser" "running" "I") ∈ gw := gw_in 196 (by decide +kernel) (by decide +kernel)
theorem gw_197 : (Jvm.Cond.fieldLink "MidiDesk$Parser" (99 : Nat) "MidiDesk$Parser" "ended" "Z") ∈ gw := gw_in 197 (by decide +kernel) (by decide +kernel)
theorem gw_198 : (Jvm.Cond.fieldLink "MidiDesk$Parser" (133 : Nat) "MidiDesk$Parser" "first" "I") ∈ gw := gw_in 198 (by decide +kernel) (by decide +kernel)
theorem gw_199 : (Jvm.Cond.fieldLink "MidiDesk$Parser" (139 : Nat) "MidiDesk$Parser" "second" "I") ∈ gw := gw_in 199 (by decide +kernel) (by decide +kernel)
theorem gw_200 : (Jvm.Cond.fieldLink "MidiDesk$Parser" (145 : Nat) "MidiDesk$Parser" "start" "I") ∈ gw := gw_in 200 (by decide +kernel) (by decide +kernel)
theorem gw_201 : (Jvm.Cond.fieldLink "MidiDesk$Parser" (122 : Nat) "MidiDesk$Parser" "size" "I") ∈ gw := gw_in 201 (by decide +kernel) (by decide +kernel)
theorem gw_202 : (Jvm.Cond.laysFinal "MidiDesk$Parser" "MidiDesk$Parser" "input" "LMidiDesk$Bytes;") ∈ gw := gw_in 202 (by decide +kernel) (by decide +kernel)
theorem gw_204 : (Jvm.Cond.laysFinal "MidiDesk$Parser" "MidiDesk$Parser" "score" "LMidiDesk$Score;") ∈ gw := gw_in 204 (by decide +kernel) (by decide +kernel)
theorem gw_206 : (Jvm.Cond.lays "MidiDesk$Parser" "MidiDesk$Parser" "pos" "I") ∈ gw := gw_in 206 (by decide +kernel) (by decide +kernel)
theorem gw_208 : (Jvm.Cond.lays "MidiDesk$Parser" "MidiDesk$Parser" "end" "I") ∈ gw := gw_in 208 (by decide +kernel) (by decide +kernel)
theorem gw_210 : (Jvm.Cond.lays "MidiDesk$Parser" "MidiDesk$Parser" "fault" "I") ∈ gw := gw_in 210 (by decide +kernel) (by decide +kernel)
theorem gw_212 : (Jvm.Cond.lays "MidiDesk$Parser" "MidiDesk$Parser" "tracksSeen" "I") ∈ gw := gw_in 212 (by decide +kernel) (by decide +kernel)
theorem gw_214 : (Jvm.Cond.lays "MidiDesk$Parser" "MidiDesk$Parser" "tick" "I") ∈ gw := gw_in 214 (by decide +kernel) (by decide +kernel)
theorem gw_216 : (Jvm.Cond.lays "MidiDesk$Parser" "MidiDesk$Parser" "running" "I") ∈ gw := gw_in 216 (by decide +kernel) (by decide +kernel)
theorem gw_218 : (Jvm.Cond.lays "MidiDesk$Parser" "MidiDesk$Parser" "ended" "Z") ∈ gw := gw_in 218 (by decide +kernel) (by decide +kernel)
theorem gw_220 : (Jvm.Cond.lays "MidiDesk$Parser" "MidiDesk$Parser" "first" "I") ∈ gw := gw_in 220 (by decide +kernel) (by decide +kernel)
theorem gw_222 : (Jvm.Cond.lays "MidiDesk$Parser" "MidiDesk$Parser" "second" "I") ∈ gw := gw_in 222 (by decide +kernel) (by decide +kernel)
theorem gw_224 : (Jvm.Cond.lays "MidiDesk$Parser" "MidiDesk$Parser" "start" "I") ∈ gw := gw_in 224 (by decide +kernel) (by decide +kernel)
theorem gw_226 : (Jvm.Cond.lays "MidiDesk$Parser" "MidiDesk$Parser" "size" "I") ∈ gw := gw_in 226 (by decide +kernel) (by decide +kernel)
theorem gw_335 : (Jvm.Cond.fieldLink "MidiDesk$Event" (28 : Nat) "MidiDesk$Event" "tick" "I") ∈ gw := gw_in 335 (by decide +kernel) (by decide +kernel)
theorem gw_340 : (Jvm.Cond.fieldLink "MidiDesk$Event" (25 : Nat) "MidiDesk$Event" "track" "I") ∈ gw := gw_in 340 (by decide +kernel) (by decide +kernel)
theorem gw_343 : (Jvm.Cond.fieldLink "MidiDesk$Event" (9 : Nat) "MidiDesk$Event" "status" "I") ∈ gw := gw_in 343 (by decide +kernel) (by decide +kernel)
theorem gw_347 : (Jvm.Cond.fieldLink "MidiDesk$Event" (15 : Nat) "MidiDesk$Event" "first" "I") ∈ gw := gw_in 347 (by decide +kernel) (by decide +kernel)
theorem gw_354 : (Jvm.Cond.fieldLink "MidiDesk$Event" (18 : Nat) "MidiDesk$Event" "second" "I") ∈ gw := gw_in 354 (by decide +kernel) (by decide +kernel)
theorem gw_363 : (Jvm.Cond.lays "MidiDesk$Event" "MidiDesk$Event" "tick" "I") ∈ gw := gw_in 363 (by decide +kernel) (by decide +kernel)
theorem gw_365 : (Jvm.Cond.lays "MidiDesk$Event" "MidiDesk$Event" "track" "I") ∈ gw := gw_in 365 (by decide +kernel) (by decide +kernel)
theorem gw_367 : (Jvm.Cond.lays "MidiDesk$Event" "MidiDesk$Event" "status" "I") ∈ gw := gw_in 367 (by decide +kernel) (by decide +kernel)
theorem gw_369 : (Jvm.Cond.lays "MidiDesk$Event" "MidiDesk$Event" "first" "I") ∈ gw := gw_in 369 (by decide +kernel) (by decide +kernel)
theorem gw_371 : (Jvm.Cond.lays "MidiDesk$Event" "MidiDesk$Event" "second" "I") ∈ gw := gw_in 371 (by decide +kernel) (by decide +kernel)
theorem gw_373 : (Jvm.Cond.lays "MidiDesk$Event" "MidiDesk$Event" "start" "I") ∈ gw := gw_in 373 (by decide +kernel) (by decide +kernel)
theorem gw_375 : (Jvm.Cond.lays "MidiDesk$Event" "MidiDesk$Event" "size" "I") ∈ gw := gw_in 375 (by decide +kernel) (by decide +kernel)
theorem gw_657 : (Jvm.Cond.fieldLink "MidiDesk$Printer" (9 : Nat) "MidiDesk$Printer" "score" "LMidiDesk$Score;") ∈ gw := gw_in 657 (by decide +kernel) (by decide +kernel)
theorem gw_658 : (Jvm.Cond.fieldLink "MidiDesk$Printer" (15 : Nat) "MidiDesk$Printer" "output" "LMidiDesk$Bytes;") ∈ gw := gw_in 658 (by decide +kernel) (by decide +kernel)
theorem gw_659 : (Jvm.Cond.fieldLink "MidiDesk$Printer" (19 : Nat) "MidiDesk$Printer" "brief" "Z") ∈ gw := gw_in 659 (by decide +kernel) (by decide +kernel)
theorem gw_660 : (Jvm.Cond.fieldLink "MidiDesk$Printer" (46 : Nat) "MidiDesk$Printer" "tick" "I") ∈ gw := gw_in 660 (by decide +kernel) (by decide +kernel)
theorem gw_661 : (Jvm.Cond.fieldLink "MidiDesk$Printer" (49 : Nat) "MidiDesk$Printer" "running" "I") ∈ gw := gw_in 661 (by decide +kernel) (by decide +kernel)
theorem gw_662 : (Jvm.Cond.laysFinal "MidiDesk$Printer" "MidiDesk$Printer" "score" "LMidiDesk$Score;") ∈ gw := gw_in 662 (by decide +kernel) (by decide +kernel)
theorem gw_664 : (Jvm.Cond.laysFinal "MidiDesk$Printer" "MidiDesk$Printer" "output" "LMidiDesk$Bytes;") ∈ gw := gw_in 664 (by decide +kernel) (by decide +kernel)
theorem gw_666 : (Jvm.Cond.laysFinal "MidiDesk$Printer" "MidiDesk$Printer" "brief" "Z") ∈ gw := gw_in 666 (by decide +kernel) (by decide +kernel)
theorem gw_668 : (Jvm.Cond.lays "MidiDesk$Printer" "MidiDesk$Printer" "tick" "I") ∈ gw := gw_in 668 (by decide +kernel) (by decide +kernel)
theorem gw_670 : (Jvm.Cond.lays "MidiDesk$Printer" "MidiDesk$Printer" "running" "I") ∈ gw := gw_in 670 (by decide +kernel) (by decide +kernel)
theorem nw_52 : (Jvm.Cond.fieldLinkNest "MidiDesk$Printer" (96 : Nat) "MidiDesk$Score" "data" "LMidiDesk$Bytes;" "MidiDesk") ∈ nestw := List.mem_filter.mpr ⟨List.mem_of_getElem? (i := 52) (by decide +kernel), rfl⟩
theorem nw_53 : (Jvm.Cond.fieldLinkNest "MidiDesk" (70 : Nat) "MidiDesk$Score" "data" "LMidiDesk$Bytes;" "MidiDesk") ∈ nestw := List.mem_filter.mpr ⟨List.mem_of_getElem? (i := 53) (by decide +kernel), rfl⟩
theorem nw_54 : (Jvm.Cond.fieldLinkNest "MidiDesk$Parser" (161 : Nat) "MidiDesk$Score" "data" "LMidiDesk$Bytes;" "MidiDesk") ∈ nestw := List.mem_filter.mpr ⟨List.mem_of_getElem? (i := 54) (by decide +kernel), rfl⟩
theorem nw_56 : (Jvm.Cond.fieldLinkNest "MidiDesk$Parser" (63 : Nat) "MidiDesk$Score" "present" "Z" "MidiDesk") ∈ nestw := List.mem_filter.mpr ⟨List.mem_of_getElem? (i := 56) (by decide +kernel), rfl⟩
theorem nw_57 : (Jvm.Cond.fieldLinkNest "MidiDesk" (146 : Nat) "MidiDesk$Score" "present" "Z" "MidiDesk") ∈ nestw := List.mem_filter.mpr ⟨List.mem_of_getElem? (i := 57) (by decide +kernel), rfl⟩
theorem nw_58 : (Jvm.Cond.fieldLinkNest "MidiDesk$Parser" (85 : Nat) "MidiDesk$Score" "format" "I" "MidiDesk") ∈ nestw := List.mem_filter.mpr ⟨List.mem_of_getElem? (i := 58) (by decide +kernel), rfl⟩
theorem nw_59 : (Jvm.Cond.fieldLinkNest "MidiDesk" (153 : Nat) "MidiDesk$Score" "format" "I" "MidiDesk") ∈ nestw := List.mem_filter.mpr ⟨List.mem_of_getElem? (i := 59) (by decide +kernel), rfl⟩
theorem nw_61 : (Jvm.Cond.fieldLinkNest "MidiDesk$Printer" (23 : Nat) "MidiDesk$Score" "tracks" "I" "MidiDesk") ∈ nestw := List.mem_filter.mpr ⟨List.mem_of_getElem? (i := 61) (by decide +kernel), rfl⟩
theorem nw_62 : (Jvm.Cond.fieldLinkNest "MidiDesk$Parser" (53 : Nat) "MidiDesk$Score" "tracks" "I" "MidiDesk") ∈ nestw := List.mem_filter.mpr ⟨List.mem_of_getElem? (i := 62) (by decide +kernel), rfl⟩
theorem nw_63 : (Jvm.Cond.fieldLinkNest "MidiDesk" (121 : Nat) "MidiDesk$Score" "tracks" "I" "MidiDesk") ∈ nestw := List.mem_filter.mpr ⟨List.mem_of_getElem? (i := 63) (by decide +kernel), rfl⟩
theorem nw_64 : (Jvm.Cond.fieldLinkNest "MidiDesk$Printer" (39 : Nat) "MidiDesk$Score" "division" "I" "MidiDesk") ∈ nestw := List.mem_filter.mpr ⟨List.mem_of_getElem? (i := 64) (by decide +kernel), rfl⟩
theorem nw_65 : (Jvm.Cond.fieldLinkNest "MidiDesk$Parser" (88 : Nat) "MidiDesk$Score" "division" "I" "MidiDesk") ∈ nestw := List.mem_filter.mpr ⟨List.mem_of_getElem? (i := 65) (by decide +kernel), rfl⟩
theorem nw_67 : (Jvm.Cond.fieldLinkNest "MidiDesk" (156 : Nat) "MidiDesk$Score" "division" "I" "MidiDesk") ∈ nestw := List.mem_filter.mpr ⟨List.mem_of_getElem? (i := 67) (by decide +kernel), rfl⟩
theorem nw_71 : (Jvm.Cond.fieldLinkNest "MidiDesk$Printer" (57 : Nat) "MidiDesk$Score" "size" "I" "MidiDesk") ∈ nestw := List.mem_filter.mpr ⟨List.mem_of_getElem? (i := 71) (by decide +kernel), rfl⟩
theorem nw_72 : (Jvm.Cond.fieldLinkNest "MidiDesk" (139 : Nat) "MidiDesk$Score" "size" "I" "MidiDesk") ∈ nestw := List.mem_filter.mpr ⟨List.mem_of_getElem? (i := 72) (by decide +kernel), rfl⟩
theorem nw_282 : (Jvm.Cond.fieldLinkNest "MidiDesk$Printer" (81 : Nat) "MidiDesk$Event" "tick" "I" "MidiDesk") ∈ nestw := List.mem_filter.mpr ⟨List.mem_of_getElem? (i := 282) (by decide +kernel), rfl⟩
theorem nw_283 : (Jvm.Cond.fieldLinkNest "MidiDesk" (50 : Nat) "MidiDesk$Event" "tick" "I" "MidiDesk") ∈ nestw := List.mem_filter.mpr ⟨List.mem_of_getElem? (i := 283) (by decide +kernel), rfl⟩
theorem nw_285 : (Jvm.Cond.fieldLinkNest "MidiDesk$Score" (65 : Nat) "MidiDesk$Event" "tick" "I" "MidiDesk") ∈ nestw := List.mem_filter.mpr ⟨List.mem_of_getElem? (i := 285) (by decide +kernel), rfl⟩
theorem nw_286 : (Jvm.Cond.fieldLinkNest "MidiDesk$Parser" (152 : Nat) "MidiDesk$Event" "tick" "I" "MidiDesk") ∈ nestw := List.mem_filter.mpr ⟨List.mem_of_getElem? (i := 286) (by decide +kernel), rfl⟩
theorem nw_287 : (Jvm.Cond.fieldLinkNest "MidiDesk$Printer" (63 : Nat) "MidiDesk$Event" "track" "I" "MidiDesk") ∈ nestw := List.mem_filter.mpr ⟨List.mem_of_getElem? (i := 287) (by decide +kernel), rfl⟩
theorem nw_288 : (Jvm.Cond.fieldLinkNest "MidiDesk" (56 : Nat) "MidiDesk$Event" "track" "I" "MidiDesk") ∈ nestw := List.mem_filter.mpr ⟨List.mem_of_getElem? (i := 288) (by decide +kernel), rfl⟩
theorem nw_290 : (Jvm.Cond.fieldLinkNest "MidiDesk$Score" (100 : Nat) "MidiDesk$Event" "track" "I" "MidiDesk") ∈ nestw := List.mem_filter.mpr ⟨List.mem_of_getElem? (i := 290) (by decide +kernel), rfl⟩
theorem nw_291 : (Jvm.Cond.fieldLinkNest "MidiDesk$Parser" (155 : Nat) "MidiDesk$Event" "track" "I" "MidiDesk") ∈ nestw := List.mem_filter.mpr ⟨List.mem_of_getElem? (i := 291) (by decide +kernel), rfl⟩
theorem nw_293 : (Jvm.Cond.fieldLinkNest "MidiDesk$Printer" (82 : Nat) "MidiDesk$Event" "status" "I" "MidiDesk") ∈ nestw := List.mem_filter.mpr ⟨List.mem_of_getElem? (i := 293) (by decide +kernel), rfl⟩
theorem nw_294 : (Jvm.Cond.fieldLinkNest "MidiDesk" (59 : Nat) "MidiDesk$Event" "status" "I" "MidiDesk") ∈ nestw := List.mem_filter.mpr ⟨List.mem_of_getElem? (i := 294) (by decide +kernel), rfl⟩
theorem nw_295 : (Jvm.Cond.fieldLinkNest "MidiDesk$Parser" (157 : Nat) "MidiDesk$Event" "status" "I" "MidiDesk") ∈ nestw := List.mem_filter.mpr ⟨List.mem_of_getElem? (i := 295) (by decide +kernel), rfl⟩
theorem nw_297 : (Jvm.Cond.fieldLinkNest "MidiDesk$Printer" (89 : Nat) "MidiDesk$Event" "first" "I" "MidiDesk") ∈ nestw := List.mem_filter.mpr ⟨List.mem_of_getElem? (i := 297) (by decide +kernel), rfl⟩
theorem nw_298 : (Jvm.Cond.fieldLinkNest "MidiDesk" (62 : Nat) "MidiDesk$Event" "first" "I" "MidiDesk") ∈ nestw := List.mem_filter.mpr ⟨List.mem_of_getElem? (i := 298) (by decide +kernel), rfl⟩
theorem nw_299 : (Jvm.Cond.fieldLinkNest "MidiDesk$Score" (89 : Nat) "MidiDesk$Event" "first" "I" "MidiDesk") ∈ nestw := List.mem_filter.mpr ⟨List.mem_of_getElem? (i := 299) (by decide +kernel), rfl⟩
theorem nw_300 : (Jvm.Cond.fieldLinkNest "MidiDesk$Parser" (159 : Nat) "MidiDesk$Event" "first" "I" "MidiDesk") ∈ nestw := List.mem_filter.mpr ⟨List.mem_of_getElem? (i := 300) (by decide +kernel), rfl⟩
theorem nw_301 : (Jvm.Cond.fieldLinkNest "MidiDesk" (65 : Nat) "MidiDesk$Event" "second" "I" "MidiDesk") ∈ nestw := List.mem_filter.mpr ⟨List.mem_of_getElem? (i := 301) (by decide +kernel), rfl⟩
theorem nw_302 : (Jvm.Cond.fieldLinkNest "MidiDesk$Printer" (92 : Nat) "MidiDesk$Event" "second" "I" "MidiDesk") ∈ nestw := List.mem_filter.mpr ⟨List.mem_of_getElem? (i := 302) (by decide +kernel), rfl⟩
theorem nw_304 : (Jvm.Cond.fieldLinkNest "MidiDesk$Parser" (160 : Nat) "MidiDesk$Event" "second" "I" "MidiDesk") ∈ nestw := List.mem_filter.mpr ⟨List.mem_of_getElem? (i := 304) (by decide +kernel), rfl⟩
theorem nw_305 : (Jvm.Cond.fieldLinkNest "MidiDesk$Printer" (99 : Nat) "MidiDesk$Event" "start" "I" "MidiDesk") ∈ nestw := List.mem_filter.mpr ⟨List.mem_of_getElem? (i := 305) (by decide +kernel), rfl⟩
theorem nw_306 : (Jvm.Cond.fieldLinkNest "MidiDesk" (73 : Nat) "MidiDesk$Event" "start" "I" "MidiDesk") ∈ nestw := List.mem_filter.mpr ⟨List.mem_of_getElem? (i := 306) (by decide +kernel), rfl⟩
theorem nw_307 : (Jvm.Cond.fieldLinkNest "MidiDesk$Parser" (164 : Nat) "MidiDesk$Event" "start" "I" "MidiDesk") ∈ nestw := List.mem_filter.mpr ⟨List.mem_of_getElem? (i := 307) (by decide +kernel), rfl⟩
theorem nw_308 : (Jvm.Cond.fieldLinkNest "MidiDesk$Score" (123 : Nat) "MidiDesk$Event" "start" "I" "MidiDesk") ∈ nestw := List.mem_filter.mpr ⟨List.mem_of_getElem? (i := 308) (by decide +kernel), rfl⟩
theorem nw_309 : (Jvm.Cond.fieldLinkNest "MidiDesk" (68 : Nat) "MidiDesk$Event" "size" "I" "MidiDesk") ∈ nestw := List.mem_filter.mpr ⟨List.mem_of_getElem? (i := 309) (by decide +kernel), rfl⟩
theorem nw_310 : (Jvm.Cond.fieldLinkNest "MidiDesk$Printer" (95 : Nat) "MidiDesk$Event" "size" "I" "MidiDesk") ∈ nestw := List.mem_filter.mpr ⟨List.mem_of_getElem? (i := 310) (by decide +kernel), rfl⟩
theorem nw_311 : (Jvm.Cond.fieldLinkNest "MidiDesk$Parser" (165 : Nat) "MidiDesk$Event" "size" "I" "MidiDesk") ∈ nestw := List.mem_filter.mpr ⟨List.mem_of_getElem? (i := 311) (by decide +kernel), rfl⟩
theorem i_Bytes : ∀ w ∈ u_ws R_Bytes F_Bytes 3, w ∈ gw := List.forall_mem_cons.mpr ⟨gw_84, List.forall_mem_cons.mpr ⟨gw_86, List.forall_mem_cons.mpr ⟨gw_88, fun _ h => absurd h List.not_mem_nil⟩⟩⟩
theorem i_Event : ∀ w ∈ u_ws R_Event F_Event 7, w ∈ gw := List.forall_mem_cons.mpr ⟨gw_363, List.forall_mem_cons.mpr ⟨gw_365, List.forall_mem_cons.mpr ⟨gw_367, List.forall_mem_cons.mpr ⟨gw_369, List.forall_mem_cons.mpr ⟨gw_371, List.forall_mem_cons.mpr ⟨gw_373, List.forall_mem_cons.mpr ⟨gw_375, fun _ h => absurd h List.not_mem_nil⟩⟩⟩⟩⟩⟩⟩
theorem i_Parser : ∀ w ∈ u_ws R_Parser F_Parser 13, w ∈ gw := List.forall_mem_cons.mpr ⟨gw_202, List.forall_mem_cons.mpr ⟨gw_204, List.forall_mem_cons.mpr ⟨gw_206, List.forall_mem_cons.mpr ⟨gw_208, List.forall_mem_cons.mpr ⟨gw_210, List.forall_mem_cons.mpr ⟨gw_212, List.forall_mem_cons.mpr ⟨gw_214, List.forall_mem_cons.mpr ⟨gw_216, List.forall_mem_cons.mpr ⟨gw_218, List.forall_mem_cons.mpr ⟨gw_220, List.forall_mem_cons.mpr ⟨gw_222, List.forall_mem_cons.mpr ⟨gw_224, List.forall_mem_cons.mpr ⟨gw_226, fun _ h => absurd h List.not_mem_nil⟩⟩⟩⟩⟩⟩⟩⟩⟩⟩⟩⟩⟩
theorem i_Printer : ∀ w ∈ u_ws R_Printer F_Printer 5, w ∈ gw := List.forall_mem_cons.mpr ⟨gw_662, List.forall_mem_cons.mpr ⟨gw_664, List.forall_mem_cons.mpr ⟨gw_666, List.forall_mem_cons.mpr ⟨gw_668, List.forall_mem_cons.mpr ⟨gw_670, fun _ h => absurd h List.not_mem_nil⟩⟩⟩⟩⟩
theorem i_Score : ∀ w ∈ u_ws R_Score F_Score 8, w ∈ gw := List.forall_mem_cons.mpr ⟨gw_124, List.forall_mem_cons.mpr ⟨gw_126, List.forall_mem_cons.mpr ⟨gw_128, List.forall_mem_cons.mpr ⟨gw_130, List.forall_mem_cons.mpr ⟨gw_132, List.forall_mem_cons.mpr ⟨gw_134, List.forall_mem_cons.mpr ⟨gw_136, List.forall_mem_cons.mpr ⟨gw_138, fun _ h => absurd h List.not_mem_nil⟩⟩⟩⟩⟩⟩⟩⟩
theorem i_Desk : ∀ w ∈ u_ws R_Desk F_Desk 3, w ∈ gw := List.forall_mem_cons.mpr ⟨gw_144, List.forall_mem_cons.mpr ⟨gw_146, List.forall_mem_cons.mpr ⟨gw_148, fun _ h => absurd h List.not_mem_nil⟩⟩⟩
end
section
section CR
variable {p : Program} {l : Launch} {e : Env} {R : Room} {s : State} {m : MethodId} {args : Array Value} {below : List Frame} {meth : Method} {c : Code} {H : Heap} {locs : List Loc} {cells slots : Nat} {Q : State → Prop} {cc : ByteArray} {nL pc : Nat} {ls : Array Slot} {rest : List Value} {g : gT} {A : Nat → Prop} {H0 : Heap} {qq ad ea : Nat → Nat} {X : va_W} {h : cH} {z : cZ} {own : String}
theorem c_free {X' : va_W} {sz : Nat} (hX : X'.map Prod.fst = X.map Prod.fst) (hw : cWd g A H0 qq ad ea h X z H locs) (hs : H.size = sz) : ∀ y, cA g qq ad ea h X' sz y → A y := by
  subst hs
  intro y hy
  have e : va_A (cw g qq ad ea h z0 X') H.size = va_A (cw g qq ad ea h z X) H.size := va_A_map (cw_map hX)
  rw [show cA g qq ad ea h X' H.size = _ from e] at hy
  rcases hy with ⟨k, x, hk⟩ | hy
  · exact hw.2.1.2 k (y, x) hk
  · exact hw.2.2.2 y (Nat.le_trans hw.2.2.1.1 hy)
theorem c_pre {vs : List Value} (hk : kK g s) (hw : cWd g A H0 qq ad ea h X z H locs) : ∀ U : State, U.heap = H → s.WarmedH U.vm → cPc g qq ad ea h X z vs H.size vs.toArray U := fun U hU hW => ⟨rfl, by rw [hU], kK.moved hW hk, by rw [hU]; exact hw.1, hw.2.1.weaken (fun _ _ _ _ => trivial)⟩
theorem c_callV {y : MethodName} {bytes : ByteArray} {maxL index n b : Nat} {ret : Option FieldType} {rm : Room} {As : List Value} {rv : Option Value} {X' : va_W} {z' : cZ} {st0 : List Value} {CN : String} (C : mCx p m c cc nL s args g own) (hl : ls.size = nL) (hw : cWd g A H0 qq ad ea h X z H locs)
    (hM : cMet l y bytes maxL ret rm g qq ad ea h X z (.ref b :: As) rv X' z') (hX : X.map Prod.fst = X'.map Prod.fst) (hcw : CallW R s args own CN index y bytes maxL ret (Cond.code y bytes maxL ret :: gw) rm rm.cells rm.slots n) (hrc : ∃ cellB : Cell, H[b]? = some cellB ∧ cellB.vm.isStatics = false ∧ s.vm.findClass CN = some cellB.cls)
    (hn : As.length = n) (hst : st0 = As.reverse ++ .ref b :: rest) (hr : (rest.map fun v => v.category).sum ≤ 8) (hdg : decode cc pc = .ok (.invokevirtual index, 3)) (hf : cells + rm.cells ≤ R.cells ∧ slots + rm.slots ≤ R.slots)
    (kk : ∀ (H1 : Heap) (locs1 : List Loc), cWd g A H0 qq ad ea h X' z' H1 locs1 → W p l e R s m args below meth c H1 locs1 (cells + rm.cells) (slots + rm.slots) Q (F0 m (pc + 3) ls (rv.toList ++ rest))) : W p l e R s m args below meth c H locs cells slots Q (F0 m pc ls st0) := by
  refine x_call (B := fun t => va_P g.1 classes (cw g qq ad ea h z' X') t) (rv := rv) (va_runV (As := As) (rest := rest) C.1 (hM H.size) hcw ⟨cPc_blind, hrc, c_pre C.2 hw⟩ rfl hn hl hst (lv_room hr) hdg hf) hw.2.2.1 (fun y _ w => c_free rfl hw rfl y w) (c_free rfl hw rfl) (fun H1 locs1 hB hS => kk H1 locs1 ⟨hB, va_D_map (cw_map hX) hw.2.1, hS, hw.2.2.2⟩)
theorem c_callS {y : MethodName} {bytes : ByteArray} {maxL index n : Nat} {ret : Option FieldType} {rm : Room} {As : List Value} {rv : Option Value} {z' : cZ} {st0 : List Value} (C : mCx p m c cc nL s args g own) (hl : ls.size = nL) (hw : cWd g A H0 qq ad ea h X z H locs)
    (hM : cMet l y bytes maxL ret rm g qq ad ea h X z As rv X z') (hcw : CallB R s args own index y bytes maxL ret (Cond.code y bytes maxL ret :: gw) rm rm.cells rm.slots n ∧ (Cond.static y).before args s = true)
    (hn : As.length = n) (hst : st0 = As.reverse ++ rest) (hr : (rest.map fun v => v.category).sum ≤ 8) (hdg : decode cc pc = .ok (.invokestatic index, 3)) (hf : cells + rm.cells ≤ R.cells ∧ slots + rm.slots ≤ R.slots)
    (kk : ∀ (H1 : Heap) (locs1 : List Loc), cWd g A H0 qq ad ea h X z' H1 locs1 → W p l e R s m args below meth c H1 locs1 (cells + rm.cells) (slots + rm.slots) Q (F0 m (pc + 3) ls (rv.toList ++ rest))) : W p l e R s m args below meth c H locs cells slots Q (F0 m pc ls st0) := by
  refine x_call (B := fun t => va_P g.1 classes (cw g qq ad ea h z' X) t) (rv := rv) (va_runS (As := As) (rest := rest) C.1 (hM H.size) hcw ⟨cPc_blind, c_pre C.2 hw⟩ rfl hn hl hst (lv_room hr) hdg hf) hw.2.2.1 (fun y _ w => c_free rfl hw rfl y w) (c_free rfl hw rfl) (fun H1 locs1 hB hS => kk H1 locs1 ⟨hB, va_D_map (cw_map rfl) hw.2.1, hS, hw.2.2.2⟩)
theorem c_callSN {y : MethodName} {bytes : ByteArray} {maxL index n : Nat} {ret : Option FieldType} {rm : Room} {As : List Value} {rv : Option Value} {z' : cZ} {st0 : List Value} (C : mCx p m c cc nL s args g own) (hl : ls.size = nL) (hw : cWd g A H0 qq ad ea h X z H locs)
    (hM : cMet l y bytes maxL ret rm g qq ad ea h X z As rv X z') (h5 : Cond.code y bytes maxL ret ∈ gw) (hnw : Cond.methodLinkNest own index y "MidiDesk" ∈ nestw) (hsi : Cond.static y ∈ gw) (hii : Cond.initialized y.cls ∈ gw) (hd : y.cls ≠ "java/lang/invoke/MethodHandle" ∧ y.cls ≠ "java/lang/invoke/VarHandle" ∧ (parseMethodDescriptor y.desc).map (fun d => d.parameters.length) = some n) (hR : rm.frames + 1 ≤ R.frames ∧ 8 + (maxL + 11) + rm.locals ≤ R.locals)
    (hn : As.length = n) (hst : st0 = As.reverse ++ rest) (hr : (rest.map fun v => v.category).sum ≤ 8) (hdg : decode cc pc = .ok (.invokestatic index, 3)) (hf : cells + rm.cells ≤ R.cells ∧ slots + rm.slots ≤ R.slots)
    (kk : ∀ (H1 : Heap) (locs1 : List Loc), cWd g A H0 qq ad ea h X z' H1 locs1 → W p l e R s m args below meth c H1 locs1 (cells + rm.cells) (slots + rm.slots) Q (F0 m (pc + 3) ls (rv.toList ++ rest))) : W p l e R s m args below meth c H locs cells slots Q (F0 m pc ls st0) := by
  refine x_call (B := fun t => va_P g.1 classes (cw g qq ad ea h z' X) t) (rv := rv) (va_runSN (As := As) (rest := rest) C.1 (hM H.size) ⟨va_cnB (host := "MidiDesk") n C.1.2.2.2.2 (gw_GI h5) rfl rfl rfl (C.2.2.1 _ hnw) (C.1.2.2.2.2 _ hii) hd hR, C.1.2.2.2.2 _ hsi, trivial⟩ ⟨cPc_blind, c_pre C.2 hw⟩ rfl hn hl hst (lv_room hr) hdg hf) hw.2.2.1 (fun y _ w => c_free rfl hw rfl y w) (c_free rfl hw rfl) (fun H1 locs1 hB hS => kk H1 locs1 ⟨hB, va_D_map (cw_map rfl) hw.2.1, hS, hw.2.2.2⟩)
theorem c_recvE {j : Nat} (hk : kK g s) (hj : j < h.2.1) (hw : cWd g A H0 qq ad ea h X z H locs) : ∃ cellB : Cell, H[ea j]? = some cellB ∧ cellB.vm.isStatics = false ∧ s.vm.findClass "MidiDesk$Event" = some cellB.cls := va_recv (ci := 1) (q0 := j + 10) hk.1 hw.1 rfl (cw_ev hj)
theorem c_recvX {qp ci : Nat} {fs : List Value} {CN : String} {T : u_T} {N : Nat} (hk : kK g s) (hc : classes[ci]? = some (CN, T, N)) (hw : cWd g A H0 qq ad ea h ((qp, .inr (ci, fs)) :: X) z H locs) : ∃ cellB : Cell, H[qp]? = some cellB ∧ cellB.vm.isStatics = false ∧ s.vm.findClass CN = some cellB.cls := va_recv (ci := ci) (q0 := h.2.1 + 10) hk.1 hw.1 hc cw_x
theorem c_recv_desk (hk : kK g s) (hw : cWd g A H0 qq ad ea h X z H locs) : ∃ cellB : Cell, H[qq 0]? = some cellB ∧ cellB.vm.isStatics = false ∧ s.vm.findClass "MidiDesk" = some cellB.cls := va_recv (ci := 5) (q0 := 0) hk.1 hw.1 rfl rfl
theorem c_recv_B0 (hk : kK g s) (hw : cWd g A H0 qq ad ea h X z H locs) : ∃ cellB : Cell, H[qq 1]? = some cellB ∧ cellB.vm.isStatics = false ∧ s.vm.findClass "MidiDesk$Bytes" = some cellB.cls := va_recv (ci := 0) (q0 := 1) hk.1 hw.1 rfl rfl
theorem c_recv_B1 (hk : kK g s) (hw : cWd g A H0 qq ad ea h X z H locs) : ∃ cellB : Cell, H[qq 2]? = some cellB ∧ cellB.vm.isStatics = false ∧ s.vm.findClass "MidiDesk$Bytes" = some cellB.cls := va_recv (ci := 0) (q0 := 2) hk.1 hw.1 rfl rfl
theorem c_recv_B2 (hk : kK g s) (hw : cWd g A H0 qq ad ea h X z H locs) : ∃ cellB : Cell, H[qq 3]? = some cellB ∧ cellB.vm.isStatics = false ∧ s.vm.findClass "MidiDesk$Bytes" = some cellB.cls := va_recv (ci := 0) (q0 := 3) hk.1 hw.1 rfl rfl
theorem c_recv_score (hk : kK g s) (hw : cWd g A H0 qq ad ea h X z H locs) : ∃ cellB : Cell, H[qq 4]? = some cellB ∧ cellB.vm.isStatics = false ∧ s.vm.findClass "MidiDesk$Score" = some cellB.cls := va_recv (ci := 4) (q0 := 4) hk.1 hw.1 rfl rfl
theorem c_aload_n {k : Fin 4} {i : Nat} {x : Option Nat} (hexec : p.tables.exec = Jvm.exec) (hb : c.code = cc) (hdg : decode cc pc = .ok (.aload_n k, 1)) (hi : (k : Nat) = i) (hl : ls[i]? = some (.val (va_rf x))) (kk : W p l e R s m args below meth c H locs cells slots Q (F0 m (pc + 1) ls (va_rf x :: rest))) : W p l e R s m args below meth c H locs cells slots Q (F0 m pc ls rest) := by
  cases x with
  | none => exact lv_aload_nN hexec hb hdg hi hl kk
  | some a => exact lv_aload_n hexec hb hdg hi hl kk
theorem c_aload {i : Nat} {x : Option Nat} (hexec : p.tables.exec = Jvm.exec) (hb : c.code = cc) (hdg : decode cc pc = .ok (.aload i, 2)) (hl : ls[i]? = some (.val (va_rf x))) (kk : W p l e R s m args below meth c H locs cells slots Q (F0 m (pc + 2) ls (va_rf x :: rest))) : W p l e R s m args below meth c H locs cells slots Q (F0 m pc ls rest) := by
  cases x with
  | none => exact lv_aloadN hexec hb hdg hl kk
  | some a => exact lv_aload hexec hb hdg hl kk
theorem c_astore_n {k : Fin 4} {i nL : Nat} {x : Option Nat} {lv lv' : List (Nat × Value)} (hexec : p.tables.exec = Jvm.exec) (hb : c.code = cc) (hdg : decode cc pc = .ok (.astore_n k, 1)) (hi : (k : Nat) = i) (h : lv_has ls nL lv) (hn : i < nL) (hl : (i, va_rf x) :: lv.filter (fun q => !(q.1 == i) && !(q.1 + 1 == i && q.2.category == 2)) = lv')
    (kk : ∀ ls' : Array Slot, lv_has ls' nL lv' → W p l e R s m args below meth c H locs cells slots Q (F0 m (pc + 1) ls' rest)) : W p l e R s m args below meth c H locs cells slots Q (F0 m pc ls (va_rf x :: rest)) := by
  cases x with
  | none => exact lv_astore_nN hexec hb hdg hi h hn hl kk
  | some a => exact lv_astore_n hexec hb hdg hi h hn hl kk
theorem c_astore {i nL : Nat} {x : Option Nat} {lv lv' : List (Nat × Value)} (hexec : p.tables.exec = Jvm.exec) (hb : c.code = cc) (hdg : decode cc pc = .ok (.astore i, 2)) (h : lv_has ls nL lv) (hn : i < nL) (hl : (i, va_rf x) :: lv.filter (fun q => !(q.1 == i) && !(q.1 + 1 == i && q.2.category == 2)) = lv')
    (kk : ∀ ls' : Array Slot, lv_has ls' nL lv' → W p l e R s m args below meth c H locs cells slots Q (F0 m (pc + 2) ls' rest)) : W p l e R s m args below meth c H locs cells slots Q (F0 m pc ls (va_rf x :: rest)) := by
  cases x with
  | none => exact lv_astoreN hexec hb hdg h hn hl kk
  | some a => exact lv_astore hexec hb hdg h hn hl kk
theorem c_ifnull {x : Option Nat} {off : Int} {tgt : Nat} (hexec : p.tables.exec = Jvm.exec) (hb : c.code = cc) (hdg : decode cc pc = .ok (.ifnull off, 3)) (ht : (pc : Int) + off = (tgt : Int)) (kt : x = none → W p l e R s m args below meth c H locs cells slots Q (F0 m tgt ls rest)) (kf : ¬ x = none → W p l e R s m args below meth c H locs cells slots Q (F0 m (pc + 3) ls rest)) : W p l e R s m args below meth c H locs cells slots Q (F0 m pc ls (va_rf (Option.map ea x) :: rest)) := by
  cases x with
  | none => exact lv_ifnullN hexec hb hdg ht (kt rfl)
  | some a => exact lv_ifnull hexec hb hdg (kf (fun w => by cases w))
theorem c_ifnonnull {x : Option Nat} {off : Int} {tgt : Nat} (hexec : p.tables.exec = Jvm.exec) (hb : c.code = cc) (hdg : decode cc pc = .ok (.ifnonnull off, 3)) (ht : (pc : Int) + off = (tgt : Int)) (kt : ¬ x = none → W p l e R s m args below meth c H locs cells slots Q (F0 m tgt ls rest)) (kf : x = none → W p l e R s m args below meth c H locs cells slots Q (F0 m (pc + 3) ls rest)) : W p l e R s m args below meth c H locs cells slots Q (F0 m pc ls (va_rf (Option.map ea x) :: rest)) := by
  cases x with
  | none => exact lv_ifnonnullN hexec hb hdg (kf rfl)
  | some a => exact lv_ifnonnull hexec hb hdg ht (kt (fun w => by cases w))
theorem c_null (hexec : p.tables.exec = Jvm.exec) (hb : c.code = cc) (hdg : decode cc pc = .ok (.aconst_null, 1)) (kk : W p l e R s m args below meth c H locs cells slots Q (F0 m (pc + 1) ls (va_rf (Option.map ea none) :: rest))) : W p l e R s m args below meth c H locs cells slots Q (F0 m pc ls rest) := lv_null hexec hb hdg kk
theorem cg_Desk_Desk_input (C : mCx p m c cc nL s args g "MidiDesk") (hw : cWd g A H0 qq ad ea h X z H locs) (hdg : decode cc pc = .ok (.getfield 14, 3)) (kk : W p l e R s m args below meth c H locs cells slots Q (F0 m (pc + 3) ls (.ref (qq 1) :: rest))) : W p l e R s m args below meth c H locs cells slots Q (F0 m pc ls (.ref (qq 0) :: rest)) := 
  va_get (ci := 5) (C := R_Desk) (T := F_Desk) (N := 3) C.1.1 C.1.2.1 C.1.2.2.2.2 i_Desk C.1.2.2.2.1 C.2.1 hw.1 0 rfl rfl 0 (by decide) (C.1.2.2.2.2 _ gw_141) (fun _ w => w) rfl hdg kk
theorem cg_Desk_Desk_output (C : mCx p m c cc nL s args g "MidiDesk") (hw : cWd g A H0 qq ad ea h X z H locs) (hdg : decode cc pc = .ok (.getfield 18, 3)) (kk : W p l e R s m args below meth c H locs cells slots Q (F0 m (pc + 3) ls (.ref (qq 2) :: rest))) : W p l e R s m args below meth c H locs cells slots Q (F0 m pc ls (.ref (qq 0) :: rest)) := 
  va_get (ci := 5) (C := R_Desk) (T := F_Desk) (N := 3) C.1.1 C.1.2.1 C.1.2.2.2.2 i_Desk C.1.2.2.2.1 C.2.1 hw.1 0 rfl rfl 1 (by decide) (C.1.2.2.2.2 _ gw_142) (fun _ w => w) rfl hdg kk
theorem cg_Desk_Desk_score (C : mCx p m c cc nL s args g "MidiDesk") (hw : cWd g A H0 qq ad ea h X z H locs) (hdg : decode cc pc = .ok (.getfield 24, 3)) (kk : W p l e R s m args below meth c H locs cells slots Q (F0 m (pc + 3) ls (.ref (qq 4) :: rest))) : W p l e R s m args below meth c H locs cells slots Q (F0 m pc ls (.ref (qq 0) :: rest)) := 
  va_get (ci := 5) (C := R_Desk) (T := F_Desk) (N := 3) C.1.1 C.1.2.1 C.1.2.2.2.2 i_Desk C.1.2.2.2.1 C.2.1 hw.1 0 rfl rfl 2 (by decide) (C.1.2.2.2.2 _ gw_143) (fun _ w => w) rfl hdg kk
theorem cg_Desk_Event_first {o : Option Nat} {j : Nat} (C : mCx p m c cc nL s args g "MidiDesk") (hw : cWd g A H0 qq ad ea h X z H locs) (ho : o = some j) (hj : j < h.2.1) (hdg : decode cc pc = .ok (.getfield 62, 3)) (kk : W p l e R s m args below meth c H locs cells slots Q (F0 m (pc + 3) ls (.int (ze z j 3) :: rest))) : W p l e R s m args below meth c H locs cells slots Q (F0 m pc ls (va_rf (Option.map ea o) :: rest)) := by
  subst ho
  exact va_getN (ci := 1) (C := R_Event) (T := F_Event) (N := 7) C.1.1 C.1.2.1 C.1.2.2.2.2 i_Event C.1.2.2.2.1 C.2.1 hw.1 (j + 10) (cw_ev hj) rfl 3 (by decide) (va_Nw.use rfl (C.2.2.1 _ nw_298)) (fun _ w => w) rfl hdg kk
theorem cgt_Desk_Event_first {j : Nat} (C : mCx p m c cc nL s args g "MidiDesk") (hw : cWd g A H0 qq ad ea h X z H locs) (hj : j < h.2.1) (hdg : decode cc pc = .ok (.getfield 62, 3)) (kk : W p l e R s m args below meth c H locs cells slots Q (F0 m (pc + 3) ls (.int (ze z j 3) :: rest))) : W p l e R s m args below meth c H locs cells slots Q (F0 m pc ls (.ref (ea j) :: rest)) := cg_Desk_Event_first (o := some j) C hw rfl hj hdg kk
theorem cg_Desk_Event_second {o : Option Nat} {j : Nat} (C : mCx p m c cc nL s args g "MidiDesk") (hw : cWd g A H0 qq ad ea h X z H locs) (ho : o = some j) (hj : j < h.2.1) (hdg : decode cc pc = .ok (.getfield 65, 3)) (kk : W p l e R s m args below meth c H locs cells slots Q (F0 m (pc + 3) ls (.int (ze z j 4) :: rest))) : W p l e R s m args below meth c H locs cells slots Q (F0 m pc ls (va_rf (Option.map ea o) :: rest)) := by
  subst ho
  exact va_getN (ci := 1) (C := R_Event) (T := F_Event) (N := 7) C.1.1 C.1.2.1 C.1.2.2.2.2 i_Event C.1.2.2.2.1 C.2.1 hw.1 (j + 10) (cw_ev hj) rfl 4 (by decide) (va_Nw.use rfl (C.2.2.1 _ nw_301)) (fun _ w => w) rfl hdg kk
theorem cgt_Desk_Event_second {j : Nat} (C : mCx p m c cc nL s args g "MidiDesk") (hw : cWd g A H0 qq ad ea h X z H locs) (hj : j < h.2.1) (hdg : decode cc pc = .ok (.getfield 65, 3)) (kk : W p l e R s m args below meth c H locs cells slots Q (F0 m (pc + 3) ls (.int (ze z j 4) :: rest))) : W p l e R s m args below meth c H locs cells slots Q (F0 m pc ls (.ref (ea j) :: rest)) := cg_Desk_Event_second (o := some j) C hw rfl hj hdg kk
theorem cg_Desk_Event_size {o : Option Nat} {j : Nat} (C : mCx p m c cc nL s args g "MidiDesk") (hw : cWd g A H0 qq ad ea h X z H locs) (ho : o = some j) (hj : j < h.2.1) (hdg : decode cc pc = .ok (.getfield 68, 3)) (kk : W p l e R s m args below meth c H locs cells slots Q (F0 m (pc + 3) ls (.int (ze z j 6) :: rest))) : W p l e R s m args below meth c H locs cells slots Q (F0 m pc ls (va_rf (Option.map ea o) :: rest)) := by
  subst ho
  exact va_getN (ci := 1) (C := R_Event) (T := F_Event) (N := 7) C.1.1 C.1.2.1 C.1.2.2.2.2 i_Event C.1.2.2.2.1 C.2.1 hw.1 (j + 10) (cw_ev hj) rfl 6 (by decide) (va_Nw.use rfl (C.2.2.1 _ nw_309)) (fun _ w => w) rfl hdg kk
theorem cgt_Desk_Event_size {j : Nat} (C : mCx p m c cc nL s args g "MidiDesk") (hw : cWd g A H0 qq ad ea h X z H locs) (hj : j < h.2.1) (hdg : decode cc pc = .ok (.getfield 68, 3)) (kk : W p l e R s m args below meth c H locs cells slots Q (F0 m (pc + 3) ls (.int (ze z j 6) :: rest))) : W p l e R s m args below meth c H locs cells slots Q (F0 m pc ls (.ref (ea j) :: rest)) := cg_Desk_Event_size (o := some j) C hw rfl hj hdg kk
theorem cg_Desk_Event_start {o : Option Nat} {j : Nat} (C : mCx p m c cc nL s args g "MidiDesk") (hw : cWd g A H0 qq ad ea h X z H locs) (ho : o = some j) (hj : j < h.2.1) (hdg : decode cc pc = .ok (.getfield 73, 3)) (kk : W p l e R s m args below meth c H locs cells slots Q (F0 m (pc + 3) ls (.int (ze z j 5) :: rest))) : W p l e R s m args below meth c H locs cells slots Q (F0 m pc ls (va_rf (Option.map ea o) :: rest)) := by
  subst ho
  exact va_getN (ci := 1) (C := R_Event) (T := F_Event) (N := 7) C.1.1 C.1.2.1 C.1.2.2.2.2 i_Event C.1.2.2.2.1 C.2.1 hw.1 (j + 10) (cw_ev hj) rfl 5 (by decide) (va_Nw.use rfl (C.2.2.1 _ nw_306)) (fun _ w => w) rfl hdg kk
theorem cgt_Desk_Event_start {j : Nat} (C : mCx p m c cc nL s args g "MidiDesk") (hw : cWd g A H0 qq ad ea h X z H locs) (hj : j < h.2.1) (hdg : decode cc pc = .ok (.getfield 73, 3)) (kk : W p l e R s m args below meth c H locs cells slots Q (F0 m (pc + 3) ls (.int (ze z j 5) :: rest))) : W p l e R s m args below meth c H locs cells slots Q (F0 m pc ls (.ref (ea j) :: rest)) := cg_Desk_Event_start (o := some j) C hw rfl hj hdg kk
theorem cg_Desk_Event_status {o : Option Nat} {j : Nat} (C : mCx p m c cc nL s args g "MidiDesk") (hw : cWd g A H0 qq ad ea h X z H locs) (ho : o = some j) (hj : j < h.2.1) (hdg : decode cc pc = .ok (.getfield 59, 3)) (kk : W p l e R s m args below meth c H locs cells slots Q (F0 m (pc + 3) ls (.int (ze z j 2) :: rest))) : W p l e R s m args below meth c H locs cells slots Q (F0 m pc ls (va_rf (Option.map ea o) :: rest)) := by
  subst ho
  exact va_getN (ci := 1) (C := R_Event) (T := F_Event) (N := 7) C.1.1 C.1.2.1 C.1.2.2.2.2 i_Event C.1.2.2.2.1 C.2.1 hw.1 (j + 10) (cw_ev hj) rfl 2 (by decide) (va_Nw.use rfl (C.2.2.1 _ nw_294)) (fun _ w => w) rfl hdg kk
theorem cgt_Desk_Event_status {j : Nat} (C : mCx p m c cc nL s args g "MidiDesk") (hw : cWd g A H0 qq ad ea h X z H locs) (hj : j < h.2.1) (hdg : decode cc pc = .ok (.getfield 59, 3)) (kk : W p l e R s m args below meth c H locs cells slots Q (F0 m (pc + 3) ls (.int (ze z j 2) :: rest))) : W p l e R s m args below meth c H locs cells slots Q (F0 m pc ls (.ref (ea j) :: rest)) := cg_Desk_Event_status (o := some j) C hw rfl hj hdg kk
theorem cg_Desk_Event_tick {o : Option Nat} {j : Nat} (C : mCx p m c cc nL s args g "MidiDesk") (hw : cWd g A H0 qq ad ea h X z H locs) (ho : o = some j) (hj : j < h.2.1) (hdg : decode cc pc = .ok (.getfield 50, 3)) (kk : W p l e R s m args below meth c H locs cells slots Q (F0 m (pc + 3) ls (.int (ze z j 0) :: rest))) : W p l e R s m args below meth c H locs cells slots Q (F0 m pc ls (va_rf (Option.map ea o) :: rest)) := by
  subst ho
  exact va_getN (ci := 1) (C := R_Event) (T := F_Event) (N := 7) C.1.1 C.1.2.1 C.1.2.2.2.2 i_Event C.1.2.2.2.1 C.2.1 hw.1 (j + 10) (cw_ev hj) rfl 0 (by decide) (va_Nw.use rfl (C.2.2.1 _ nw_283)) (fun _ w => w) rfl hdg kk
theorem cgt_Desk_Event_tick {j : Nat} (C : mCx p m c cc nL s args g "MidiDesk") (hw : cWd g A H0 qq ad ea h X z H locs) (hj : j < h.2.1) (hdg : decode cc pc = .ok (.getfield 50, 3)) (kk : W p l e R s m args below meth c H locs cells slots Q (F0 m (pc + 3) ls (.int (ze z j 0) :: rest))) : W p l e R s m args below meth c H locs cells slots Q (F0 m pc ls (.ref (ea j) :: rest)) := cg_Desk_Event_tick (o := some j) C hw rfl hj hdg kk
theorem cg_Desk_Event_track {o : Option Nat} {j : Nat} (C : mCx p m c cc nL s args g "MidiDesk") (hw : cWd g A H0 qq ad ea h X z H locs) (ho : o = some j) (hj : j < h.2.1) (hdg : decode cc pc = .ok (.getfield 56, 3)) (kk : W p l e R s m args below meth c H locs cells slots Q (F0 m (pc + 3) ls (.int (ze z j 1) :: rest))) : W p l e R s m args below meth c H locs cells slots Q (F0 m pc ls (va_rf (Option.map ea o) :: rest)) := by
  subst ho
  exact va_getN (ci := 1) (C := R_Event) (T := F_Event) (N := 7) C.1.1 C.1.2.1 C.1.2.2.2.2 i_Event C.1.2.2.2.1 C.2.1 hw.1 (j + 10) (cw_ev hj) rfl 1 (by decide) (va_Nw.use rfl (C.2.2.1 _ nw_288)) (fun _ w => w) rfl hdg kk
theorem cgt_Desk_Event_track {j : Nat} (C : mCx p m c cc nL s args g "MidiDesk") (hw : cWd g A H0 qq ad ea h X z H locs) (hj : j < h.2.1) (hdg : decode cc pc = .ok (.getfield 56, 3)) (kk : W p l e R s m args below meth c H locs cells slots Q (F0 m (pc + 3) ls (.int (ze z j 1) :: rest))) : W p l e R s m args below meth c H locs cells slots Q (F0 m pc ls (.ref (ea j) :: rest)) := cg_Desk_Event_track (o := some j) C hw rfl hj hdg kk
theorem cg_Desk_Score_data (C : mCx p m c cc nL s args g "MidiDesk") (hw : cWd g A H0 qq ad ea h X z H locs) (hdg : decode cc pc = .ok (.getfield 70, 3)) (kk : W p l e R s m args below meth c H locs cells slots Q (F0 m (pc + 3) ls (.ref (qq 3) :: rest))) : W p l e R s m args below meth c H locs cells slots Q (F0 m pc ls (.ref (qq 4) :: rest)) := 
  va_getN (ci := 4) (C := R_Score) (T := F_Score) (N := 8) C.1.1 C.1.2.1 C.1.2.2.2.2 i_Score C.1.2.2.2.1 C.2.1 hw.1 4 rfl rfl 0 (by decide) (va_Nw.use rfl (C.2.2.1 _ nw_53)) (fun _ w => w) rfl hdg kk
theorem cg_Desk_Score_division (C : mCx p m c cc nL s args g "MidiDesk") (hw : cWd g A H0 qq ad ea h X z H locs) (hdg : decode cc pc = .ok (.getfield 156, 3)) (kk : W p l e R s m args below meth c H locs cells slots Q (F0 m (pc + 3) ls (.int (zi z 6) :: rest))) : W p l e R s m args below meth c H locs cells slots Q (F0 m pc ls (.ref (qq 4) :: rest)) := 
  va_getN (ci := 4) (C := R_Score) (T := F_Score) (N := 8) C.1.1 C.1.2.1 C.1.2.2.2.2 i_Score C.1.2.2.2.1 C.2.1 hw.1 4 rfl rfl 4 (by decide) (va_Nw.use rfl (C.2.2.1 _ nw_67)) (fun _ w => w) rfl hdg kk
theorem cg_Desk_Score_format (C : mCx p m c cc nL s args g "MidiDesk") (hw : cWd g A H0 qq ad ea h X z H locs) (hdg : decode cc pc = .ok (.getfield 153, 3)) (kk : W p l e R s m args below meth c H locs cells slots Q (F0 m (pc + 3) ls (.int (zi z 4) :: rest))) : W p l e R s m args below meth c H locs cells slots Q (F0 m pc ls (.ref (qq 4) :: rest)) := 
  va_getN (ci := 4) (C := R_Score) (T := F_Score) (N := 8) C.1.1 C.1.2.1 C.1.2.2.2.2 i_Score C.1.2.2.2.1 C.2.1 hw.1 4 rfl rfl 2 (by decide) (va_Nw.use rfl (C.2.2.1 _ nw_59)) (fun _ w => w) rfl hdg kk
theorem cg_Desk_Score_present (C : mCx p m c cc nL s args g "MidiDesk") (hw : cWd g A H0 qq ad ea h X z H locs) (hdg : decode cc pc = .ok (.getfield 146, 3)) (kk : W p l e R s m args below meth c H locs cells slots Q (F0 m (pc + 3) ls (.int (zi z 3) :: rest))) : W p l e R s m args below meth c H locs cells slots Q (F0 m pc ls (.ref (qq 4) :: rest)) := 
  va_getN (ci := 4) (C := R_Score) (T := F_Score) (N := 8) C.1.1 C.1.2.1 C.1.2.2.2.2 i_Score C.1.2.2.2.1 C.2.1 hw.1 4 rfl rfl 1 (by decide) (va_Nw.use rfl (C.2.2.1 _ nw_57)) (fun _ w => w) rfl hdg kk
theorem cg_Desk_Score_size (C : mCx p m c cc nL s args g "MidiDesk") (hw : cWd g A H0 qq ad ea h X z H locs) (hdg : decode cc pc = .ok (.getfield 139, 3)) (kk : W p l e R s m args below meth c H locs cells slots Q (F0 m (pc + 3) ls (.int (zi z 7) :: rest))) : W p l e R s m args below meth c H locs cells slots Q (F0 m pc ls (.ref (qq 4) :: rest)) := 
  va_getN (ci := 4) (C := R_Score) (T := F_Score) (N := 8) C.1.1 C.1.2.1 C.1.2.2.2.2 i_Score C.1.2.2.2.1 C.2.1 hw.1 4 rfl rfl 7 (by decide) (va_Nw.use rfl (C.2.2.1 _ nw_72)) (fun _ w => w) rfl hdg kk
theorem cg_Desk_Score_tracks (C : mCx p m c cc nL s args g "MidiDesk") (hw : cWd g A H0 qq ad ea h X z H locs) (hdg : decode cc pc = .ok (.getfield 121, 3)) (kk : W p l e R s m args below meth c H locs cells slots Q (F0 m (pc + 3) ls (.int (zi z 5) :: rest))) : W p l e R s m args below meth c H locs cells slots Q (F0 m pc ls (.ref (qq 4) :: rest)) := 
  va_getN (ci := 4) (C := R_Score) (T := F_Score) (N := 8) C.1.1 C.1.2.1 C.1.2.2.2.2 i_Score C.1.2.2.2.1 C.2.1 hw.1 4 rfl rfl 3 (by decide) (va_Nw.use rfl (C.2.2.1 _ nw_63)) (fun _ w => w) rfl hdg kk
theorem cg_Bytes_Bytes_most_B0 (C : mCx p m c cc nL s args g "MidiDesk$Bytes") (hw : cWd g A H0 qq ad ea h X z H locs) (hdg : decode cc pc = .ok (.getfield 9, 3)) (kk : W p l e R s m args below meth c H locs cells slots Q (F0 m (pc + 3) ls (.int 12000 :: rest))) : W p l e R s m args below meth c H locs cells slots Q (F0 m pc ls (.ref (qq 1) :: rest)) := 
  va_get (ci := 0) (C := R_Bytes) (T := F_Bytes) (N := 3) C.1.1 C.1.2.1 C.1.2.2.2.2 i_Bytes C.1.2.2.2.1 C.2.1 hw.1 1 rfl rfl 0 (by decide) (C.1.2.2.2.2 _ gw_81) (fun _ w => w) rfl hdg kk
theorem cg_Bytes_Bytes_most_B1 (C : mCx p m c cc nL s args g "MidiDesk$Bytes") (hw : cWd g A H0 qq ad ea h X z H locs) (hdg : decode cc pc = .ok (.getfield 9, 3)) (kk : W p l e R s m args below meth c H locs cells slots Q (F0 m (pc + 3) ls (.int 16384 :: rest))) : W p l e R s m args below meth c H locs cells slots Q (F0 m pc ls (.ref (qq 2) :: rest)) := 
  va_get (ci := 0) (C := R_Bytes) (T := F_Bytes) (N := 3) C.1.1 C.1.2.1 C.1.2.2.2.2 i_Bytes C.1.2.2.2.1 C.2.1 hw.1 2 rfl rfl 0 (by decide) (C.1.2.2.2.2 _ gw_81) (fun _ w => w) rfl hdg kk
theorem cg_Bytes_Bytes_most_B2 (C : mCx p m c cc nL s args g "MidiDesk$Bytes") (hw : cWd g A H0 qq ad ea h X z H locs) (hdg : decode cc pc = .ok (.getfield 9, 3)) (kk : W p l e R s m args below meth c H locs cells slots Q (F0 m (pc + 3) ls (.int 8000 :: rest))) : W p l e R s m args below meth c H locs cells slots Q (F0 m pc ls (.ref (qq 3) :: rest)) := 
  va_get (ci := 0) (C := R_Bytes) (T := F_Bytes) (N := 3) C.1.1 C.1.2.1 C.1.2.2.2.2 i_Bytes C.1.2.2.2.1 C.2.1 hw.1 3 rfl rfl 0 (by decide) (C.1.2.2.2.2 _ gw_81) (fun _ w => w) rfl hdg kk
theorem cg_Bytes_Bytes_row_B0 (C : mCx p m c cc nL s args g "MidiDesk$Bytes") (hw : cWd g A H0 qq ad ea h X z H locs) (hdg : decode cc pc = .ok (.getfield 15, 3)) (kk : W p l e R s m args below meth c H locs cells slots Q (F0 m (pc + 3) ls (.ref (ad 0) :: rest))) : W p l e R s m args below meth c H locs cells slots Q (F0 m pc ls (.ref (qq 1) :: rest)) := 
  va_get (ci := 0) (C := R_Bytes) (T := F_Bytes) (N := 3) C.1.1 C.1.2.1 C.1.2.2.2.2 i_Bytes C.1.2.2.2.1 C.2.1 hw.1 1 rfl rfl 1 (by decide) (C.1.2.2.2.2 _ gw_82) (fun _ w => w) rfl hdg kk
theorem cg_Bytes_Bytes_row_B1 (C : mCx p m c cc nL s args g "MidiDesk$Bytes") (hw : cWd g A H0 qq ad ea h X z H locs) (hdg : decode cc pc = .ok (.getfield 15, 3)) (kk : W p l e R s m args below meth c H locs cells slots Q (F0 m (pc + 3) ls (.ref (ad 1) :: rest))) : W p l e R s m args below meth c H locs cells slots Q (F0 m pc ls (.ref (qq 2) :: rest)) := 
  va_get (ci := 0) (C := R_Bytes) (T := F_Bytes) (N := 3) C.1.1 C.1.2.1 C.1.2.2.2.2 i_Bytes C.1.2.2.2.1 C.2.1 hw.1 2 rfl rfl 1 (by decide) (C.1.2.2.2.2 _ gw_82) (fun _ w => w) rfl hdg kk
theorem cg_Bytes_Bytes_row_B2 (C : mCx p m c cc nL s args g "MidiDesk$Bytes") (hw : cWd g A H0 qq ad ea h X z H locs) (hdg : decode cc pc = .ok (.getfield 15, 3)) (kk : W p l e R s m args below meth c H locs cells slots Q (F0 m (pc + 3) ls (.ref (ad 2) :: rest))) : W p l e R s m args below meth c H locs cells slots Q (F0 m pc ls (.ref (qq 3) :: rest)) := 
  va_get (ci := 0) (C := R_Bytes) (T := F_Bytes) (N := 3) C.1.1 C.1.2.1 C.1.2.2.2.2 i_Bytes C.1.2.2.2.1 C.2.1 hw.1 3 rfl rfl 1 (by decide) (C.1.2.2.2.2 _ gw_82) (fun _ w => w) rfl hdg kk
theorem cg_Bytes_Bytes_size_B0 (C : mCx p m c cc nL s args g "MidiDesk$Bytes") (hw : cWd g A H0 qq ad ea h X z H locs) (hdg : decode cc pc = .ok (.getfield 19, 3)) (kk : W p l e R s m args below meth c H locs cells slots Q (F0 m (pc + 3) ls (.int (zi z 0) :: rest))) : W p l e R s m args below meth c H locs cells slots Q (F0 m pc ls (.ref (qq 1) :: rest)) := 
  va_get (ci := 0) (C := R_Bytes) (T := F_Bytes) (N := 3) C.1.1 C.1.2.1 C.1.2.2.2.2 i_Bytes C.1.2.2.2.1 C.2.1 hw.1 1 rfl rfl 2 (by decide) (C.1.2.2.2.2 _ gw_83) (fun _ w => w) rfl hdg kk
theorem cp_Bytes_Bytes_size_B0 {x : Int32} (C : mCx p m c cc nL s args g "MidiDesk$Bytes") (hw : cWd g A H0 qq ad ea h X z H locs) (hdg : decode cc pc = .ok (.putfield 19, 3)) (kk : ∀ (H1 : Heap) (locs1 : List Loc), cWd g A H0 qq ad ea h X (zU z 0 x) H1 locs1 → W p l e R s m args below meth c H1 locs1 cells slots Q (F0 m (pc + 3) ls rest)) : W p l e R s m args below meth c H locs cells slots Q (F0 m pc ls (.int x :: .ref (qq 1) :: rest)) := by
  exact va_put (ci := 0) (ty := .int) (v := .int x) (C := R_Bytes) (T := F_Bytes) (N := 3) C.1.1 C.1.2.1 C.1.2.2.2.2 i_Bytes t_Bytes t_Bytes_ok n_Bytes C.1.2.2.2.1 C.2.1 hw.1 hw.2.1 hw.2.2.1 1 rfl rfl 2 (by decide) (C.1.2.2.2.2 _ gw_83) (fun _ w => w) rfl (by decide +kernel) rfl rfl (Nat.le_of_ble_eq_true rfl) hdg (fun H1 locs1 hP hD hS => kk H1 locs1 ⟨hP, hD, hS, hw.2.2.2⟩)
theorem cg_Bytes_Bytes_size_B1 (C : mCx p m c cc nL s args g "MidiDesk$Bytes") (hw : cWd g A H0 qq ad ea h X z H locs) (hdg : decode cc pc = .ok (.getfield 19, 3)) (kk : W p l e R s m args below meth c H locs cells slots Q (F0 m (pc + 3) ls (.int (zi z 1) :: rest))) : W p l e R s m args below meth c H locs cells slots Q (F0 m pc ls (.ref (qq 2) :: rest)) := 
  va_get (ci := 0) (C := R_Bytes) (T := F_Bytes) (N := 3) C.1.1 C.1.2.1 C.1.2.2.2.2 i_Bytes C.1.2.2.2.1 C.2.1 hw.1 2 rfl rfl 2 (by decide) (C.1.2.2.2.2 _ gw_83) (fun _ w => w) rfl hdg kk
theorem cp_Bytes_Bytes_size_B1 {x : Int32} (C : mCx p m c cc nL s args g "MidiDesk$Bytes") (hw : cWd g A H0 qq ad ea h X z H locs) (hdg : decode cc pc = .ok (.putfield 19, 3)) (kk : ∀ (H1 : Heap) (locs1 : List Loc), cWd g A H0 qq ad ea h X (zU z 1 x) H1 locs1 → W p l e R s m args below meth c H1 locs1 cells slots Q (F0 m (pc + 3) ls rest)) : W p l e R s m args below meth c H locs cells slots Q (F0 m pc ls (.int x :: .ref (qq 2) :: rest)) := by
  exact va_put (ci := 0) (ty := .int) (v := .int x) (C := R_Bytes) (T := F_Bytes) (N := 3) C.1.1 C.1.2.1 C.1.2.2.2.2 i_Bytes t_Bytes t_Bytes_ok n_Bytes C.1.2.2.2.1 C.2.1 hw.1 hw.2.1 hw.2.2.1 2 rfl rfl 2 (by decide) (C.1.2.2.2.2 _ gw_83) (fun _ w => w) rfl (by decide +kernel) rfl rfl (Nat.le_of_ble_eq_true rfl) hdg (fun H1 locs1 hP hD hS => kk H1 locs1 ⟨hP, hD, hS, hw.2.2.2⟩)
theorem cg_Bytes_Bytes_size_B2 (C : mCx p m c cc nL s args g "MidiDesk$Bytes") (hw : cWd g A H0 qq ad ea h X z H locs) (hdg : decode cc pc = .ok (.getfield 19, 3)) (kk : W p l e R s m args below meth c H locs cells slots Q (F0 m (pc + 3) ls (.int (zi z 2) :: rest))) : W p l e R s m args below meth c H locs cells slots Q (F0 m pc ls (.ref (qq 3) :: rest)) := 
  va_get (ci := 0) (C := R_Bytes) (T := F_Bytes) (N := 3) C.1.1 C.1.2.1 C.1.2.2.2.2 i_Bytes C.1.2.2.2.1 C.2.1 hw.1 3 rfl rfl 2 (by decide) (C.1.2.2.2.2 _ gw_83) (fun _ w => w) rfl hdg kk
theorem cp_Bytes_Bytes_size_B2 {x : Int32} (C : mCx p m c cc nL s args g "MidiDesk$Bytes") (hw : cWd g A H0 qq ad ea h X z H locs) (hdg : decode cc pc = .ok (.putfield 19, 3)) (kk : ∀ (H1 : Heap) (locs1 : List Loc), cWd g A H0 qq ad ea h X (zU z 2 x) H1 locs1 → W p l e R s m args below meth c H1 locs1 cells slots Q (F0 m (pc + 3) ls rest)) : W p l e R s m args below meth c H locs cells slots Q (F0 m pc ls (.int x :: .ref (qq 3) :: rest)) := by
  exact va_put (ci := 0) (ty := .int) (v := .int x) (C := R_Bytes) (T := F_Bytes) (N := 3) C.1.1 C.1.2.1 C.1.2.2.2.2 i_Bytes t_Bytes t_Bytes_ok n_Bytes C.1.2.2.2.1 C.2.1 hw.1 hw.2.1 hw.2.2.1 3 rfl rfl 2 (by decide) (C.1.2.2.2.2 _ gw_83) (fun _ w => w) rfl (by decide +kernel) rfl rfl (Nat.le_of_ble_eq_true rfl) hdg (fun H1 locs1 hP hD hS => kk H1 locs1 ⟨hP, hD, hS, hw.2.2.2⟩)
theorem cg_Event_Event_first {o : Option Nat} {j : Nat} (C : mCx p m c cc nL s args g "MidiDesk$Event") (hw : cWd g A H0 qq ad ea h X z H locs) (ho : o = some j) (hj : j < h.2.1) (hdg : decode cc pc = .ok (.getfield 15, 3)) (kk : W p l e R s m args below meth c H locs cells slots Q (F0 m (pc + 3) ls (.int (ze z j 3) :: rest))) : W p l e R s m args below meth c H locs cells slots Q (F0 m pc ls (va_rf (Option.map ea o) :: rest)) := by
  subst ho
  exact va_get (ci := 1) (C := R_Event) (T := F_Event) (N := 7) C.1.1 C.1.2.1 C.1.2.2.2.2 i_Event C.1.2.2.2.1 C.2.1 hw.1 (j + 10) (cw_ev hj) rfl 3 (by decide) (C.1.2.2.2.2 _ gw_347) (fun _ w => w) rfl hdg kk
theorem cgt_Event_Event_first {j : Nat} (C : mCx p m c cc nL s args g "MidiDesk$Event") (hw : cWd g A H0 qq ad ea h X z H locs) (hj : j < h.2.1) (hdg : decode cc pc = .ok (.getfield 15, 3)) (kk : W p l e R s m args below meth c H locs cells slots Q (F0 m (pc + 3) ls (.int (ze z j 3) :: rest))) : W p l e R s m args below meth c H locs cells slots Q (F0 m pc ls (.ref (ea j) :: rest)) := cg_Event_Event_first (o := some j) C hw rfl hj hdg kk
theorem cg_Event_Event_second {o : Option Nat} {j : Nat} (C : mCx p m c cc nL s args g "MidiDesk$Event") (hw : cWd g A H0 qq ad ea h X z H locs) (ho : o = some j) (hj : j < h.2.1) (hdg : decode cc pc = .ok (.getfield 18, 3)) (kk : W p l e R s m args below meth c H locs cells slots Q (F0 m (pc + 3) ls (.int (ze z j 4) :: rest))) : W p l e R s m args below meth c H locs cells slots Q (F0 m pc ls (va_rf (Option.map ea o) :: rest)) := by
  subst ho
  exact va_get (ci := 1) (C := R_Event) (T := F_Event) (N := 7) C.1.1 C.1.2.1 C.1.2.2.2.2 i_Event C.1.2.2.2.1 C.2.1 hw.1 (j + 10) (cw_ev hj) rfl 4 (by decide) (C.1.2.2.2.2 _ gw_354) (fun _ w => w) rfl hdg kk
theorem cgt_Event_Event_second {j : Nat} (C : mCx p m c cc nL s args g "MidiDesk$Event") (hw : cWd g A H0 qq ad ea h X z H locs) (hj : j < h.2.1) (hdg : decode cc pc = .ok (.getfield 18, 3)) (kk : W p l e R s m args below meth c H locs cells slots Q (F0 m (pc + 3) ls (.int (ze z j 4) :: rest))) : W p l e R s m args below meth c H locs cells slots Q (F0 m pc ls (.ref (ea j) :: rest)) := cg_Event_Event_second (o := some j) C hw rfl hj hdg kk
theorem cg_Event_Event_status {o : Option Nat} {j : Nat} (C : mCx p m c cc nL s args g "MidiDesk$Event") (hw : cWd g A H0 qq ad ea h X z H locs) (ho : o = some j) (hj : j < h.2.1) (hdg : decode cc pc = .ok (.getfield 9, 3)) (kk : W p l e R s m args below meth c H locs cells slots Q (F0 m (pc + 3) ls (.int (ze z j 2) :: rest))) : W p l e R s m args below meth c H locs cells slots Q (F0 m pc ls (va_rf (Option.map ea o) :: rest)) := by
  subst ho
  exact va_get (ci := 1) (C := R_Event) (T := F_Event) (N := 7) C.1.1 C.1.2.1 C.1.2.2.2.2 i_Event C.1.2.2.2.1 C.2.1 hw.1 (j + 10) (cw_ev hj) rfl 2 (by decide) (C.1.2.2.2.2 _ gw_343) (fun _ w => w) rfl hdg kk
theorem cgt_Event_Event_status {j : Nat} (C : mCx p m c cc nL s args g "MidiDesk$Event") (hw : cWd g A H0 qq ad ea h X z H locs) (hj : j < h.2.1) (hdg : decode cc pc = .ok (.getfield 9, 3)) (kk : W p l e R s m args below meth c H locs cells slots Q (F0 m (pc + 3) ls (.int (ze z j 2) :: rest))) : W p l e R s m args below meth c H locs cells slots Q (F0 m pc ls (.ref (ea j) :: rest)) := cg_Event_Event_status (o := some j) C hw rfl hj hdg kk
theorem cg_Event_Event_tick {o : Option Nat} {j : Nat} (C : mCx p m c cc nL s args g "MidiDesk$Event") (hw : cWd g A H0 qq ad ea h X z H locs) (ho : o = some j) (hj : j < h.2.1) (hdg : decode cc pc = .ok (.getfield 28, 3)) (kk : W p l e R s m args below meth c H locs cells slots Q (F0 m (pc + 3) ls (.int (ze z j 0) :: rest))) : W p l e R s m args below meth c H locs cells slots Q (F0 m pc ls (va_rf (Option.map ea o) :: rest)) := by
  subst ho
  exact va_get (ci := 1) (C := R_Event) (T := F_Event) (N := 7) C.1.1 C.1.2.1 C.1.2.2.2.2 i_Event C.1.2.2.2.1 C.2.1 hw.1 (j + 10) (cw_ev hj) rfl 0 (by decide) (C.1.2.2.2.2 _ gw_335) (fun _ w => w) rfl hdg kk
theorem cgt_Event_Event_tick {j : Nat} (C : mCx p m c cc nL s args g "MidiDesk$Event") (hw : cWd g A H0 qq ad ea h X z H locs) (hj : j < h.2.1) (hdg : decode cc pc = .ok (.getfield 28, 3)) (kk : W p l e R s m args below meth c H locs cells slots Q (F0 m (pc + 3) ls (.int (ze z j 0) :: rest))) : W p l e R s m args below meth c H locs cells slots Q (F0 m pc ls (.ref (ea j) :: rest)) := cg_Event_Event_tick (o := some j) C hw rfl hj hdg kk
theorem cg_Event_Event_track {o : Option Nat} {j : Nat} (C : mCx p m c cc nL s args g "MidiDesk$Event") (hw : cWd g A H0 qq ad ea h X z H locs) (ho : o = some j) (hj : j < h.2.1) (hdg : decode cc pc = .ok (.getfield 25, 3)) (kk : W p l e R s m args below meth c H locs cells slots Q (F0 m (pc + 3) ls (.int (ze z j 1) :: rest))) : W p l e R s m args below meth c H locs cells slots Q (F0 m pc ls (va_rf (Option.map ea o) :: rest)) := by
  subst ho
  exact va_get (ci := 1) (C := R_Event) (T := F_Event) (N := 7) C.1.1 C.1.2.1 C.1.2.2.2.2 i_Event C.1.2.2.2.1 C.2.1 hw.1 (j + 10) (cw_ev hj) rfl 1 (by decide) (C.1.2.2.2.2 _ gw_340) (fun _ w => w) rfl hdg kk
theorem cgt_Event_Event_track {j : Nat} (C : mCx p m c cc nL s args g "MidiDesk$Event") (hw : cWd g A H0 qq ad ea h X z H locs) (hj : j < h.2.1) (hdg : decode cc pc = .ok (.getfield 25, 3)) (kk : W p l e R s m args below meth c H locs cells slots Q (F0 m (pc + 3) ls (.int (ze z j 1) :: rest))) : W p l e R s m args below meth c H locs cells slots Q (F0 m pc ls (.ref (ea j) :: rest)) := cg_Event_Event_track (o := some j) C hw rfl hj hdg kk
theorem cp_Parser_Event_first {o : Option Nat} {j : Nat} {x : Int32} (C : mCx p m c cc nL s args g "MidiDesk$Parser") (hw : cWd g A H0 qq ad ea h X z H locs) (ho : o = some j) (hj : j < h.2.1) (hdg : decode cc pc = .ok (.putfield 159, 3)) (kk : ∀ (H1 : Heap) (locs1 : List Loc), cWd g A H0 qq ad ea h X (zE z j 3 x) H1 locs1 → W p l e R s m args below meth c H1 locs1 cells slots Q (F0 m (pc + 3) ls rest)) : W p l e R s m args below meth c H locs cells slots Q (F0 m pc ls (.int x :: va_rf (Option.map ea o) :: rest)) := by
  subst ho
  refine va_putN (ci := 1) (ty := .int) (v := .int x) (C := R_Event) (T := F_Event) (N := 7) C.1.1 C.1.2.1 C.1.2.2.2.2 i_Event t_Event t_Event_ok n_Event C.1.2.2.2.1 C.2.1 hw.1 hw.2.1 hw.2.2.1 (j + 10) (cw_ev hj) rfl 3 (by decide) (va_Nw.use rfl (C.2.2.1 _ nw_300)) (fun _ w => w) rfl (by decide +kernel) rfl rfl (Nat.le_of_ble_eq_true rfl) hdg (fun H1 locs1 hP hD hS => ?_)
  have e : (cw g qq ad ea h z X).set (j + 10) (ea j, .inr (1, (cevf z j).set 3 (.int x))) = cw g qq ad ea h (zE z j 3 x) X := by
    have e1 : (ea j, Sum.inr (1, (cevf z j).set 3 (.int x))) = cev ea (zE z j 3 x) j := by simp [cev, cevf, zE, ze, upe]
    rw [e1, cw_evset, if_pos hj]
  rw [e] at hP hD
  exact kk H1 locs1 ⟨hP, hD, hS, hw.2.2.2⟩
theorem cp_Parser_Event_second {o : Option Nat} {j : Nat} {x : Int32} (C : mCx p m c cc nL s args g "MidiDesk$Parser") (hw : cWd g A H0 qq ad ea h X z H locs) (ho : o = some j) (hj : j < h.2.1) (hdg : decode cc pc = .ok (.putfield 160, 3)) (kk : ∀ (H1 : Heap) (locs1 : List Loc), cWd g A H0 qq ad ea h X (zE z j 4 x) H1 locs1 → W p l e R s m args below meth c H1 locs1 cells slots Q (F0 m (pc + 3) ls rest)) : W p l e R s m args below meth c H locs cells slots Q (F0 m pc ls (.int x :: va_rf (Option.map ea o) :: rest)) := by
  subst ho
  refine va_putN (ci := 1) (ty := .int) (v := .int x) (C := R_Event) (T := F_Event) (N := 7) C.1.1 C.1.2.1 C.1.2.2.2.2 i_Event t_Event t_Event_ok n_Event C.1.2.2.2.1 C.2.1 hw.1 hw.2.1 hw.2.2.1 (j + 10) (cw_ev hj) rfl 4 (by decide) (va_Nw.use rfl (C.2.2.1 _ nw_304)) (fun _ w => w) rfl (by decide +kernel) rfl rfl (Nat.le_of_ble_eq_true rfl) hdg (fun H1 locs1 hP hD hS => ?_)
  have e : (cw g qq ad ea h z X).set (j + 10) (ea j, .inr (1, (cevf z j).set 4 (.int x))) = cw g qq ad ea h (zE z j 4 x) X := by
    have e1 : (ea j, Sum.inr (1, (cevf z j).set 4 (.int x))) = cev ea (zE z j 4 x) j := by simp [cev, cevf, zE, ze, upe]
    rw [e1, cw_evset, if_pos hj]
  rw [e] at hP hD
  exact kk H1 locs1 ⟨hP, hD, hS, hw.2.2.2⟩
theorem cp_Parser_Event_size {o : Option Nat} {j : Nat} {x : Int32} (C : mCx p m c cc nL s args g "MidiDesk$Parser") (hw : cWd g A H0 qq ad ea h X z H locs) (ho : o = some j) (hj : j < h.2.1) (hdg : decode cc pc = .ok (.putfield 165, 3)) (kk : ∀ (H1 : Heap) (locs1 : List Loc), cWd g A H0 qq ad ea h X (zE z j 6 x) H1 locs1 → W p l e R s m args below meth c H1 locs1 cells slots Q (F0 m (pc + 3) ls rest)) : W p l e R s m args below meth c H locs cells slots Q (F0 m pc ls (.int x :: va_rf (Option.map ea o) :: rest)) := by
  subst ho
  refine va_putN (ci := 1) (ty := .int) (v := .int x) (C := R_Event) (T := F_Event) (N := 7) C.1.1 C.1.2.1 C.1.2.2.2.2 i_Event t_Event t_Event_ok n_Event C.1.2.2.2.1 C.2.1 hw.1 hw.2.1 hw.2.2.1 (j + 10) (cw_ev hj) rfl 6 (by decide) (va_Nw.use rfl (C.2.2.1 _ nw_311)) (fun _ w => w) rfl (by decide +kernel) rfl rfl (Nat.le_of_ble_eq_true rfl) hdg (fun H1 locs1 hP hD hS => ?_)
  have e : (cw g qq ad ea h z X).set (j + 10) (ea j, .inr (1, (cevf z j).set 6 (.int x))) = cw g qq ad ea h (zE z j 6 x) X := by
    have e1 : (ea j, Sum.inr (1, (cevf z j).set 6 (.int x))) = cev ea (zE z j 6 x) j := by simp [cev, cevf, zE, ze, upe]
    rw [e1, cw_evset, if_pos hj]
  rw [e] at hP hD
  exact kk H1 locs1 ⟨hP, hD, hS, hw.2.2.2⟩
theorem cp_Parser_Event_start {o : Option Nat} {j : Nat} {x : Int32} (C : mCx p m c cc nL s args g "MidiDesk$Parser") (hw : cWd g A H0 qq ad ea h X z H locs) (ho : o = some j) (hj : j < h.2.1) (hdg : decode cc pc = .ok (.putfield 164, 3)) (kk : ∀ (H1 : Heap) (locs1 : List Loc), cWd g A H0 qq ad ea h X (zE z j 5 x) H1 locs1 → W p l e R s m args below meth c H1 locs1 cells slots Q (F0 m (pc + 3) ls rest)) : W p l e R s m args below meth c H locs cells slots Q (F0 m pc ls (.int x :: va_rf (Option.map ea o) :: rest)) := by
  subst ho
  refine va_putN (ci := 1) (ty := .int) (v := .int x) (C := R_Event) (T := F_Event) (N := 7) C.1.1 C.1.2.1 C.1.2.2.2.2 i_Event t_Event t_Event_ok n_Event C.1.2.2.2.1 C.2.1 hw.1 hw.2.1 hw.2.2.1 (j + 10) (cw_ev hj) rfl 5 (by decide) (va_Nw.use rfl (C.2.2.1 _ nw_307)) (fun _ w => w) rfl (by decide +kernel) rfl rfl (Nat.le_of_ble_eq_true rfl) hdg (fun H1 locs1 hP hD hS => ?_)
  have e : (cw g qq ad ea h z X).set (j + 10) (ea j, .inr (1, (cevf z j).set 5 (.int x))) = cw g qq ad ea h (zE z j 5 x) X := by
    have e1 : (ea j, Sum.inr (1, (cevf z j).set 5 (.int x))) = cev ea (zE z j 5 x) j := by simp [cev, cevf, zE, ze, upe]
    rw [e1, cw_evset, if_pos hj]
  rw [e] at hP hD
  exact kk H1 locs1 ⟨hP, hD, hS, hw.2.2.2⟩
theorem cp_Parser_Event_status {o : Option Nat} {j : Nat} {x : Int32} (C : mCx p m c cc nL s args g "MidiDesk$Parser") (hw : cWd g A H0 qq ad ea h X z H locs) (ho : o = some j) (hj : j < h.2.1) (hdg : decode cc pc = .ok (.putfield 157, 3)) (kk : ∀ (H1 : Heap) (locs1 : List Loc), cWd g A H0 qq ad ea h X (zE z j 2 x) H1 locs1 → W p l e R s m args below meth c H1 locs1 cells slots Q (F0 m (pc + 3) ls rest)) : W p l e R s m args below meth c H locs cells slots Q (F0 m pc ls (.int x :: va_rf (Option.map ea o) :: rest)) := by
  subst ho
  refine va_putN (ci := 1) (ty := .int) (v := .int x) (C := R_Event) (T := F_Event) (N := 7) C.1.1 C.1.2.1 C.1.2.2.2.2 i_Event t_Event t_Event_ok n_Event C.1.2.2.2.1 C.2.1 hw.1 hw.2.1 hw.2.2.1 (j + 10) (cw_ev hj) rfl 2 (by decide) (va_Nw.use rfl (C.2.2.1 _ nw_295)) (fun _ w => w) rfl (by decide +kernel) rfl rfl (Nat.le_of_ble_eq_true rfl) hdg (fun H1 locs1 hP hD hS => ?_)
  have e : (cw g qq ad ea h z X).set (j + 10) (ea j, .inr (1, (cevf z j).set 2 (.int x))) = cw g qq ad ea h (zE z j 2 x) X := by
    have e1 : (ea j, Sum.inr (1, (cevf z j).set 2 (.int x))) = cev ea (zE z j 2 x) j := by simp [cev, cevf, zE, ze, upe]
    rw [e1, cw_evset, if_pos hj]
  rw [e] at hP hD
  exact kk H1 locs1 ⟨hP, hD, hS, hw.2.2.2⟩
theorem cp_Parser_Event_tick {o : Option Nat} {j : Nat} {x : Int32} (C : mCx p m c cc nL s args g "MidiDesk$Parser") (hw : cWd g A H0 qq ad ea h X z H locs) (ho : o = some j) (hj : j < h.2.1) (hdg : decode cc pc = .ok (.putfield 152, 3)) (kk : ∀ (H1 : Heap) (locs1 : List Loc), cWd g A H0 qq ad ea h X (zE z j 0 x) H1 locs1 → W p l e R s m args below meth c H1 locs1 cells slots Q (F0 m (pc + 3) ls rest)) : W p l e R s m args below meth c H locs cells slots Q (F0 m pc ls (.int x :: va_rf (Option.map ea o) :: rest)) := by
  subst ho
  refine va_putN (ci := 1) (ty := .int) (v := .int x) (C := R_Event) (T := F_Event) (N := 7) C.1.1 C.1.2.1 C.1.2.2.2.2 i_Event t_Event t_Event_ok n_Event C.1.2.2.2.1 C.2.1 hw.1 hw.2.1 hw.2.2.1 (j + 10) (cw_ev hj) rfl 0 (by decide) (va_Nw.use rfl (C.2.2.1 _ nw_286)) (fun _ w => w) rfl (by decide +kernel) rfl rfl (Nat.le_of_ble_eq_true rfl) hdg (fun H1 locs1 hP hD hS => ?_)
  have e : (cw g qq ad ea h z X).set (j + 10) (ea j, .inr (1, (cevf z j).set 0 (.int x))) = cw g qq ad ea h (zE z j 0 x) X := by
    have e1 : (ea j, Sum.inr (1, (cevf z j).set 0 (.int x))) = cev ea (zE z j 0 x) j := by simp [cev, cevf, zE, ze, upe]
    rw [e1, cw_evset, if_pos hj]
  rw [e] at hP hD
  exact kk H1 locs1 ⟨hP, hD, hS, hw.2.2.2⟩
theorem cp_Parser_Event_track {o : Option Nat} {j : Nat} {x : Int32} (C : mCx p m c cc nL s args g "MidiDesk$Parser") (hw : cWd g A H0 qq ad ea h X z H locs) (ho : o = some j) (hj : j < h.2.1) (hdg : decode cc pc = .ok (.putfield 155, 3)) (kk : ∀ (H1 : Heap) (locs1 : List Loc), cWd g A H0 qq ad ea h X (zE z j 1 x) H1 locs1 → W p l e R s m args below meth c H1 locs1 cells slots Q (F0 m (pc + 3) ls rest)) : W p l e R s m args below meth c H locs cells slots Q (F0 m pc ls (.int x :: va_rf (Option.map ea o) :: rest)) := by
  subst ho
  refine va_putN (ci := 1) (ty := .int) (v := .int x) (C := R_Event) (T := F_Event) (N := 7) C.1.1 C.1.2.1 C.1.2.2.2.2 i_Event t_Event t_Event_ok n_Event C.1.2.2.2.1 C.2.1 hw.1 hw.2.1 hw.2.2.1 (j + 10) (cw_ev hj) rfl 1 (by decide) (va_Nw.use rfl (C.2.2.1 _ nw_291)) (fun _ w => w) rfl (by decide +kernel) rfl rfl (Nat.le_of_ble_eq_true rfl) hdg (fun H1 locs1 hP hD hS => ?_)
  have e : (cw g qq ad ea h z X).set (j + 10) (ea j, .inr (1, (cevf z j).set 1 (.int x))) = cw g qq ad ea h (zE z j 1 x) X := by
    have e1 : (ea j, Sum.inr (1, (cevf z j).set 1 (.int x))) = cev ea (zE z j 1 x) j := by simp [cev, cevf, zE, ze, upe]
    rw [e1, cw_evset, if_pos hj]
  rw [e] at hP hD
  exact kk H1 locs1 ⟨hP, hD, hS, hw.2.2.2⟩
theorem cg_Parser_Parser_end (C : mCx p m c cc nL s args g "MidiDesk$Parser") {qp : Nat} {pv : Nat → Int32} (hw : cWd g A H0 qq ad ea h (pcell qp qq pv :: X) z H locs) (hdg : decode cc pc = .ok (.getfield 30, 3)) (kk : W p l e R s m args below meth c H locs cells slots Q (F0 m (pc + 3) ls (.int (pv 1) :: rest))) : W p l e R s m args below meth c H locs cells slots Q (F0 m pc ls (.ref qp :: rest)) := 
  va_get (ci := 2) (C := R_Parser) (T := F_Parser) (N := 13) C.1.1 C.1.2.1 C.1.2.2.2.2 i_Parser C.1.2.2.2.1 C.2.1 hw.1 (h.2.1 + 10) cw_x rfl 3 (by decide) (C.1.2.2.2.2 _ gw_192) (fun _ w => w) rfl hdg kk
theorem cp_Parser_Parser_end {x : Int32} (C : mCx p m c cc nL s args g "MidiDesk$Parser") {qp : Nat} {pv : Nat → Int32} (hw : cWd g A H0 qq ad ea h (pcell qp qq pv :: X) z H locs) (hdg : decode cc pc = .ok (.putfield 30, 3)) (kk : ∀ (H1 : Heap) (locs1 : List Loc), cWd g A H0 qq ad ea h (pcell qp qq (upd pv 1 x) :: X) z H1 locs1 → W p l e R s m args below meth c H1 locs1 cells slots Q (F0 m (pc + 3) ls rest)) : W p l e R s m args below meth c H locs cells slots Q (F0 m pc ls (.int x :: .ref qp :: rest)) := by
  refine va_put (ci := 2) (ty := .int) (v := .int x) (C := R_Parser) (T := F_Parser) (N := 13) C.1.1 C.1.2.1 C.1.2.2.2.2 i_Parser t_Parser t_Parser_ok n_Parser C.1.2.2.2.1 C.2.1 hw.1 hw.2.1 hw.2.2.1 (h.2.1 + 10) cw_x rfl 3 (by decide) (C.1.2.2.2.2 _ gw_192) (fun _ w => w) rfl (by decide +kernel) rfl rfl (Nat.le_of_ble_eq_true rfl) hdg (fun H1 locs1 hP hD hS => ?_)
  rw [cw_xset] at hP hD
  exact kk H1 locs1 ⟨hP, hD, hS, hw.2.2.2⟩
theorem cg_Parser_Parser_ended (C : mCx p m c cc nL s args g "MidiDesk$Parser") {qp : Nat} {pv : Nat → Int32} (hw : cWd g A H0 qq ad ea h (pcell qp qq pv :: X) z H locs) (hdg : decode cc pc = .ok (.getfield 99, 3)) (kk : W p l e R s m args below meth c H locs cells slots Q (F0 m (pc + 3) ls (.int (pv 6) :: rest))) : W p l e R s m args below meth c H locs cells slots Q (F0 m pc ls (.ref qp :: rest)) := 
  va_get (ci := 2) (C := R_Parser) (T := F_Parser) (N := 13) C.1.1 C.1.2.1 C.1.2.2.2.2 i_Parser C.1.2.2.2.1 C.2.1 hw.1 (h.2.1 + 10) cw_x rfl 8 (by decide) (C.1.2.2.2.2 _ gw_197) (fun _ w => w) rfl hdg kk
theorem cp_Parser_Parser_ended {x : Int32} (C : mCx p m c cc nL s args g "MidiDesk$Parser") {qp : Nat} {pv : Nat → Int32} (hw : cWd g A H0 qq ad ea h (pcell qp qq pv :: X) z H locs) (hz : x = 0 ∨ x = 1) (hdg : decode cc pc = .ok (.putfield 99, 3)) (kk : ∀ (H1 : Heap) (locs1 : List Loc), cWd g A H0 qq ad ea h (pcell qp qq (upd pv 6 x) :: X) z H1 locs1 → W p l e R s m args below meth c H1 locs1 cells slots Q (F0 m (pc + 3) ls rest)) : W p l e R s m args below meth c H locs cells slots Q (F0 m pc ls (.int x :: .ref qp :: rest)) := by
  refine va_put (ci := 2) (ty := .boolean) (v := .int x) (C := R_Parser) (T := F_Parser) (N := 13) C.1.1 C.1.2.1 C.1.2.2.2.2 i_Parser t_Parser t_Parser_ok n_Parser C.1.2.2.2.1 C.2.1 hw.1 hw.2.1 hw.2.2.1 (h.2.1 + 10) cw_x rfl 8 (by decide) (C.1.2.2.2.2 _ gw_197) (fun _ w => w) rfl (by decide +kernel) (by rcases hz with rfl | rfl <;> rfl) (by rcases hz with rfl | rfl <;> rfl) (Nat.le_of_ble_eq_true rfl) hdg (fun H1 locs1 hP hD hS => ?_)
  rw [cw_xset] at hP hD
  exact kk H1 locs1 ⟨hP, hD, hS, hw.2.2.2⟩
theorem cg_Parser_Parser_fault (C : mCx p m c cc nL s args g "MidiDesk$Parser") {qp : Nat} {pv : Nat → Int32} (hw : cWd g A H0 qq ad ea h (pcell qp qq pv :: X) z H locs) (hdg : decode cc pc = .ok (.getfield 37, 3)) (kk : W p l e R s m args below meth c H locs cells slots Q (F0 m (pc + 3) ls (.int (pv 2) :: rest))) : W p l e R s m args below meth c H locs cells slots Q (F0 m pc ls (.ref qp :: rest)) := 
  va_get (ci := 2) (C := R_Parser) (T := F_Parser) (N := 13) C.1.1 C.1.2.1 C.1.2.2.2.2 i_Parser C.1.2.2.2.1 C.2.1 hw.1 (h.2.1 + 10) cw_x rfl 4 (by decide) (C.1.2.2.2.2 _ gw_193) (fun _ w => w) rfl hdg kk
theorem cp_Parser_Parser_fault {x : Int32} (C : mCx p m c cc nL s args g "MidiDesk$Parser") {qp : Nat} {pv : Nat → Int32} (hw : cWd g A H0 qq ad ea h (pcell qp qq pv :: X) z H locs) (hdg : decode cc pc = .ok (.putfield 37, 3)) (kk : ∀ (H1 : Heap) (locs1 : List Loc), cWd g A H0 qq ad ea h (pcell qp qq (upd pv 2 x) :: X) z H1 locs1 → W p l e R s m args below meth c H1 locs1 cells slots Q (F0 m (pc + 3) ls rest)) : W p l e R s m args below meth c H locs cells slots Q (F0 m pc ls (.int x :: .ref qp :: rest)) := by
  refine va_put (ci := 2) (ty := .int) (v := .int x) (C := R_Parser) (T := F_Parser) (N := 13) C.1.1 C.1.2.1 C.1.2.2.2.2 i_Parser t_Parser t_Parser_ok n_Parser C.1.2.2.2.1 C.2.1 hw.1 hw.2.1 hw.2.2.1 (h.2.1 + 10) cw_x rfl 4 (by decide) (C.1.2.2.2.2 _ gw_193) (fun _ w => w) rfl (by decide +kernel) rfl rfl (Nat.le_of_ble_eq_true rfl) hdg (fun H1 locs1 hP hD hS => ?_)
  rw [cw_xset] at hP hD
  exact kk H1 locs1 ⟨hP, hD, hS, hw.2.2.2⟩
theorem cg_Parser_Parser_first (C : mCx p m c cc nL s args g "MidiDesk$Parser") {qp : Nat} {pv : Nat → Int32} (hw : cWd g A H0 qq ad ea h (pcell qp qq pv :: X) z H locs) (hdg : decode cc pc = .ok (.getfield 133, 3)) (kk : W p l e R s m args below meth c H locs cells slots Q (F0 m (pc + 3) ls (.int (pv 7) :: rest))) : W p l e R s m args below meth c H locs cells slots Q (F0 m pc ls (.ref qp :: rest)) := 
  va_get (ci := 2) (C := R_Parser) (T := F_Parser) (N := 13) C.1.1 C.1.2.1 C.1.2.2.2.2 i_Parser C.1.2.2.2.1 C.2.1 hw.1 (h.2.1 + 10) cw_x rfl 9 (by decide) (C.1.2.2.2.2 _ gw_198) (fun _ w => w) rfl hdg kk
theorem cp_Parser_Parser_first {x : Int32} (C : mCx p m c cc nL s args g "MidiDesk$Parser") {qp : Nat} {pv : Nat → Int32} (hw : cWd g A H0 qq ad ea h (pcell qp qq pv :: X) z H locs) (hdg : decode cc pc = .ok (.putfield 133, 3)) (kk : ∀ (H1 : Heap) (locs1 : List Loc), cWd g A H0 qq ad ea h (pcell qp qq (upd pv 7 x) :: X) z H1 locs1 → W p l e R s m args below meth c H1 locs1 cells slots Q (F0 m (pc + 3) ls rest)) : W p l e R s m args below meth c H locs cells slots Q (F0 m pc ls (.int x :: .ref qp :: rest)) := by
  refine va_put (ci := 2) (ty := .int) (v := .int x) (C := R_Parser) (T := F_Parser) (N := 13) C.1.1 C.1.2.1 C.1.2.2.2.2 i_Parser t_Parser t_Parser_ok n_Parser C.1.2.2.2.1 C.2.1 hw.1 hw.2.1 hw.2.2.1 (h.2.1 + 10) cw_x rfl 9 (by decide) (C.1.2.2.2.2 _ gw_198) (fun _ w => w) rfl (by decide +kernel) rfl rfl (Nat.le_of_ble_eq_true rfl) hdg (fun H1 locs1 hP hD hS => ?_)
  rw [cw_xset] at hP hD
  exact kk H1 locs1 ⟨hP, hD, hS, hw.2.2.2⟩
theorem cg_Parser_Parser_input (C : mCx p m c cc nL s args g "MidiDesk$Parser") {qp : Nat} {pv : Nat → Int32} (hw : cWd g A H0 qq ad ea h (pcell qp qq pv :: X) z H locs) (hdg : decode cc pc = .ok (.getfield 9, 3)) (kk : W p l e R s m args below meth c H locs cells slots Q (F0 m (pc + 3) ls (.ref (qq 1) :: rest))) : W p l e R s m args below meth c H locs cells slots Q (F0 m pc ls (.ref qp :: rest)) := 
  va_get (ci := 2) (C := R_Parser) (T := F_Parser) (N := 13) C.1.1 C.1.2.1 C.1.2.2.2.2 i_Parser C.1.2.2.2.1 C.2.1 hw.1 (h.2.1 + 10) cw_x rfl 0 (by decide) (C.1.2.2.2.2 _ gw_189) (fun _ w => w) rfl hdg kk
theorem cg_Parser_Parser_pos (C : mCx p m c cc nL s args g "MidiDesk$Parser") {qp : Nat} {pv : Nat → Int32} (hw : cWd g A H0 qq ad ea h (pcell qp qq pv :: X) z H locs) (hdg : decode cc pc = .ok (.getfield 40, 3)) (kk : W p l e R s m args below meth c H locs cells slots Q (F0 m (pc + 3) ls (.int (pv 0) :: rest))) : W p l e R s m args below meth c H locs cells slots Q (F0 m pc ls (.ref qp :: rest)) := 
  va_get (ci := 2) (C := R_Parser) (T := F_Parser) (N := 13) C.1.1 C.1.2.1 C.1.2.2.2.2 i_Parser C.1.2.2.2.1 C.2.1 hw.1 (h.2.1 + 10) cw_x rfl 2 (by decide) (C.1.2.2.2.2 _ gw_191) (fun _ w => w) rfl hdg kk
theorem cp_Parser_Parser_pos {x : Int32} (C : mCx p m c cc nL s args g "MidiDesk$Parser") {qp : Nat} {pv : Nat → Int32} (hw : cWd g A H0 qq ad ea h (pcell qp qq pv :: X) z H locs) (hdg : decode cc pc = .ok (.putfield 40, 3)) (kk : ∀ (H1 : Heap) (locs1 : List Loc), cWd g A H0 qq ad ea h (pcell qp qq (upd pv 0 x) :: X) z H1 locs1 → W p l e R s m args below meth c H1 locs1 cells slots Q (F0 m (pc + 3) ls rest)) : W p l e R s m args below meth c H locs cells slots Q (F0 m pc ls (.int x :: .ref qp :: rest)) := by
  refine va_put (ci := 2) (ty := .int) (v := .int x) (C := R_Parser) (T := F_Parser) (N := 13) C.1.1 C.1.2.1 C.1.2.2.2.2 i_Parser t_Parser t_Parser_ok n_Parser C.1.2.2.2.1 C.2.1 hw.1 hw.2.1 hw.2.2.1 (h.2.1 + 10) cw_x rfl 2 (by decide) (C.1.2.2.2.2 _ gw_191) (fun _ w => w) rfl (by decide +kernel) rfl rfl (Nat.le_of_ble_eq_true rfl) hdg (fun H1 locs1 hP hD hS => ?_)
  rw [cw_xset] at hP hD
  exact kk H1 locs1 ⟨hP, hD, hS, hw.2.2.2⟩
theorem cg_Parser_Parser_running (C : mCx p m c cc nL s args g "MidiDesk$Parser") {qp : Nat} {pv : Nat → Int32} (hw : cWd g A H0 qq ad ea h (pcell qp qq pv :: X) z H locs) (hdg : decode cc pc = .ok (.getfield 96, 3)) (kk : W p l e R s m args below meth c H locs cells slots Q (F0 m (pc + 3) ls (.int (pv 5) :: rest))) : W p l e R s m args below meth c H locs cells slots Q (F0 m pc ls (.ref qp :: rest)) := 
  va_get (ci := 2) (C := R_Parser) (T := F_Parser) (N := 13) C.1.1 C.1.2.1 C.1.2.2.2.2 i_Parser C.1.2.2.2.1 C.2.1 hw.1 (h.2.1 + 10) cw_x rfl 7 (by decide) (C.1.2.2.2.2 _ gw_196) (fun _ w => w) rfl hdg kk
theorem cp_Parser_Parser_running {x : Int32} (C : mCx p m c cc nL s args g "MidiDesk$Parser") {qp : Nat} {pv : Nat → Int32} (hw : cWd g A H0 qq ad ea h (pcell qp qq pv :: X) z H locs) (hdg : decode cc pc = .ok (.putfield 96, 3)) (kk : ∀ (H1 : Heap) (locs1 : List Loc), cWd g A H0 qq ad ea h (pcell qp qq (upd pv 5 x) :: X) z H1 locs1 → W p l e R s m args below meth c H1 locs1 cells slots Q (F0 m (pc + 3) ls rest)) : W p l e R s m args below meth c H locs cells slots Q (F0 m pc ls (.int x :: .ref qp :: rest)) := by
  refine va_put (ci := 2) (ty := .int) (v := .int x) (C := R_Parser) (T := F_Parser) (N := 13) C.1.1 C.1.2.1 C.1.2.2.2.2 i_Parser t_Parser t_Parser_ok n_Parser C.1.2.2.2.1 C.2.1 hw.1 hw.2.1 hw.2.2.1 (h.2.1 + 10) cw_x rfl 7 (by decide) (C.1.2.2.2.2 _ gw_196) (fun _ w => w) rfl (by decide +kernel) rfl rfl (Nat.le_of_ble_eq_true rfl) hdg (fun H1 locs1 hP hD hS => ?_)
  rw [cw_xset] at hP hD
  exact kk H1 locs1 ⟨hP, hD, hS, hw.2.2.2⟩
theorem cg_Parser_Parser_score (C : mCx p m c cc nL s args g "MidiDesk$Parser") {qp : Nat} {pv : Nat → Int32} (hw : cWd g A H0 qq ad ea h (pcell qp qq pv :: X) z H locs) (hdg : decode cc pc = .ok (.getfield 15, 3)) (kk : W p l e R s m args below meth c H locs cells slots Q (F0 m (pc + 3) ls (.ref (qq 4) :: rest))) : W p l e R s m args below meth c H locs cells slots Q (F0 m pc ls (.ref qp :: rest)) := 
  va_get (ci := 2) (C := R_Parser) (T := F_Parser) (N := 13) C.1.1 C.1.2.1 C.1.2.2.2.2 i_Parser C.1.2.2.2.1 C.2.1 hw.1 (h.2.1 + 10) cw_x rfl 1 (by decide) (C.1.2.2.2.2 _ gw_190) (fun _ w => w) rfl hdg kk
theorem cg_Parser_Parser_second (C : mCx p m c cc nL s args g "MidiDesk$Parser") {qp : Nat} {pv : Nat → Int32} (hw : cWd g A H0 qq ad ea h (pcell qp qq pv :: X) z H locs) (hdg : decode cc pc = .ok (.getfield 139, 3)) (kk : W p l e R s m args below meth c H locs cells slots Q (F0 m (pc + 3) ls (.int (pv 8) :: rest))) : W p l e R s m args below meth c H locs cells slots Q (F0 m pc ls (.ref qp :: rest)) := 
  va_get (ci := 2) (C := R_Parser) (T := F_Parser) (N := 13) C.1.1 C.1.2.1 C.1.2.2.2.2 i_Parser C.1.2.2.2.1 C.2.1 hw.1 (h.2.1 + 10) cw_x rfl 10 (by decide) (C.1.2.2.2.2 _ gw_199) (fun _ w => w) rfl hdg kk
theorem cp_Parser_Parser_second {x : Int32} (C : mCx p m c cc nL s args g "MidiDesk$Parser") {qp : Nat} {pv : Nat → Int32} (hw : cWd g A H0 qq ad ea h (pcell qp qq pv :: X) z H locs) (hdg : decode cc pc = .ok (.putfield 139, 3)) (kk : ∀ (H1 : Heap) (locs1 : List Loc), cWd g A H0 qq ad ea h (pcell qp qq (upd pv 8 x) :: X) z H1 locs1 → W p l e R s m args below meth c H1 locs1 cells slots Q (F0 m (pc + 3) ls rest)) : W p l e R s m args below meth c H locs cells slots Q (F0 m pc ls (.int x :: .ref qp :: rest)) := by
  refine va_put (ci := 2) (ty := .int) (v := .int x) (C := R_Parser) (T := F_Parser) (N := 13) C.1.1 C.1.2.1 C.1.2.2.2.2 i_Parser t_Parser t_Parser_ok n_Parser C.1.2.2.2.1 C.2.1 hw.1 hw.2.1 hw.2.2.1 (h.2.1 + 10) cw_x rfl 10 (by decide) (C.1.2.2.2.2 _ gw_199) (fun _ w => w) rfl (by decide +kernel) rfl rfl (Nat.le_of_ble_eq_true rfl) hdg (fun H1 locs1 hP hD hS => ?_)
  rw [cw_xset] at hP hD
  exact kk H1 locs1 ⟨hP, hD, hS, hw.2.2.2⟩
theorem cg_Parser_Parser_size (C : mCx p m c cc nL s args g "MidiDesk$Parser") {qp : Nat} {pv : Nat → Int32} (hw : cWd g A H0 qq ad ea h (pcell qp qq pv :: X) z H locs) (hdg : decode cc pc = .ok (.getfield 122, 3)) (kk : W p l e R s m args below meth c H locs cells slots Q (F0 m (pc + 3) ls (.int (pv 10) :: rest))) : W p l e R s m args below meth c H locs cells slots Q (F0 m pc ls (.ref qp :: rest)) := 
  va_get (ci := 2) (C := R_Parser) (T := F_Parser) (N := 13) C.1.1 C.1.2.1 C.1.2.2.2.2 i_Parser C.1.2.2.2.1 C.2.1 hw.1 (h.2.1 + 10) cw_x rfl 12 (by decide) (C.1.2.2.2.2 _ gw_201) (fun _ w => w) rfl hdg kk
theorem cp_Parser_Parser_size {x : Int32} (C : mCx p m c cc nL s args g "MidiDesk$Parser") {qp : Nat} {pv : Nat → Int32} (hw : cWd g A H0 qq ad ea h (pcell qp qq pv :: X) z H locs) (hdg : decode cc pc = .ok (.putfield 122, 3)) (kk : ∀ (H1 : Heap) (locs1 : List Loc), cWd g A H0 qq ad ea h (pcell qp qq (upd pv 10 x) :: X) z H1 locs1 → W p l e R s m args below meth c H1 locs1 cells slots Q (F0 m (pc + 3) ls rest)) : W p l e R s m args below meth c H locs cells slots Q (F0 m pc ls (.int x :: .ref qp :: rest)) := by
  refine va_put (ci := 2) (ty := .int) (v := .int x) (C := R_Parser) (T := F_Parser) (N := 13) C.1.1 C.1.2.1 C.1.2.2.2.2 i_Parser t_Parser t_Parser_ok n_Parser C.1.2.2.2.1 C.2.1 hw.1 hw.2.1 hw.2.2.1 (h.2.1 + 10) cw_x rfl 12 (by decide) (C.1.2.2.2.2 _ gw_201) (fun _ w => w) rfl (by decide +kernel) rfl rfl (Nat.le_of_ble_eq_true rfl) hdg (fun H1 locs1 hP hD hS => ?_)
  rw [cw_xset] at hP hD
  exact kk H1 locs1 ⟨hP, hD, hS, hw.2.2.2⟩
theorem cg_Parser_Parser_start (C : mCx p m c cc nL s args g "MidiDesk$Parser") {qp : Nat} {pv : Nat → Int32} (hw : cWd g A H0 qq ad ea h (pcell qp qq pv :: X) z H locs) (hdg : decode cc pc = .ok (.getfield 145, 3)) (kk : W p l e R s m args below meth c H locs cells slots Q (F0 m (pc + 3) ls (.int (pv 9) :: rest))) : W p l e R s m args below meth c H locs cells slots Q (F0 m pc ls (.ref qp :: rest)) := 
  va_get (ci := 2) (C := R_Parser) (T := F_Parser) (N := 13) C.1.1 C.1.2.1 C.1.2.2.2.2 i_Parser C.1.2.2.2.1 C.2.1 hw.1 (h.2.1 + 10) cw_x rfl 11 (by decide) (C.1.2.2.2.2 _ gw_200) (fun _ w => w) rfl hdg kk
theorem cp_Parser_Parser_start {x : Int32} (C : mCx p m c cc nL s args g "MidiDesk$Parser") {qp : Nat} {pv : Nat → Int32} (hw : cWd g A H0 qq ad ea h (pcell qp qq pv :: X) z H locs) (hdg : decode cc pc = .ok (.putfield 145, 3)) (kk : ∀ (H1 : Heap) (locs1 : List Loc), cWd g A H0 qq ad ea h (pcell qp qq (upd pv 9 x) :: X) z H1 locs1 → W p l e R s m args below meth c H1 locs1 cells slots Q (F0 m (pc + 3) ls rest)) : W p l e R s m args below meth c H locs cells slots Q (F0 m pc ls (.int x :: .ref qp :: rest)) := by
  refine va_put (ci := 2) (ty := .int) (v := .int x) (C := R_Parser) (T := F_Parser) (N := 13) C.1.1 C.1.2.1 C.1.2.2.2.2 i_Parser t_Parser t_Parser_ok n_Parser C.1.2.2.2.1 C.2.1 hw.1 hw.2.1 hw.2.2.1 (h.2.1 + 10) cw_x rfl 11 (by decide) (C.1.2.2.2.2 _ gw_200) (fun _ w => w) rfl (by decide +kernel) rfl rfl (Nat.le_of_ble_eq_true rfl) hdg (fun H1 locs1 hP hD hS => ?_)
  rw [cw_xset] at hP hD
  exact kk H1 locs1 ⟨hP, hD, hS, hw.2.2.2⟩
theorem cg_Parser_Parser_tick (C : mCx p m c cc nL s args g "MidiDesk$Parser") {qp : Nat} {pv : Nat → Int32} (hw : cWd g A H0 qq ad ea h (pcell qp qq pv :: X) z H locs) (hdg : decode cc pc = .ok (.getfield 93, 3)) (kk : W p l e R s m args below meth c H locs cells slots Q (F0 m (pc + 3) ls (.int (pv 4) :: rest))) : W p l e R s m args below meth c H locs cells slots Q (F0 m pc ls (.ref qp :: rest)) := 
  va_get (ci := 2) (C := R_Parser) (T := F_Parser) (N := 13) C.1.1 C.1.2.1 C.1.2.2.2.2 i_Parser C.1.2.2.2.1 C.2.1 hw.1 (h.2.1 + 10) cw_x rfl 6 (by decide) (C.1.2.2.2.2 _ gw_195) (fun _ w => w) rfl hdg kk
theorem cp_Parser_Parser_tick {x : Int32} (C : mCx p m c cc nL s args g "MidiDesk$Parser") {qp : Nat} {pv : Nat → Int32} (hw : cWd g A H0 qq ad ea h (pcell qp qq pv :: X) z H locs) (hdg : decode cc pc = .ok (.putfield 93, 3)) (kk : ∀ (H1 : Heap) (locs1 : List Loc), cWd g A H0 qq ad ea h (pcell qp qq (upd pv 4 x) :: X) z H1 locs1 → W p l e R s m args below meth c H1 locs1 cells slots Q (F0 m (pc + 3) ls rest)) : W p l e R s m args below meth c H locs cells slots Q (F0 m pc ls (.int x :: .ref qp :: rest)) := by
  refine va_put (ci := 2) (ty := .int) (v := .int x) (C := R_Parser) (T := F_Parser) (N := 13) C.1.1 C.1.2.1 C.1.2.2.2.2 i_Parser t_Parser t_Parser_ok n_Parser C.1.2.2.2.1 C.2.1 hw.1 hw.2.1 hw.2.2.1 (h.2.1 + 10) cw_x rfl 6 (by decide) (C.1.2.2.2.2 _ gw_195) (fun _ w => w) rfl (by decide +kernel) rfl rfl (Nat.le_of_ble_eq_true rfl) hdg (fun H1 locs1 hP hD hS => ?_)
  rw [cw_xset] at hP hD
  exact kk H1 locs1 ⟨hP, hD, hS, hw.2.2.2⟩
theorem cg_Parser_Parser_tracksSeen (C : mCx p m c cc nL s args g "MidiDesk$Parser") {qp : Nat} {pv : Nat → Int32} (hw : cWd g A H0 qq ad ea h (pcell qp qq pv :: X) z H locs) (hdg : decode cc pc = .ok (.getfield 50, 3)) (kk : W p l e R s m args below meth c H locs cells slots Q (F0 m (pc + 3) ls (.int (pv 3) :: rest))) : W p l e R s m args below meth c H locs cells slots Q (F0 m pc ls (.ref qp :: rest)) := 
  va_get (ci := 2) (C := R_Parser) (T := F_Parser) (N := 13) C.1.1 C.1.2.1 C.1.2.2.2.2 i_Parser C.1.2.2.2.1 C.2.1 hw.1 (h.2.1 + 10) cw_x rfl 5 (by decide) (C.1.2.2.2.2 _ gw_194) (fun _ w => w) rfl hdg kk
theorem cp_Parser_Parser_tracksSeen {x : Int32} (C : mCx p m c cc nL s args g "MidiDesk$Parser") {qp : Nat} {pv : Nat → Int32} (hw : cWd g A H0 qq ad ea h (pcell qp qq pv :: X) z H locs) (hdg : decode cc pc = .ok (.putfield 50, 3)) (kk : ∀ (H1 : Heap) (locs1 : List Loc), cWd g A H0 qq ad ea h (pcell qp qq (upd pv 3 x) :: X) z H1 locs1 → W p l e R s m args below meth c H1 locs1 cells slots Q (F0 m (pc + 3) ls rest)) : W p l e R s m args below meth c H locs cells slots Q (F0 m pc ls (.int x :: .ref qp :: rest)) := by
  refine va_put (ci := 2) (ty := .int) (v := .int x) (C := R_Parser) (T := F_Parser) (N := 13) C.1.1 C.1.2.1 C.1.2.2.2.2 i_Parser t_Parser t_Parser_ok n_Parser C.1.2.2.2.1 C.2.1 hw.1 hw.2.1 hw.2.2.1 (h.2.1 + 10) cw_x rfl 5 (by decide) (C.1.2.2.2.2 _ gw_194) (fun _ w => w) rfl (by decide +kernel) rfl rfl (Nat.le_of_ble_eq_true rfl) hdg (fun H1 locs1 hP hD hS => ?_)
  rw [cw_xset] at hP hD
  exact kk H1 locs1 ⟨hP, hD, hS, hw.2.2.2⟩
theorem cg_Parser_Score_data (C : mCx p m c cc nL s args g "MidiDesk$Parser") (hw : cWd g A H0 qq ad ea h X z H locs) (hdg : decode cc pc = .ok (.getfield 161, 3)) (kk : W p l e R s m args below meth c H locs cells slots Q (F0 m (pc + 3) ls (.ref (qq 3) :: rest))) : W p l e R s m args below meth c H locs cells slots Q (F0 m pc ls (.ref (qq 4) :: rest)) := 
  va_getN (ci := 4) (C := R_Score) (T := F_Score) (N := 8) C.1.1 C.1.2.1 C.1.2.2.2.2 i_Score C.1.2.2.2.1 C.2.1 hw.1 4 rfl rfl 0 (by decide) (va_Nw.use rfl (C.2.2.1 _ nw_54)) (fun _ w => w) rfl hdg kk
theorem cp_Parser_Score_division {x : Int32} (C : mCx p m c cc nL s args g "MidiDesk$Parser") (hw : cWd g A H0 qq ad ea h X z H locs) (hdg : decode cc pc = .ok (.putfield 88, 3)) (kk : ∀ (H1 : Heap) (locs1 : List Loc), cWd g A H0 qq ad ea h X (zU z 6 x) H1 locs1 → W p l e R s m args below meth c H1 locs1 cells slots Q (F0 m (pc + 3) ls rest)) : W p l e R s m args below meth c H locs cells slots Q (F0 m pc ls (.int x :: .ref (qq 4) :: rest)) := by
  exact va_putN (ci := 4) (ty := .int) (v := .int x) (C := R_Score) (T := F_Score) (N := 8) C.1.1 C.1.2.1 C.1.2.2.2.2 i_Score t_Score t_Score_ok n_Score C.1.2.2.2.1 C.2.1 hw.1 hw.2.1 hw.2.2.1 4 rfl rfl 4 (by decide) (va_Nw.use rfl (C.2.2.1 _ nw_65)) (fun _ w => w) rfl (by decide +kernel) rfl rfl (Nat.le_of_ble_eq_true rfl) hdg (fun H1 locs1 hP hD hS => kk H1 locs1 ⟨hP, hD, hS, hw.2.2.2⟩)
theorem cp_Parser_Score_format {x : Int32} (C : mCx p m c cc nL s args g "MidiDesk$Parser") (hw : cWd g A H0 qq ad ea h X z H locs) (hdg : decode cc pc = .ok (.putfield 85, 3)) (kk : ∀ (H1 : Heap) (locs1 : List Loc), cWd g A H0 qq ad ea h X (zU z 4 x) H1 locs1 → W p l e R s m args below meth c H1 locs1 cells slots Q (F0 m (pc + 3) ls rest)) : W p l e R s m args below meth c H locs cells slots Q (F0 m pc ls (.int x :: .ref (qq 4) :: rest)) := by
  exact va_putN (ci := 4) (ty := .int) (v := .int x) (C := R_Score) (T := F_Score) (N := 8) C.1.1 C.1.2.1 C.1.2.2.2.2 i_Score t_Score t_Score_ok n_Score C.1.2.2.2.1 C.2.1 hw.1 hw.2.1 hw.2.2.1 4 rfl rfl 2 (by decide) (va_Nw.use rfl (C.2.2.1 _ nw_58)) (fun _ w => w) rfl (by decide +kernel) rfl rfl (Nat.le_of_ble_eq_true rfl) hdg (fun H1 locs1 hP hD hS => kk H1 locs1 ⟨hP, hD, hS, hw.2.2.2⟩)
theorem cp_Parser_Score_present {x : Int32} (C : mCx p m c cc nL s args g "MidiDesk$Parser") (hw : cWd g A H0 qq ad ea h X z H locs) (hz : x = 0 ∨ x = 1) (hdg : decode cc pc = .ok (.putfield 63, 3)) (kk : ∀ (H1 : Heap) (locs1 : List Loc), cWd g A H0 qq ad ea h X (zU z 3 x) H1 locs1 → W p l e R s m args below meth c H1 locs1 cells slots Q (F0 m (pc + 3) ls rest)) : W p l e R s m args below meth c H locs cells slots Q (F0 m pc ls (.int x :: .ref (qq 4) :: rest)) := by
  exact va_putN (ci := 4) (ty := .boolean) (v := .int x) (C := R_Score) (T := F_Score) (N := 8) C.1.1 C.1.2.1 C.1.2.2.2.2 i_Score t_Score t_Score_ok n_Score C.1.2.2.2.1 C.2.1 hw.1 hw.2.1 hw.2.2.1 4 rfl rfl 1 (by decide) (va_Nw.use rfl (C.2.2.1 _ nw_56)) (fun _ w => w) rfl (by decide +kernel) (by rcases hz with rfl | rfl <;> rfl) (by rcases hz with rfl | rfl <;> rfl) (Nat.le_of_ble_eq_true rfl) hdg (fun H1 locs1 hP hD hS => kk H1 locs1 ⟨hP, hD, hS, hw.2.2.2⟩)
theorem cg_Parser_Score_tracks (C : mCx p m c cc nL s args g "MidiDesk$Parser") (hw : cWd g A H0 qq ad ea h X z H locs) (hdg : decode cc pc = .ok (.getfield 53, 3)) (kk : W p l e R s m args below meth c H locs cells slots Q (F0 m (pc + 3) ls (.int (zi z 5) :: rest))) : W p l e R s m args below meth c H locs cells slots Q (F0 m pc ls (.ref (qq 4) :: rest)) := 
  va_getN (ci := 4) (C := R_Score) (T := F_Score) (N := 8) C.1.1 C.1.2.1 C.1.2.2.2.2 i_Score C.1.2.2.2.1 C.2.1 hw.1 4 rfl rfl 3 (by decide) (va_Nw.use rfl (C.2.2.1 _ nw_62)) (fun _ w => w) rfl hdg kk
theorem cp_Parser_Score_tracks {x : Int32} (C : mCx p m c cc nL s args g "MidiDesk$Parser") (hw : cWd g A H0 qq ad ea h X z H locs) (hdg : decode cc pc = .ok (.putfield 53, 3)) (kk : ∀ (H1 : Heap) (locs1 : List Loc), cWd g A H0 qq ad ea h X (zU z 5 x) H1 locs1 → W p l e R s m args below meth c H1 locs1 cells slots Q (F0 m (pc + 3) ls rest)) : W p l e R s m args below meth c H locs cells slots Q (F0 m pc ls (.int x :: .ref (qq 4) :: rest)) := by
  exact va_putN (ci := 4) (ty := .int) (v := .int x) (C := R_Score) (T := F_Score) (N := 8) C.1.1 C.1.2.1 C.1.2.2.2.2 i_Score t_Score t_Score_ok n_Score C.1.2.2.2.1 C.2.1 hw.1 hw.2.1 hw.2.2.1 4 rfl rfl 3 (by decide) (va_Nw.use rfl (C.2.2.1 _ nw_62)) (fun _ w => w) rfl (by decide +kernel) rfl rfl (Nat.le_of_ble_eq_true rfl) hdg (fun H1 locs1 hP hD hS => kk H1 locs1 ⟨hP, hD, hS, hw.2.2.2⟩)
theorem cg_Printer_Event_first {o : Option Nat} {j : Nat} (C : mCx p m c cc nL s args g "MidiDesk$Printer") (hw : cWd g A H0 qq ad ea h X z H locs) (ho : o = some j) (hj : j < h.2.1) (hdg : decode cc pc = .ok (.getfield 89, 3)) (kk : W p l e R s m args below meth c H locs cells slots Q (F0 m (pc + 3) ls (.int (ze z j 3) :: rest))) : W p l e R s m args below meth c H locs cells slots Q (F0 m pc ls (va_rf (Option.map ea o) :: rest)) := by
  subst ho
  exact va_getN (ci := 1) (C := R_Event) (T := F_Event) (N := 7) C.1.1 C.1.2.1 C.1.2.2.2.2 i_Event C.1.2.2.2.1 C.2.1 hw.1 (j + 10) (cw_ev hj) rfl 3 (by decide) (va_Nw.use rfl (C.2.2.1 _ nw_297)) (fun _ w => w) rfl hdg kk
theorem cgt_Printer_Event_first {j : Nat} (C : mCx p m c cc nL s args g "MidiDesk$Printer") (hw : cWd g A H0 qq ad ea h X z H locs) (hj : j < h.2.1) (hdg : decode cc pc = .ok (.getfield 89, 3)) (kk : W p l e R s m args below meth c H locs cells slots Q (F0 m (pc + 3) ls (.int (ze z j 3) :: rest))) : W p l e R s m args below meth c H locs cells slots Q (F0 m pc ls (.ref (ea j) :: rest)) := cg_Printer_Event_first (o := some j) C hw rfl hj hdg kk
theorem cg_Printer_Event_second {o : Option Nat} {j : Nat} (C : mCx p m c cc nL s args g "MidiDesk$Printer") (hw : cWd g A H0 qq ad ea h X z H locs) (ho : o = some j) (hj : j < h.2.1) (hdg : decode cc pc = .ok (.getfield 92, 3)) (kk : W p l e R s m args below meth c H locs cells slots Q (F0 m (pc + 3) ls (.int (ze z j 4) :: rest))) : W p l e R s m args below meth c H locs cells slots Q (F0 m pc ls (va_rf (Option.map ea o) :: rest)) := by
  subst ho
  exact va_getN (ci := 1) (C := R_Event) (T := F_Event) (N := 7) C.1.1 C.1.2.1 C.1.2.2.2.2 i_Event C.1.2.2.2.1 C.2.1 hw.1 (j + 10) (cw_ev hj) rfl 4 (by decide) (va_Nw.use rfl (C.2.2.1 _ nw_302)) (fun _ w => w) rfl hdg kk
theorem cgt_Printer_Event_second {j : Nat} (C : mCx p m c cc nL s args g "MidiDesk$Printer") (hw : cWd g A H0 qq ad ea h X z H locs) (hj : j < h.2.1) (hdg : decode cc pc = .ok (.getfield 92, 3)) (kk : W p l e R s m args below meth c H locs cells slots Q (F0 m (pc + 3) ls (.int (ze z j 4) :: rest))) : W p l e R s m args below meth c H locs cells slots Q (F0 m pc ls (.ref (ea j) :: rest)) := cg_Printer_Event_second (o := some j) C hw rfl hj hdg kk
theorem cg_Printer_Event_size {o : Option Nat} {j : Nat} (C : mCx p m c cc nL s args g "MidiDesk$Printer") (hw : cWd g A H0 qq ad ea h X z H locs) (ho : o = some j) (hj : j < h.2.1) (hdg : decode cc pc = .ok (.getfield 95, 3)) (kk : W p l e R s m args below meth c H locs cells slots Q (F0 m (pc + 3) ls (.int (ze z j 6) :: rest))) : W p l e R s m args below meth c H locs cells slots Q (F0 m pc ls (va_rf (Option.map ea o) :: rest)) := by
  subst ho
  exact va_getN (ci := 1) (C := R_Event) (T := F_Event) (N := 7) C.1.1 C.1.2.1 C.1.2.2.2.2 i_Event C.1.2.2.2.1 C.2.1 hw.1 (j + 10) (cw_ev hj) rfl 6 (by decide) (va_Nw.use rfl (C.2.2.1 _ nw_310)) (fun _ w => w) rfl hdg kk
theorem cgt_Printer_Event_size {j : Nat} (C : mCx p m c cc nL s args g "MidiDesk$Printer") (hw : cWd g A H0 qq ad ea h X z H locs) (hj : j < h.2.1) (hdg : decode cc pc = .ok (.getfield 95, 3)) (kk : W p l e R s m args below meth c H locs cells slots Q (F0 m (pc + 3) ls (.int (ze z j 6) :: rest))) : W p l e R s m args below meth c H locs cells slots Q (F0 m pc ls (.ref (ea j) :: rest)) := cg_Printer_Event_size (o := some j) C hw rfl hj hdg kk
theorem cg_Printer_Event_start {o : Option Nat} {j : Nat} (C : mCx p m c cc nL s args g "MidiDesk$Printer") (hw : cWd g A H0 qq ad ea h X z H locs) (ho : o = some j) (hj : j < h.2.1) (hdg : decode cc pc = .ok (.getfield 99, 3)) (kk : W p l e R s m args below meth c H locs cells slots Q (F0 m (pc + 3) ls (.int (ze z j 5) :: rest))) : W p l e R s m args below meth c H locs cells slots Q (F0 m pc ls (va_rf (Option.map ea o) :: rest)) := by
  subst ho
  exact va_getN (ci := 1) (C := R_Event) (T := F_Event) (N := 7) C.1.1 C.1.2.1 C.1.2.2.2.2 i_Event C.1.2.2.2.1 C.2.1 hw.1 (j + 10) (cw_ev hj) rfl 5 (by decide) (va_Nw.use rfl (C.2.2.1 _ nw_305)) (fun _ w => w) rfl hdg kk
theorem cgt_Printer_Event_start {j : Nat} (C : mCx p m c cc nL s args g "MidiDesk$Printer") (hw : cWd g A H0 qq ad ea h X z H locs) (hj : j < h.2.1) (hdg : decode cc pc = .ok (.getfield 99, 3)) (kk : W p l e R s m args below meth c H locs cells slots Q (F0 m (pc + 3) ls (.int (ze z j 5) :: rest))) : W p l e R s m args below meth c H locs cells slots Q (F0 m pc ls (.ref (ea j) :: rest)) := cg_Printer_Event_start (o := some j) C hw rfl hj hdg kk
theorem cg_Printer_Event_status {o : Option Nat} {j : Nat} (C : mCx p m c cc nL s args g "MidiDesk$Printer") (hw : cWd g A H0 qq ad ea h X z H locs) (ho : o = some j) (hj : j < h.2.1) (hdg : decode cc pc = .ok (.getfield 82, 3)) (kk : W p l e R s m args below meth c H locs cells slots Q (F0 m (pc + 3) ls (.int (ze z j 2) :: rest))) : W p l e R s m args below meth c H locs cells slots Q (F0 m pc ls (va_rf (Option.map ea o) :: rest)) := by
  subst ho
  exact va_getN (ci := 1) (C := R_Event) (T := F_Event) (N := 7) C.1.1 C.1.2.1 C.1.2.2.2.2 i_Event C.1.2.2.2.1 C.2.1 hw.1 (j + 10) (cw_ev hj) rfl 2 (by decide) (va_Nw.use rfl (C.2.2.1 _ nw_293)) (fun _ w => w) rfl hdg kk
theorem cgt_Printer_Event_status {j : Nat} (C : mCx p m c cc nL s args g "MidiDesk$Printer") (hw : cWd g A H0 qq ad ea h X z H locs) (hj : j < h.2.1) (hdg : decode cc pc = .ok (.getfield 82, 3)) (kk : W p l e R s m args below meth c H locs cells slots Q (F0 m (pc + 3) ls (.int (ze z j 2) :: rest))) : W p l e R s m args below meth c H locs cells slots Q (F0 m pc ls (.ref (ea j) :: rest)) := cg_Printer_Event_status (o := some j) C hw rfl hj hdg kk
theorem cg_Printer_Event_tick {o : Option Nat} {j : Nat} (C : mCx p m c cc nL s args g "MidiDesk$Printer") (hw : cWd g A H0 qq ad ea h X z H locs) (ho : o = some j) (hj : j < h.2.1) (hdg : decode cc pc = .ok (.getfield 81, 3)) (kk : W p l e R s m args below meth c H locs cells slots Q (F0 m (pc + 3) ls (.int (ze z j 0) :: rest))) : W p l e R s m args below meth c H locs cells slots Q (F0 m pc ls (va_rf (Option.map ea o) :: rest)) := by
  subst ho
  exact va_getN (ci := 1) (C := R_Event) (T := F_Event) (N := 7) C.1.1 C.1.2.1 C.1.2.2.2.2 i_Event C.1.2.2.2.1 C.2.1 hw.1 (j + 10) (cw_ev hj) rfl 0 (by decide) (va_Nw.use rfl (C.2.2.1 _ nw_282)) (fun _ w => w) rfl hdg kk
theorem cgt_Printer_Event_tick {j : Nat} (C : mCx p m c cc nL s args g "MidiDesk$Printer") (hw : cWd g A H0 qq ad ea h X z H locs) (hj : j < h.2.1) (hdg : decode cc pc = .ok (.getfield 81, 3)) (kk : W p l e R s m args below meth c H locs cells slots Q (F0 m (pc + 3) ls (.int (ze z j 0) :: rest))) : W p l e R s m args below meth c H locs cells slots Q (F0 m pc ls (.ref (ea j) :: rest)) := cg_Printer_Event_tick (o := some j) C hw rfl hj hdg kk
theorem cg_Printer_Event_track {o : Option Nat} {j : Nat} (C : mCx p m c cc nL s args g "MidiDesk$Printer") (hw : cWd g A H0 qq ad ea h X z H locs) (ho : o = some j) (hj : j < h.2.1) (hdg : decode cc pc = .ok (.getfield 63, 3)) (kk : W p l e R s m args below meth c H locs cells slots Q (F0 m (pc + 3) ls (.int (ze z j 1) :: rest))) : W p l e R s m args below meth c H locs cells slots Q (F0 m pc ls (va_rf (Option.map ea o) :: rest)) := by
  subst ho
  exact va_getN (ci := 1) (C := R_Event) (T := F_Event) (N := 7) C.1.1 C.1.2.1 C.1.2.2.2.2 i_Event C.1.2.2.2.1 C.2.1 hw.1 (j + 10) (cw_ev hj) rfl 1 (by decide) (va_Nw.use rfl (C.2.2.1 _ nw_287)) (fun _ w => w) rfl hdg kk
theorem cgt_Printer_Event_track {j : Nat} (C : mCx p m c cc nL s args g "MidiDesk$Printer") (hw : cWd g A H0 qq ad ea h X z H locs) (hj : j < h.2.1) (hdg : decode cc pc = .ok (.getfield 63, 3)) (kk : W p l e R s m args below meth c H locs cells slots Q (F0 m (pc + 3) ls (.int (ze z j 1) :: rest))) : W p l e R s m args below meth c H locs cells slots Q (F0 m pc ls (.ref (ea j) :: rest)) := cg_Printer_Event_track (o := some j) C hw rfl hj hdg kk
theorem cg_Printer_Printer_brief (C : mCx p m c cc nL s args g "MidiDesk$Printer") {qp : Nat} {pv : Nat → Int32} (hw : cWd g A H0 qq ad ea h (tcell qp qq pv :: X) z H locs) (hdg : decode cc pc = .ok (.getfield 19, 3)) (kk : W p l e R s m args below meth c H locs cells slots Q (F0 m (pc + 3) ls (.int (pv 0) :: rest))) : W p l e R s m args below meth c H locs cells slots Q (F0 m pc ls (.ref qp :: rest)) := 
  va_get (ci := 3) (C := R_Printer) (T := F_Printer) (N := 5) C.1.1 C.1.2.1 C.1.2.2.2.2 i_Printer C.1.2.2.2.1 C.2.1 hw.1 (h.2.1 + 10) cw_x rfl 2 (by decide) (C.1.2.2.2.2 _ gw_659) (fun _ w => w) rfl hdg kk
theorem cg_Printer_Printer_output (C : mCx p m c cc nL s args g "MidiDesk$Printer") {qp : Nat} {pv : Nat → Int32} (hw : cWd g A H0 qq ad ea h (tcell qp qq pv :: X) z H locs) (hdg : decode cc pc = .ok (.getfield 15, 3)) (kk : W p l e R s m args below meth c H locs cells slots Q (F0 m (pc + 3) ls (.ref (qq 2) :: rest))) : W p l e R s m args below meth c H locs cells slots Q (F0 m pc ls (.ref qp :: rest)) := 
  va_get (ci := 3) (C := R_Printer) (T := F_Printer) (N := 5) C.1.1 C.1.2.1 C.1.2.2.2.2 i_Printer C.1.2.2.2.1 C.2.1 hw.1 (h.2.1 + 10) cw_x rfl 1 (by decide) (C.1.2.2.2.2 _ gw_658) (fun _ w => w) rfl hdg kk
theorem cg_Printer_Printer_running (C : mCx p m c cc nL s args g "MidiDesk$Printer") {qp : Nat} {pv : Nat → Int32} (hw : cWd g A H0 qq ad ea h (tcell qp qq pv :: X) z H locs) (hdg : decode cc pc = .ok (.getfield 49, 3)) (kk : W p l e R s m args below meth c H locs cells slots Q (F0 m (pc + 3) ls (.int (pv 2) :: rest))) : W p l e R s m args below meth c H locs cells slots Q (F0 m pc ls (.ref qp :: rest)) := 
  va_get (ci := 3) (C := R_Printer) (T := F_Printer) (N := 5) C.1.1 C.1.2.1 C.1.2.2.2.2 i_Printer C.1.2.2.2.1 C.2.1 hw.1 (h.2.1 + 10) cw_x rfl 4 (by decide) (C.1.2.2.2.2 _ gw_661) (fun _ w => w) rfl hdg kk
theorem cp_Printer_Printer_running {x : Int32} (C : mCx p m c cc nL s args g "MidiDesk$Printer") {qp : Nat} {pv : Nat → Int32} (hw : cWd g A H0 qq ad ea h (tcell qp qq pv :: X) z H locs) (hdg : decode cc pc = .ok (.putfield 49, 3)) (kk : ∀ (H1 : Heap) (locs1 : List Loc), cWd g A H0 qq ad ea h (tcell qp qq (upd pv 2 x) :: X) z H1 locs1 → W p l e R s m args below meth c H1 locs1 cells slots Q (F0 m (pc + 3) ls rest)) : W p l e R s m args below meth c H locs cells slots Q (F0 m pc ls (.int x :: .ref qp :: rest)) := by
  refine va_put (ci := 3) (ty := .int) (v := .int x) (C := R_Printer) (T := F_Printer) (N := 5) C.1.1 C.1.2.1 C.1.2.2.2.2 i_Printer t_Printer t_Printer_ok n_Printer C.1.2.2.2.1 C.2.1 hw.1 hw.2.1 hw.2.2.1 (h.2.1 + 10) cw_x rfl 4 (by decide) (C.1.2.2.2.2 _ gw_661) (fun _ w => w) rfl (by decide +kernel) rfl rfl (Nat.le_of_ble_eq_true rfl) hdg (fun H1 locs1 hP hD hS => ?_)
  rw [cw_xset] at hP hD
  exact kk H1 locs1 ⟨hP, hD, hS, hw.2.2.2⟩
theorem cg_Printer_Printer_score (C : mCx p m c cc nL s args g "MidiDesk$Printer") {qp : Nat} {pv : Nat → Int32} (hw : cWd g A H0 qq ad ea h (tcell qp qq pv :: X) z H locs) (hdg : decode cc pc = .ok (.getfield 9, 3)) (kk : W p l e R s m args below meth c H locs cells slots Q (F0 m (pc + 3) ls (.ref (qq 4) :: rest))) : W p l e R s m args below meth c H locs cells slots Q (F0 m pc ls (.ref qp :: rest)) := 
  va_get (ci := 3) (C := R_Printer) (T := F_Printer) (N := 5) C.1.1 C.1.2.1 C.1.2.2.2.2 i_Printer C.1.2.2.2.1 C.2.1 hw.1 (h.2.1 + 10) cw_x rfl 0 (by decide) (C.1.2.2.2.2 _ gw_657) (fun _ w => w) rfl hdg kk
theorem cg_Printer_Printer_tick (C : mCx p m c cc nL s args g "MidiDesk$Printer") {qp : Nat} {pv : Nat → Int32} (hw : cWd g A H0 qq ad ea h (tcell qp qq pv :: X) z H locs) (hdg : decode cc pc = .ok (.getfield 46, 3)) (kk : W p l e R s m args below meth c H locs cells slots Q (F0 m (pc + 3) ls (.int (pv 1) :: rest))) : W p l e R s m args below meth c H locs cells slots Q (F0 m pc ls (.ref qp :: rest)) := 
  va_get (ci := 3) (C := R_Printer) (T := F_Printer) (N := 5) C.1.1 C.1.2.1 C.1.2.2.2.2 i_Printer C.1.2.2.2.1 C.2.1 hw.1 (h.2.1 + 10) cw_x rfl 3 (by decide) (C.1.2.2.2.2 _ gw_660) (fun _ w => w) rfl hdg kk
theorem cp_Printer_Printer_tick {x : Int32} (C : mCx p m c cc nL s args g "MidiDesk$Printer") {qp : Nat} {pv : Nat → Int32} (hw : cWd g A H0 qq ad ea h (tcell qp qq pv :: X) z H locs) (hdg : decode cc pc = .ok (.putfield 46, 3)) (kk : ∀ (H1 : Heap) (locs1 : List Loc), cWd g A H0 qq ad ea h (tcell qp qq (upd pv 1 x) :: X) z H1 locs1 → W p l e R s m args below meth c H1 locs1 cells slots Q (F0 m (pc + 3) ls rest)) : W p l e R s m args below meth c H locs cells slots Q (F0 m pc ls (.int x :: .ref qp :: rest)) := by
  refine va_put (ci := 3) (ty := .int) (v := .int x) (C := R_Printer) (T := F_Printer) (N := 5) C.1.1 C.1.2.1 C.1.2.2.2.2 i_Printer t_Printer t_Printer_ok n_Printer C.1.2.2.2.1 C.2.1 hw.1 hw.2.1 hw.2.2.1 (h.2.1 + 10) cw_x rfl 3 (by decide) (C.1.2.2.2.2 _ gw_660) (fun _ w => w) rfl (by decide +kernel) rfl rfl (Nat.le_of_ble_eq_true rfl) hdg (fun H1 locs1 hP hD hS => ?_)
  rw [cw_xset] at hP hD
  exact kk H1 locs1 ⟨hP, hD, hS, hw.2.2.2⟩
theorem cg_Printer_Score_data (C : mCx p m c cc nL s args g "MidiDesk$Printer") (hw : cWd g A H0 qq ad ea h X z H locs) (hdg : decode cc pc = .ok (.getfield 96, 3)) (kk : W p l e R s m args below meth c H locs cells slots Q (F0 m (pc + 3) ls (.ref (qq 3) :: rest))) : W p l e R s m args below meth c H locs cells slots Q (F0 m pc ls (.ref (qq 4) :: rest)) := 
  va_getN (ci := 4) (C := R_Score) (T := F_Score) (N := 8) C.1.1 C.1.2.1 C.1.2.2.2.2 i_Score C.1.2.2.2.1 C.2.1 hw.1 4 rfl rfl 0 (by decide) (va_Nw.use rfl (C.2.2.1 _ nw_52)) (fun _ w => w) rfl hdg kk
theorem cg_Printer_Score_division (C : mCx p m c cc nL s args g "MidiDesk$Printer") (hw : cWd g A H0 qq ad ea h X z H locs) (hdg : decode cc pc = .ok (.getfield 39, 3)) (kk : W p l e R s m args below meth c H locs cells slots Q (F0 m (pc + 3) ls (.int (zi z 6) :: rest))) : W p l e R s m args below meth c H locs cells slots Q (F0 m pc ls (.ref (qq 4) :: rest)) := 
  va_getN (ci := 4) (C := R_Score) (T := F_Score) (N := 8) C.1.1 C.1.2.1 C.1.2.2.2.2 i_Score C.1.2.2.2.1 C.2.1 hw.1 4 rfl rfl 4 (by decide) (va_Nw.use rfl (C.2.2.1 _ nw_64)) (fun _ w => w) rfl hdg kk
theorem cg_Printer_Score_size (C : mCx p m c cc nL s args g "MidiDesk$Printer") (hw : cWd g A H0 qq ad ea h X z H locs) (hdg : decode cc pc = .ok (.getfield 57, 3)) (kk : W p l e R s m args below meth c H locs cells slots Q (F0 m (pc + 3) ls (.int (zi z 7) :: rest))) : W p l e R s m args below meth c H locs cells slots Q (F0 m pc ls (.ref (qq 4) :: rest)) := 
  va_getN (ci := 4) (C := R_Score) (T := F_Score) (N := 8) C.1.1 C.1.2.1 C.1.2.2.2.2 i_Score C.1.2.2.2.1 C.2.1 hw.1 4 rfl rfl 7 (by decide) (va_Nw.use rfl (C.2.2.1 _ nw_71)) (fun _ w => w) rfl hdg kk
theorem cg_Printer_Score_tracks (C : mCx p m c cc nL s args g "MidiDesk$Printer") (hw : cWd g A H0 qq ad ea h X z H locs) (hdg : decode cc pc = .ok (.getfield 23, 3)) (kk : W p l e R s m args below meth c H locs cells slots Q (F0 m (pc + 3) ls (.int (zi z 5) :: rest))) : W p l e R s m args below meth c H locs cells slots Q (F0 m pc ls (.ref (qq 4) :: rest)) := 
  va_getN (ci := 4) (C := R_Score) (T := F_Score) (N := 8) C.1.1 C.1.2.1 C.1.2.2.2.2 i_Score C.1.2.2.2.1 C.2.1 hw.1 4 rfl rfl 3 (by decide) (va_Nw.use rfl (C.2.2.1 _ nw_61)) (fun _ w => w) rfl hdg kk
theorem cg_Score_Event_first {o : Option Nat} {j : Nat} (C : mCx p m c cc nL s args g "MidiDesk$Score") (hw : cWd g A H0 qq ad ea h X z H locs) (ho : o = some j) (hj : j < h.2.1) (hdg : decode cc pc = .ok (.getfield 89, 3)) (kk : W p l e R s m args below meth c H locs cells slots Q (F0 m (pc + 3) ls (.int (ze z j 3) :: rest))) : W p l e R s m args below meth c H locs cells slots Q (F0 m pc ls (va_rf (Option.map ea o) :: rest)) := by
  subst ho
  exact va_getN (ci := 1) (C := R_Event) (T := F_Event) (N := 7) C.1.1 C.1.2.1 C.1.2.2.2.2 i_Event C.1.2.2.2.1 C.2.1 hw.1 (j + 10) (cw_ev hj) rfl 3 (by decide) (va_Nw.use rfl (C.2.2.1 _ nw_299)) (fun _ w => w) rfl hdg kk
theorem cgt_Score_Event_first {j : Nat} (C : mCx p m c cc nL s args g "MidiDesk$Score") (hw : cWd g A H0 qq ad ea h X z H locs) (hj : j < h.2.1) (hdg : decode cc pc = .ok (.getfield 89, 3)) (kk : W p l e R s m args below meth c H locs cells slots Q (F0 m (pc + 3) ls (.int (ze z j 3) :: rest))) : W p l e R s m args below meth c H locs cells slots Q (F0 m pc ls (.ref (ea j) :: rest)) := cg_Score_Event_first (o := some j) C hw rfl hj hdg kk
theorem cp_Score_Event_first {o : Option Nat} {j : Nat} {x : Int32} (C : mCx p m c cc nL s args g "MidiDesk$Score") (hw : cWd g A H0 qq ad ea h X z H locs) (ho : o = some j) (hj : j < h.2.1) (hdg : decode cc pc = .ok (.putfield 89, 3)) (kk : ∀ (H1 : Heap) (locs1 : List Loc), cWd g A H0 qq ad ea h X (zE z j 3 x) H1 locs1 → W p l e R s m args below meth c H1 locs1 cells slots Q (F0 m (pc + 3) ls rest)) : W p l e R s m args below meth c H locs cells slots Q (F0 m pc ls (.int x :: va_rf (Option.map ea o) :: rest)) := by
  subst ho
  refine va_putN (ci := 1) (ty := .int) (v := .int x) (C := R_Event) (T := F_Event) (N := 7) C.1.1 C.1.2.1 C.1.2.2.2.2 i_Event t_Event t_Event_ok n_Event C.1.2.2.2.1 C.2.1 hw.1 hw.2.1 hw.2.2.1 (j + 10) (cw_ev hj) rfl 3 (by decide) (va_Nw.use rfl (C.2.2.1 _ nw_299)) (fun _ w => w) rfl (by decide +kernel) rfl rfl (Nat.le_of_ble_eq_true rfl) hdg (fun H1 locs1 hP hD hS => ?_)
  have e : (cw g qq ad ea h z X).set (j + 10) (ea j, .inr (1, (cevf z j).set 3 (.int x))) = cw g qq ad ea h (zE z j 3 x) X := by
    have e1 : (ea j, Sum.inr (1, (cevf z j).set 3 (.int x))) = cev ea (zE z j 3 x) j := by simp [cev, cevf, zE, ze, upe]
    rw [e1, cw_evset, if_pos hj]
  rw [e] at hP hD
  exact kk H1 locs1 ⟨hP, hD, hS, hw.2.2.2⟩
theorem cg_Score_Event_start {o : Option Nat} {j : Nat} (C : mCx p m c cc nL s args g "MidiDesk$Score") (hw : cWd g A H0 qq ad ea h X z H locs) (ho : o = some j) (hj : j < h.2.1) (hdg : decode cc pc = .ok (.getfield 123, 3)) (kk : W p l e R s m args below meth c H locs cells slots Q (F0 m (pc + 3) ls (.int (ze z j 5) :: rest))) : W p l e R s m args below meth c H locs cells slots Q (F0 m pc ls (va_rf (Option.map ea o) :: rest)) := by
  subst ho
  exact va_getN (ci := 1) (C := R_Event) (T := F_Event) (N := 7) C.1.1 C.1.2.1 C.1.2.2.2.2 i_Event C.1.2.2.2.1 C.2.1 hw.1 (j + 10) (cw_ev hj) rfl 5 (by decide) (va_Nw.use rfl (C.2.2.1 _ nw_308)) (fun _ w => w) rfl hdg kk
theorem cgt_Score_Event_start {j : Nat} (C : mCx p m c cc nL s args g "MidiDesk$Score") (hw : cWd g A H0 qq ad ea h X z H locs) (hj : j < h.2.1) (hdg : decode cc pc = .ok (.getfield 123, 3)) (kk : W p l e R s m args below meth c H locs cells slots Q (F0 m (pc + 3) ls (.int (ze z j 5) :: rest))) : W p l e R s m args below meth c H locs cells slots Q (F0 m pc ls (.ref (ea j) :: rest)) := cg_Score_Event_start (o := some j) C hw rfl hj hdg kk
theorem cg_Score_Event_tick {o : Option Nat} {j : Nat} (C : mCx p m c cc nL s args g "MidiDesk$Score") (hw : cWd g A H0 qq ad ea h X z H locs) (ho : o = some j) (hj : j < h.2.1) (hdg : decode cc pc = .ok (.getfield 65, 3)) (kk : W p l e R s m args below meth c H locs cells slots Q (F0 m (pc + 3) ls (.int (ze z j 0) :: rest))) : W p l e R s m args below meth c H locs cells slots Q (F0 m pc ls (va_rf (Option.map ea o) :: rest)) := by
  subst ho
  exact va_getN (ci := 1) (C := R_Event) (T := F_Event) (N := 7) C.1.1 C.1.2.1 C.1.2.2.2.2 i_Event C.1.2.2.2.1 C.2.1 hw.1 (j + 10) (cw_ev hj) rfl 0 (by decide) (va_Nw.use rfl (C.2.2.1 _ nw_285)) (fun _ w => w) rfl hdg kk
theorem cgt_Score_Event_tick {j : Nat} (C : mCx p m c cc nL s args g "MidiDesk$Score") (hw : cWd g A H0 qq ad ea h X z H locs) (hj : j < h.2.1) (hdg : decode cc pc = .ok (.getfield 65, 3)) (kk : W p l e R s m args below meth c H locs cells slots Q (F0 m (pc + 3) ls (.int (ze z j 0) :: rest))) : W p l e R s m args below meth c H locs cells slots Q (F0 m pc ls (.ref (ea j) :: rest)) := cg_Score_Event_tick (o := some j) C hw rfl hj hdg kk
theorem cp_Score_Event_tick {o : Option Nat} {j : Nat} {x : Int32} (C : mCx p m c cc nL s args g "MidiDesk$Score") (hw : cWd g A H0 qq ad ea h X z H locs) (ho : o = some j) (hj : j < h.2.1) (hdg : decode cc pc = .ok (.putfield 65, 3)) (kk : ∀ (H1 : Heap) (locs1 : List Loc), cWd g A H0 qq ad ea h X (zE z j 0 x) H1 locs1 → W p l e R s m args below meth c H1 locs1 cells slots Q (F0 m (pc + 3) ls rest)) : W p l e R s m args below meth c H locs cells slots Q (F0 m pc ls (.int x :: va_rf (Option.map ea o) :: rest)) := by
  subst ho
  refine va_putN (ci := 1) (ty := .int) (v := .int x) (C := R_Event) (T := F_Event) (N := 7) C.1.1 C.1.2.1 C.1.2.2.2.2 i_Event t_Event t_Event_ok n_Event C.1.2.2.2.1 C.2.1 hw.1 hw.2.1 hw.2.2.1 (j + 10) (cw_ev hj) rfl 0 (by decide) (va_Nw.use rfl (C.2.2.1 _ nw_285)) (fun _ w => w) rfl (by decide +kernel) rfl rfl (Nat.le_of_ble_eq_true rfl) hdg (fun H1 locs1 hP hD hS => ?_)
  have e : (cw g qq ad ea h z X).set (j + 10) (ea j, .inr (1, (cevf z j).set 0 (.int x))) = cw g qq ad ea h (zE z j 0 x) X := by
    have e1 : (ea j, Sum.inr (1, (cevf z j).set 0 (.int x))) = cev ea (zE z j 0 x) j := by simp [cev, cevf, zE, ze, upe]
    rw [e1, cw_evset, if_pos hj]
  rw [e] at hP hD
  exact kk H1 locs1 ⟨hP, hD, hS, hw.2.2.2⟩
theorem cg_Score_Event_track {o : Option Nat} {j : Nat} (C : mCx p m c cc nL s args g "MidiDesk$Score") (hw : cWd g A H0 qq ad ea h X z H locs) (ho : o = some j) (hj : j < h.2.1) (hdg : decode cc pc = .ok (.getfield 100, 3)) (kk : W p l e R s m args below meth c H locs cells slots Q (F0 m (pc + 3) ls (.int (ze z j 1) :: rest))) : W p l e R s m args below meth c H locs cells slots Q (F0 m pc ls (va_rf (Option.map ea o) :: rest)) := by
  subst ho
  exact va_getN (ci := 1) (C := R_Event) (T := F_Event) (N := 7) C.1.1 C.1.2.1 C.1.2.2.2.2 i_Event C.1.2.2.2.1 C.2.1 hw.1 (j + 10) (cw_ev hj) rfl 1 (by decide) (va_Nw.use rfl (C.2.2.1 _ nw_290)) (fun _ w => w) rfl hdg kk
theorem cgt_Score_Event_track {j : Nat} (C : mCx p m c cc nL s args g "MidiDesk$Score") (hw : cWd g A H0 qq ad ea h X z H locs) (hj : j < h.2.1) (hdg : decode cc pc = .ok (.getfield 100, 3)) (kk : W p l e R s m args below meth c H locs cells slots Q (F0 m (pc + 3) ls (.int (ze z j 1) :: rest))) : W p l e R s m args below meth c H locs cells slots Q (F0 m pc ls (.ref (ea j) :: rest)) := cg_Score_Event_track (o := some j) C hw rfl hj hdg kk
theorem cg_Score_Score_data (C : mCx p m c cc nL s args g "MidiDesk$Score") (hw : cWd g A H0 qq ad ea h X z H locs) (hdg : decode cc pc = .ok (.getfield 14, 3)) (kk : W p l e R s m args below meth c H locs cells slots Q (F0 m (pc + 3) ls (.ref (qq 3) :: rest))) : W p l e R s m args below meth c H locs cells slots Q (F0 m pc ls (.ref (qq 4) :: rest)) := 
  va_get (ci := 4) (C := R_Score) (T := F_Score) (N := 8) C.1.1 C.1.2.1 C.1.2.2.2.2 i_Score C.1.2.2.2.1 C.2.1 hw.1 4 rfl rfl 0 (by decide) (C.1.2.2.2.2 _ gw_102) (fun _ w => w) rfl hdg kk
theorem cg_Score_Score_division (C : mCx p m c cc nL s args g "MidiDesk$Score") (hw : cWd g A H0 qq ad ea h X z H locs) (hdg : decode cc pc = .ok (.getfield 103, 3)) (kk : W p l e R s m args below meth c H locs cells slots Q (F0 m (pc + 3) ls (.int (zi z 6) :: rest))) : W p l e R s m args below meth c H locs cells slots Q (F0 m pc ls (.ref (qq 4) :: rest)) := 
  va_get (ci := 4) (C := R_Score) (T := F_Score) (N := 8) C.1.1 C.1.2.1 C.1.2.2.2.2 i_Score C.1.2.2.2.1 C.2.1 hw.1 4 rfl rfl 4 (by decide) (C.1.2.2.2.2 _ gw_117) (fun _ w => w) rfl hdg kk
theorem cg_Score_Score_format (C : mCx p m c cc nL s args g "MidiDesk$Score") (hw : cWd g A H0 qq ad ea h X z H locs) (hdg : decode cc pc = .ok (.getfield 116, 3)) (kk : W p l e R s m args below meth c H locs cells slots Q (F0 m (pc + 3) ls (.int (zi z 4) :: rest))) : W p l e R s m args below meth c H locs cells slots Q (F0 m pc ls (.ref (qq 4) :: rest)) := 
  va_get (ci := 4) (C := R_Score) (T := F_Score) (N := 8) C.1.1 C.1.2.1 C.1.2.2.2.2 i_Score C.1.2.2.2.1 C.2.1 hw.1 4 rfl rfl 2 (by decide) (C.1.2.2.2.2 _ gw_111) (fun _ w => w) rfl hdg kk
theorem cp_Score_Score_present {x : Int32} (C : mCx p m c cc nL s args g "MidiDesk$Score") (hw : cWd g A H0 qq ad ea h X z H locs) (hz : x = 0 ∨ x = 1) (hdg : decode cc pc = .ok (.putfield 29, 3)) (kk : ∀ (H1 : Heap) (locs1 : List Loc), cWd g A H0 qq ad ea h X (zU z 3 x) H1 locs1 → W p l e R s m args below meth c H1 locs1 cells slots Q (F0 m (pc + 3) ls rest)) : W p l e R s m args below meth c H locs cells slots Q (F0 m pc ls (.int x :: .ref (qq 4) :: rest)) := by
  exact va_put (ci := 4) (ty := .boolean) (v := .int x) (C := R_Score) (T := F_Score) (N := 8) C.1.1 C.1.2.1 C.1.2.2.2.2 i_Score t_Score t_Score_ok n_Score C.1.2.2.2.1 C.2.1 hw.1 hw.2.1 hw.2.2.1 4 rfl rfl 1 (by decide) (C.1.2.2.2.2 _ gw_106) (fun _ w => w) rfl (by decide +kernel) (by rcases hz with rfl | rfl <;> rfl) (by rcases hz with rfl | rfl <;> rfl) (Nat.le_of_ble_eq_true rfl) hdg (fun H1 locs1 hP hD hS => kk H1 locs1 ⟨hP, hD, hS, hw.2.2.2⟩)
theorem cg_Score_Score_row (C : mCx p m c cc nL s args g "MidiDesk$Score") (hw : cWd g A H0 qq ad ea h X z H locs) (hdg : decode cc pc = .ok (.getfield 22, 3)) (kk : W p l e R s m args below meth c H locs cells slots Q (F0 m (pc + 3) ls (.ref (ad 3) :: rest))) : W p l e R s m args below meth c H locs cells slots Q (F0 m pc ls (.ref (qq 4) :: rest)) := 
  va_get (ci := 4) (C := R_Score) (T := F_Score) (N := 8) C.1.1 C.1.2.1 C.1.2.2.2.2 i_Score C.1.2.2.2.1 C.2.1 hw.1 4 rfl rfl 5 (by decide) (C.1.2.2.2.2 _ gw_119) (fun _ w => w) rfl hdg kk
theorem cg_Score_Score_size (C : mCx p m c cc nL s args g "MidiDesk$Score") (hw : cWd g A H0 qq ad ea h X z H locs) (hdg : decode cc pc = .ok (.getfield 33, 3)) (kk : W p l e R s m args below meth c H locs cells slots Q (F0 m (pc + 3) ls (.int (zi z 7) :: rest))) : W p l e R s m args below meth c H locs cells slots Q (F0 m pc ls (.ref (qq 4) :: rest)) := 
  va_get (ci := 4) (C := R_Score) (T := F_Score) (N := 8) C.1.1 C.1.2.1 C.1.2.2.2.2 i_Score C.1.2.2.2.1 C.2.1 hw.1 4 rfl rfl 7 (by decide) (C.1.2.2.2.2 _ gw_121) (fun _ w => w) rfl hdg kk
theorem cp_Score_Score_size {x : Int32} (C : mCx p m c cc nL s args g "MidiDesk$Score") (hw : cWd g A H0 qq ad ea h X z H locs) (hdg : decode cc pc = .ok (.putfield 33, 3)) (kk : ∀ (H1 : Heap) (locs1 : List Loc), cWd g A H0 qq ad ea h X (zU z 7 x) H1 locs1 → W p l e R s m args below meth c H1 locs1 cells slots Q (F0 m (pc + 3) ls rest)) : W p l e R s m args below meth c H locs cells slots Q (F0 m pc ls (.int x :: .ref (qq 4) :: rest)) := by
  exact va_put (ci := 4) (ty := .int) (v := .int x) (C := R_Score) (T := F_Score) (N := 8) C.1.1 C.1.2.1 C.1.2.2.2.2 i_Score t_Score t_Score_ok n_Score C.1.2.2.2.1 C.2.1 hw.1 hw.2.1 hw.2.2.1 4 rfl rfl 7 (by decide) (C.1.2.2.2.2 _ gw_121) (fun _ w => w) rfl (by decide +kernel) rfl rfl (Nat.le_of_ble_eq_true rfl) hdg (fun H1 locs1 hP hD hS => kk H1 locs1 ⟨hP, hD, hS, hw.2.2.2⟩)
theorem cg_Score_Score_spare (C : mCx p m c cc nL s args g "MidiDesk$Score") (hw : cWd g A H0 qq ad ea h X z H locs) (hdg : decode cc pc = .ok (.getfield 26, 3)) (kk : W p l e R s m args below meth c H locs cells slots Q (F0 m (pc + 3) ls (.ref (ad 4) :: rest))) : W p l e R s m args below meth c H locs cells slots Q (F0 m pc ls (.ref (qq 4) :: rest)) := 
  va_get (ci := 4) (C := R_Score) (T := F_Score) (N := 8) C.1.1 C.1.2.1 C.1.2.2.2.2 i_Score C.1.2.2.2.1 C.2.1 hw.1 4 rfl rfl 6 (by decide) (C.1.2.2.2.2 _ gw_120) (fun _ w => w) rfl hdg kk
theorem ca_0 {i : Int32} (C : mCx p m c cc nL s args g own) (hw : cWd g A H0 qq ad ea h X z H locs) (hin : ¬ (i < 0 ∨ h.1 0 ≤ i.toNatClampNeg)) (hdg : decode cc pc = .ok (.iaload, 1)) (kk : W p l e R s m args below meth c H locs cells slots Q (F0 m (pc + 1) ls (.int (za z 0 i.toNatClampNeg) :: rest))) : W p l e R s m args below meth c H locs cells slots Q (F0 m pc ls (.int i :: .ref (ad 0) :: rest)) :=
  va_iald C.1.1 C.1.2.1 C.2.1 hw.1 5 0 rfl rfl hin hdg kk
theorem cs_0 {i x : Int32} (C : mCx p m c cc nL s args g own) (hw : cWd g A H0 qq ad ea h X z H locs) (hin : ¬ (i < 0 ∨ h.1 0 ≤ i.toNatClampNeg)) (hdg : decode cc pc = .ok (.iastore, 1)) (kk : ∀ (H1 : Heap) (locs1 : List Loc), cWd g A H0 qq ad ea h X (zA z 0 i.toNatClampNeg x) H1 locs1 → W p l e R s m args below meth c H1 locs1 cells slots Q (F0 m (pc + 1) ls rest)) : W p l e R s m args below meth c H locs cells slots Q (F0 m pc ls (.int x :: .int i :: .ref (ad 0) :: rest)) :=
  va_iast C.1.1 C.1.2.1 C.2.1 hw.1 hw.2.1 hw.2.2.1 5 0 rfl rfl hin hdg (fun H1 locs1 hP hD hS => kk H1 locs1 ⟨hP, hD, hS, hw.2.2.2⟩)
theorem ca_1 {i : Int32} (C : mCx p m c cc nL s args g own) (hw : cWd g A H0 qq ad ea h X z H locs) (hin : ¬ (i < 0 ∨ h.1 1 ≤ i.toNatClampNeg)) (hdg : decode cc pc = .ok (.iaload, 1)) (kk : W p l e R s m args below meth c H locs cells slots Q (F0 m (pc + 1) ls (.int (za z 1 i.toNatClampNeg) :: rest))) : W p l e R s m args below meth c H locs cells slots Q (F0 m pc ls (.int i :: .ref (ad 1) :: rest)) :=
  va_iald C.1.1 C.1.2.1 C.2.1 hw.1 6 0 rfl rfl hin hdg kk
theorem cs_1 {i x : Int32} (C : mCx p m c cc nL s args g own) (hw : cWd g A H0 qq ad ea h X z H locs) (hin : ¬ (i < 0 ∨ h.1 1 ≤ i.toNatClampNeg)) (hdg : decode cc pc = .ok (.iastore, 1)) (kk : ∀ (H1 : Heap) (locs1 : List Loc), cWd g A H0 qq ad ea h X (zA z 1 i.toNatClampNeg x) H1 locs1 → W p l e R s m args below meth c H1 locs1 cells slots Q (F0 m (pc + 1) ls rest)) : W p l e R s m args below meth c H locs cells slots Q (F0 m pc ls (.int x :: .int i :: .ref (ad 1) :: rest)) :=
  va_iast C.1.1 C.1.2.1 C.2.1 hw.1 hw.2.1 hw.2.2.1 6 0 rfl rfl hin hdg (fun H1 locs1 hP hD hS => kk H1 locs1 ⟨hP, hD, hS, hw.2.2.2⟩)
theorem ca_2 {i : Int32} (C : mCx p m c cc nL s args g own) (hw : cWd g A H0 qq ad ea h X z H locs) (hin : ¬ (i < 0 ∨ h.1 2 ≤ i.toNatClampNeg)) (hdg : decode cc pc = .ok (.iaload, 1)) (kk : W p l e R s m args below meth c H locs cells slots Q (F0 m (pc + 1) ls (.int (za z 2 i.toNatClampNeg) :: rest))) : W p l e R s m args below meth c H locs cells slots Q (F0 m pc ls (.int i :: .ref (ad 2) :: rest)) :=
  va_iald C.1.1 C.1.2.1 C.2.1 hw.1 7 0 rfl rfl hin hdg kk
theorem cs_2 {i x : Int32} (C : mCx p m c cc nL s args g own) (hw : cWd g A H0 qq ad ea h X z H locs) (hin : ¬ (i < 0 ∨ h.1 2 ≤ i.toNatClampNeg)) (hdg : decode cc pc = .ok (.iastore, 1)) (kk : ∀ (H1 : Heap) (locs1 : List Loc), cWd g A H0 qq ad ea h X (zA z 2 i.toNatClampNeg x) H1 locs1 → W p l e R s m args below meth c H1 locs1 cells slots Q (F0 m (pc + 1) ls rest)) : W p l e R s m args below meth c H locs cells slots Q (F0 m pc ls (.int x :: .int i :: .ref (ad 2) :: rest)) :=
  va_iast C.1.1 C.1.2.1 C.2.1 hw.1 hw.2.1 hw.2.2.1 7 0 rfl rfl hin hdg (fun H1 locs1 hP hD hS => kk H1 locs1 ⟨hP, hD, hS, hw.2.2.2⟩)
theorem cn_0 (C : mCx p m c cc nL s args g own) (hw : cWd g A H0 qq ad ea h X z H locs) (hdg : decode cc pc = .ok (.arraylength, 1)) (kk : W p l e R s m args below meth c H locs cells slots Q (F0 m (pc + 1) ls (.int (Int32.ofNat (h.1 0)) :: rest))) : W p l e R s m args below meth c H locs cells slots Q (F0 m pc ls (.ref (ad 0) :: rest)) :=
  va_alen C.1.1 C.1.2.1 C.2.1 hw.1 5 0 rfl (ty := .int) rfl rfl hdg kk
theorem cn_1 (C : mCx p m c cc nL s args g own) (hw : cWd g A H0 qq ad ea h X z H locs) (hdg : decode cc pc = .ok (.arraylength, 1)) (kk : W p l e R s m args below meth c H locs cells slots Q (F0 m (pc + 1) ls (.int (Int32.ofNat (h.1 1)) :: rest))) : W p l e R s m args below meth c H locs cells slots Q (F0 m pc ls (.ref (ad 1) :: rest)) :=
  va_alen C.1.1 C.1.2.1 C.2.1 hw.1 6 0 rfl (ty := .int) rfl rfl hdg kk
theorem cn_2 (C : mCx p m c cc nL s args g own) (hw : cWd g A H0 qq ad ea h X z H locs) (hdg : decode cc pc = .ok (.arraylength, 1)) (kk : W p l e R s m args below meth c H locs cells slots Q (F0 m (pc + 1) ls (.int (Int32.ofNat (h.1 2)) :: rest))) : W p l e R s m args below meth c H locs cells slots Q (F0 m pc ls (.ref (ad 2) :: rest)) :=
  va_alen C.1.1 C.1.2.1 C.2.1 hw.1 7 0 rfl (ty := .int) rfl rfl hdg kk
theorem cn_3 (C : mCx p m c cc nL s args g own) (hw : cWd g A H0 qq ad ea h X z H locs) (hdg : decode cc pc = .ok (.arraylength, 1)) (kk : W p l e R s m args below meth c H locs cells slots Q (F0 m (pc + 1) ls (.int (Int32.ofNat (h.1 3)) :: rest))) : W p l e R s m args below meth c H locs cells slots Q (F0 m pc ls (.ref (ad 3) :: rest)) :=
  va_alen C.1.1 C.1.2.1 C.2.1 hw.1 8 2 rfl (ty := .object "MidiDesk$Event") rfl rfl hdg kk
theorem cn_4 (C : mCx p m c cc nL s args g own) (hw : cWd g A H0 qq ad ea h X z H locs) (hdg : decode cc pc = .ok (.arraylength, 1)) (kk : W p l e R s m args below meth c H locs cells slots Q (F0 m (pc + 1) ls (.int (Int32.ofNat (h.1 4)) :: rest))) : W p l e R s m args below meth c H locs cells slots Q (F0 m pc ls (.ref (ad 4) :: rest)) :=
  va_alen C.1.1 C.1.2.1 C.2.1 hw.1 9 2 rfl (ty := .object "MidiDesk$Event") rfl rfl hdg kk
theorem cra_0 {i : Int32} (C : mCx p m c cc nL s args g own) (hw : cWd g A H0 qq ad ea h X z H locs) (hin : ¬ (i < 0 ∨ h.1 3 ≤ i.toNatClampNeg)) (hdg : decode cc pc = .ok (.aaload, 1)) (kk : W p l e R s m args below meth c H locs cells slots Q (F0 m (pc + 1) ls (va_rf (Option.map ea (zr z 0 i.toNatClampNeg)) :: rest))) : W p l e R s m args below meth c H locs cells slots Q (F0 m pc ls (.int i :: .ref (ad 3) :: rest)) :=
  va_aldq (C := "MidiDesk$Event") C.1.1 C.1.2.1 C.2.1 hw.1 8 2 rfl rfl hin hdg kk
theorem crs_0 {i : Int32} {o : Option Nat} (C : mCx p m c cc nL s args g own) (hw : cWd g A H0 qq ad ea h X z H locs) (hin : ¬ (i < 0 ∨ h.1 3 ≤ i.toNatClampNeg)) (ho : ¬ okr h.2.1 o = false) (hdg : decode cc pc = .ok (.aastore, 1)) (kk : ∀ (H1 : Heap) (locs1 : List Loc), cWd g A H0 qq ad ea h X (zR z 0 i.toNatClampNeg o) H1 locs1 → W p l e R s m args below meth c H1 locs1 cells slots Q (F0 m (pc + 1) ls rest)) : W p l e R s m args below meth c H locs cells slots Q (F0 m pc ls (va_rf (Option.map ea o) :: .int i :: .ref (ad 3) :: rest)) := by
  have e : va_up (fun t => Option.map ea (zr z 0 t)) i.toNatClampNeg (Option.map ea o) = (fun t => Option.map ea (zr (zR z 0 i.toNatClampNeg o) 0 t)) := by
    funext t
    by_cases ht : t = i.toNatClampNeg
    · subst ht; simp [va_up, zr, zR, upr]
    · simp [va_up, zr, zR, upr, ht]
  cases o with
  | none =>
    refine va_astqN (C := "MidiDesk$Event") C.1.1 C.1.2.1 C.2.1 hw.1 hw.2.1 hw.2.2.1 8 2 rfl rfl hin hdg (fun H1 locs1 hP hD hS => ?_)
    have e : va_up (fun t => Option.map ea (zr z 0 t)) i.toNatClampNeg none = _ := e
    rw [e] at hP hD
    exact kk H1 locs1 ⟨hP, hD, hS, hw.2.2.2⟩
  | some j =>
    have hj : j < h.2.1 := by simpa [okr] using ho
    refine va_astq (r := (R_Event, F_Event, 7)) C.1.1 C.1.2.1 C.2.1 hw.1 hw.2.1 hw.2.2.1 8 2 (j + 10) 1 rfl rfl (cw_ev hj) rfl hin hdg (fun H1 locs1 hP hD hS => ?_)
    have e : va_up (fun t => Option.map ea (zr z 0 t)) i.toNatClampNeg (some (ea j)) = _ := e
    have hP' := hP; have hD' := hD
    rw [e] at hP' hD'
    exact kk H1 locs1 ⟨hP', hD', hS, hw.2.2.2⟩
theorem cra_1 {i : Int32} (C : mCx p m c cc nL s args g own) (hw : cWd g A H0 qq ad ea h X z H locs) (hin : ¬ (i < 0 ∨ h.1 4 ≤ i.toNatClampNeg)) (hdg : decode cc pc = .ok (.aaload, 1)) (kk : W p l e R s m args below meth c H locs cells slots Q (F0 m (pc + 1) ls (va_rf (Option.map ea (zr z 1 i.toNatClampNeg)) :: rest))) : W p l e R s m args below meth c H locs cells slots Q (F0 m pc ls (.int i :: .ref (ad 4) :: rest)) :=
  va_aldq (C := "MidiDesk$Event") C.1.1 C.1.2.1 C.2.1 hw.1 9 2 rfl rfl hin hdg kk
theorem crs_1 {i : Int32} {o : Option Nat} (C : mCx p m c cc nL s args g own) (hw : cWd g A H0 qq ad ea h X z H locs) (hin : ¬ (i < 0 ∨ h.1 4 ≤ i.toNatClampNeg)) (ho : ¬ okr h.2.1 o = false) (hdg : decode cc pc = .ok (.aastore, 1)) (kk : ∀ (H1 : Heap) (locs1 : List Loc), cWd g A H0 qq ad ea h X (zR z 1 i.toNatClampNeg o) H1 locs1 → W p l e R s m args below meth c H1 locs1 cells slots Q (F0 m (pc + 1) ls rest)) : W p l e R s m args below meth c H locs cells slots Q (F0 m pc ls (va_rf (Option.map ea o) :: .int i :: .ref (ad 4) :: rest)) := by
  have e : va_up (fun t => Option.map ea (zr z 1 t)) i.toNatClampNeg (Option.map ea o) = (fun t => Option.map ea (zr (zR z 1 i.toNatClampNeg o) 1 t)) := by
    funext t
    by_cases ht : t = i.toNatClampNeg
    · subst ht; simp [va_up, zr, zR, upr]
    · simp [va_up, zr, zR, upr, ht]
  cases o with
  | none =>
    refine va_astqN (C := "MidiDesk$Event") C.1.1 C.1.2.1 C.2.1 hw.1 hw.2.1 hw.2.2.1 9 2 rfl rfl hin hdg (fun H1 locs1 hP hD hS => ?_)
    have e : va_up (fun t => Option.map ea (zr z 1 t)) i.toNatClampNeg none = _ := e
    rw [e] at hP hD
    exact kk H1 locs1 ⟨hP, hD, hS, hw.2.2.2⟩
  | some j =>
    have hj : j < h.2.1 := by simpa [okr] using ho
    refine va_astq (r := (R_Event, F_Event, 7)) C.1.1 C.1.2.1 C.2.1 hw.1 hw.2.1 hw.2.2.1 9 2 (j + 10) 1 rfl rfl (cw_ev hj) rfl hin hdg (fun H1 locs1 hP hD hS => ?_)
    have e : va_up (fun t => Option.map ea (zr z 1 t)) i.toNatClampNeg (some (ea j)) = _ := e
    have hP' := hP; have hD' := hD
    rw [e] at hP' hD'
    exact kk H1 locs1 ⟨hP', hD', hS, hw.2.2.2⟩
theorem c_retv {rv : Option Value} {X0 X' : va_W} {z' : cZ} (C : mCx p m c cc nL s args g own) (hr : meth.sig.returnType = none) (hlk : meth.locks = false) (hrv : rv = none) (hw : cWd g (cA g qq ad ea h X0 s.heap.size) s.heap qq ad ea h X z H locs) (hf : some z = some z') (hX : X = X') (hc : cells ≤ R.cells ∧ slots ≤ R.slots) (hdg : decode cc pc = .ok (.return_, 1)) : cG p l e R s m args below meth c g qq ad ea h X0 rv X' z' H locs cells slots (F0 m pc ls []) := by
  cases hf
  subst hrv
  subst hX
  refine W.widen (k := R.cells) (n := R.slots) hc.1 hc.2 ?_
  exact W.vret C.1.1 C.1.2.1 hr (fun t ht hW => ⟨⟨rfl, by rw [ht]; exact hw.1⟩, hw.2.2.1.F ht⟩) hw.2.2.1.2.2 hdg hlk
theorem c_reti {rv : Option Value} {X0 X' : va_W} {z' : cZ} {x r : Int32} (C : mCx p m c cc nL s args g own) (hr : meth.sig.returnType = some .int) (hlk : meth.locks = false) (hrv : rv = some (.int r)) (hw : cWd g (cA g qq ad ea h X0 s.heap.size) s.heap qq ad ea h X z H locs) (hf : some (x, z) = some (r, z')) (hX : X = X') (hc : cells ≤ R.cells ∧ slots ≤ R.slots) (hdg : decode cc pc = .ok (.ireturn, 1)) : cG p l e R s m args below meth c g qq ad ea h X0 rv X' z' H locs cells slots (F0 m pc ls [.int x]) := by
  cases hf
  subst hrv
  subst hX
  refine W.widen (k := R.cells) (n := R.slots) hc.1 hc.2 ?_
  exact W.iret C.1.1 C.1.2.1 hr (fun t ht hW => ⟨⟨rfl, by rw [ht]; exact hw.1⟩, hw.2.2.1.F ht⟩) hw.2.2.1.2.2 hdg hlk
theorem c_retz {rv : Option Value} {X0 X' : va_W} {z' : cZ} {x r : Int32} (C : mCx p m c cc nL s args g own) (hr : meth.sig.returnType = some .boolean) (hlk : meth.locks = false) (hrv : rv = some (.int r)) (hw : cWd g (cA g qq ad ea h X0 s.heap.size) s.heap qq ad ea h X z H locs) (hx : x = 0 ∨ x = 1) (hf : some (x, z) = some (r, z')) (hX : X = X') (hc : cells ≤ R.cells ∧ slots ≤ R.slots) (hdg : decode cc pc = .ok (.ireturn, 1)) : cG p l e R s m args below meth c g qq ad ea h X0 rv X' z' H locs cells slots (F0 m pc ls [.int x]) := by
  cases hf
  subst hrv
  subst hX
  refine W.widen (k := R.cells) (n := R.slots) hc.1 hc.2 ?_
  exact W.zret C.1.1 C.1.2.1 hr (by rcases hx with rfl | rfl <;> rfl) (fun t ht hW => ⟨⟨rfl, by rw [ht]; exact hw.1⟩, hw.2.2.1.F ht⟩) hw.2.2.1.2.2 hdg hlk
theorem c_retl {rv : Option Value} {X0 X' : va_W} {z' : cZ} {x r : Int64} (C : mCx p m c cc nL s args g own) (hr : meth.sig.returnType = some .long) (hlk : meth.locks = false) (hrv : rv = some (.long r)) (hw : cWd g (cA g qq ad ea h X0 s.heap.size) s.heap qq ad ea h X z H locs) (hf : some (x, z) = some (r, z')) (hX : X = X') (hc : cells ≤ R.cells ∧ slots ≤ R.slots) (hdg : decode cc pc = .ok (.lreturn, 1)) : cG p l e R s m args below meth c g qq ad ea h X0 rv X' z' H locs cells slots (F0 m pc ls [.long x]) := by
  cases hf
  subst hrv
  subst hX
  refine W.widen (k := R.cells) (n := R.slots) hc.1 hc.2 ?_
  exact W.lret C.1.1 C.1.2.1 hr (fun t ht hW => ⟨⟨rfl, by rw [ht]; exact hw.1⟩, hw.2.2.1.F ht⟩) hw.2.2.1.2.2 hdg hlk
theorem c_reto {rv : Option Value} {X0 X' : va_W} {z' : cZ} {x r : Option Nat} (C : mCx p m c cc nL s args g own) (hr : meth.sig.returnType = some (.object "MidiDesk$Event")) (hlk : meth.locks = false) (hrv : rv = some (va_rf (Option.map ea r))) (hw : cWd g (cA g qq ad ea h X0 s.heap.size) s.heap qq ad ea h X z H locs) (hf : some (x, z) = some (r, z')) (hX : X = X') (hc : cells ≤ R.cells ∧ slots ≤ R.slots) (hdg : decode cc pc = .ok (.areturn, 1)) : cG p l e R s m args below meth c g qq ad ea h X0 rv X' z' H locs cells slots (F0 m pc ls [va_rf (Option.map ea x)]) := by
  cases hf
  subst hrv
  subst hX
  refine W.widen (k := R.cells) (n := R.slots) hc.1 hc.2 ?_
  exact W.aret C.1.1 C.1.2.1 hr (Or.inl ⟨_, rfl⟩) (by cases x with | none => exact Or.inl rfl | some a => exact Or.inr ⟨_, rfl⟩) (fun t ht hW => ⟨⟨rfl, by rw [ht]; exact hw.1⟩, hw.2.2.1.F ht⟩) hw.2.2.1.2.2 hdg hlk
end CR
end
section
theorem pr2 {α β : Type} {a a' : α} {b b' : β} (h : some (a, b) = some (a', b')) : some a = some a' ∧ b = b' := by cases h; exact ⟨rfl, rfl⟩
theorem pr3 {α β γ : Type} {x x' : γ} {a a' : α} {b b' : β} (h : some (x, a, b) = some (x', a', b')) : some (x, a) = some (x', a') ∧ b = b' := by cases h; exact ⟨rfl, rfl⟩
theorem gw_1 : (Cond.selects "MidiDesk$Parser" ({ cls := "MidiDesk$Parser", name := "fixed", desc := "(I)J" } : Jvm.MethodName) ({ cls := "MidiDesk$Parser", name := "fixed", desc := "(I)J" } : Jvm.MethodName)) ∈ gw := gw_in 1 (by decide +kernel) (by decide +kernel)
theorem gw_2 : (Cond.selects "MidiDesk$Parser" ({ cls := "MidiDesk$Parser", name := "expect", desc := "(ZII)V" } : Jvm.MethodName) ({ cls := "MidiDesk$Parser", name := "expect", desc := "(ZII)V" } : Jvm.MethodName)) ∈ gw := gw_in 2 (by decide +kernel) (by decide +kernel)
theorem gw_6 : (Cond.selects "MidiDesk$Parser" ({ cls := "MidiDesk$Parser", name := "number", desc := "()I" } : Jvm.MethodName) ({ cls := "MidiDesk$Parser", name := "number", desc := "()I" } : Jvm.MethodName)) ∈ gw := gw_in 6 (by decide +kernel) (by decide +kernel)
theorem gw_9 : (Cond.selects "MidiDesk$Parser" ({ cls := "MidiDesk$Parser", name := "lowByte", desc := "()I" } : Jvm.MethodName) ({ cls := "MidiDesk$Parser", name := "lowByte", desc := "()I" } : Jvm.MethodName)) ∈ gw := gw_in 9 (by decide +kernel) (by decide +kernel)
theorem gw_11 : (Cond.selects "MidiDesk$Parser" ({ cls := "MidiDesk$Parser", name := "passData", desc := "()V" } : Jvm.MethodName) ({ cls := "MidiDesk$Parser", name := "passData", desc := "()V" } : Jvm.MethodName)) ∈ gw := gw_in 11 (by decide +kernel) (by decide +kernel)
theorem gw_14 : (Cond.selects "MidiDesk$Score" ({ cls := "MidiDesk$Score", name := "mergeRuns", desc := "(III)V" } : Jvm.MethodName) ({ cls := "MidiDesk$Score", name := "mergeRuns", desc := "(III)V" } : Jvm.MethodName)) ∈ gw := gw_in 14 (by decide +kernel) (by decide +kernel)
theorem gw_15 : (Cond.selects "MidiDesk" ({ cls := "MidiDesk", name := "headValue", desc := "(I)I" } : Jvm.MethodName) ({ cls := "MidiDesk", name := "headValue", desc := "(I)I" } : Jvm.MethodName)) ∈ gw := gw_in 15 (by decide +kernel) (by decide +kernel)
theorem gw_16 : (Cond.selects "MidiDesk$Score" ({ cls := "MidiDesk$Score", name := "hasFrames", desc := "()Z" } : Jvm.MethodName) ({ cls := "MidiDesk$Score", name := "hasFrames", desc := "()Z" } : Jvm.MethodName)) ∈ gw := gw_in 16 (by decide +kernel) (by decide +kernel)
theorem gw_17 : (Cond.selects "MidiDesk$Score" ({ cls := "MidiDesk$Score", name := "frames", desc := "()I" } : Jvm.MethodName) ({ cls := "MidiDesk$Score", name := "frames", desc := "()I" } : Jvm.MethodName)) ∈ gw := gw_in 17 (by decide +kernel) (by decide +kernel)
theorem gw_21 : (Cond.selects "MidiDesk$Score" ({ cls := "MidiDesk$Score", name := "tempoOf", desc := "(LMidiDesk$Event;)I" } : Jvm.MethodName) ({ cls := "MidiDesk$Score", name := "tempoOf", desc := "(LMidiDesk$Event;)I" } : Jvm.MethodName)) ∈ gw := gw_in 21 (by decide +kernel) (by decide +kernel)
theorem gw_52 : (Jvm.Cond.initialized "MidiDesk") ∈ gw := gw_in 52 (by decide +kernel) (by decide +kernel)
theorem gw_53 : (Jvm.Cond.initialized "MidiDesk$Bytes") ∈ gw := gw_in 53 (by decide +kernel) (by decide +kernel)
theorem gw_54 : (Jvm.Cond.initialized "MidiDesk$Score") ∈ gw := gw_in 54 (by decide +kernel) (by decide +kernel)
theorem gw_57 : (Jvm.Cond.initialized "java/lang/Math") ∈ gw := gw_in 57 (by decide +kernel) (by decide +kernel)
theorem gw_59 : (Jvm.Cond.initialized "MidiDesk$Parser") ∈ gw := gw_in 59 (by decide +kernel) (by decide +kernel)
theorem gw_60 : (Jvm.Cond.initialized "MidiDesk$Event") ∈ gw := gw_in 60 (by decide +kernel) (by decide +kernel)
theorem gw_155 : (Jvm.Cond.methodLink "MidiDesk" (28 : Nat) ({ cls := "MidiDesk$Bytes", name := "size", desc := "()I" } : Jvm.MethodName)) ∈ gw := gw_in 155 (by decide +kernel) (by decide +kernel)
theorem gw_156 : (Jvm.Cond.instanceMethod ({ cls := "MidiDesk$Bytes", name := "size", desc := "()I" } : Jvm.MethodName)) ∈ gw := gw_in 156 (by decide +kernel) (by decide +kernel)
theorem gw_157 : (Jvm.Cond.selects "MidiDesk$Bytes" ({ cls := "MidiDesk$Bytes", name := "size", desc := "()I" } : Jvm.MethodName) ({ cls := "MidiDesk$Bytes", name := "size", desc := "()I" } : Jvm.MethodName)) ∈ gw := gw_in 157 (by decide +kernel) (by decide +kernel)
theorem gw_158 : (Jvm.Cond.code ({ cls := "MidiDesk$Bytes", name := "size", desc := "()I" } : Jvm.MethodName) prog_2_method_2_code (1 : Nat) (Option.some Jvm.ClassFile.FieldType.int)) ∈ gw := gw_in 158 (by decide +kernel) (by decide +kernel)
theorem gw_174 : (Jvm.Cond.static ({ cls := "java/lang/Math", name := "min", desc := "(II)I" } : Jvm.MethodName)) ∈ gw := gw_in 174 (by decide +kernel) (by decide +kernel)
theorem gw_175 : (Jvm.Cond.code ({ cls := "java/lang/Math", name := "min", desc := "(II)I" } : Jvm.MethodName) prog_13_method_69_code (2 : Nat) (Option.some Jvm.ClassFile.FieldType.int)) ∈ gw := gw_in 175 (by decide +kernel) (by decide +kernel)
theorem gw_237 : (Jvm.Cond.methodLink "MidiDesk$Score" (37 : Nat) ({ cls := "MidiDesk$Bytes", name := "empty", desc := "()V" } : Jvm.MethodName)) ∈ gw := gw_in 237 (by decide +kernel) (by decide +kernel)
theorem gw_238 : (Jvm.Cond.instanceMethod ({ cls := "MidiDesk$Bytes", name := "empty", desc := "()V" } : Jvm.MethodName)) ∈ gw := gw_in 238 (by decide +kernel) (by decide +kernel)
theorem gw_239 : (Jvm.Cond.selects "MidiDesk$Bytes" ({ cls := "MidiDesk$Bytes", name := "empty", desc := "()V" } : Jvm.MethodName) ({ cls := "MidiDesk$Bytes", name := "empty", desc := "()V" } : Jvm.MethodName)) ∈ gw := gw_in 239 (by decide +kernel) (by decide +kernel)
theorem gw_240 : (Jvm.Cond.code ({ cls := "MidiDesk$Bytes", name := "empty", desc := "()V" } : Jvm.MethodName) prog_2_method_6_code (1 : Nat) (Option.none : Option Jvm.ClassFile.FieldType)) ∈ gw := gw_in 240 (by decide +kernel) (by decide +kernel)
theorem gw_246 : (Jvm.Cond.methodLink "MidiDesk$Parser" (73 : Nat) ({ cls := "MidiDesk$Parser", name := "fixed", desc := "(I)J" } : Jvm.MethodName)) ∈ gw := gw_in 246 (by decide +kernel) (by decide +kernel)
theorem gw_248 : (Jvm.Cond.instanceMethod ({ cls := "MidiDesk$Parser", name := "fixed", desc := "(I)J" } : Jvm.MethodName)) ∈ gw := gw_in 248 (by decide +kernel) (by decide +kernel)
theorem gw_249 : (Jvm.Cond.code ({ cls := "MidiDesk$Parser", name := "fixed", desc := "(I)J" } : Jvm.MethodName) prog_4_method_4_code (5 : Nat) (Option.some Jvm.ClassFile.FieldType.long)) ∈ gw := gw_in 249 (by decide +kernel) (by decide +kernel)
theorem gw_250 : (Jvm.Cond.methodLink "MidiDesk$Parser" (56 : Nat) ({ cls := "MidiDesk$Parser", name := "expect", desc := "(ZII)V" } : Jvm.MethodName)) ∈ gw := gw_in 250 (by decide +kernel) (by decide +kernel)
theorem gw_252 : (Jvm.Cond.instanceMethod ({ cls := "MidiDesk$Parser", name := "expect", desc := "(ZII)V" } : Jvm.MethodName)) ∈ gw := gw_in 252 (by decide +kernel) (by decide +kernel)
theorem gw_253 : (Jvm.Cond.code ({ cls := "MidiDesk$Parser", name := "expect", desc := "(ZII)V" } : Jvm.MethodName) prog_4_method_3_code (4 : Nat) (Option.none : Option Jvm.ClassFile.FieldType)) ∈ gw := gw_in 253 (by decide +kernel) (by decide +kernel)
theorem gw_254 : (Jvm.Cond.constantLong "MidiDesk$Parser" (67 : Nat) (-1 : Int64)) ∈ gw := gw_in 254 (by decide +kernel) (by decide +kernel)
theorem gw_255 : (Jvm.Cond.methodLink "MidiDesk$Parser" (69 : Nat) ({ cls := "MidiDesk$Bytes", name := "at", desc := "(I)I" } : Jvm.MethodName)) ∈ gw := gw_in 255 (by decide +kernel) (by decide +kernel)
theorem gw_256 : (Jvm.Cond.instanceMethod ({ cls := "MidiDesk$Bytes", name := "at", desc := "(I)I" } : Jvm.MethodName)) ∈ gw := gw_in 256 (by decide +kernel) (by decide +kernel)
theorem gw_257 : (Jvm.Cond.selects "MidiDesk$Bytes" ({ cls := "MidiDesk$Bytes", name := "at", desc := "(I)I" } : Jvm.MethodName) ({ cls := "MidiDesk$Bytes", name := "at", desc := "(I)I" } : Jvm.MethodName)) ∈ gw := gw_in 257 (by decide +kernel) (by decide +kernel)
theorem gw_258 : (Jvm.Cond.code ({ cls := "MidiDesk$Bytes", name := "at", desc := "(I)I" } : Jvm.MethodName) prog_2_method_3_code (2 : Nat) (Option.some Jvm.ClassFile.FieldType.int)) ∈ gw := gw_in 258 (by decide +kernel) (by decide +kernel)
theorem gw_259 : (Jvm.Cond.constantLong "MidiDesk$Parser" (77 : Nat) (1297377380 : Int64)) ∈ gw := gw_in 259 (by decide +kernel) (by decide +kernel)
theorem gw_260 : (Jvm.Cond.constantLong "MidiDesk$Parser" (79 : Nat) (6 : Int64)) ∈ gw := gw_in 260 (by decide +kernel) (by decide +kernel)
theorem gw_261 : (Jvm.Cond.methodLink "MidiDesk$Parser" (81 : Nat) ({ cls := "MidiDesk$Parser", name := "isDivision", desc := "(I)Z" } : Jvm.MethodName)) ∈ gw := gw_in 261 (by decide +kernel) (by decide +kernel)
theorem gw_262 : (Jvm.Cond.static ({ cls := "MidiDesk$Parser", name := "isDivision", desc := "(I)Z" } : Jvm.MethodName)) ∈ gw := gw_in 262 (by decide +kernel) (by decide +kernel)
theorem gw_263 : (Jvm.Cond.code ({ cls := "MidiDesk$Parser", name := "isDivision", desc := "(I)Z" } : Jvm.MethodName) prog_4_method_8_code (3 : Nat) (Option.some Jvm.ClassFile.FieldType.boolean)) ∈ gw := gw_in 263 (by decide +kernel) (by decide +kernel)
theorem gw_268 : (Jvm.Cond.constantLong "MidiDesk$Parser" (91 : Nat) (1297379947 : Int64)) ∈ gw := gw_in 268 (by decide +kernel) (by decide +kernel)
theorem gw_277 : (Jvm.Cond.methodLink "MidiDesk$Parser" (105 : Nat) ({ cls := "MidiDesk$Parser", name := "number", desc := "()I" } : Jvm.MethodName)) ∈ gw := gw_in 277 (by decide +kernel) (by decide +kernel)
theorem gw_279 : (Jvm.Cond.instanceMethod ({ cls := "MidiDesk$Parser", name := "number", desc := "()I" } : Jvm.MethodName)) ∈ gw := gw_in 279 (by decide +kernel) (by decide +kernel)
theorem gw_280 : (Jvm.Cond.code ({ cls := "MidiDesk$Parser", name := "number", desc := "()I" } : Jvm.MethodName) prog_4_method_5_code (5 : Nat) (Option.some Jvm.ClassFile.FieldType.int)) ∈ gw := gw_in 280 (by decide +kernel) (by decide +kernel)
theorem gw_290 : (Jvm.Cond.methodLink "MidiDesk$Parser" (130 : Nat) ({ cls := "MidiDesk$Parser", name := "lowByte", desc := "()I" } : Jvm.MethodName)) ∈ gw := gw_in 290 (by decide +kernel) (by decide +kernel)
theorem gw_292 : (Jvm.Cond.instanceMethod ({ cls := "MidiDesk$Parser", name := "lowByte", desc := "()I" } : Jvm.MethodName)) ∈ gw := gw_in 292 (by decide +kernel) (by decide +kernel)
theorem gw_293 : (Jvm.Cond.code ({ cls := "MidiDesk$Parser", name := "lowByte", desc := "()I" } : Jvm.MethodName) prog_4_method_6_code (3 : Nat) (Option.some Jvm.ClassFile.FieldType.int)) ∈ gw := gw_in 293 (by decide +kernel) (by decide +kernel)
theorem gw_295 : (Jvm.Cond.static ({ cls := "MidiDesk", name := "hasOneByte", desc := "(I)Z" } : Jvm.MethodName)) ∈ gw := gw_in 295 (by decide +kernel) (by decide +kernel)
theorem gw_296 : (Jvm.Cond.code ({ cls := "MidiDesk", name := "hasOneByte", desc := "(I)Z" } : Jvm.MethodName) prog_1_method_20_code (2 : Nat) (Option.some Jvm.ClassFile.FieldType.boolean)) ∈ gw := gw_in 296 (by decide +kernel) (by decide +kernel)
theorem gw_301 : (Jvm.Cond.methodLink "MidiDesk$Parser" (142 : Nat) ({ cls := "MidiDesk$Parser", name := "passData", desc := "()V" } : Jvm.MethodName)) ∈ gw := gw_in 301 (by decide +kernel) (by decide +kernel)
theorem gw_303 : (Jvm.Cond.instanceMethod ({ cls := "MidiDesk$Parser", name := "passData", desc := "()V" } : Jvm.MethodName)) ∈ gw := gw_in 303 (by decide +kernel) (by decide +kernel)
theorem gw_304 : (Jvm.Cond.code ({ cls := "MidiDesk$Parser", name := "passData", desc := "()V" } : Jvm.MethodName) prog_4_method_16_code (1 : Nat) (Option.none : Option Jvm.ClassFile.FieldType)) ∈ gw := gw_in 304 (by decide +kernel) (by decide +kernel)
theorem gw_313 : (Jvm.Cond.methodLink "MidiDesk$Score" (40 : Nat) ({ cls := "MidiDesk$Bytes", name := "size", desc := "()I" } : Jvm.MethodName)) ∈ gw := gw_in 313 (by decide +kernel) (by decide +kernel)
theorem gw_314 : (Jvm.Cond.methodLink "MidiDesk$Score" (43 : Nat) ({ cls := "java/lang/Math", name := "max", desc := "(II)I" } : Jvm.MethodName)) ∈ gw := gw_in 314 (by decide +kernel) (by decide +kernel)
theorem gw_315 : (Jvm.Cond.static ({ cls := "java/lang/Math", name := "max", desc := "(II)I" } : Jvm.MethodName)) ∈ gw := gw_in 315 (by decide +kernel) (by decide +kernel)
theorem gw_316 : (Jvm.Cond.code ({ cls := "java/lang/Math", name := "max", desc := "(II)I" } : Jvm.MethodName) prog_13_method_65_code (2 : Nat) (Option.some Jvm.ClassFile.FieldType.int)) ∈ gw := gw_in 316 (by decide +kernel) (by decide +kernel)
theorem gw_325 : (Jvm.Cond.methodLink "MidiDesk$Score" (49 : Nat) ({ cls := "MidiDesk$Score", name := "copyEvents", desc := "([LMidiDesk$Event;[LMidiDesk$Event;II)V" } : Jvm.MethodName)) ∈ gw := gw_in 325 (by decide +kernel) (by decide +kernel)
theorem gw_326 : (Jvm.Cond.static ({ cls := "MidiDesk$Score", name := "copyEvents", desc := "([LMidiDesk$Event;[LMidiDesk$Event;II)V" } : Jvm.MethodName)) ∈ gw := gw_in 326 (by decide +kernel) (by decide +kernel)
theorem gw_327 : (Jvm.Cond.code ({ cls := "MidiDesk$Score", name := "copyEvents", desc := "([LMidiDesk$Event;[LMidiDesk$Event;II)V" } : Jvm.MethodName) prog_6_method_6_code (5 : Nat) (Option.none : Option Jvm.ClassFile.FieldType)) ∈ gw := gw_in 327 (by decide +kernel) (by decide +kernel)
theorem gw_380 : (Jvm.Cond.instanceMethod ({ cls := "MidiDesk$Score", name := "putInOrder", desc := "()V" } : Jvm.MethodName)) ∈ gw := gw_in 380 (by decide +kernel) (by decide +kernel)
theorem gw_381 : (Jvm.Cond.selects "MidiDesk$Score" ({ cls := "MidiDesk$Score", name := "putInOrder", desc := "()V" } : Jvm.MethodName) ({ cls := "MidiDesk$Score", name := "putInOrder", desc := "()V" } : Jvm.MethodName)) ∈ gw := gw_in 381 (by decide +kernel) (by decide +kernel)
theorem gw_382 : (Jvm.Cond.code ({ cls := "MidiDesk$Score", name := "putInOrder", desc := "()V" } : Jvm.MethodName) prog_6_method_7_code (4 : Nat) (Option.none : Option Jvm.ClassFile.FieldType)) ∈ gw := gw_in 382 (by decide +kernel) (by decide +kernel)
theorem gw_383 : (Jvm.Cond.methodLink "MidiDesk$Score" (54 : Nat) ({ cls := "java/lang/Math", name := "min", desc := "(II)I" } : Jvm.MethodName)) ∈ gw := gw_in 383 (by decide +kernel) (by decide +kernel)
theorem gw_384 : (Jvm.Cond.methodLink "MidiDesk$Score" (57 : Nat) ({ cls := "MidiDesk$Score", name := "mergeRuns", desc := "(III)V" } : Jvm.MethodName)) ∈ gw := gw_in 384 (by decide +kernel) (by decide +kernel)
theorem gw_386 : (Jvm.Cond.instanceMethod ({ cls := "MidiDesk$Score", name := "mergeRuns", desc := "(III)V" } : Jvm.MethodName)) ∈ gw := gw_in 386 (by decide +kernel) (by decide +kernel)
theorem gw_387 : (Jvm.Cond.code ({ cls := "MidiDesk$Score", name := "mergeRuns", desc := "(III)V" } : Jvm.MethodName) prog_6_method_8_code (8 : Nat) (Option.none : Option Jvm.ClassFile.FieldType)) ∈ gw := gw_in 387 (by decide +kernel) (by decide +kernel)
theorem gw_388 : (Jvm.Cond.methodLink "MidiDesk$Score" (61 : Nat) ({ cls := "MidiDesk$Event", name := "belongsBehind", desc := "(LMidiDesk$Event;)Z" } : Jvm.MethodName)) ∈ gw := gw_in 388 (by decide +kernel) (by decide +kernel)
theorem gw_389 : (Jvm.Cond.instanceMethod ({ cls := "MidiDesk$Event", name := "belongsBehind", desc := "(LMidiDesk$Event;)Z" } : Jvm.MethodName)) ∈ gw := gw_in 389 (by decide +kernel) (by decide +kernel)
theorem gw_390 : (Jvm.Cond.selects "MidiDesk$Event" ({ cls := "MidiDesk$Event", name := "belongsBehind", desc := "(LMidiDesk$Event;)Z" } : Jvm.MethodName) ({ cls := "MidiDesk$Event", name := "belongsBehind", desc := "(LMidiDesk$Event;)Z" } : Jvm.MethodName)) ∈ gw := gw_in 390 (by decide +kernel) (by decide +kernel)
theorem gw_391 : (Jvm.Cond.code ({ cls := "MidiDesk$Event", name := "belongsBehind", desc := "(LMidiDesk$Event;)Z" } : Jvm.MethodName) prog_3_method_9_code (2 : Nat) (Option.some Jvm.ClassFile.FieldType.boolean)) ∈ gw := gw_in 391 (by decide +kernel) (by decide +kernel)
theorem gw_397 : (Jvm.Cond.methodLink "MidiDesk" (46 : Nat) ({ cls := "MidiDesk$Score", name := "at", desc := "(I)LMidiDesk$Event;" } : Jvm.MethodName)) ∈ gw := gw_in 397 (by decide +kernel) (by decide +kernel)
theorem gw_398 : (Jvm.Cond.instanceMethod ({ cls := "MidiDesk$Score", name := "at", desc := "(I)LMidiDesk$Event;" } : Jvm.MethodName)) ∈ gw := gw_in 398 (by decide +kernel) (by decide +kernel)
theorem gw_399 : (Jvm.Cond.selects "MidiDesk$Score" ({ cls := "MidiDesk$Score", name := "at", desc := "(I)LMidiDesk$Event;" } : Jvm.MethodName) ({ cls := "MidiDesk$Score", name := "at", desc := "(I)LMidiDesk$Event;" } : Jvm.MethodName)) ∈ gw := gw_in 399 (by decide +kernel) (by decide +kernel)
theorem gw_400 : (Jvm.Cond.code ({ cls := "MidiDesk$Score", name := "at", desc := "(I)LMidiDesk$Event;" } : Jvm.MethodName) prog_6_method_3_code (2 : Nat) (Option.some (Jvm.ClassFile.FieldType.object "MidiDesk$Event"))) ∈ gw := gw_in 400 (by decide +kernel) (by decide +kernel)
theorem gw_405 : (Jvm.Cond.methodLink "MidiDesk" (76 : Nat) ({ cls := "MidiDesk$Bytes", name := "at", desc := "(I)I" } : Jvm.MethodName)) ∈ gw := gw_in 405 (by decide +kernel) (by decide +kernel)
theorem gw_410 : (Jvm.Cond.methodLink "MidiDesk" (92 : Nat) ({ cls := "MidiDesk$Score", name := "noteTicks", desc := "(I)I" } : Jvm.MethodName)) ∈ gw := gw_in 410 (by decide +kernel) (by decide +kernel)
theorem gw_411 : (Jvm.Cond.instanceMethod ({ cls := "MidiDesk$Score", name := "noteTicks", desc := "(I)I" } : Jvm.MethodName)) ∈ gw := gw_in 411 (by decide +kernel) (by decide +kernel)
theorem gw_412 : (Jvm.Cond.selects "MidiDesk$Score" ({ cls := "MidiDesk$Score", name := "noteTicks", desc := "(I)I" } : Jvm.MethodName) ({ cls := "MidiDesk$Score", name := "noteTicks", desc := "(I)I" } : Jvm.MethodName)) ∈ gw := gw_in 412 (by decide +kernel) (by decide +kernel)
theorem gw_413 : (Jvm.Cond.code ({ cls := "MidiDesk$Score", name := "noteTicks", desc := "(I)I" } : Jvm.MethodName) prog_6_method_12_code (4 : Nat) (Option.some Jvm.ClassFile.FieldType.int)) ∈ gw := gw_in 413 (by decide +kernel) (by decide +kernel)
theorem gw_414 : (Jvm.Cond.methodLink "MidiDesk$Score" (75 : Nat) ({ cls := "MidiDesk$Score", name := "at", desc := "(I)LMidiDesk$Event;" } : Jvm.MethodName)) ∈ gw := gw_in 414 (by decide +kernel) (by decide +kernel)
theorem gw_415 : (Jvm.Cond.methodLink "MidiDesk$Score" (72 : Nat) ({ cls := "MidiDesk$Event", name := "beginsNote", desc := "()Z" } : Jvm.MethodName)) ∈ gw := gw_in 415 (by decide +kernel) (by decide +kernel)
theorem gw_416 : (Jvm.Cond.instanceMethod ({ cls := "MidiDesk$Event", name := "beginsNote", desc := "()Z" } : Jvm.MethodName)) ∈ gw := gw_in 416 (by decide +kernel) (by decide +kernel)
theorem gw_417 : (Jvm.Cond.selects "MidiDesk$Event" ({ cls := "MidiDesk$Event", name := "beginsNote", desc := "()Z" } : Jvm.MethodName) ({ cls := "MidiDesk$Event", name := "beginsNote", desc := "()Z" } : Jvm.MethodName)) ∈ gw := gw_in 417 (by decide +kernel) (by decide +kernel)
theorem gw_418 : (Jvm.Cond.code ({ cls := "MidiDesk$Event", name := "beginsNote", desc := "()Z" } : Jvm.MethodName) prog_3_method_5_code (1 : Nat) (Option.some Jvm.ClassFile.FieldType.boolean)) ∈ gw := gw_in 418 (by decide +kernel) (by decide +kernel)
theorem gw_419 : (Jvm.Cond.methodLink "MidiDesk$Score" (79 : Nat) ({ cls := "MidiDesk$Event", name := "endsNoteOf", desc := "(LMidiDesk$Event;)Z" } : Jvm.MethodName)) ∈ gw := gw_in 419 (by decide +kernel) (by decide +kernel)
theorem gw_420 : (Jvm.Cond.instanceMethod ({ cls := "MidiDesk$Event", name := "endsNoteOf", desc := "(LMidiDesk$Event;)Z" } : Jvm.MethodName)) ∈ gw := gw_in 420 (by decide +kernel) (by decide +kernel)
theorem gw_421 : (Jvm.Cond.selects "MidiDesk$Event" ({ cls := "MidiDesk$Event", name := "endsNoteOf", desc := "(LMidiDesk$Event;)Z" } : Jvm.MethodName) ({ cls := "MidiDesk$Event", name := "endsNoteOf", desc := "(LMidiDesk$Event;)Z" } : Jvm.MethodName)) ∈ gw := gw_in 421 (by decide +kernel) (by decide +kernel)
theorem gw_422 : (Jvm.Cond.code ({ cls := "MidiDesk$Event", name := "endsNoteOf", desc := "(LMidiDesk$Event;)Z" } : Jvm.MethodName) prog_3_method_8_code (2 : Nat) (Option.some Jvm.ClassFile.FieldType.boolean)) ∈ gw := gw_in 422 (by decide +kernel) (by decide +kernel)
theorem gw_423 : (Jvm.Cond.methodLink "MidiDesk$Event" (21 : Nat) ({ cls := "MidiDesk$Event", name := "endsNote", desc := "()Z" } : Jvm.MethodName)) ∈ gw := gw_in 423 (by decide +kernel) (by decide +kernel)
theorem gw_424 : (Jvm.Cond.instanceMethod ({ cls := "MidiDesk$Event", name := "endsNote", desc := "()Z" } : Jvm.MethodName)) ∈ gw := gw_in 424 (by decide +kernel) (by decide +kernel)
theorem gw_425 : (Jvm.Cond.selects "MidiDesk$Event" ({ cls := "MidiDesk$Event", name := "endsNote", desc := "()Z" } : Jvm.MethodName) ({ cls := "MidiDesk$Event", name := "endsNote", desc := "()Z" } : Jvm.MethodName)) ∈ gw := gw_in 425 (by decide +kernel) (by decide +kernel)
theorem gw_426 : (Jvm.Cond.code ({ cls := "MidiDesk$Event", name := "endsNote", desc := "()Z" } : Jvm.MethodName) prog_3_method_6_code (2 : Nat) (Option.some Jvm.ClassFile.FieldType.boolean)) ∈ gw := gw_in 426 (by decide +kernel) (by decide +kernel)
theorem gw_439 : (Jvm.Cond.methodLink "MidiDesk" (109 : Nat) ({ cls := "MidiDesk$Score", name := "greatestTick", desc := "()I" } : Jvm.MethodName)) ∈ gw := gw_in 439 (by decide +kernel) (by decide +kernel)
theorem gw_440 : (Jvm.Cond.instanceMethod ({ cls := "MidiDesk$Score", name := "greatestTick", desc := "()I" } : Jvm.MethodName)) ∈ gw := gw_in 440 (by decide +kernel) (by decide +kernel)
theorem gw_441 : (Jvm.Cond.selects "MidiDesk$Score" ({ cls := "MidiDesk$Score", name := "greatestTick", desc := "()I" } : Jvm.MethodName) ({ cls := "MidiDesk$Score", name := "greatestTick", desc := "()I" } : Jvm.MethodName)) ∈ gw := gw_in 441 (by decide +kernel) (by decide +kernel)
theorem gw_442 : (Jvm.Cond.code ({ cls := "MidiDesk$Score", name := "greatestTick", desc := "()I" } : Jvm.MethodName) prog_6_method_9_code (1 : Nat) (Option.some Jvm.ClassFile.FieldType.int)) ∈ gw := gw_in 442 (by decide +kernel) (by decide +kernel)
theorem gw_443 : (Jvm.Cond.methodLink "MidiDesk" (140 : Nat) ({ cls := "MidiDesk$Score", name := "tempoEvents", desc := "()I" } : Jvm.MethodName)) ∈ gw := gw_in 443 (by decide +kernel) (by decide +kernel)
theorem gw_444 : (Jvm.Cond.instanceMethod ({ cls := "MidiDesk$Score", name := "tempoEvents", desc := "()I" } : Jvm.MethodName)) ∈ gw := gw_in 444 (by decide +kernel) (by decide +kernel)
theorem gw_445 : (Jvm.Cond.selects "MidiDesk$Score" ({ cls := "MidiDesk$Score", name := "tempoEvents", desc := "()I" } : Jvm.MethodName) ({ cls := "MidiDesk$Score", name := "tempoEvents", desc := "()I" } : Jvm.MethodName)) ∈ gw := gw_in 445 (by decide +kernel) (by decide +kernel)
theorem gw_446 : (Jvm.Cond.code ({ cls := "MidiDesk$Score", name := "tempoEvents", desc := "()I" } : Jvm.MethodName) prog_6_method_10_code (3 : Nat) (Option.some Jvm.ClassFile.FieldType.int)) ∈ gw := gw_in 446 (by decide +kernel) (by decide +kernel)
theorem gw_447 : (Jvm.Cond.methodLink "MidiDesk$Score" (68 : Nat) ({ cls := "MidiDesk$Event", name := "isTempo", desc := "()Z" } : Jvm.MethodName)) ∈ gw := gw_in 447 (by decide +kernel) (by decide +kernel)
theorem gw_448 : (Jvm.Cond.instanceMethod ({ cls := "MidiDesk$Event", name := "isTempo", desc := "()Z" } : Jvm.MethodName)) ∈ gw := gw_in 448 (by decide +kernel) (by decide +kernel)
theorem gw_449 : (Jvm.Cond.selects "MidiDesk$Event" ({ cls := "MidiDesk$Event", name := "isTempo", desc := "()Z" } : Jvm.MethodName) ({ cls := "MidiDesk$Event", name := "isTempo", desc := "()Z" } : Jvm.MethodName)) ∈ gw := gw_in 449 (by decide +kernel) (by decide +kernel)
theorem gw_450 : (Jvm.Cond.code ({ cls := "MidiDesk$Event", name := "isTempo", desc := "()Z" } : Jvm.MethodName) prog_3_method_3_code (1 : Nat) (Option.some Jvm.ClassFile.FieldType.boolean)) ∈ gw := gw_in 450 (by decide +kernel) (by decide +kernel)
theorem gw_451 : (Jvm.Cond.methodLink "MidiDesk" (143 : Nat) ({ cls := "MidiDesk$Score", name := "notesBegun", desc := "()I" } : Jvm.MethodName)) ∈ gw := gw_in 451 (by decide +kernel) (by decide +kernel)
theorem gw_452 : (Jvm.Cond.instanceMethod ({ cls := "MidiDesk$Score", name := "notesBegun", desc := "()I" } : Jvm.MethodName)) ∈ gw := gw_in 452 (by decide +kernel) (by decide +kernel)
theorem gw_453 : (Jvm.Cond.selects "MidiDesk$Score" ({ cls := "MidiDesk$Score", name := "notesBegun", desc := "()I" } : Jvm.MethodName) ({ cls := "MidiDesk$Score", name := "notesBegun", desc := "()I" } : Jvm.MethodName)) ∈ gw := gw_in 453 (by decide +kernel) (by decide +kernel)
theorem gw_454 : (Jvm.Cond.code ({ cls := "MidiDesk$Score", name := "notesBegun", desc := "()I" } : Jvm.MethodName) prog_6_method_11_code (3 : Nat) (Option.some Jvm.ClassFile.FieldType.int)) ∈ gw := gw_in 454 (by decide +kernel) (by decide +kernel)
theorem gw_455 : (Jvm.Cond.methodLink "MidiDesk" (150 : Nat) ({ cls := "MidiDesk", name := "headValue", desc := "(I)I" } : Jvm.MethodName)) ∈ gw := gw_in 455 (by decide +kernel) (by decide +kernel)
theorem gw_457 : (Jvm.Cond.instanceMethod ({ cls := "MidiDesk", name := "headValue", desc := "(I)I" } : Jvm.MethodName)) ∈ gw := gw_in 457 (by decide +kernel) (by decide +kernel)
theorem gw_458 : (Jvm.Cond.code ({ cls := "MidiDesk", name := "headValue", desc := "(I)I" } : Jvm.MethodName) prog_1_method_16_code (2 : Nat) (Option.some Jvm.ClassFile.FieldType.int)) ∈ gw := gw_in 458 (by decide +kernel) (by decide +kernel)
theorem gw_459 : (Jvm.Cond.methodLink "MidiDesk" (89 : Nat) ({ cls := "MidiDesk$Score", name := "partsOfMicrosecond", desc := "()I" } : Jvm.MethodName)) ∈ gw := gw_in 459 (by decide +kernel) (by decide +kernel)
theorem gw_460 : (Jvm.Cond.instanceMethod ({ cls := "MidiDesk$Score", name := "partsOfMicrosecond", desc := "()I" } : Jvm.MethodName)) ∈ gw := gw_in 460 (by decide +kernel) (by decide +kernel)
theorem gw_461 : (Jvm.Cond.selects "MidiDesk$Score" ({ cls := "MidiDesk$Score", name := "partsOfMicrosecond", desc := "()I" } : Jvm.MethodName) ({ cls := "MidiDesk$Score", name := "partsOfMicrosecond", desc := "()I" } : Jvm.MethodName)) ∈ gw := gw_in 461 (by decide +kernel) (by decide +kernel)
theorem gw_462 : (Jvm.Cond.code ({ cls := "MidiDesk$Score", name := "partsOfMicrosecond", desc := "()I" } : Jvm.MethodName) prog_6_method_18_code (2 : Nat) (Option.some Jvm.ClassFile.FieldType.int)) ∈ gw := gw_in 462 (by decide +kernel) (by decide +kernel)
theorem gw_463 : (Jvm.Cond.methodLink "MidiDesk$Score" (106 : Nat) ({ cls := "MidiDesk$Score", name := "hasFrames", desc := "()Z" } : Jvm.MethodName)) ∈ gw := gw_in 463 (by decide +kernel) (by decide +kernel)
theorem gw_465 : (Jvm.Cond.instanceMethod ({ cls := "MidiDesk$Score", name := "hasFrames", desc := "()Z" } : Jvm.MethodName)) ∈ gw := gw_in 465 (by decide +kernel) (by decide +kernel)
theorem gw_466 : (Jvm.Cond.code ({ cls := "MidiDesk$Score", name := "hasFrames", desc := "()Z" } : Jvm.MethodName) prog_6_method_16_code (1 : Nat) (Option.some Jvm.ClassFile.FieldType.boolean)) ∈ gw := gw_in 466 (by decide +kernel) (by decide +kernel)
theorem gw_467 : (Jvm.Cond.methodLink "MidiDesk$Score" (109 : Nat) ({ cls := "MidiDesk$Score", name := "frames", desc := "()I" } : Jvm.MethodName)) ∈ gw := gw_in 467 (by decide +kernel) (by decide +kernel)
theorem gw_469 : (Jvm.Cond.instanceMethod ({ cls := "MidiDesk$Score", name := "frames", desc := "()I" } : Jvm.MethodName)) ∈ gw := gw_in 469 (by decide +kernel) (by decide +kernel)
theorem gw_470 : (Jvm.Cond.code ({ cls := "MidiDesk$Score", name := "frames", desc := "()I" } : Jvm.MethodName) prog_6_method_17_code (1 : Nat) (Option.some Jvm.ClassFile.FieldType.int)) ∈ gw := gw_in 470 (by decide +kernel) (by decide +kernel)
theorem gw_576 : (Jvm.Cond.constant "MidiDesk$Score" (112 : Nat) (100100 : Int32)) ∈ gw := gw_in 576 (by decide +kernel) (by decide +kernel)
theorem gw_577 : (Jvm.Cond.constant "MidiDesk$Score" (113 : Nat) (1000000 : Int32)) ∈ gw := gw_in 577 (by decide +kernel) (by decide +kernel)
theorem gw_578 : (Jvm.Cond.constantLong "MidiDesk$Score" (114 : Nat) (500000 : Int64)) ∈ gw := gw_in 578 (by decide +kernel) (by decide +kernel)
theorem gw_579 : (Jvm.Cond.methodLink "MidiDesk$Score" (119 : Nat) ({ cls := "MidiDesk$Score", name := "tempoOf", desc := "(LMidiDesk$Event;)I" } : Jvm.MethodName)) ∈ gw := gw_in 579 (by decide +kernel) (by decide +kernel)
theorem gw_581 : (Jvm.Cond.instanceMethod ({ cls := "MidiDesk$Score", name := "tempoOf", desc := "(LMidiDesk$Event;)I" } : Jvm.MethodName)) ∈ gw := gw_in 581 (by decide +kernel) (by decide +kernel)
theorem gw_582 : (Jvm.Cond.code ({ cls := "MidiDesk$Score", name := "tempoOf", desc := "(LMidiDesk$Event;)I" } : Jvm.MethodName) prog_6_method_20_code (2 : Nat) (Option.some Jvm.ClassFile.FieldType.int)) ∈ gw := gw_in 582 (by decide +kernel) (by decide +kernel)
theorem gw_583 : (Jvm.Cond.methodLink "MidiDesk$Score" (126 : Nat) ({ cls := "MidiDesk$Bytes", name := "at", desc := "(I)I" } : Jvm.MethodName)) ∈ gw := gw_in 583 (by decide +kernel) (by decide +kernel)
theorem gw_603 : (Jvm.Cond.methodLink "MidiDesk$Score" (82 : Nat) ({ cls := "MidiDesk$Event", name := "isOfNote", desc := "()Z" } : Jvm.MethodName)) ∈ gw := gw_in 603 (by decide +kernel) (by decide +kernel)
theorem gw_604 : (Jvm.Cond.instanceMethod ({ cls := "MidiDesk$Event", name := "isOfNote", desc := "()Z" } : Jvm.MethodName)) ∈ gw := gw_in 604 (by decide +kernel) (by decide +kernel)
theorem gw_605 : (Jvm.Cond.selects "MidiDesk$Event" ({ cls := "MidiDesk$Event", name := "isOfNote", desc := "()Z" } : Jvm.MethodName) ({ cls := "MidiDesk$Event", name := "isOfNote", desc := "()Z" } : Jvm.MethodName)) ∈ gw := gw_in 605 (by decide +kernel) (by decide +kernel)
theorem gw_606 : (Jvm.Cond.code ({ cls := "MidiDesk$Event", name := "isOfNote", desc := "()Z" } : Jvm.MethodName) prog_3_method_4_code (1 : Nat) (Option.some Jvm.ClassFile.FieldType.boolean)) ∈ gw := gw_in 606 (by decide +kernel) (by decide +kernel)
theorem gw_607 : (Jvm.Cond.methodLink "MidiDesk$Score" (85 : Nat) ({ cls := "MidiDesk$Event", name := "isOfChannel", desc := "(I)Z" } : Jvm.MethodName)) ∈ gw := gw_in 607 (by decide +kernel) (by decide +kernel)
theorem gw_608 : (Jvm.Cond.instanceMethod ({ cls := "MidiDesk$Event", name := "isOfChannel", desc := "(I)Z" } : Jvm.MethodName)) ∈ gw := gw_in 608 (by decide +kernel) (by decide +kernel)
theorem gw_609 : (Jvm.Cond.selects "MidiDesk$Event" ({ cls := "MidiDesk$Event", name := "isOfChannel", desc := "(I)Z" } : Jvm.MethodName) ({ cls := "MidiDesk$Event", name := "isOfChannel", desc := "(I)Z" } : Jvm.MethodName)) ∈ gw := gw_in 609 (by decide +kernel) (by decide +kernel)
theorem gw_610 : (Jvm.Cond.code ({ cls := "MidiDesk$Event", name := "isOfChannel", desc := "(I)Z" } : Jvm.MethodName) prog_3_method_7_code (2 : Nat) (Option.some Jvm.ClassFile.FieldType.boolean)) ∈ gw := gw_in 610 (by decide +kernel) (by decide +kernel)
theorem gw_611 : (Jvm.Cond.constantLong "MidiDesk$Score" (92 : Nat) (127 : Int64)) ∈ gw := gw_in 611 (by decide +kernel) (by decide +kernel)
theorem gw_622 : (Jvm.Cond.static ({ cls := "MidiDesk", name := "nearest", desc := "(II)I" } : Jvm.MethodName)) ∈ gw := gw_in 622 (by decide +kernel) (by decide +kernel)
theorem gw_623 : (Jvm.Cond.code ({ cls := "MidiDesk", name := "nearest", desc := "(II)I" } : Jvm.MethodName) prog_1_method_19_code (2 : Nat) (Option.some Jvm.ClassFile.FieldType.int)) ∈ gw := gw_in 623 (by decide +kernel) (by decide +kernel)
theorem gw_630 : (Jvm.Cond.methodLink "MidiDesk$Score" (97 : Nat) ({ cls := "MidiDesk$Score", name := "putInOrder", desc := "()V" } : Jvm.MethodName)) ∈ gw := gw_in 630 (by decide +kernel) (by decide +kernel)
theorem nw_243 : (Jvm.Cond.methodLinkNest "MidiDesk$Parser" (136 : Nat) ({ cls := "MidiDesk", name := "hasOneByte", desc := "(I)Z" } : Jvm.MethodName) "MidiDesk") ∈ nestw := List.mem_filter.mpr ⟨List.mem_of_getElem? (i := 243) (by decide +kernel), rfl⟩
theorem nw_578 : (Jvm.Cond.methodLinkNest "MidiDesk$Score" (94 : Nat) ({ cls := "MidiDesk", name := "nearest", desc := "(II)I" } : Jvm.MethodName) "MidiDesk") ∈ nestw := List.mem_filter.mpr ⟨List.mem_of_getElem? (i := 578) (by decide +kernel), rfl⟩
end
section
abbrev cB0_size : ByteArray := prog_2_method_2_code
abbrev yB0_size : MethodName := ⟨"MidiDesk$Bytes", "size", "()I"⟩
theorem kB0_size : yB0_size.cls ≠ "java/lang/invoke/MethodHandle" ∧ yB0_size.cls ≠ "java/lang/invoke/VarHandle" ∧ (parseMethodDescriptor yB0_size.desc).map (fun d => d.parameters.length) = some 0 := by decide +kernel
abbrev rB0_size : Room := { frames := 0, cells := 0, slots := 0, locals := 0 }
theorem dB0_size_0 : decode cB0_size 0 = .ok (.aload_n 0, 1) := by decide +kernel
theorem dB0_size_1 : decode cB0_size 1 = .ok (.getfield 19, 3) := by decide +kernel
theorem dB0_size_4 : decode cB0_size 4 = .ok (.ireturn, 1) := by decide +kernel
def fB0_size (h : cH) (z : cZ) : Option (Int32 × cZ) := some (zi z 0, z)
set_option maxHeartbeats 4000000 in
set_option maxRecDepth 100000 in
theorem cB0_size_met {l : Launch} {g : gT} {qq ad ea : Nat → Nat} {h : cH} {X : va_W} {z z' : cZ} {r' : Int32} (hf : fB0_size h z = some (r', z')) : cMet l yB0_size cB0_size 1 (some .int) rB0_size g qq ad ea h X z [.ref (qq 1)] (some (.int r')) X z' := by
  refine c_entry (by decide) (Nat.le_of_ble_eq_true rfl) ?_
  intro p e s m args below meth c ls C hr hlk hnm hl hw
  have hrv : (some (.int r') : Option Value) = some (.int r') := rfl
  have C : mCx p m c cB0_size 1 s args g "MidiDesk$Bytes" := C
  have hl : lv_has ls 1 [(0, .ref (qq 1))] := hl
  unfold fB0_size at hf
  refine lv_aload_n C.1.1 C.1.2.1 dB0_size_0 rfl (lv_at hl 0 rfl) ?_
  refine cg_Bytes_Bytes_size_B0 C hw dB0_size_1 ?_
  exact c_reti C hr hlk hrv hw hf rfl ⟨Nat.le_of_ble_eq_true rfl, Nat.le_of_ble_eq_true rfl⟩ dB0_size_4
abbrev cB0_at : ByteArray := prog_2_method_3_code
abbrev yB0_at : MethodName := ⟨"MidiDesk$Bytes", "at", "(I)I"⟩
theorem kB0_at : yB0_at.cls ≠ "java/lang/invoke/MethodHandle" ∧ yB0_at.cls ≠ "java/lang/invoke/VarHandle" ∧ (parseMethodDescriptor yB0_at.desc).map (fun d => d.parameters.length) = some 1 := by decide +kernel
abbrev rB0_at : Room := { frames := 0, cells := 0, slots := 0, locals := 0 }
theorem dB0_at_0 : decode cB0_at 0 = .ok (.iload_n 1, 1) := by decide +kernel
theorem dB0_at_1 : decode cB0_at 1 = .ok (.ifCond .lt 20, 3) := by decide +kernel
theorem dB0_at_4 : decode cB0_at 4 = .ok (.iload_n 1, 1) := by decide +kernel
theorem dB0_at_5 : decode cB0_at 5 = .ok (.aload_n 0, 1) := by decide +kernel
theorem dB0_at_6 : decode cB0_at 6 = .ok (.getfield 19, 3) := by decide +kernel
theorem dB0_at_9 : decode cB0_at 9 = .ok (.if_icmp .ge 12, 3) := by decide +kernel
theorem dB0_at_12 : decode cB0_at 12 = .ok (.aload_n 0, 1) := by decide +kernel
theorem dB0_at_13 : decode cB0_at 13 = .ok (.getfield 15, 3) := by decide +kernel
theorem dB0_at_16 : decode cB0_at 16 = .ok (.iload_n 1, 1) := by decide +kernel
theorem dB0_at_17 : decode cB0_at 17 = .ok (.iaload, 1) := by decide +kernel
theorem dB0_at_18 : decode cB0_at 18 = .ok (.goto 4, 3) := by decide +kernel
theorem dB0_at_21 : decode cB0_at 21 = .ok (.iconst (-1), 1) := by decide +kernel
theorem dB0_at_22 : decode cB0_at 22 = .ok (.ireturn, 1) := by decide +kernel
def fB0_at (h : cH) (z : cZ) (x1 : Int32) : Option (Int32 × cZ) := if x1 < 0 then (some ((-1 : Int32), z)) else (if (zi z 0) ≤ x1 then (some ((-1 : Int32), z)) else (if x1 < 0 ∨ h.1 0 ≤ x1.toNatClampNeg then none else (some (za z 0 x1.toNatClampNeg, z))))
set_option maxHeartbeats 4000000 in
set_option maxRecDepth 100000 in
theorem cB0_at_met {l : Launch} {g : gT} {qq ad ea : Nat → Nat} {h : cH} {X : va_W} {z z' : cZ} {x1 : Int32} {r' : Int32} (hf : fB0_at h z x1 = some (r', z')) : cMet l yB0_at cB0_at 2 (some .int) rB0_at g qq ad ea h X z [.ref (qq 1), .int x1] (some (.int r')) X z' := by
  refine c_entry (by decide) (Nat.le_of_ble_eq_true rfl) ?_
  intro p e s m args below meth c ls C hr hlk hnm hl hw
  have hrv : (some (.int r') : Option Value) = some (.int r') := rfl
  have C : mCx p m c cB0_at 2 s args g "MidiDesk$Bytes" := C
  have hl : lv_has ls 2 [(0, .ref (qq 1)), (1, .int x1)] := hl
  unfold fB0_at at hf
  refine lv_iload_n C.1.1 C.1.2.1 dB0_at_0 rfl (lv_at hl 1 rfl) ?_
  refine lv_if_lt (tgt := 21) C.1.1 C.1.2.1 dB0_at_1 (by decide) (fun c1 => ?_) (fun c1 => ?_)
  · have hf := ts_t hf c1
    refine lv_iconst (v := (-1 : Int32)) C.1.1 C.1.2.1 dB0_at_21 (by decide) ?_
    exact c_reti C hr hlk hrv hw hf rfl ⟨Nat.le_of_ble_eq_true rfl, Nat.le_of_ble_eq_true rfl⟩ dB0_at_22
  · have hf := ts_f hf c1
    refine lv_iload_n C.1.1 C.1.2.1 dB0_at_4 rfl (lv_at hl 1 rfl) ?_
    refine lv_aload_n C.1.1 C.1.2.1 dB0_at_5 rfl (lv_at hl 0 rfl) ?_
    refine cg_Bytes_Bytes_size_B0 C hw dB0_at_6 ?_
    refine lv_icmp_ge (tgt := 21) C.1.1 C.1.2.1 dB0_at_9 (by decide) (fun c2 => ?_) (fun c2 => ?_)
    · have hf := ts_t hf c2
      refine lv_iconst (v := (-1 : Int32)) C.1.1 C.1.2.1 dB0_at_21 (by decide) ?_
      exact c_reti C hr hlk hrv hw hf rfl ⟨Nat.le_of_ble_eq_true rfl, Nat.le_of_ble_eq_true rfl⟩ dB0_at_22
    · have hf := ts_f hf c2
      refine lv_aload_n C.1.1 C.1.2.1 dB0_at_12 rfl (lv_at hl 0 rfl) ?_
      refine cg_Bytes_Bytes_row_B0 C hw dB0_at_13 ?_
      refine lv_iload_n C.1.1 C.1.2.1 dB0_at_16 rfl (lv_at hl 1 rfl) ?_
      obtain ⟨h3, hf⟩ := ts_g hf
      refine ca_0 C hw h3 dB0_at_17 ?_
      refine lv_goto (tgt := 22) C.1.1 C.1.2.1 dB0_at_18 (by decide) ?_
      exact c_reti C hr hlk hrv hw hf rfl ⟨Nat.le_of_ble_eq_true rfl, Nat.le_of_ble_eq_true rfl⟩ dB0_at_22
abbrev cB0_empty : ByteArray := prog_2_method_6_code
abbrev yB0_empty : MethodName := ⟨"MidiDesk$Bytes", "empty", "()V"⟩
theorem kB0_empty : yB0_empty.cls ≠ "java/lang/invoke/MethodHandle" ∧ yB0_empty.cls ≠ "java/lang/invoke/VarHandle" ∧ (parseMethodDescriptor yB0_empty.desc).map (fun d => d.parameters.length) = some 0 := by decide +kernel
abbrev rB0_empty : Room := { frames := 0, cells := 0, slots := 0, locals := 0 }
theorem dB0_empty_0 : decode cB0_empty 0 = .ok (.aload_n 0, 1) := by decide +kernel
theorem dB0_empty_1 : decode cB0_empty 1 = .ok (.iconst 0, 1) := by decide +kernel
theorem dB0_empty_2 : decode cB0_empty 2 = .ok (.putfield 19, 3) := by decide +kernel
theorem dB0_empty_5 : decode cB0_empty 5 = .ok (.return_, 1) := by decide +kernel
def fB0_empty (h : cH) (z : cZ) : Option (cZ) := some (zU z 0 (0 : Int32))
set_option maxHeartbeats 4000000 in
set_option maxRecDepth 100000 in
theorem cB0_empty_met {l : Launch} {g : gT} {qq ad ea : Nat → Nat} {h : cH} {X : va_W} {z z' : cZ} (hf : fB0_empty h z = some z') : cMet l yB0_empty cB0_empty 1 none rB0_empty g qq ad ea h X z [.ref (qq 1)] (none) X z' := by
  refine c_entry (by decide) (Nat.le_of_ble_eq_true rfl) ?_
  intro p e s m args below meth c ls C hr hlk hnm hl hw
  have hrv : (none : Option Value) = none := rfl
  have C : mCx p m c cB0_empty 1 s args g "MidiDesk$Bytes" := C
  have hl : lv_has ls 1 [(0, .ref (qq 1))] := hl
  unfold fB0_empty at hf
  refine lv_aload_n C.1.1 C.1.2.1 dB0_empty_0 rfl (lv_at hl 0 rfl) ?_
  refine lv_iconst (v := (0 : Int32)) C.1.1 C.1.2.1 dB0_empty_1 (by decide) ?_
  refine cp_Bytes_Bytes_size_B0 C hw dB0_empty_2 (fun H locs hw => ?_)
  exact c_retv C hr hlk hrv hw hf rfl ⟨Nat.le_of_ble_eq_true rfl, Nat.le_of_ble_eq_true rfl⟩ dB0_empty_5
abbrev cB1_size : ByteArray := prog_2_method_2_code
abbrev yB1_size : MethodName := ⟨"MidiDesk$Bytes", "size", "()I"⟩
theorem kB1_size : yB1_size.cls ≠ "java/lang/invoke/MethodHandle" ∧ yB1_size.cls ≠ "java/lang/invoke/VarHandle" ∧ (parseMethodDescriptor yB1_size.desc).map (fun d => d.parameters.length) = some 0 := by decide +kernel
abbrev rB1_size : Room := { frames := 0, cells := 0, slots := 0, locals := 0 }
theorem dB1_size_0 : decode cB1_size 0 = .ok (.aload_n 0, 1) := by decide +kernel
theorem dB1_size_1 : decode cB1_size 1 = .ok (.getfield 19, 3) := by decide +kernel
theorem dB1_size_4 : decode cB1_size 4 = .ok (.ireturn, 1) := by decide +kernel
def fB1_size (h : cH) (z : cZ) : Option (Int32 × cZ) := some (zi z 1, z)
set_option maxHeartbeats 4000000 in
set_option maxRecDepth 100000 in
theorem cB1_size_met {l : Launch} {g : gT} {qq ad ea : Nat → Nat} {h : cH} {X : va_W} {z z' : cZ} {r' : Int32} (hf : fB1_size h z = some (r', z')) : cMet l yB1_size cB1_size 1 (some .int) rB1_size g qq ad ea h X z [.ref (qq 2)] (some (.int r')) X z' := by
  refine c_entry (by decide) (Nat.le_of_ble_eq_true rfl) ?_
  intro p e s m args below meth c ls C hr hlk hnm hl hw
  have hrv : (some (.int r') : Option Value) = some (.int r') := rfl
  have C : mCx p m c cB1_size 1 s args g "MidiDesk$Bytes" := C
  have hl : lv_has ls 1 [(0, .ref (qq 2))] := hl
  unfold fB1_size at hf
  refine lv_aload_n C.1.1 C.1.2.1 dB1_size_0 rfl (lv_at hl 0 rfl) ?_
  refine cg_Bytes_Bytes_size_B1 C hw dB1_size_1 ?_
  exact c_reti C hr hlk hrv hw hf rfl ⟨Nat.le_of_ble_eq_true rfl, Nat.le_of_ble_eq_true rfl⟩ dB1_size_4
abbrev cB1_at : ByteArray := prog_2_method_3_code
abbrev yB1_at : MethodName := ⟨"MidiDesk$Bytes", "at", "(I)I"⟩
theorem kB1_at : yB1_at.cls ≠ "java/lang/invoke/MethodHandle" ∧ yB1_at.cls ≠ "java/lang/invoke/VarHandle" ∧ (parseMethodDescriptor yB1_at.desc).map (fun d => d.parameters.length) = some 1 := by decide +kernel
abbrev rB1_at : Room := { frames := 0, cells := 0, slots := 0, locals := 0 }
theorem dB1_at_0 : decode cB1_at 0 = .ok (.iload_n 1, 1) := by decide +kernel
theorem dB1_at_1 : decode cB1_at 1 = .ok (.ifCond .lt 20, 3) := by decide +kernel
theorem dB1_at_4 : decode cB1_at 4 = .ok (.iload_n 1, 1) := by decide +kernel
theorem dB1_at_5 : decode cB1_at 5 = .ok (.aload_n 0, 1) := by decide +kernel
theorem dB1_at_6 : decode cB1_at 6 = .ok (.getfield 19, 3) := by decide +kernel
theorem dB1_at_9 : decode cB1_at 9 = .ok (.if_icmp .ge 12, 3) := by decide +kernel
theorem dB1_at_12 : decode cB1_at 12 = .ok (.aload_n 0, 1) := by decide +kernel
theorem dB1_at_13 : decode cB1_at 13 = .ok (.getfield 15, 3) := by decide +kernel
theorem dB1_at_16 : decode cB1_at 16 = .ok (.iload_n 1, 1) := by decide +kernel
theorem dB1_at_17 : decode cB1_at 17 = .ok (.iaload, 1) := by decide +kernel
theorem dB1_at_18 : decode cB1_at 18 = .ok (.goto 4, 3) := by decide +kernel
theorem dB1_at_21 : decode cB1_at 21 = .ok (.iconst (-1), 1) := by decide +kernel
theorem dB1_at_22 : decode cB1_at 22 = .ok (.ireturn, 1) := by decide +kernel
def fB1_at (h : cH) (z : cZ) (x1 : Int32) : Option (Int32 × cZ) := if x1 < 0 then (some ((-1 : Int32), z)) else (if (zi z 1) ≤ x1 then (some ((-1 : Int32), z)) else (if x1 < 0 ∨ h.1 1 ≤ x1.toNatClampNeg then none else (some (za z 1 x1.toNatClampNeg, z))))
set_option maxHeartbeats 4000000 in
set_option maxRecDepth 100000 in
theorem cB1_at_met {l : Launch} {g : gT} {qq ad ea : Nat → Nat} {h : cH} {X : va_W} {z z' : cZ} {x1 : Int32} {r' : Int32} (hf : fB1_at h z x1 = some (r', z')) : cMet l yB1_at cB1_at 2 (some .int) rB1_at g qq ad ea h X z [.ref (qq 2), .int x1] (some (.int r')) X z' := by
  refine c_entry (by decide) (Nat.le_of_ble_eq_true rfl) ?_
  intro p e s m args below meth c ls C hr hlk hnm hl hw
  have hrv : (some (.int r') : Option Value) = some (.int r') := rfl
  have C : mCx p m c cB1_at 2 s args g "MidiDesk$Bytes" := C
  have hl : lv_has ls 2 [(0, .ref (qq 2)), (1, .int x1)] := hl
  unfold fB1_at at hf
  refine lv_iload_n C.1.1 C.1.2.1 dB1_at_0 rfl (lv_at hl 1 rfl) ?_
  refine lv_if_lt (tgt := 21) C.1.1 C.1.2.1 dB1_at_1 (by decide) (fun c1 => ?_) (fun c1 => ?_)
  · have hf := ts_t hf c1
    refine lv_iconst (v := (-1 : Int32)) C.1.1 C.1.2.1 dB1_at_21 (by decide) ?_
    exact c_reti C hr hlk hrv hw hf rfl ⟨Nat.le_of_ble_eq_true rfl, Nat.le_of_ble_eq_true rfl⟩ dB1_at_22
  · have hf := ts_f hf c1
    refine lv_iload_n C.1.1 C.1.2.1 dB1_at_4 rfl (lv_at hl 1 rfl) ?_
    refine lv_aload_n C.1.1 C.1.2.1 dB1_at_5 rfl (lv_at hl 0 rfl) ?_
    refine cg_Bytes_Bytes_size_B1 C hw dB1_at_6 ?_
    refine lv_icmp_ge (tgt := 21) C.1.1 C.1.2.1 dB1_at_9 (by decide) (fun c2 => ?_) (fun c2 => ?_)
    · have hf := ts_t hf c2
      refine lv_iconst (v := (-1 : Int32)) C.1.1 C.1.2.1 dB1_at_21 (by decide) ?_
      exact c_reti C hr hlk hrv hw hf rfl ⟨Nat.le_of_ble_eq_true rfl, Nat.le_of_ble_eq_true rfl⟩ dB1_at_22
    · have hf := ts_f hf c2
      refine lv_aload_n C.1.1 C.1.2.1 dB1_at_12 rfl (lv_at hl 0 rfl) ?_
      refine cg_Bytes_Bytes_row_B1 C hw dB1_at_13 ?_
      refine lv_iload_n C.1.1 C.1.2.1 dB1_at_16 rfl (lv_at hl 1 rfl) ?_
      obtain ⟨h3, hf⟩ := ts_g hf
      refine ca_1 C hw h3 dB1_at_17 ?_
      refine lv_goto (tgt := 22) C.1.1 C.1.2.1 dB1_at_18 (by decide) ?_
      exact c_reti C hr hlk hrv hw hf rfl ⟨Nat.le_of_ble_eq_true rfl, Nat.le_of_ble_eq_true rfl⟩ dB1_at_22
abbrev cB1_change : ByteArray := prog_2_method_5_code
abbrev yB1_change : MethodName := ⟨"MidiDesk$Bytes", "change", "(II)V"⟩
theorem kB1_change : yB1_change.cls ≠ "java/lang/invoke/MethodHandle" ∧ yB1_change.cls ≠ "java/lang/invoke/VarHandle" ∧ (parseMethodDescriptor yB1_change.desc).map (fun d => d.parameters.length) = some 2 := by decide +kernel
abbrev rB1_change : Room := { frames := 0, cells := 0, slots := 0, locals := 0 }
theorem dB1_change_0 : decode cB1_change 0 = .ok (.iload_n 1, 1) := by decide +kernel
theorem dB1_change_1 : decode cB1_change 1 = .ok (.ifCond .lt 22, 3) := by decide +kernel
theorem dB1_change_4 : decode cB1_change 4 = .ok (.iload_n 1, 1) := by decide +kernel
theorem dB1_change_5 : decode cB1_change 5 = .ok (.aload_n 0, 1) := by decide +kernel
theorem dB1_change_6 : decode cB1_change 6 = .ok (.getfield 19, 3) := by decide +kernel
theorem dB1_change_9 : decode cB1_change 9 = .ok (.if_icmp .ge 14, 3) := by decide +kernel
theorem dB1_change_12 : decode cB1_change 12 = .ok (.aload_n 0, 1) := by decide +kernel
theorem dB1_change_13 : decode cB1_change 13 = .ok (.getfield 15, 3) := by decide +kernel
theorem dB1_change_16 : decode cB1_change 16 = .ok (.iload_n 1, 1) := by decide +kernel
theorem dB1_change_17 : decode cB1_change 17 = .ok (.iload_n 2, 1) := by decide +kernel
theorem dB1_change_18 : decode cB1_change 18 = .ok (.sipush 255, 3) := by decide +kernel
theorem dB1_change_21 : decode cB1_change 21 = .ok (.iand, 1) := by decide +kernel
theorem dB1_change_22 : decode cB1_change 22 = .ok (.iastore, 1) := by decide +kernel
theorem dB1_change_23 : decode cB1_change 23 = .ok (.return_, 1) := by decide +kernel
def fB1_change (h : cH) (z : cZ) (x1 : Int32) (x2 : Int32) : Option (cZ) := if x1 < 0 then (some z) else (if (zi z 1) ≤ x1 then (some z) else (if x1 < 0 ∨ h.1 1 ≤ x1.toNatClampNeg then none else (some (zA z 1 x1.toNatClampNeg (x2 &&& (255 : Int32))))))
set_option maxHeartbeats 4000000 in
set_option maxRecDepth 100000 in
theorem cB1_change_met {l : Launch} {g : gT} {qq ad ea : Nat → Nat} {h : cH} {X : va_W} {z z' : cZ} {x1 : Int32} {x2 : Int32} (hf : fB1_change h z x1 x2 = some z') : cMet l yB1_change cB1_change 3 none rB1_change g qq ad ea h X z [.ref (qq 2), .int x1, .int x2] (none) X z' := by
  refine c_entry (by decide) (Nat.le_of_ble_eq_true rfl) ?_
  intro p e s m args below meth c ls C hr hlk hnm hl hw
  have hrv : (none : Option Value) = none := rfl
  have C : mCx p m c cB1_change 3 s args g "MidiDesk$Bytes" := C
  have hl : lv_has ls 3 [(0, .ref (qq 2)), (1, .int x1), (2, .int x2)] := hl
  unfold fB1_change at hf
  refine lv_iload_n C.1.1 C.1.2.1 dB1_change_0 rfl (lv_at hl 1 rfl) ?_
  refine lv_if_lt (tgt := 23) C.1.1 C.1.2.1 dB1_change_1 (by decide) (fun c1 => ?_) (fun c1 => ?_)
  · have hf := ts_t hf c1
    exact c_retv C hr hlk hrv hw hf rfl ⟨Nat.le_of_ble_eq_true rfl, Nat.le_of_ble_eq_true rfl⟩ dB1_change_23
  · have hf := ts_f hf c1
    refine lv_iload_n C.1.1 C.1.2.1 dB1_change_4 rfl (lv_at hl 1 rfl) ?_
    refine lv_aload_n C.1.1 C.1.2.1 dB1_change_5 rfl (lv_at hl 0 rfl) ?_
    refine cg_Bytes_Bytes_size_B1 C hw dB1_change_6 ?_
    refine lv_icmp_ge (tgt := 23) C.1.1 C.1.2.1 dB1_change_9 (by decide) (fun c2 => ?_) (fun c2 => ?_)
    · have hf := ts_t hf c2
      exact c_retv C hr hlk hrv hw hf rfl ⟨Nat.le_of_ble_eq_true rfl, Nat.le_of_ble_eq_true rfl⟩ dB1_change_23
    · have hf := ts_f hf c2
      refine lv_aload_n C.1.1 C.1.2.1 dB1_change_12 rfl (lv_at hl 0 rfl) ?_
      refine cg_Bytes_Bytes_row_B1 C hw dB1_change_13 ?_
      refine lv_iload_n C.1.1 C.1.2.1 dB1_change_16 rfl (lv_at hl 1 rfl) ?_
      refine lv_iload_n C.1.1 C.1.2.1 dB1_change_17 rfl (lv_at hl 2 rfl) ?_
      refine lv_sipush (v := (255 : Int32)) C.1.1 C.1.2.1 dB1_change_18 (by decide) ?_
      refine lv_iand C.1.1 C.1.2.1 dB1_change_21 ?_
      obtain ⟨h3, hf⟩ := ts_g hf
      refine cs_1 C hw h3 dB1_change_22 (fun H locs hw => ?_)
      exact c_retv C hr hlk hrv hw hf rfl ⟨Nat.le_of_ble_eq_true rfl, Nat.le_of_ble_eq_true rfl⟩ dB1_change_23
abbrev cB1_empty : ByteArray := prog_2_method_6_code
abbrev yB1_empty : MethodName := ⟨"MidiDesk$Bytes", "empty", "()V"⟩
theorem kB1_empty : yB1_empty.cls ≠ "java/lang/invoke/MethodHandle" ∧ yB1_empty.cls ≠ "java/lang/invoke/VarHandle" ∧ (parseMethodDescriptor yB1_empty.desc).map (fun d => d.parameters.length) = some 0 := by decide +kernel
abbrev rB1_empty : Room := { frames := 0, cells := 0, slots := 0, locals := 0 }
theorem dB1_empty_0 : decode cB1_empty 0 = .ok (.aload_n 0, 1) := by decide +kernel
theorem dB1_empty_1 : decode cB1_empty 1 = .ok (.iconst 0, 1) := by decide +kernel
theorem dB1_empty_2 : decode cB1_empty 2 = .ok (.putfield 19, 3) := by decide +kernel
theorem dB1_empty_5 : decode cB1_empty 5 = .ok (.return_, 1) := by decide +kernel
def fB1_empty (h : cH) (z : cZ) : Option (cZ) := some (zU z 1 (0 : Int32))
set_option maxHeartbeats 4000000 in
set_option maxRecDepth 100000 in
theorem cB1_empty_met {l : Launch} {g : gT} {qq ad ea : Nat → Nat} {h : cH} {X : va_W} {z z' : cZ} (hf : fB1_empty h z = some z') : cMet l yB1_empty cB1_empty 1 none rB1_empty g qq ad ea h X z [.ref (qq 2)] (none) X z' := by
  refine c_entry (by decide) (Nat.le_of_ble_eq_true rfl) ?_
  intro p e s m args below meth c ls C hr hlk hnm hl hw
  have hrv : (none : Option Value) = none := rfl
  have C : mCx p m c cB1_empty 1 s args g "MidiDesk$Bytes" := C
  have hl : lv_has ls 1 [(0, .ref (qq 2))] := hl
  unfold fB1_empty at hf
  refine lv_aload_n C.1.1 C.1.2.1 dB1_empty_0 rfl (lv_at hl 0 rfl) ?_
  refine lv_iconst (v := (0 : Int32)) C.1.1 C.1.2.1 dB1_empty_1 (by decide) ?_
  refine cp_Bytes_Bytes_size_B1 C hw dB1_empty_2 (fun H locs hw => ?_)
  exact c_retv C hr hlk hrv hw hf rfl ⟨Nat.le_of_ble_eq_true rfl, Nat.le_of_ble_eq_true rfl⟩ dB1_empty_5
abbrev cB2_size : ByteArray := prog_2_method_2_code
abbrev yB2_size : MethodName := ⟨"MidiDesk$Bytes", "size", "()I"⟩
theorem kB2_size : yB2_size.cls ≠ "java/lang/invoke/MethodHandle" ∧ yB2_size.cls ≠ "java/lang/invoke/VarHandle" ∧ (parseMethodDescriptor yB2_size.desc).map (fun d => d.parameters.length) = some 0 := by decide +kernel
abbrev rB2_size : Room := { frames := 0, cells := 0, slots := 0, locals := 0 }
theorem dB2_size_0 : decode cB2_size 0 = .ok (.aload_n 0, 1) := by decide +kernel
theorem dB2_size_1 : decode cB2_size 1 = .ok (.getfield 19, 3) := by decide +kernel
theorem dB2_size_4 : decode cB2_size 4 = .ok (.ireturn, 1) := by decide +kernel
def fB2_size (h : cH) (z : cZ) : Option (Int32 × cZ) := some (zi z 2, z)
set_option maxHeartbeats 4000000 in
set_option maxRecDepth 100000 in
theorem cB2_size_met {l : Launch} {g : gT} {qq ad ea : Nat → Nat} {h : cH} {X : va_W} {z z' : cZ} {r' : Int32} (hf : fB2_size h z = some (r', z')) : cMet l yB2_size cB2_size 1 (some .int) rB2_size g qq ad ea h X z [.ref (qq 3)] (some (.int r')) X z' := by
  refine c_entry (by decide) (Nat.le_of_ble_eq_true rfl) ?_
  intro p e s m args below meth c ls C hr hlk hnm hl hw
  have hrv : (some (.int r') : Option Value) = some (.int r') := rfl
  have C : mCx p m c cB2_size 1 s args g "MidiDesk$Bytes" := C
  have hl : lv_has ls 1 [(0, .ref (qq 3))] := hl
  unfold fB2_size at hf
  refine lv_aload_n C.1.1 C.1.2.1 dB2_size_0 rfl (lv_at hl 0 rfl) ?_
  refine cg_Bytes_Bytes_size_B2 C hw dB2_size_1 ?_
  exact c_reti C hr hlk hrv hw hf rfl ⟨Nat.le_of_ble_eq_true rfl, Nat.le_of_ble_eq_true rfl⟩ dB2_size_4
abbrev cB2_at : ByteArray := prog_2_method_3_code
abbrev yB2_at : MethodName := ⟨"MidiDesk$Bytes", "at", "(I)I"⟩
theorem kB2_at : yB2_at.cls ≠ "java/lang/invoke/MethodHandle" ∧ yB2_at.cls ≠ "java/lang/invoke/VarHandle" ∧ (parseMethodDescriptor yB2_at.desc).map (fun d => d.parameters.length) = some 1 := by decide +kernel
abbrev rB2_at : Room := { frames := 0, cells := 0, slots := 0, locals := 0 }
theorem dB2_at_0 : decode cB2_at 0 = .ok (.iload_n 1, 1) := by decide +kernel
theorem dB2_at_1 : decode cB2_at 1 = .ok (.ifCond .lt 20, 3) := by decide +kernel
theorem dB2_at_4 : decode cB2_at 4 = .ok (.iload_n 1, 1) := by decide +kernel
theorem dB2_at_5 : decode cB2_at 5 = .ok (.aload_n 0, 1) := by decide +kernel
theorem dB2_at_6 : decode cB2_at 6 = .ok (.getfield 19, 3) := by decide +kernel
theorem dB2_at_9 : decode cB2_at 9 = .ok (.if_icmp .ge 12, 3) := by decide +kernel
theorem dB2_at_12 : decode cB2_at 12 = .ok (.aload_n 0, 1) := by decide +kernel
theorem dB2_at_13 : decode cB2_at 13 = .ok (.getfield 15, 3) := by decide +kernel
theorem dB2_at_16 : decode cB2_at 16 = .ok (.iload_n 1, 1) := by decide +kernel
theorem dB2_at_17 : decode cB2_at 17 = .ok (.iaload, 1) := by decide +kernel
theorem dB2_at_18 : decode cB2_at 18 = .ok (.goto 4, 3) := by decide +kernel
theorem dB2_at_21 : decode cB2_at 21 = .ok (.iconst (-1), 1) := by decide +kernel
theorem dB2_at_22 : decode cB2_at 22 = .ok (.ireturn, 1) := by decide +kernel
def fB2_at (h : cH) (z : cZ) (x1 : Int32) : Option (Int32 × cZ) := if x1 < 0 then (some ((-1 : Int32), z)) else (if (zi z 2) ≤ x1 then (some ((-1 : Int32), z)) else (if x1 < 0 ∨ h.1 2 ≤ x1.toNatClampNeg then none else (some (za z 2 x1.toNatClampNeg, z))))
set_option maxHeartbeats 4000000 in
set_option maxRecDepth 100000 in
theorem cB2_at_met {l : Launch} {g : gT} {qq ad ea : Nat → Nat} {h : cH} {X : va_W} {z z' : cZ} {x1 : Int32} {r' : Int32} (hf : fB2_at h z x1 = some (r', z')) : cMet l yB2_at cB2_at 2 (some .int) rB2_at g qq ad ea h X z [.ref (qq 3), .int x1] (some (.int r')) X z' := by
  refine c_entry (by decide) (Nat.le_of_ble_eq_true rfl) ?_
  intro p e s m args below meth c ls C hr hlk hnm hl hw
  have hrv : (some (.int r') : Option Value) = some (.int r') := rfl
  have C : mCx p m c cB2_at 2 s args g "MidiDesk$Bytes" := C
  have hl : lv_has ls 2 [(0, .ref (qq 3)), (1, .int x1)] := hl
  unfold fB2_at at hf
  refine lv_iload_n C.1.1 C.1.2.1 dB2_at_0 rfl (lv_at hl 1 rfl) ?_
  refine lv_if_lt (tgt := 21) C.1.1 C.1.2.1 dB2_at_1 (by decide) (fun c1 => ?_) (fun c1 => ?_)
  · have hf := ts_t hf c1
    refine lv_iconst (v := (-1 : Int32)) C.1.1 C.1.2.1 dB2_at_21 (by decide) ?_
    exact c_reti C hr hlk hrv hw hf rfl ⟨Nat.le_of_ble_eq_true rfl, Nat.le_of_ble_eq_true rfl⟩ dB2_at_22
  · have hf := ts_f hf c1
    refine lv_iload_n C.1.1 C.1.2.1 dB2_at_4 rfl (lv_at hl 1 rfl) ?_
    refine lv_aload_n C.1.1 C.1.2.1 dB2_at_5 rfl (lv_at hl 0 rfl) ?_
    refine cg_Bytes_Bytes_size_B2 C hw dB2_at_6 ?_
    refine lv_icmp_ge (tgt := 21) C.1.1 C.1.2.1 dB2_at_9 (by decide) (fun c2 => ?_) (fun c2 => ?_)
    · have hf := ts_t hf c2
      refine lv_iconst (v := (-1 : Int32)) C.1.1 C.1.2.1 dB2_at_21 (by decide) ?_
      exact c_reti C hr hlk hrv hw hf rfl ⟨Nat.le_of_ble_eq_true rfl, Nat.le_of_ble_eq_true rfl⟩ dB2_at_22
    · have hf := ts_f hf c2
      refine lv_aload_n C.1.1 C.1.2.1 dB2_at_12 rfl (lv_at hl 0 rfl) ?_
      refine cg_Bytes_Bytes_row_B2 C hw dB2_at_13 ?_
      refine lv_iload_n C.1.1 C.1.2.1 dB2_at_16 rfl (lv_at hl 1 rfl) ?_
      obtain ⟨h3, hf⟩ := ts_g hf
      refine ca_2 C hw h3 dB2_at_17 ?_
      refine lv_goto (tgt := 22) C.1.1 C.1.2.1 dB2_at_18 (by decide) ?_
      exact c_reti C hr hlk hrv hw hf rfl ⟨Nat.le_of_ble_eq_true rfl, Nat.le_of_ble_eq_true rfl⟩ dB2_at_22
abbrev cB2_empty : ByteArray := prog_2_method_6_code
abbrev yB2_empty : MethodName := ⟨"MidiDesk$Bytes", "empty", "()V"⟩
theorem kB2_empty : yB2_empty.cls ≠ "java/lang/invoke/MethodHandle" ∧ yB2_empty.cls ≠ "java/lang/invoke/VarHandle" ∧ (parseMethodDescriptor yB2_empty.desc).map (fun d => d.parameters.length) = some 0 := by decide +kernel
abbrev rB2_empty : Room := { frames := 0, cells := 0, slots := 0, locals := 0 }
theorem dB2_empty_0 : decode cB2_empty 0 = .ok (.aload_n 0, 1) := by decide +kernel
theorem dB2_empty_1 : decode cB2_empty 1 = .ok (.iconst 0, 1) := by decide +kernel
theorem dB2_empty_2 : decode cB2_empty 2 = .ok (.putfield 19, 3) := by decide +kernel
theorem dB2_empty_5 : decode cB2_empty 5 = .ok (.return_, 1) := by decide +kernel
def fB2_empty (h : cH) (z : cZ) : Option (cZ) := some (zU z 2 (0 : Int32))
set_option maxHeartbeats 4000000 in
set_option maxRecDepth 100000 in
theorem cB2_empty_met {l : Launch} {g : gT} {qq ad ea : Nat → Nat} {h : cH} {X : va_W} {z z' : cZ} (hf : fB2_empty h z = some z') : cMet l yB2_empty cB2_empty 1 none rB2_empty g qq ad ea h X z [.ref (qq 3)] (none) X z' := by
  refine c_entry (by decide) (Nat.le_of_ble_eq_true rfl) ?_
  intro p e s m args below meth c ls C hr hlk hnm hl hw
  have hrv : (none : Option Value) = none := rfl
  have C : mCx p m c cB2_empty 1 s args g "MidiDesk$Bytes" := C
  have hl : lv_has ls 1 [(0, .ref (qq 3))] := hl
  unfold fB2_empty at hf
  refine lv_aload_n C.1.1 C.1.2.1 dB2_empty_0 rfl (lv_at hl 0 rfl) ?_
  refine lv_iconst (v := (0 : Int32)) C.1.1 C.1.2.1 dB2_empty_1 (by decide) ?_
  refine cp_Bytes_Bytes_size_B2 C hw dB2_empty_2 (fun H locs hw => ?_)
  exact c_retv C hr hlk hrv hw hf rfl ⟨Nat.le_of_ble_eq_true rfl, Nat.le_of_ble_eq_true rfl⟩ dB2_empty_5
abbrev cE_isChannelEvent : ByteArray := prog_3_method_2_code
abbrev yE_isChannelEvent : MethodName := ⟨"MidiDesk$Event", "isChannelEvent", "()Z"⟩
theorem kE_isChannelEvent : yE_isChannelEvent.cls ≠ "java/lang/invoke/MethodHandle" ∧ yE_isChannelEvent.cls ≠ "java/lang/invoke/VarHandle" ∧ (parseMethodDescriptor yE_isChannelEvent.desc).map (fun d => d.parameters.length) = some 0 := by decide +kernel
abbrev rE_isChannelEvent : Room := { frames := 0, cells := 0, slots := 0, locals := 0 }
theorem dE_isChannelEvent_0 : decode cE_isChannelEvent 0 = .ok (.aload_n 0, 1) := by decide +kernel
theorem dE_isChannelEvent_1 : decode cE_isChannelEvent 1 = .ok (.getfield 9, 3) := by decide +kernel
theorem dE_isChannelEvent_4 : decode cE_isChannelEvent 4 = .ok (.sipush 240, 3) := by decide +kernel
theorem dE_isChannelEvent_7 : decode cE_isChannelEvent 7 = .ok (.if_icmp .ge 7, 3) := by decide +kernel
theorem dE_isChannelEvent_10 : decode cE_isChannelEvent 10 = .ok (.iconst 1, 1) := by decide +kernel
theorem dE_isChannelEvent_11 : decode cE_isChannelEvent 11 = .ok (.goto 4, 3) := by decide +kernel
theorem dE_isChannelEvent_14 : decode cE_isChannelEvent 14 = .ok (.iconst 0, 1) := by decide +kernel
theorem dE_isChannelEvent_15 : decode cE_isChannelEvent 15 = .ok (.ireturn, 1) := by decide +kernel
def fE_isChannelEvent (h : cH) (z : cZ) (x0 : Nat) : Option (Int32 × cZ) := if h.2.1 ≤ x0 then none else (if (240 : Int32) ≤ (ze z x0 2) then (some ((0 : Int32), z)) else (some ((1 : Int32), z)))
set_option maxHeartbeats 4000000 in
set_option maxRecDepth 100000 in
theorem cE_isChannelEvent_met {l : Launch} {g : gT} {qq ad ea : Nat → Nat} {h : cH} {X : va_W} {z z' : cZ} {x0 : Nat} {r' : Int32} (hf : fE_isChannelEvent h z x0 = some (r', z')) : cMet l yE_isChannelEvent cE_isChannelEvent 1 (some .boolean) rE_isChannelEvent g qq ad ea h X z [.ref (ea x0)] (some (.int r')) X z' := by
  refine c_entry (by decide) (Nat.le_of_ble_eq_true rfl) ?_
  intro p e s m args below meth c ls C hr hlk hnm hl hw
  have hrv : (some (.int r') : Option Value) = some (.int r') := rfl
  have C : mCx p m c cE_isChannelEvent 1 s args g "MidiDesk$Event" := C
  have hl : lv_has ls 1 [(0, .ref (ea x0))] := hl
  unfold fE_isChannelEvent at hf
  refine lv_aload_n C.1.1 C.1.2.1 dE_isChannelEvent_0 rfl (lv_at hl 0 rfl) ?_
  obtain ⟨hb1, hf⟩ := ts_g hf
  have hb1 := Nat.lt_of_not_le hb1
  refine cgt_Event_Event_status C hw hb1 dE_isChannelEvent_1 ?_
  refine lv_sipush (v := (240 : Int32)) C.1.1 C.1.2.1 dE_isChannelEvent_4 (by decide) ?_
  refine lv_icmp_ge (tgt := 14) C.1.1 C.1.2.1 dE_isChannelEvent_7 (by decide) (fun c2 => ?_) (fun c2 => ?_)
  · have hf := ts_t hf c2
    refine lv_iconst (v := (0 : Int32)) C.1.1 C.1.2.1 dE_isChannelEvent_14 (by decide) ?_
    exact c_retz C hr hlk hrv hw (Or.inl rfl) hf rfl ⟨Nat.le_of_ble_eq_true rfl, Nat.le_of_ble_eq_true rfl⟩ dE_isChannelEvent_15
  · have hf := ts_f hf c2
    refine lv_iconst (v := (1 : Int32)) C.1.1 C.1.2.1 dE_isChannelEvent_10 (by decide) ?_
    refine lv_goto (tgt := 15) C.1.1 C.1.2.1 dE_isChannelEvent_11 (by decide) ?_
    exact c_retz C hr hlk hrv hw (Or.inr rfl) hf rfl ⟨Nat.le_of_ble_eq_true rfl, Nat.le_of_ble_eq_true rfl⟩ dE_isChannelEvent_15
abbrev cE_isTempo : ByteArray := prog_3_method_3_code
abbrev yE_isTempo : MethodName := ⟨"MidiDesk$Event", "isTempo", "()Z"⟩
theorem kE_isTempo : yE_isTempo.cls ≠ "java/lang/invoke/MethodHandle" ∧ yE_isTempo.cls ≠ "java/lang/invoke/VarHandle" ∧ (parseMethodDescriptor yE_isTempo.desc).map (fun d => d.parameters.length) = some 0 := by decide +kernel
abbrev rE_isTempo : Room := { frames := 0, cells := 0, slots := 0, locals := 0 }
theorem dE_isTempo_0 : decode cE_isTempo 0 = .ok (.aload_n 0, 1) := by decide +kernel
theorem dE_isTempo_1 : decode cE_isTempo 1 = .ok (.getfield 9, 3) := by decide +kernel
theorem dE_isTempo_4 : decode cE_isTempo 4 = .ok (.sipush 255, 3) := by decide +kernel
theorem dE_isTempo_7 : decode cE_isTempo 7 = .ok (.if_icmp .ne 16, 3) := by decide +kernel
theorem dE_isTempo_10 : decode cE_isTempo 10 = .ok (.aload_n 0, 1) := by decide +kernel
theorem dE_isTempo_11 : decode cE_isTempo 11 = .ok (.getfield 15, 3) := by decide +kernel
theorem dE_isTempo_14 : decode cE_isTempo 14 = .ok (.bipush 81, 2) := by decide +kernel
theorem dE_isTempo_16 : decode cE_isTempo 16 = .ok (.if_icmp .ne 7, 3) := by decide +kernel
theorem dE_isTempo_19 : decode cE_isTempo 19 = .ok (.iconst 1, 1) := by decide +kernel
theorem dE_isTempo_20 : decode cE_isTempo 20 = .ok (.goto 4, 3) := by decide +kernel
theorem dE_isTempo_23 : decode cE_isTempo 23 = .ok (.iconst 0, 1) := by decide +kernel
theorem dE_isTempo_24 : decode cE_isTempo 24 = .ok (.ireturn, 1) := by decide +kernel
def fE_isTempo (h : cH) (z : cZ) (x0 : Nat) : Option (Int32 × cZ) := if h.2.1 ≤ x0 then none else (if (ze z x0 2) = (255 : Int32) then (if (ze z x0 3) = (81 : Int32) then (some ((1 : Int32), z)) else (some ((0 : Int32), z))) else (some ((0 : Int32), z)))
set_option maxHeartbeats 4000000 in
set_option maxRecDepth 100000 in
theorem cE_isTempo_met {l : Launch} {g : gT} {qq ad ea : Nat → Nat} {h : cH} {X : va_W} {z z' : cZ} {x0 : Nat} {r' : Int32} (hf : fE_isTempo h z x0 = some (r', z')) : cMet l yE_isTempo cE_isTempo 1 (some .boolean) rE_isTempo g qq ad ea h X z [.ref (ea x0)] (some (.int r')) X z' := by
  refine c_entry (by decide) (Nat.le_of_ble_eq_true rfl) ?_
  intro p e s m args below meth c ls C hr hlk hnm hl hw
  have hrv : (some (.int r') : Option Value) = some (.int r') := rfl
  have C : mCx p m c cE_isTempo 1 s args g "MidiDesk$Event" := C
  have hl : lv_has ls 1 [(0, .ref (ea x0))] := hl
  unfold fE_isTempo at hf
  refine lv_aload_n C.1.1 C.1.2.1 dE_isTempo_0 rfl (lv_at hl 0 rfl) ?_
  obtain ⟨hb1, hf⟩ := ts_g hf
  have hb1 := Nat.lt_of_not_le hb1
  refine cgt_Event_Event_status C hw hb1 dE_isTempo_1 ?_
  refine lv_sipush (v := (255 : Int32)) C.1.1 C.1.2.1 dE_isTempo_4 (by decide) ?_
  refine lv_icmp_ne (tgt := 23) C.1.1 C.1.2.1 dE_isTempo_7 (by decide) (fun c2 => ?_) (fun c2 => ?_)
  · have hf := ts_f hf c2
    refine lv_iconst (v := (0 : Int32)) C.1.1 C.1.2.1 dE_isTempo_23 (by decide) ?_
    exact c_retz C hr hlk hrv hw (Or.inl rfl) hf rfl ⟨Nat.le_of_ble_eq_true rfl, Nat.le_of_ble_eq_true rfl⟩ dE_isTempo_24
  · have hf := ts_t hf c2
    refine lv_aload_n C.1.1 C.1.2.1 dE_isTempo_10 rfl (lv_at hl 0 rfl) ?_
    refine cgt_Event_Event_first C hw hb1 dE_isTempo_11 ?_
    refine lv_bipush (v := (81 : Int32)) C.1.1 C.1.2.1 dE_isTempo_14 (by decide) ?_
    refine lv_icmp_ne (tgt := 23) C.1.1 C.1.2.1 dE_isTempo_16 (by decide) (fun c3 => ?_) (fun c3 => ?_)
    · have hf := ts_f hf c3
      refine lv_iconst (v := (0 : Int32)) C.1.1 C.1.2.1 dE_isTempo_23 (by decide) ?_
      exact c_retz C hr hlk hrv hw (Or.inl rfl) hf rfl ⟨Nat.le_of_ble_eq_true rfl, Nat.le_of_ble_eq_true rfl⟩ dE_isTempo_24
    · have hf := ts_t hf c3
      refine lv_iconst (v := (1 : Int32)) C.1.1 C.1.2.1 dE_isTempo_19 (by decide) ?_
      refine lv_goto (tgt := 24) C.1.1 C.1.2.1 dE_isTempo_20 (by decide) ?_
      exact c_retz C hr hlk hrv hw (Or.inr rfl) hf rfl ⟨Nat.le_of_ble_eq_true rfl, Nat.le_of_ble_eq_true rfl⟩ dE_isTempo_24
abbrev cE_isOfNote : ByteArray := prog_3_method_4_code
abbrev yE_isOfNote : MethodName := ⟨"MidiDesk$Event", "isOfNote", "()Z"⟩
theorem kE_isOfNote : yE_isOfNote.cls ≠ "java/lang/invoke/MethodHandle" ∧ yE_isOfNote.cls ≠ "java/lang/invoke/VarHandle" ∧ (parseMethodDescriptor yE_isOfNote.desc).map (fun d => d.parameters.length) = some 0 := by decide +kernel
abbrev rE_isOfNote : Room := { frames := 0, cells := 0, slots := 0, locals := 0 }
theorem dE_isOfNote_0 : decode cE_isOfNote 0 = .ok (.aload_n 0, 1) := by decide +kernel
theorem dE_isOfNote_1 : decode cE_isOfNote 1 = .ok (.getfield 9, 3) := by decide +kernel
theorem dE_isOfNote_4 : decode cE_isOfNote 4 = .ok (.sipush 176, 3) := by decide +kernel
theorem dE_isOfNote_7 : decode cE_isOfNote 7 = .ok (.if_icmp .ge 7, 3) := by decide +kernel
theorem dE_isOfNote_10 : decode cE_isOfNote 10 = .ok (.iconst 1, 1) := by decide +kernel
theorem dE_isOfNote_11 : decode cE_isOfNote 11 = .ok (.goto 4, 3) := by decide +kernel
theorem dE_isOfNote_14 : decode cE_isOfNote 14 = .ok (.iconst 0, 1) := by decide +kernel
theorem dE_isOfNote_15 : decode cE_isOfNote 15 = .ok (.ireturn, 1) := by decide +kernel
def fE_isOfNote (h : cH) (z : cZ) (x0 : Nat) : Option (Int32 × cZ) := if h.2.1 ≤ x0 then none else (if (176 : Int32) ≤ (ze z x0 2) then (some ((0 : Int32), z)) else (some ((1 : Int32), z)))
set_option maxHeartbeats 4000000 in
set_option maxRecDepth 100000 in
theorem cE_isOfNote_met {l : Launch} {g : gT} {qq ad ea : Nat → Nat} {h : cH} {X : va_W} {z z' : cZ} {x0 : Nat} {r' : Int32} (hf : fE_isOfNote h z x0 = some (r', z')) : cMet l yE_isOfNote cE_isOfNote 1 (some .boolean) rE_isOfNote g qq ad ea h X z [.ref (ea x0)] (some (.int r')) X z' := by
  refine c_entry (by decide) (Nat.le_of_ble_eq_true rfl) ?_
  intro p e s m args below meth c ls C hr hlk hnm hl hw
  have hrv : (some (.int r') : Option Value) = some (.int r') := rfl
  have C : mCx p m c cE_isOfNote 1 s args g "MidiDesk$Event" := C
  have hl : lv_has ls 1 [(0, .ref (ea x0))] := hl
  unfold fE_isOfNote at hf
  refine lv_aload_n C.1.1 C.1.2.1 dE_isOfNote_0 rfl (lv_at hl 0 rfl) ?_
  obtain ⟨hb1, hf⟩ := ts_g hf
  have hb1 := Nat.lt_of_not_le hb1
  refine cgt_Event_Event_status C hw hb1 dE_isOfNote_1 ?_
  refine lv_sipush (v := (176 : Int32)) C.1.1 C.1.2.1 dE_isOfNote_4 (by decide) ?_
  refine lv_icmp_ge (tgt := 14) C.1.1 C.1.2.1 dE_isOfNote_7 (by decide) (fun c2 => ?_) (fun c2 => ?_)
  · have hf := ts_t hf c2
    refine lv_iconst (v := (0 : Int32)) C.1.1 C.1.2.1 dE_isOfNote_14 (by decide) ?_
    exact c_retz C hr hlk hrv hw (Or.inl rfl) hf rfl ⟨Nat.le_of_ble_eq_true rfl, Nat.le_of_ble_eq_true rfl⟩ dE_isOfNote_15
  · have hf := ts_f hf c2
    refine lv_iconst (v := (1 : Int32)) C.1.1 C.1.2.1 dE_isOfNote_10 (by decide) ?_
    refine lv_goto (tgt := 15) C.1.1 C.1.2.1 dE_isOfNote_11 (by decide) ?_
    exact c_retz C hr hlk hrv hw (Or.inr rfl) hf rfl ⟨Nat.le_of_ble_eq_true rfl, Nat.le_of_ble_eq_true rfl⟩ dE_isOfNote_15
abbrev cE_beginsNote : ByteArray := prog_3_method_5_code
abbrev yE_beginsNote : MethodName := ⟨"MidiDesk$Event", "beginsNote", "()Z"⟩
theorem kE_beginsNote : yE_beginsNote.cls ≠ "java/lang/invoke/MethodHandle" ∧ yE_beginsNote.cls ≠ "java/lang/invoke/VarHandle" ∧ (parseMethodDescriptor yE_beginsNote.desc).map (fun d => d.parameters.length) = some 0 := by decide +kernel
abbrev rE_beginsNote : Room := { frames := 0, cells := 0, slots := 0, locals := 0 }
theorem dE_beginsNote_0 : decode cE_beginsNote 0 = .ok (.aload_n 0, 1) := by decide +kernel
theorem dE_beginsNote_1 : decode cE_beginsNote 1 = .ok (.getfield 9, 3) := by decide +kernel
theorem dE_beginsNote_4 : decode cE_beginsNote 4 = .ok (.sipush 240, 3) := by decide +kernel
theorem dE_beginsNote_7 : decode cE_beginsNote 7 = .ok (.iand, 1) := by decide +kernel
theorem dE_beginsNote_8 : decode cE_beginsNote 8 = .ok (.sipush 144, 3) := by decide +kernel
theorem dE_beginsNote_11 : decode cE_beginsNote 11 = .ok (.if_icmp .ne 14, 3) := by decide +kernel
theorem dE_beginsNote_14 : decode cE_beginsNote 14 = .ok (.aload_n 0, 1) := by decide +kernel
theorem dE_beginsNote_15 : decode cE_beginsNote 15 = .ok (.getfield 18, 3) := by decide +kernel
theorem dE_beginsNote_18 : decode cE_beginsNote 18 = .ok (.ifCond .le 7, 3) := by decide +kernel
theorem dE_beginsNote_21 : decode cE_beginsNote 21 = .ok (.iconst 1, 1) := by decide +kernel
theorem dE_beginsNote_22 : decode cE_beginsNote 22 = .ok (.goto 4, 3) := by decide +kernel
theorem dE_beginsNote_25 : decode cE_beginsNote 25 = .ok (.iconst 0, 1) := by decide +kernel
theorem dE_beginsNote_26 : decode cE_beginsNote 26 = .ok (.ireturn, 1) := by decide +kernel
def fE_beginsNote (h : cH) (z : cZ) (x0 : Nat) : Option (Int32 × cZ) := if h.2.1 ≤ x0 then none else (if ((ze z x0 2) &&& (240 : Int32)) = (144 : Int32) then (if (ze z x0 4) ≤ 0 then (some ((0 : Int32), z)) else (some ((1 : Int32), z))) else (some ((0 : Int32), z)))
set_option maxHeartbeats 4000000 in
set_option maxRecDepth 100000 in
theorem cE_beginsNote_met {l : Launch} {g : gT} {qq ad ea : Nat → Nat} {h : cH} {X : va_W} {z z' : cZ} {x0 : Nat} {r' : Int32} (hf : fE_beginsNote h z x0 = some (r', z')) : cMet l yE_beginsNote cE_beginsNote 1 (some .boolean) rE_beginsNote g qq ad ea h X z [.ref (ea x0)] (some (.int r')) X z' := by
  refine c_entry (by decide) (Nat.le_of_ble_eq_true rfl) ?_
  intro p e s m args below meth c ls C hr hlk hnm hl hw
  have hrv : (some (.int r') : Option Value) = some (.int r') := rfl
  have C : mCx p m c cE_beginsNote 1 s args g "MidiDesk$Event" := C
  have hl : lv_has ls 1 [(0, .ref (ea x0))] := hl
  unfold fE_beginsNote at hf
  refine lv_aload_n C.1.1 C.1.2.1 dE_beginsNote_0 rfl (lv_at hl 0 rfl) ?_
  obtain ⟨hb1, hf⟩ := ts_g hf
  have hb1 := Nat.lt_of_not_le hb1
  refine cgt_Event_Event_status C hw hb1 dE_beginsNote_1 ?_
  refine lv_sipush (v := (240 : Int32)) C.1.1 C.1.2.1 dE_beginsNote_4 (by decide) ?_
  refine lv_iand C.1.1 C.1.2.1 dE_beginsNote_7 ?_
  refine lv_sipush (v := (144 : Int32)) C.1.1 C.1.2.1 dE_beginsNote_8 (by decide) ?_
  refine lv_icmp_ne (tgt := 25) C.1.1 C.1.2.1 dE_beginsNote_11 (by decide) (fun c2 => ?_) (fun c2 => ?_)
  · have hf := ts_f hf c2
    refine lv_iconst (v := (0 : Int32)) C.1.1 C.1.2.1 dE_beginsNote_25 (by decide) ?_
    exact c_retz C hr hlk hrv hw (Or.inl rfl) hf rfl ⟨Nat.le_of_ble_eq_true rfl, Nat.le_of_ble_eq_true rfl⟩ dE_beginsNote_26
  · have hf := ts_t hf c2
    refine lv_aload_n C.1.1 C.1.2.1 dE_beginsNote_14 rfl (lv_at hl 0 rfl) ?_
    refine cgt_Event_Event_second C hw hb1 dE_beginsNote_15 ?_
    refine lv_if_le (tgt := 25) C.1.1 C.1.2.1 dE_beginsNote_18 (by decide) (fun c3 => ?_) (fun c3 => ?_)
    · have hf := ts_t hf c3
      refine lv_iconst (v := (0 : Int32)) C.1.1 C.1.2.1 dE_beginsNote_25 (by decide) ?_
      exact c_retz C hr hlk hrv hw (Or.inl rfl) hf rfl ⟨Nat.le_of_ble_eq_true rfl, Nat.le_of_ble_eq_true rfl⟩ dE_beginsNote_26
    · have hf := ts_f hf c3
      refine lv_iconst (v := (1 : Int32)) C.1.1 C.1.2.1 dE_beginsNote_21 (by decide) ?_
      refine lv_goto (tgt := 26) C.1.1 C.1.2.1 dE_beginsNote_22 (by decide) ?_
      exact c_retz C hr hlk hrv hw (Or.inr rfl) hf rfl ⟨Nat.le_of_ble_eq_true rfl, Nat.le_of_ble_eq_true rfl⟩ dE_beginsNote_26
abbrev cE_endsNote : ByteArray := prog_3_method_6_code
abbrev yE_endsNote : MethodName := ⟨"MidiDesk$Event", "endsNote", "()Z"⟩
theorem kE_endsNote : yE_endsNote.cls ≠ "java/lang/invoke/MethodHandle" ∧ yE_endsNote.cls ≠ "java/lang/invoke/VarHandle" ∧ (parseMethodDescriptor yE_endsNote.desc).map (fun d => d.parameters.length) = some 0 := by decide +kernel
abbrev rE_endsNote : Room := { frames := 0, cells := 0, slots := 0, locals := 0 }
theorem dE_endsNote_0 : decode cE_endsNote 0 = .ok (.aload_n 0, 1) := by decide +kernel
theorem dE_endsNote_1 : decode cE_endsNote 1 = .ok (.getfield 9, 3) := by decide +kernel
theorem dE_endsNote_4 : decode cE_endsNote 4 = .ok (.sipush 240, 3) := by decide +kernel
theorem dE_endsNote_7 : decode cE_endsNote 7 = .ok (.iand, 1) := by decide +kernel
theorem dE_endsNote_8 : decode cE_endsNote 8 = .ok (.istore_n 1, 1) := by decide +kernel
theorem dE_endsNote_9 : decode cE_endsNote 9 = .ok (.iload_n 1, 1) := by decide +kernel
theorem dE_endsNote_10 : decode cE_endsNote 10 = .ok (.sipush 128, 3) := by decide +kernel
theorem dE_endsNote_13 : decode cE_endsNote 13 = .ok (.if_icmp .eq 17, 3) := by decide +kernel
theorem dE_endsNote_16 : decode cE_endsNote 16 = .ok (.iload_n 1, 1) := by decide +kernel
theorem dE_endsNote_17 : decode cE_endsNote 17 = .ok (.sipush 144, 3) := by decide +kernel
theorem dE_endsNote_20 : decode cE_endsNote 20 = .ok (.if_icmp .ne 14, 3) := by decide +kernel
theorem dE_endsNote_23 : decode cE_endsNote 23 = .ok (.aload_n 0, 1) := by decide +kernel
theorem dE_endsNote_24 : decode cE_endsNote 24 = .ok (.getfield 18, 3) := by decide +kernel
theorem dE_endsNote_27 : decode cE_endsNote 27 = .ok (.ifCond .ne 7, 3) := by decide +kernel
theorem dE_endsNote_30 : decode cE_endsNote 30 = .ok (.iconst 1, 1) := by decide +kernel
theorem dE_endsNote_31 : decode cE_endsNote 31 = .ok (.goto 4, 3) := by decide +kernel
theorem dE_endsNote_34 : decode cE_endsNote 34 = .ok (.iconst 0, 1) := by decide +kernel
theorem dE_endsNote_35 : decode cE_endsNote 35 = .ok (.ireturn, 1) := by decide +kernel
def fE_endsNote (h : cH) (z : cZ) (x0 : Nat) : Option (Int32 × cZ) := if h.2.1 ≤ x0 then none else (if ((ze z x0 2) &&& (240 : Int32)) = (128 : Int32) then (some ((1 : Int32), z)) else (if ((ze z x0 2) &&& (240 : Int32)) = (144 : Int32) then (if (ze z x0 4) = 0 then (some ((1 : Int32), z)) else (some ((0 : Int32), z))) else (some ((0 : Int32), z))))
set_option maxHeartbeats 4000000 in
set_option maxRecDepth 100000 in
theorem cE_endsNote_met {l : Launch} {g : gT} {qq ad ea : Nat → Nat} {h : cH} {X : va_W} {z z' : cZ} {x0 : Nat} {r' : Int32} (hf : fE_endsNote h z x0 = some (r', z')) : cMet l yE_endsNote cE_endsNote 2 (some .boolean) rE_endsNote g qq ad ea h X z [.ref (ea x0)] (some (.int r')) X z' := by
  refine c_entry (by decide) (Nat.le_of_ble_eq_true rfl) ?_
  intro p e s m args below meth c ls C hr hlk hnm hl hw
  have hrv : (some (.int r') : Option Value) = some (.int r') := rfl
  have C : mCx p m c cE_endsNote 2 s args g "MidiDesk$Event" := C
  have hl : lv_has ls 2 [(0, .ref (ea x0))] := hl
  unfold fE_endsNote at hf
  refine lv_aload_n C.1.1 C.1.2.1 dE_endsNote_0 rfl (lv_at hl 0 rfl) ?_
  obtain ⟨hb1, hf⟩ := ts_g hf
  have hb1 := Nat.lt_of_not_le hb1
  refine cgt_Event_Event_status C hw hb1 dE_endsNote_1 ?_
  refine lv_sipush (v := (240 : Int32)) C.1.1 C.1.2.1 dE_endsNote_4 (by decide) ?_
  refine lv_iand C.1.1 C.1.2.1 dE_endsNote_7 ?_
  refine lv_istore_n (lv' := [(1, .int ((ze z x0 2) &&& (240 : Int32))), (0, .ref (ea x0))]) C.1.1 C.1.2.1 dE_endsNote_8 rfl hl (by decide) rfl (fun ls hl => ?_)
  refine lv_iload_n C.1.1 C.1.2.1 dE_endsNote_9 rfl (lv_at hl 0 rfl) ?_
  refine lv_sipush (v := (128 : Int32)) C.1.1 C.1.2.1 dE_endsNote_10 (by decide) ?_
  refine lv_icmp_eq (tgt := 30) C.1.1 C.1.2.1 dE_endsNote_13 (by decide) (fun c2 => ?_) (fun c2 => ?_)
  · have hf := ts_t hf c2
    refine lv_iconst (v := (1 : Int32)) C.1.1 C.1.2.1 dE_endsNote_30 (by decide) ?_
    refine lv_goto (tgt := 35) C.1.1 C.1.2.1 dE_endsNote_31 (by decide) ?_
    exact c_retz C hr hlk hrv hw (Or.inr rfl) hf rfl ⟨Nat.le_of_ble_eq_true rfl, Nat.le_of_ble_eq_true rfl⟩ dE_endsNote_35
  · have hf := ts_f hf c2
    refine lv_iload_n C.1.1 C.1.2.1 dE_endsNote_16 rfl (lv_at hl 0 rfl) ?_
    refine lv_sipush (v := (144 : Int32)) C.1.1 C.1.2.1 dE_endsNote_17 (by decide) ?_
    refine lv_icmp_ne (tgt := 34) C.1.1 C.1.2.1 dE_endsNote_20 (by decide) (fun c3 => ?_) (fun c3 => ?_)
    · have hf := ts_f hf c3
      refine lv_iconst (v := (0 : Int32)) C.1.1 C.1.2.1 dE_endsNote_34 (by decide) ?_
      exact c_retz C hr hlk hrv hw (Or.inl rfl) hf rfl ⟨Nat.le_of_ble_eq_true rfl, Nat.le_of_ble_eq_true rfl⟩ dE_endsNote_35
    · have hf := ts_t hf c3
      refine lv_aload_n C.1.1 C.1.2.1 dE_endsNote_23 rfl (lv_at hl 1 rfl) ?_
      refine cgt_Event_Event_second C hw hb1 dE_endsNote_24 ?_
      refine lv_if_ne (tgt := 34) C.1.1 C.1.2.1 dE_endsNote_27 (by decide) (fun c4 => ?_) (fun c4 => ?_)
      · have hf := ts_f hf c4
        refine lv_iconst (v := (0 : Int32)) C.1.1 C.1.2.1 dE_endsNote_34 (by decide) ?_
        exact c_retz C hr hlk hrv hw (Or.inl rfl) hf rfl ⟨Nat.le_of_ble_eq_true rfl, Nat.le_of_ble_eq_true rfl⟩ dE_endsNote_35
      · have hf := ts_t hf c4
        refine lv_iconst (v := (1 : Int32)) C.1.1 C.1.2.1 dE_endsNote_30 (by decide) ?_
        refine lv_goto (tgt := 35) C.1.1 C.1.2.1 dE_endsNote_31 (by decide) ?_
        exact c_retz C hr hlk hrv hw (Or.inr rfl) hf rfl ⟨Nat.le_of_ble_eq_true rfl, Nat.le_of_ble_eq_true rfl⟩ dE_endsNote_35
abbrev cE_isOfChannel : ByteArray := prog_3_method_7_code
abbrev yE_isOfChannel : MethodName := ⟨"MidiDesk$Event", "isOfChannel", "(I)Z"⟩
theorem kE_isOfChannel : yE_isOfChannel.cls ≠ "java/lang/invoke/MethodHandle" ∧ yE_isOfChannel.cls ≠ "java/lang/invoke/VarHandle" ∧ (parseMethodDescriptor yE_isOfChannel.desc).map (fun d => d.parameters.length) = some 1 := by decide +kernel
abbrev rE_isOfChannel : Room := { frames := 0, cells := 0, slots := 0, locals := 0 }
theorem dE_isOfChannel_0 : decode cE_isOfChannel 0 = .ok (.iload_n 1, 1) := by decide +kernel
theorem dE_isOfChannel_1 : decode cE_isOfChannel 1 = .ok (.bipush 16, 2) := by decide +kernel
theorem dE_isOfChannel_3 : decode cE_isOfChannel 3 = .ok (.if_icmp .eq 14, 3) := by decide +kernel
theorem dE_isOfChannel_6 : decode cE_isOfChannel 6 = .ok (.aload_n 0, 1) := by decide +kernel
theorem dE_isOfChannel_7 : decode cE_isOfChannel 7 = .ok (.getfield 9, 3) := by decide +kernel
theorem dE_isOfChannel_10 : decode cE_isOfChannel 10 = .ok (.bipush 15, 2) := by decide +kernel
theorem dE_isOfChannel_12 : decode cE_isOfChannel 12 = .ok (.iand, 1) := by decide +kernel
theorem dE_isOfChannel_13 : decode cE_isOfChannel 13 = .ok (.iload_n 1, 1) := by decide +kernel
theorem dE_isOfChannel_14 : decode cE_isOfChannel 14 = .ok (.if_icmp .ne 7, 3) := by decide +kernel
theorem dE_isOfChannel_17 : decode cE_isOfChannel 17 = .ok (.iconst 1, 1) := by decide +kernel
theorem dE_isOfChannel_18 : decode cE_isOfChannel 18 = .ok (.goto 4, 3) := by decide +kernel
theorem dE_isOfChannel_21 : decode cE_isOfChannel 21 = .ok (.iconst 0, 1) := by decide +kernel
theorem dE_isOfChannel_22 : decode cE_isOfChannel 22 = .ok (.ireturn, 1) := by decide +kernel
def fE_isOfChannel (h : cH) (z : cZ) (x0 : Nat) (x1 : Int32) : Option (Int32 × cZ) := if x1 = (16 : Int32) then (some ((1 : Int32), z)) else (if h.2.1 ≤ x0 then none else (if ((ze z x0 2) &&& (15 : Int32)) = x1 then (some ((1 : Int32), z)) else (some ((0 : Int32), z))))
set_option maxHeartbeats 4000000 in
set_option maxRecDepth 100000 in
theorem cE_isOfChannel_met {l : Launch} {g : gT} {qq ad ea : Nat → Nat} {h : cH} {X : va_W} {z z' : cZ} {x0 : Nat} {x1 : Int32} {r' : Int32} (hf : fE_isOfChannel h z x0 x1 = some (r', z')) : cMet l yE_isOfChannel cE_isOfChannel 2 (some .boolean) rE_isOfChannel g qq ad ea h X z [.ref (ea x0), .int x1] (some (.int r')) X z' := by
  refine c_entry (by decide) (Nat.le_of_ble_eq_true rfl) ?_
  intro p e s m args below meth c ls C hr hlk hnm hl hw
  have hrv : (some (.int r') : Option Value) = some (.int r') := rfl
  have C : mCx p m c cE_isOfChannel 2 s args g "MidiDesk$Event" := C
  have hl : lv_has ls 2 [(0, .ref (ea x0)), (1, .int x1)] := hl
  unfold fE_isOfChannel at hf
  refine lv_iload_n C.1.1 C.1.2.1 dE_isOfChannel_0 rfl (lv_at hl 1 rfl) ?_
  refine lv_bipush (v := (16 : Int32)) C.1.1 C.1.2.1 dE_isOfChannel_1 (by decide) ?_
  refine lv_icmp_eq (tgt := 17) C.1.1 C.1.2.1 dE_isOfChannel_3 (by decide) (fun c1 => ?_) (fun c1 => ?_)
  · have hf := ts_t hf c1
    refine lv_iconst (v := (1 : Int32)) C.1.1 C.1.2.1 dE_isOfChannel_17 (by decide) ?_
    refine lv_goto (tgt := 22) C.1.1 C.1.2.1 dE_isOfChannel_18 (by decide) ?_
    exact c_retz C hr hlk hrv hw (Or.inr rfl) hf rfl ⟨Nat.le_of_ble_eq_true rfl, Nat.le_of_ble_eq_true rfl⟩ dE_isOfChannel_22
  · have hf := ts_f hf c1
    refine lv_aload_n C.1.1 C.1.2.1 dE_isOfChannel_6 rfl (lv_at hl 0 rfl) ?_
    obtain ⟨hb2, hf⟩ := ts_g hf
    have hb2 := Nat.lt_of_not_le hb2
    refine cgt_Event_Event_status C hw hb2 dE_isOfChannel_7 ?_
    refine lv_bipush (v := (15 : Int32)) C.1.1 C.1.2.1 dE_isOfChannel_10 (by decide) ?_
    refine lv_iand C.1.1 C.1.2.1 dE_isOfChannel_12 ?_
    refine lv_iload_n C.1.1 C.1.2.1 dE_isOfChannel_13 rfl (lv_at hl 1 rfl) ?_
    refine lv_icmp_ne (tgt := 21) C.1.1 C.1.2.1 dE_isOfChannel_14 (by decide) (fun c3 => ?_) (fun c3 => ?_)
    · have hf := ts_f hf c3
      refine lv_iconst (v := (0 : Int32)) C.1.1 C.1.2.1 dE_isOfChannel_21 (by decide) ?_
      exact c_retz C hr hlk hrv hw (Or.inl rfl) hf rfl ⟨Nat.le_of_ble_eq_true rfl, Nat.le_of_ble_eq_true rfl⟩ dE_isOfChannel_22
    · have hf := ts_t hf c3
      refine lv_iconst (v := (1 : Int32)) C.1.1 C.1.2.1 dE_isOfChannel_17 (by decide) ?_
      refine lv_goto (tgt := 22) C.1.1 C.1.2.1 dE_isOfChannel_18 (by decide) ?_
      exact c_retz C hr hlk hrv hw (Or.inr rfl) hf rfl ⟨Nat.le_of_ble_eq_true rfl, Nat.le_of_ble_eq_true rfl⟩ dE_isOfChannel_22
abbrev cE_endsNoteOf : ByteArray := prog_3_method_8_code
abbrev yE_endsNoteOf : MethodName := ⟨"MidiDesk$Event", "endsNoteOf", "(LMidiDesk$Event;)Z"⟩
theorem kE_endsNoteOf : yE_endsNoteOf.cls ≠ "java/lang/invoke/MethodHandle" ∧ yE_endsNoteOf.cls ≠ "java/lang/invoke/VarHandle" ∧ (parseMethodDescriptor yE_endsNoteOf.desc).map (fun d => d.parameters.length) = some 1 := by decide +kernel
abbrev rE_endsNoteOf : Room := { frames := 1, cells := 0, slots := 0, locals := 21 }
theorem dE_endsNoteOf_0 : decode cE_endsNoteOf 0 = .ok (.aload_n 0, 1) := by decide +kernel
theorem dE_endsNoteOf_1 : decode cE_endsNoteOf 1 = .ok (.invokevirtual 21, 3) := by decide +kernel
theorem dE_endsNoteOf_4 : decode cE_endsNoteOf 4 = .ok (.ifCond .eq 46, 3) := by decide +kernel
theorem dE_endsNoteOf_7 : decode cE_endsNoteOf 7 = .ok (.aload_n 0, 1) := by decide +kernel
theorem dE_endsNoteOf_8 : decode cE_endsNoteOf 8 = .ok (.getfield 25, 3) := by decide +kernel
theorem dE_endsNoteOf_11 : decode cE_endsNoteOf 11 = .ok (.aload_n 1, 1) := by decide +kernel
theorem dE_endsNoteOf_12 : decode cE_endsNoteOf 12 = .ok (.getfield 25, 3) := by decide +kernel
theorem dE_endsNoteOf_15 : decode cE_endsNoteOf 15 = .ok (.if_icmp .ne 35, 3) := by decide +kernel
theorem dE_endsNoteOf_18 : decode cE_endsNoteOf 18 = .ok (.aload_n 0, 1) := by decide +kernel
theorem dE_endsNoteOf_19 : decode cE_endsNoteOf 19 = .ok (.getfield 15, 3) := by decide +kernel
theorem dE_endsNoteOf_22 : decode cE_endsNoteOf 22 = .ok (.aload_n 1, 1) := by decide +kernel
theorem dE_endsNoteOf_23 : decode cE_endsNoteOf 23 = .ok (.getfield 15, 3) := by decide +kernel
theorem dE_endsNoteOf_26 : decode cE_endsNoteOf 26 = .ok (.if_icmp .ne 24, 3) := by decide +kernel
theorem dE_endsNoteOf_29 : decode cE_endsNoteOf 29 = .ok (.aload_n 0, 1) := by decide +kernel
theorem dE_endsNoteOf_30 : decode cE_endsNoteOf 30 = .ok (.getfield 9, 3) := by decide +kernel
theorem dE_endsNoteOf_33 : decode cE_endsNoteOf 33 = .ok (.bipush 15, 2) := by decide +kernel
theorem dE_endsNoteOf_35 : decode cE_endsNoteOf 35 = .ok (.iand, 1) := by decide +kernel
theorem dE_endsNoteOf_36 : decode cE_endsNoteOf 36 = .ok (.aload_n 1, 1) := by decide +kernel
theorem dE_endsNoteOf_37 : decode cE_endsNoteOf 37 = .ok (.getfield 9, 3) := by decide +kernel
theorem dE_endsNoteOf_40 : decode cE_endsNoteOf 40 = .ok (.bipush 15, 2) := by decide +kernel
theorem dE_endsNoteOf_42 : decode cE_endsNoteOf 42 = .ok (.iand, 1) := by decide +kernel
theorem dE_endsNoteOf_43 : decode cE_endsNoteOf 43 = .ok (.if_icmp .ne 7, 3) := by decide +kernel
theorem dE_endsNoteOf_46 : decode cE_endsNoteOf 46 = .ok (.iconst 1, 1) := by decide +kernel
theorem dE_endsNoteOf_47 : decode cE_endsNoteOf 47 = .ok (.goto 4, 3) := by decide +kernel
theorem dE_endsNoteOf_50 : decode cE_endsNoteOf 50 = .ok (.iconst 0, 1) := by decide +kernel
theorem dE_endsNoteOf_51 : decode cE_endsNoteOf 51 = .ok (.ireturn, 1) := by decide +kernel
def fE_endsNoteOf (h : cH) (z : cZ) (x0 : Nat) (o1 : Option Nat) : Option (Int32 × cZ) := if h.2.1 ≤ x0 then none else ((fE_endsNote h z x0).bind fun (r2, z2) => if r2 = 0 then (some ((0 : Int32), z2)) else ((o1).bind fun j4 => if h.2.1 ≤ j4 then none else (if (ze z2 x0 1) = (ze z2 j4 1) then (if (ze z2 x0 3) = (ze z2 j4 3) then (if ((ze z2 x0 2) &&& (15 : Int32)) = ((ze z2 j4 2) &&& (15 : Int32)) then (some ((1 : Int32), z2)) else (some ((0 : Int32), z2))) else (some ((0 : Int32), z2))) else (some ((0 : Int32), z2)))))
set_option maxHeartbeats 4000000 in
set_option maxRecDepth 100000 in
theorem cE_endsNoteOf_met {l : Launch} {g : gT} {qq ad ea : Nat → Nat} {h : cH} {X : va_W} {z z' : cZ} {x0 : Nat} {o1 : Option Nat} {r' : Int32} (hf : fE_endsNoteOf h z x0 o1 = some (r', z')) : cMet l yE_endsNoteOf cE_endsNoteOf 2 (some .boolean) rE_endsNoteOf g qq ad ea h X z [.ref (ea x0), va_rf (Option.map ea o1)] (some (.int r')) X z' := by
  refine c_entry (by decide) (by cases o1 <;> exact Nat.le_of_ble_eq_true rfl) ?_
  intro p e s m args below meth c ls C hr hlk hnm hl hw
  have hrv : (some (.int r') : Option Value) = some (.int r') := rfl
  have C : mCx p m c cE_endsNoteOf 2 s args g "MidiDesk$Event" := C
  have hl : lv_has ls 2 [(0, .ref (ea x0)), (1, va_rf (Option.map ea o1))] := hl
  unfold fE_endsNoteOf at hf
  refine lv_aload_n C.1.1 C.1.2.1 dE_endsNoteOf_0 rfl (lv_at hl 0 rfl) ?_
  obtain ⟨hb1, hf⟩ := ts_g hf
  have hb1 := Nat.lt_of_not_le hb1
  obtain ⟨⟨r2, z2⟩, g2, hf⟩ := ts_b hf
  try dsimp only at hf
  refine c_callV (rest := []) (As := []) (rv := (some (.int r2))) (b := (ea x0)) C hl.1 hw (cE_endsNote_met g2) rfl (callW_of (rm := rE_endsNote) (C := "MidiDesk$Event") 0 C.1.2.2.2.2 gw_423 gw_424 gw_425 gw_60 gw_426 kE_endsNote ⟨Nat.le_of_ble_eq_true rfl, Nat.le_of_ble_eq_true rfl⟩) (c_recvE C.2 hb1 hw) rfl rfl (Nat.le_of_ble_eq_true rfl) dE_endsNoteOf_1 ⟨Nat.le_of_ble_eq_true rfl, Nat.le_of_ble_eq_true rfl⟩ (fun H locs hw => ?_)
  refine W.eq (g2 := F0 m 4 ls [.int r2]) rfl ?_
  refine lv_if_eq (tgt := 50) C.1.1 C.1.2.1 dE_endsNoteOf_4 (by decide) (fun c3 => ?_) (fun c3 => ?_)
  · have hf := ts_t hf c3
    refine lv_iconst (v := (0 : Int32)) C.1.1 C.1.2.1 dE_endsNoteOf_50 (by decide) ?_
    exact c_retz C hr hlk hrv hw (Or.inl rfl) hf rfl ⟨Nat.le_of_ble_eq_true rfl, Nat.le_of_ble_eq_true rfl⟩ dE_endsNoteOf_51
  · have hf := ts_f hf c3
    refine lv_aload_n C.1.1 C.1.2.1 dE_endsNoteOf_7 rfl (lv_at hl 0 rfl) ?_
    refine cgt_Event_Event_track C hw hb1 dE_endsNoteOf_8 ?_
    refine c_aload_n C.1.1 C.1.2.1 dE_endsNoteOf_11 rfl (lv_at hl 1 rfl) ?_
    obtain ⟨j4, ho4, hf⟩ := ts_b hf
    try dsimp only at hf
    obtain ⟨hb4, hf⟩ := ts_g hf
    have hb4 := Nat.lt_of_not_le hb4
    refine cg_Event_Event_track C hw ho4 hb4 dE_endsNoteOf_12 ?_
    refine lv_icmp_ne (tgt := 50) C.1.1 C.1.2.1 dE_endsNoteOf_15 (by decide) (fun c5 => ?_) (fun c5 => ?_)
    · have hf := ts_f hf c5
      refine lv_iconst (v := (0 : Int32)) C.1.1 C.1.2.1 dE_endsNoteOf_50 (by decide) ?_
      exact c_retz C hr hlk hrv hw (Or.inl rfl) hf rfl ⟨Nat.le_of_ble_eq_true rfl, Nat.le_of_ble_eq_true rfl⟩ dE_endsNoteOf_51
    · have hf := ts_t hf c5
      refine lv_aload_n C.1.1 C.1.2.1 dE_endsNoteOf_18 rfl (lv_at hl 0 rfl) ?_
      refine cgt_Event_Event_first C hw hb1 dE_endsNoteOf_19 ?_
      refine c_aload_n C.1.1 C.1.2.1 dE_endsNoteOf_22 rfl (lv_at hl 1 rfl) ?_
      refine cg_Event_Event_first C hw ho4 hb4 dE_endsNoteOf_23 ?_
      refine lv_icmp_ne (tgt := 50) C.1.1 C.1.2.1 dE_endsNoteOf_26 (by decide) (fun c6 => ?_) (fun c6 => ?_)
      · have hf := ts_f hf c6
        refine lv_iconst (v := (0 : Int32)) C.1.1 C.1.2.1 dE_endsNoteOf_50 (by decide) ?_
        exact c_retz C hr hlk hrv hw (Or.inl rfl) hf rfl ⟨Nat.le_of_ble_eq_true rfl, Nat.le_of_ble_eq_true rfl⟩ dE_endsNoteOf_51
      · have hf := ts_t hf c6
        refine lv_aload_n C.1.1 C.1.2.1 dE_endsNoteOf_29 rfl (lv_at hl 0 rfl) ?_
        refine cgt_Event_Event_status C hw hb1 dE_endsNoteOf_30 ?_
        refine lv_bipush (v := (15 : Int32)) C.1.1 C.1.2.1 dE_endsNoteOf_33 (by decide) ?_
        refine lv_iand C.1.1 C.1.2.1 dE_endsNoteOf_35 ?_
        refine c_aload_n C.1.1 C.1.2.1 dE_endsNoteOf_36 rfl (lv_at hl 1 rfl) ?_
        refine cg_Event_Event_status C hw ho4 hb4 dE_endsNoteOf_37 ?_
        refine lv_bipush (v := (15 : Int32)) C.1.1 C.1.2.1 dE_endsNoteOf_40 (by decide) ?_
        refine lv_iand C.1.1 C.1.2.1 dE_endsNoteOf_42 ?_
        refine lv_icmp_ne (tgt := 50) C.1.1 C.1.2.1 dE_endsNoteOf_43 (by decide) (fun c7 => ?_) (fun c7 => ?_)
        · have hf := ts_f hf c7
          refine lv_iconst (v := (0 : Int32)) C.1.1 C.1.2.1 dE_endsNoteOf_50 (by decide) ?_
          exact c_retz C hr hlk hrv hw (Or.inl rfl) hf rfl ⟨Nat.le_of_ble_eq_true rfl, Nat.le_of_ble_eq_true rfl⟩ dE_endsNoteOf_51
        · have hf := ts_t hf c7
          refine lv_iconst (v := (1 : Int32)) C.1.1 C.1.2.1 dE_endsNoteOf_46 (by decide) ?_
          refine lv_goto (tgt := 51) C.1.1 C.1.2.1 dE_endsNoteOf_47 (by decide) ?_
          exact c_retz C hr hlk hrv hw (Or.inr rfl) hf rfl ⟨Nat.le_of_ble_eq_true rfl, Nat.le_of_ble_eq_true rfl⟩ dE_endsNoteOf_51
abbrev cE_belongsBehind : ByteArray := prog_3_method_9_code
abbrev yE_belongsBehind : MethodName := ⟨"MidiDesk$Event", "belongsBehind", "(LMidiDesk$Event;)Z"⟩
theorem kE_belongsBehind : yE_belongsBehind.cls ≠ "java/lang/invoke/MethodHandle" ∧ yE_belongsBehind.cls ≠ "java/lang/invoke/VarHandle" ∧ (parseMethodDescriptor yE_belongsBehind.desc).map (fun d => d.parameters.length) = some 1 := by decide +kernel
abbrev rE_belongsBehind : Room := { frames := 0, cells := 0, slots := 0, locals := 0 }
theorem dE_belongsBehind_0 : decode cE_belongsBehind 0 = .ok (.aload_n 0, 1) := by decide +kernel
theorem dE_belongsBehind_1 : decode cE_belongsBehind 1 = .ok (.getfield 28, 3) := by decide +kernel
theorem dE_belongsBehind_4 : decode cE_belongsBehind 4 = .ok (.aload_n 1, 1) := by decide +kernel
theorem dE_belongsBehind_5 : decode cE_belongsBehind 5 = .ok (.getfield 28, 3) := by decide +kernel
theorem dE_belongsBehind_8 : decode cE_belongsBehind 8 = .ok (.if_icmp .gt 25, 3) := by decide +kernel
theorem dE_belongsBehind_11 : decode cE_belongsBehind 11 = .ok (.aload_n 0, 1) := by decide +kernel
theorem dE_belongsBehind_12 : decode cE_belongsBehind 12 = .ok (.getfield 28, 3) := by decide +kernel
theorem dE_belongsBehind_15 : decode cE_belongsBehind 15 = .ok (.aload_n 1, 1) := by decide +kernel
theorem dE_belongsBehind_16 : decode cE_belongsBehind 16 = .ok (.getfield 28, 3) := by decide +kernel
theorem dE_belongsBehind_19 : decode cE_belongsBehind 19 = .ok (.if_icmp .ne 18, 3) := by decide +kernel
theorem dE_belongsBehind_22 : decode cE_belongsBehind 22 = .ok (.aload_n 0, 1) := by decide +kernel
theorem dE_belongsBehind_23 : decode cE_belongsBehind 23 = .ok (.getfield 25, 3) := by decide +kernel
theorem dE_belongsBehind_26 : decode cE_belongsBehind 26 = .ok (.aload_n 1, 1) := by decide +kernel
theorem dE_belongsBehind_27 : decode cE_belongsBehind 27 = .ok (.getfield 25, 3) := by decide +kernel
theorem dE_belongsBehind_30 : decode cE_belongsBehind 30 = .ok (.if_icmp .le 7, 3) := by decide +kernel
theorem dE_belongsBehind_33 : decode cE_belongsBehind 33 = .ok (.iconst 1, 1) := by decide +kernel
theorem dE_belongsBehind_34 : decode cE_belongsBehind 34 = .ok (.goto 4, 3) := by decide +kernel
theorem dE_belongsBehind_37 : decode cE_belongsBehind 37 = .ok (.iconst 0, 1) := by decide +kernel
theorem dE_belongsBehind_38 : decode cE_belongsBehind 38 = .ok (.ireturn, 1) := by decide +kernel
def fE_belongsBehind (h : cH) (z : cZ) (x0 : Nat) (o1 : Option Nat) : Option (Int32 × cZ) := if h.2.1 ≤ x0 then none else ((o1).bind fun j2 => if h.2.1 ≤ j2 then none else (if (ze z j2 0) < (ze z x0 0) then (some ((1 : Int32), z)) else (if (ze z x0 0) = (ze z j2 0) then (if (ze z x0 1) ≤ (ze z j2 1) then (some ((0 : Int32), z)) else (some ((1 : Int32), z))) else (some ((0 : Int32), z)))))
set_option maxHeartbeats 4000000 in
set_option maxRecDepth 100000 in
theorem cE_belongsBehind_met {l : Launch} {g : gT} {qq ad ea : Nat → Nat} {h : cH} {X : va_W} {z z' : cZ} {x0 : Nat} {o1 : Option Nat} {r' : Int32} (hf : fE_belongsBehind h z x0 o1 = some (r', z')) : cMet l yE_belongsBehind cE_belongsBehind 2 (some .boolean) rE_belongsBehind g qq ad ea h X z [.ref (ea x0), va_rf (Option.map ea o1)] (some (.int r')) X z' := by
  refine c_entry (by decide) (by cases o1 <;> exact Nat.le_of_ble_eq_true rfl) ?_
  intro p e s m args below meth c ls C hr hlk hnm hl hw
  have hrv : (some (.int r') : Option Value) = some (.int r') := rfl
  have C : mCx p m c cE_belongsBehind 2 s args g "MidiDesk$Event" := C
  have hl : lv_has ls 2 [(0, .ref (ea x0)), (1, va_rf (Option.map ea o1))] := hl
  unfold fE_belongsBehind at hf
  refine lv_aload_n C.1.1 C.1.2.1 dE_belongsBehind_0 rfl (lv_at hl 0 rfl) ?_
  obtain ⟨hb1, hf⟩ := ts_g hf
  have hb1 := Nat.lt_of_not_le hb1
  refine cgt_Event_Event_tick C hw hb1 dE_belongsBehind_1 ?_
  refine c_aload_n C.1.1 C.1.2.1 dE_belongsBehind_4 rfl (lv_at hl 1 rfl) ?_
  obtain ⟨j2, ho2, hf⟩ := ts_b hf
  try dsimp only at hf
  obtain ⟨hb2, hf⟩ := ts_g hf
  have hb2 := Nat.lt_of_not_le hb2
  refine cg_Event_Event_tick C hw ho2 hb2 dE_belongsBehind_5 ?_
  refine lv_icmp_gt (tgt := 33) C.1.1 C.1.2.1 dE_belongsBehind_8 (by decide) (fun c3 => ?_) (fun c3 => ?_)
  · have hf := ts_t hf c3
    refine lv_iconst (v := (1 : Int32)) C.1.1 C.1.2.1 dE_belongsBehind_33 (by decide) ?_
    refine lv_goto (tgt := 38) C.1.1 C.1.2.1 dE_belongsBehind_34 (by decide) ?_
    exact c_retz C hr hlk hrv hw (Or.inr rfl) hf rfl ⟨Nat.le_of_ble_eq_true rfl, Nat.le_of_ble_eq_true rfl⟩ dE_belongsBehind_38
  · have hf := ts_f hf c3
    refine lv_aload_n C.1.1 C.1.2.1 dE_belongsBehind_11 rfl (lv_at hl 0 rfl) ?_
    refine cgt_Event_Event_tick C hw hb1 dE_belongsBehind_12 ?_
    refine c_aload_n C.1.1 C.1.2.1 dE_belongsBehind_15 rfl (lv_at hl 1 rfl) ?_
    refine cg_Event_Event_tick C hw ho2 hb2 dE_belongsBehind_16 ?_
    refine lv_icmp_ne (tgt := 37) C.1.1 C.1.2.1 dE_belongsBehind_19 (by decide) (fun c4 => ?_) (fun c4 => ?_)
    · have hf := ts_f hf c4
      refine lv_iconst (v := (0 : Int32)) C.1.1 C.1.2.1 dE_belongsBehind_37 (by decide) ?_
      exact c_retz C hr hlk hrv hw (Or.inl rfl) hf rfl ⟨Nat.le_of_ble_eq_true rfl, Nat.le_of_ble_eq_true rfl⟩ dE_belongsBehind_38
    · have hf := ts_t hf c4
      refine lv_aload_n C.1.1 C.1.2.1 dE_belongsBehind_22 rfl (lv_at hl 0 rfl) ?_
      refine cgt_Event_Event_track C hw hb1 dE_belongsBehind_23 ?_
      refine c_aload_n C.1.1 C.1.2.1 dE_belongsBehind_26 rfl (lv_at hl 1 rfl) ?_
      refine cg_Event_Event_track C hw ho2 hb2 dE_belongsBehind_27 ?_
      refine lv_icmp_le (tgt := 37) C.1.1 C.1.2.1 dE_belongsBehind_30 (by decide) (fun c5 => ?_) (fun c5 => ?_)
      · have hf := ts_t hf c5
        refine lv_iconst (v := (0 : Int32)) C.1.1 C.1.2.1 dE_belongsBehind_37 (by decide) ?_
        exact c_retz C hr hlk hrv hw (Or.inl rfl) hf rfl ⟨Nat.le_of_ble_eq_true rfl, Nat.le_of_ble_eq_true rfl⟩ dE_belongsBehind_38
      · have hf := ts_f hf c5
        refine lv_iconst (v := (1 : Int32)) C.1.1 C.1.2.1 dE_belongsBehind_33 (by decide) ?_
        refine lv_goto (tgt := 38) C.1.1 C.1.2.1 dE_belongsBehind_34 (by decide) ?_
        exact c_retz C hr hlk hrv hw (Or.inr rfl) hf rfl ⟨Nat.le_of_ble_eq_true rfl, Nat.le_of_ble_eq_true rfl⟩ dE_belongsBehind_38
abbrev cD_nearest : ByteArray := prog_1_method_19_code
abbrev yD_nearest : MethodName := ⟨"MidiDesk", "nearest", "(II)I"⟩
theorem kD_nearest : yD_nearest.cls ≠ "java/lang/invoke/MethodHandle" ∧ yD_nearest.cls ≠ "java/lang/invoke/VarHandle" ∧ (parseMethodDescriptor yD_nearest.desc).map (fun d => d.parameters.length) = some 2 := by decide +kernel
abbrev rD_nearest : Room := { frames := 0, cells := 0, slots := 0, locals := 0 }
theorem dD_nearest_0 : decode cD_nearest 0 = .ok (.iload_n 0, 1) := by decide +kernel
theorem dD_nearest_1 : decode cD_nearest 1 = .ok (.iload_n 1, 1) := by decide +kernel
theorem dD_nearest_2 : decode cD_nearest 2 = .ok (.iconst 2, 1) := by decide +kernel
theorem dD_nearest_3 : decode cD_nearest 3 = .ok (.idiv, 1) := by decide +kernel
theorem dD_nearest_4 : decode cD_nearest 4 = .ok (.iadd, 1) := by decide +kernel
theorem dD_nearest_5 : decode cD_nearest 5 = .ok (.iload_n 1, 1) := by decide +kernel
theorem dD_nearest_6 : decode cD_nearest 6 = .ok (.idiv, 1) := by decide +kernel
theorem dD_nearest_7 : decode cD_nearest 7 = .ok (.iload_n 1, 1) := by decide +kernel
theorem dD_nearest_8 : decode cD_nearest 8 = .ok (.imul, 1) := by decide +kernel
theorem dD_nearest_9 : decode cD_nearest 9 = .ok (.ireturn, 1) := by decide +kernel
def fD_nearest (h : cH) (z : cZ) (x0 : Int32) (x1 : Int32) : Option (Int32 × cZ) := if (2 : Int32) = 0 then none else (if x1 = 0 then none else (some (((x0 + (x1 / (2 : Int32))) / x1) * x1, z)))
set_option maxHeartbeats 4000000 in
set_option maxRecDepth 100000 in
theorem cD_nearest_met {l : Launch} {g : gT} {qq ad ea : Nat → Nat} {h : cH} {X : va_W} {z z' : cZ} {x0 : Int32} {x1 : Int32} {r' : Int32} (hf : fD_nearest h z x0 x1 = some (r', z')) : cMet l yD_nearest cD_nearest 2 (some .int) rD_nearest g qq ad ea h X z [.int x0, .int x1] (some (.int r')) X z' := by
  refine c_entry (by decide) (Nat.le_of_ble_eq_true rfl) ?_
  intro p e s m args below meth c ls C hr hlk hnm hl hw
  have hrv : (some (.int r') : Option Value) = some (.int r') := rfl
  have C : mCx p m c cD_nearest 2 s args g "MidiDesk" := C
  have hl : lv_has ls 2 [(0, .int x0), (1, .int x1)] := hl
  unfold fD_nearest at hf
  refine lv_iload_n C.1.1 C.1.2.1 dD_nearest_0 rfl (lv_at hl 0 rfl) ?_
  refine lv_iload_n C.1.1 C.1.2.1 dD_nearest_1 rfl (lv_at hl 1 rfl) ?_
  refine lv_iconst (v := (2 : Int32)) C.1.1 C.1.2.1 dD_nearest_2 (by decide) ?_
  obtain ⟨h1, hf⟩ := ts_g hf
  refine lv_idiv C.1.1 C.1.2.1 dD_nearest_3 h1 ?_
  refine lv_iadd C.1.1 C.1.2.1 dD_nearest_4 ?_
  refine lv_iload_n C.1.1 C.1.2.1 dD_nearest_5 rfl (lv_at hl 1 rfl) ?_
  obtain ⟨h2, hf⟩ := ts_g hf
  refine lv_idiv C.1.1 C.1.2.1 dD_nearest_6 h2 ?_
  refine lv_iload_n C.1.1 C.1.2.1 dD_nearest_7 rfl (lv_at hl 1 rfl) ?_
  refine lv_imul C.1.1 C.1.2.1 dD_nearest_8 ?_
  exact c_reti C hr hlk hrv hw hf rfl ⟨Nat.le_of_ble_eq_true rfl, Nat.le_of_ble_eq_true rfl⟩ dD_nearest_9
abbrev cD_hasOneByte : ByteArray := prog_1_method_20_code
abbrev yD_hasOneByte : MethodName := ⟨"MidiDesk", "hasOneByte", "(I)Z"⟩
theorem kD_hasOneByte : yD_hasOneByte.cls ≠ "java/lang/invoke/MethodHandle" ∧ yD_hasOneByte.cls ≠ "java/lang/invoke/VarHandle" ∧ (parseMethodDescriptor yD_hasOneByte.desc).map (fun d => d.parameters.length) = some 1 := by decide +kernel
abbrev rD_hasOneByte : Room := { frames := 0, cells := 0, slots := 0, locals := 0 }
theorem dD_hasOneByte_0 : decode cD_hasOneByte 0 = .ok (.iload_n 0, 1) := by decide +kernel
theorem dD_hasOneByte_1 : decode cD_hasOneByte 1 = .ok (.sipush 240, 3) := by decide +kernel
theorem dD_hasOneByte_4 : decode cD_hasOneByte 4 = .ok (.iand, 1) := by decide +kernel
theorem dD_hasOneByte_5 : decode cD_hasOneByte 5 = .ok (.istore_n 1, 1) := by decide +kernel
theorem dD_hasOneByte_6 : decode cD_hasOneByte 6 = .ok (.iload_n 1, 1) := by decide +kernel
theorem dD_hasOneByte_7 : decode cD_hasOneByte 7 = .ok (.sipush 192, 3) := by decide +kernel
theorem dD_hasOneByte_10 : decode cD_hasOneByte 10 = .ok (.if_icmp .eq 10, 3) := by decide +kernel
theorem dD_hasOneByte_13 : decode cD_hasOneByte 13 = .ok (.iload_n 1, 1) := by decide +kernel
theorem dD_hasOneByte_14 : decode cD_hasOneByte 14 = .ok (.sipush 208, 3) := by decide +kernel
theorem dD_hasOneByte_17 : decode cD_hasOneByte 17 = .ok (.if_icmp .ne 7, 3) := by decide +kernel
theorem dD_hasOneByte_20 : decode cD_hasOneByte 20 = .ok (.iconst 1, 1) := by decide +kernel
theorem dD_hasOneByte_21 : decode cD_hasOneByte 21 = .ok (.goto 4, 3) := by decide +kernel
theorem dD_hasOneByte_24 : decode cD_hasOneByte 24 = .ok (.iconst 0, 1) := by decide +kernel
theorem dD_hasOneByte_25 : decode cD_hasOneByte 25 = .ok (.ireturn, 1) := by decide +kernel
def fD_hasOneByte (h : cH) (z : cZ) (x0 : Int32) : Option (Int32 × cZ) := if (x0 &&& (240 : Int32)) = (192 : Int32) then (some ((1 : Int32), z)) else (if (x0 &&& (240 : Int32)) = (208 : Int32) then (some ((1 : Int32), z)) else (some ((0 : Int32), z)))
set_option maxHeartbeats 4000000 in
set_option maxRecDepth 100000 in
theorem cD_hasOneByte_met {l : Launch} {g : gT} {qq ad ea : Nat → Nat} {h : cH} {X : va_W} {z z' : cZ} {x0 : Int32} {r' : Int32} (hf : fD_hasOneByte h z x0 = some (r', z')) : cMet l yD_hasOneByte cD_hasOneByte 2 (some .boolean) rD_hasOneByte g qq ad ea h X z [.int x0] (some (.int r')) X z' := by
  refine c_entry (by decide) (Nat.le_of_ble_eq_true rfl) ?_
  intro p e s m args below meth c ls C hr hlk hnm hl hw
  have hrv : (some (.int r') : Option Value) = some (.int r') := rfl
  have C : mCx p m c cD_hasOneByte 2 s args g "MidiDesk" := C
  have hl : lv_has ls 2 [(0, .int x0)] := hl
  unfold fD_hasOneByte at hf
  refine lv_iload_n C.1.1 C.1.2.1 dD_hasOneByte_0 rfl (lv_at hl 0 rfl) ?_
  refine lv_sipush (v := (240 : Int32)) C.1.1 C.1.2.1 dD_hasOneByte_1 (by decide) ?_
  refine lv_iand C.1.1 C.1.2.1 dD_hasOneByte_4 ?_
  refine lv_istore_n (lv' := [(1, .int (x0 &&& (240 : Int32))), (0, .int x0)]) C.1.1 C.1.2.1 dD_hasOneByte_5 rfl hl (by decide) rfl (fun ls hl => ?_)
  refine lv_iload_n C.1.1 C.1.2.1 dD_hasOneByte_6 rfl (lv_at hl 0 rfl) ?_
  refine lv_sipush (v := (192 : Int32)) C.1.1 C.1.2.1 dD_hasOneByte_7 (by decide) ?_
  refine lv_icmp_eq (tgt := 20) C.1.1 C.1.2.1 dD_hasOneByte_10 (by decide) (fun c1 => ?_) (fun c1 => ?_)
  · have hf := ts_t hf c1
    refine lv_iconst (v := (1 : Int32)) C.1.1 C.1.2.1 dD_hasOneByte_20 (by decide) ?_
    refine lv_goto (tgt := 25) C.1.1 C.1.2.1 dD_hasOneByte_21 (by decide) ?_
    exact c_retz C hr hlk hrv hw (Or.inr rfl) hf rfl ⟨Nat.le_of_ble_eq_true rfl, Nat.le_of_ble_eq_true rfl⟩ dD_hasOneByte_25
  · have hf := ts_f hf c1
    refine lv_iload_n C.1.1 C.1.2.1 dD_hasOneByte_13 rfl (lv_at hl 0 rfl) ?_
    refine lv_sipush (v := (208 : Int32)) C.1.1 C.1.2.1 dD_hasOneByte_14 (by decide) ?_
    refine lv_icmp_ne (tgt := 24) C.1.1 C.1.2.1 dD_hasOneByte_17 (by decide) (fun c2 => ?_) (fun c2 => ?_)
    · have hf := ts_f hf c2
      refine lv_iconst (v := (0 : Int32)) C.1.1 C.1.2.1 dD_hasOneByte_24 (by decide) ?_
      exact c_retz C hr hlk hrv hw (Or.inl rfl) hf rfl ⟨Nat.le_of_ble_eq_true rfl, Nat.le_of_ble_eq_true rfl⟩ dD_hasOneByte_25
    · have hf := ts_t hf c2
      refine lv_iconst (v := (1 : Int32)) C.1.1 C.1.2.1 dD_hasOneByte_20 (by decide) ?_
      refine lv_goto (tgt := 25) C.1.1 C.1.2.1 dD_hasOneByte_21 (by decide) ?_
      exact c_retz C hr hlk hrv hw (Or.inr rfl) hf rfl ⟨Nat.le_of_ble_eq_true rfl, Nat.le_of_ble_eq_true rfl⟩ dD_hasOneByte_25
abbrev cS_copy10 : ByteArray := prog_6_method_6_code
abbrev yS_copy10 : MethodName := ⟨"MidiDesk$Score", "copyEvents", "([LMidiDesk$Event;[LMidiDesk$Event;II)V"⟩
theorem kS_copy10 : yS_copy10.cls ≠ "java/lang/invoke/MethodHandle" ∧ yS_copy10.cls ≠ "java/lang/invoke/VarHandle" ∧ (parseMethodDescriptor yS_copy10.desc).map (fun d => d.parameters.length) = some 4 := by decide +kernel
abbrev rS_copy10 : Room := { frames := 0, cells := 0, slots := 0, locals := 0 }
theorem dS_copy10_0 : decode cS_copy10 0 = .ok (.iconst 0, 1) := by decide +kernel
theorem dS_copy10_1 : decode cS_copy10 1 = .ok (.istore 4, 2) := by decide +kernel
theorem dS_copy10_3 : decode cS_copy10 3 = .ok (.iload 4, 2) := by decide +kernel
theorem dS_copy10_5 : decode cS_copy10 5 = .ok (.iload_n 3, 1) := by decide +kernel
theorem dS_copy10_6 : decode cS_copy10 6 = .ok (.if_icmp .ge 19, 3) := by decide +kernel
theorem dS_copy10_9 : decode cS_copy10 9 = .ok (.aload_n 1, 1) := by decide +kernel
theorem dS_copy10_10 : decode cS_copy10 10 = .ok (.iload_n 2, 1) := by decide +kernel
theorem dS_copy10_11 : decode cS_copy10 11 = .ok (.iload 4, 2) := by decide +kernel
theorem dS_copy10_13 : decode cS_copy10 13 = .ok (.iadd, 1) := by decide +kernel
theorem dS_copy10_14 : decode cS_copy10 14 = .ok (.aload_n 0, 1) := by decide +kernel
theorem dS_copy10_15 : decode cS_copy10 15 = .ok (.iload 4, 2) := by decide +kernel
theorem dS_copy10_17 : decode cS_copy10 17 = .ok (.aaload, 1) := by decide +kernel
theorem dS_copy10_18 : decode cS_copy10 18 = .ok (.aastore, 1) := by decide +kernel
theorem dS_copy10_19 : decode cS_copy10 19 = .ok (.iinc 4 1, 3) := by decide +kernel
theorem dS_copy10_22 : decode cS_copy10 22 = .ok (.goto (-19), 3) := by decide +kernel
theorem dS_copy10_25 : decode cS_copy10 25 = .ok (.return_, 1) := by decide +kernel
def lS_copy10_3 (h : cH) : Nat → cZ → Int32 → Int32 → Int32 → Option (cZ)
  | 0 => fun _ _ _ _ => none
  | k + 1 => fun z x2 x3 x4 => if x3 ≤ x4 then (some z) else (if x4 < 0 ∨ h.1 4 ≤ x4.toNatClampNeg then none else (if (x2 + x4) < 0 ∨ h.1 3 ≤ (x2 + x4).toNatClampNeg then none else (if okr h.2.1 (zr z 1 x4.toNatClampNeg) = false then none else (lS_copy10_3 h k (zR z 0 (x2 + x4).toNatClampNeg (zr z 1 x4.toNatClampNeg)) x2 x3 (x4 + 1)))))
def fS_copy10 (h : cH) (z : cZ) (x2 : Int32) (x3 : Int32) : Option (cZ) := lS_copy10_3 h FU z x2 x3 (0 : Int32)
set_option maxHeartbeats 4000000 in
set_option maxRecDepth 100000 in
theorem wS_copy10_3 {p : Program} {l : Launch} {e : Env} {s : State} {m : MethodId} {args : Array Value} {below : List Frame} {meth : Method} {c : Code} {g : gT} {qq ad ea : Nat → Nat} {h : cH} {X : va_W} {rv : Option Value} {z' : cZ} (C : mCx p m c cS_copy10 5 s args g "MidiDesk$Score") (hr : meth.sig.returnType = none) (hlk : meth.locks = false) (hrv : rv = none) (k : Nat) : ∀ (z : cZ) (x2 : Int32) (x3 : Int32) (x4 : Int32) (H : Heap) (locs : List Loc) (ls : Array Slot), lv_has ls 5 [(0, .ref (ad 4)), (1, .ref (ad 3)), (2, .int x2), (3, .int x3), (4, .int x4)] → cWd g (cA g qq ad ea h X s.heap.size) s.heap qq ad ea h X z H locs → lS_copy10_3 h k z x2 x3 x4 = some z' → cG p l e rS_copy10 s m args below meth c g qq ad ea h X rv X z' H locs 0 0 (F0 m 3 ls []) := by
  induction k with
  | zero => intro z x2 x3 x4 H locs ls hl hw hf; cases hf
  | succ k ih =>
    intro z x2 x3 x4 H locs ls hl hw hf
    have hf : (if x3 ≤ x4 then (some z) else (if x4 < 0 ∨ h.1 4 ≤ x4.toNatClampNeg then none else (if (x2 + x4) < 0 ∨ h.1 3 ≤ (x2 + x4).toNatClampNeg then none else (if okr h.2.1 (zr z 1 x4.toNatClampNeg) = false then none else (lS_copy10_3 h k (zR z 0 (x2 + x4).toNatClampNeg (zr z 1 x4.toNatClampNeg)) x2 x3 (x4 + 1)))))) = some z' := hf
    refine lv_iload C.1.1 C.1.2.1 dS_copy10_3 (lv_at hl 4 rfl) ?_
    refine lv_iload_n C.1.1 C.1.2.1 dS_copy10_5 rfl (lv_at hl 3 rfl) ?_
    refine lv_icmp_ge (tgt := 25) C.1.1 C.1.2.1 dS_copy10_6 (by decide) (fun c1 => ?_) (fun c1 => ?_)
    · have hf := ts_t hf c1
      exact c_retv C hr hlk hrv hw hf rfl ⟨Nat.le_of_ble_eq_true rfl, Nat.le_of_ble_eq_true rfl⟩ dS_copy10_25
    · have hf := ts_f hf c1
      refine lv_aload_n C.1.1 C.1.2.1 dS_copy10_9 rfl (lv_at hl 1 rfl) ?_
      refine lv_iload_n C.1.1 C.1.2.1 dS_copy10_10 rfl (lv_at hl 2 rfl) ?_
      refine lv_iload C.1.1 C.1.2.1 dS_copy10_11 (lv_at hl 4 rfl) ?_
      refine lv_iadd C.1.1 C.1.2.1 dS_copy10_13 ?_
      refine lv_aload_n C.1.1 C.1.2.1 dS_copy10_14 rfl (lv_at hl 0 rfl) ?_
      refine lv_iload C.1.1 C.1.2.1 dS_copy10_15 (lv_at hl 4 rfl) ?_
      obtain ⟨h2, hf⟩ := ts_g hf
      refine cra_1 C hw h2 dS_copy10_17 ?_
      obtain ⟨h3, hf⟩ := ts_g hf
      obtain ⟨h4, hf⟩ := ts_g hf
      refine crs_0 C hw h3 h4 dS_copy10_18 (fun H locs hw => ?_)
      refine lv_iinc (v := x4 + 1) (lv' := [(4, .int (x4 + 1)), (0, .ref (ad 4)), (1, .ref (ad 3)), (2, .int x2), (3, .int x3)]) C.1.1 C.1.2.1 dS_copy10_19 hl (k := 4) rfl rfl (by decide) rfl (fun ls hl => ?_)
      refine lv_goto (tgt := 3) C.1.1 C.1.2.1 dS_copy10_22 (by decide) ?_
      exact ih (zR z 0 (x2 + x4).toNatClampNeg (zr z 1 x4.toNatClampNeg)) x2 x3 (x4 + 1) _ _ ls (lv_sub hl [1, 2, 3, 4, 0] rfl) hw hf
set_option maxHeartbeats 4000000 in
set_option maxRecDepth 100000 in
theorem cS_copy10_met {l : Launch} {g : gT} {qq ad ea : Nat → Nat} {h : cH} {X : va_W} {z z' : cZ} {x2 : Int32} {x3 : Int32} (hf : fS_copy10 h z x2 x3 = some z') : cMet l yS_copy10 cS_copy10 5 none rS_copy10 g qq ad ea h X z [.ref (ad 4), .ref (ad 3), .int x2, .int x3] (none) X z' := by
  refine c_entry (by decide) (Nat.le_of_ble_eq_true rfl) ?_
  intro p e s m args below meth c ls C hr hlk hnm hl hw
  have hrv : (none : Option Value) = none := rfl
  have C : mCx p m c cS_copy10 5 s args g "MidiDesk$Score" := C
  have hl : lv_has ls 5 [(0, .ref (ad 4)), (1, .ref (ad 3)), (2, .int x2), (3, .int x3)] := hl
  unfold fS_copy10 at hf
  refine lv_iconst (v := (0 : Int32)) C.1.1 C.1.2.1 dS_copy10_0 (by decide) ?_
  refine lv_istore (lv' := [(4, .int (0 : Int32)), (0, .ref (ad 4)), (1, .ref (ad 3)), (2, .int x2), (3, .int x3)]) C.1.1 C.1.2.1 dS_copy10_1 hl (by decide) rfl (fun ls hl => ?_)
  exact wS_copy10_3 C hr hlk hrv FU z x2 x3 (0 : Int32) _ _ ls (lv_sub hl [1, 2, 3, 4, 0] rfl) hw hf
abbrev cS_forget : ByteArray := prog_6_method_2_code
abbrev yS_forget : MethodName := ⟨"MidiDesk$Score", "forget", "()V"⟩
theorem kS_forget : yS_forget.cls ≠ "java/lang/invoke/MethodHandle" ∧ yS_forget.cls ≠ "java/lang/invoke/VarHandle" ∧ (parseMethodDescriptor yS_forget.desc).map (fun d => d.parameters.length) = some 0 := by decide +kernel
abbrev rS_forget : Room := { frames := 1, cells := 0, slots := 0, locals := 20 }
theorem dS_forget_0 : decode cS_forget 0 = .ok (.aload_n 0, 1) := by decide +kernel
theorem dS_forget_1 : decode cS_forget 1 = .ok (.iconst 0, 1) := by decide +kernel
theorem dS_forget_2 : decode cS_forget 2 = .ok (.putfield 29, 3) := by decide +kernel
theorem dS_forget_5 : decode cS_forget 5 = .ok (.aload_n 0, 1) := by decide +kernel
theorem dS_forget_6 : decode cS_forget 6 = .ok (.iconst 0, 1) := by decide +kernel
theorem dS_forget_7 : decode cS_forget 7 = .ok (.putfield 33, 3) := by decide +kernel
theorem dS_forget_10 : decode cS_forget 10 = .ok (.aload_n 0, 1) := by decide +kernel
theorem dS_forget_11 : decode cS_forget 11 = .ok (.getfield 14, 3) := by decide +kernel
theorem dS_forget_14 : decode cS_forget 14 = .ok (.invokevirtual 37, 3) := by decide +kernel
theorem dS_forget_17 : decode cS_forget 17 = .ok (.return_, 1) := by decide +kernel
def fS_forget (h : cH) (z : cZ) : Option (cZ) := (fB2_empty h (zU (zU z 3 (0 : Int32)) 7 (0 : Int32))).bind fun z1 => some z1
set_option maxHeartbeats 4000000 in
set_option maxRecDepth 100000 in
theorem cS_forget_met {l : Launch} {g : gT} {qq ad ea : Nat → Nat} {h : cH} {X : va_W} {z z' : cZ} (hf : fS_forget h z = some z') : cMet l yS_forget cS_forget 1 none rS_forget g qq ad ea h X z [.ref (qq 4)] (none) X z' := by
  refine c_entry (by decide) (Nat.le_of_ble_eq_true rfl) ?_
  intro p e s m args below meth c ls C hr hlk hnm hl hw
  have hrv : (none : Option Value) = none := rfl
  have C : mCx p m c cS_forget 1 s args g "MidiDesk$Score" := C
  have hl : lv_has ls 1 [(0, .ref (qq 4))] := hl
  unfold fS_forget at hf
  refine lv_aload_n C.1.1 C.1.2.1 dS_forget_0 rfl (lv_at hl 0 rfl) ?_
  refine lv_iconst (v := (0 : Int32)) C.1.1 C.1.2.1 dS_forget_1 (by decide) ?_
  refine cp_Score_Score_present C hw (Or.inl rfl) dS_forget_2 (fun H locs hw => ?_)
  refine lv_aload_n C.1.1 C.1.2.1 dS_forget_5 rfl (lv_at hl 0 rfl) ?_
  refine lv_iconst (v := (0 : Int32)) C.1.1 C.1.2.1 dS_forget_6 (by decide) ?_
  refine cp_Score_Score_size C hw dS_forget_7 (fun H locs hw => ?_)
  refine lv_aload_n C.1.1 C.1.2.1 dS_forget_10 rfl (lv_at hl 0 rfl) ?_
  refine cg_Score_Score_data C hw dS_forget_11 ?_
  obtain ⟨z1, g1, hf⟩ := ts_b hf
  try dsimp only at hf
  refine c_callV (rest := []) (As := []) (rv := none) (b := (qq 3)) C hl.1 hw (cB2_empty_met g1) rfl (callW_of (rm := rB2_empty) (C := "MidiDesk$Bytes") 0 C.1.2.2.2.2 gw_237 gw_238 gw_239 gw_53 gw_240 kB2_empty ⟨Nat.le_of_ble_eq_true rfl, Nat.le_of_ble_eq_true rfl⟩) (c_recv_B2 C.2 hw) rfl rfl (Nat.le_of_ble_eq_true rfl) dS_forget_14 ⟨Nat.le_of_ble_eq_true rfl, Nat.le_of_ble_eq_true rfl⟩ (fun H locs hw => ?_)
  refine W.eq (g2 := F0 m 17 ls []) rfl ?_
  exact c_retv C hr hlk hrv hw hf rfl ⟨Nat.le_of_ble_eq_true rfl, Nat.le_of_ble_eq_true rfl⟩ dS_forget_17
abbrev cS_at : ByteArray := prog_6_method_3_code
abbrev yS_at : MethodName := ⟨"MidiDesk$Score", "at", "(I)LMidiDesk$Event;"⟩
theorem kS_at : yS_at.cls ≠ "java/lang/invoke/MethodHandle" ∧ yS_at.cls ≠ "java/lang/invoke/VarHandle" ∧ (parseMethodDescriptor yS_at.desc).map (fun d => d.parameters.length) = some 1 := by decide +kernel
abbrev rS_at : Room := { frames := 0, cells := 0, slots := 0, locals := 0 }
theorem dS_at_0 : decode cS_at 0 = .ok (.iload_n 1, 1) := by decide +kernel
theorem dS_at_1 : decode cS_at 1 = .ok (.ifCond .lt 20, 3) := by decide +kernel
theorem dS_at_4 : decode cS_at 4 = .ok (.iload_n 1, 1) := by decide +kernel
theorem dS_at_5 : decode cS_at 5 = .ok (.aload_n 0, 1) := by decide +kernel
theorem dS_at_6 : decode cS_at 6 = .ok (.getfield 33, 3) := by decide +kernel
theorem dS_at_9 : decode cS_at 9 = .ok (.if_icmp .ge 12, 3) := by decide +kernel
theorem dS_at_12 : decode cS_at 12 = .ok (.aload_n 0, 1) := by decide +kernel
theorem dS_at_13 : decode cS_at 13 = .ok (.getfield 22, 3) := by decide +kernel
theorem dS_at_16 : decode cS_at 16 = .ok (.iload_n 1, 1) := by decide +kernel
theorem dS_at_17 : decode cS_at 17 = .ok (.aaload, 1) := by decide +kernel
theorem dS_at_18 : decode cS_at 18 = .ok (.goto 4, 3) := by decide +kernel
theorem dS_at_21 : decode cS_at 21 = .ok (.aconst_null, 1) := by decide +kernel
theorem dS_at_22 : decode cS_at 22 = .ok (.areturn, 1) := by decide +kernel
def fS_at (h : cH) (z : cZ) (x1 : Int32) : Option (Option Nat × cZ) := if x1 < 0 then (some (none, z)) else (if (zi z 7) ≤ x1 then (some (none, z)) else (if x1 < 0 ∨ h.1 3 ≤ x1.toNatClampNeg then none else (some (zr z 0 x1.toNatClampNeg, z))))
set_option maxHeartbeats 4000000 in
set_option maxRecDepth 100000 in
theorem cS_at_met {l : Launch} {g : gT} {qq ad ea : Nat → Nat} {h : cH} {X : va_W} {z z' : cZ} {x1 : Int32} {r' : Option Nat} (hf : fS_at h z x1 = some (r', z')) : cMet l yS_at cS_at 2 (some (.object "MidiDesk$Event")) rS_at g qq ad ea h X z [.ref (qq 4), .int x1] (some (va_rf (Option.map ea r'))) X z' := by
  refine c_entry (by decide) (Nat.le_of_ble_eq_true rfl) ?_
  intro p e s m args below meth c ls C hr hlk hnm hl hw
  have hrv : (some (va_rf (Option.map ea r')) : Option Value) = some (va_rf (Option.map ea r')) := rfl
  have C : mCx p m c cS_at 2 s args g "MidiDesk$Score" := C
  have hl : lv_has ls 2 [(0, .ref (qq 4)), (1, .int x1)] := hl
  unfold fS_at at hf
  refine lv_iload_n C.1.1 C.1.2.1 dS_at_0 rfl (lv_at hl 1 rfl) ?_
  refine lv_if_lt (tgt := 21) C.1.1 C.1.2.1 dS_at_1 (by decide) (fun c1 => ?_) (fun c1 => ?_)
  · have hf := ts_t hf c1
    refine c_null (ea := ea) C.1.1 C.1.2.1 dS_at_21 ?_
    exact c_reto C hr hlk hrv hw hf rfl ⟨Nat.le_of_ble_eq_true rfl, Nat.le_of_ble_eq_true rfl⟩ dS_at_22
  · have hf := ts_f hf c1
    refine lv_iload_n C.1.1 C.1.2.1 dS_at_4 rfl (lv_at hl 1 rfl) ?_
    refine lv_aload_n C.1.1 C.1.2.1 dS_at_5 rfl (lv_at hl 0 rfl) ?_
    refine cg_Score_Score_size C hw dS_at_6 ?_
    refine lv_icmp_ge (tgt := 21) C.1.1 C.1.2.1 dS_at_9 (by decide) (fun c2 => ?_) (fun c2 => ?_)
    · have hf := ts_t hf c2
      refine c_null (ea := ea) C.1.1 C.1.2.1 dS_at_21 ?_
      exact c_reto C hr hlk hrv hw hf rfl ⟨Nat.le_of_ble_eq_true rfl, Nat.le_of_ble_eq_true rfl⟩ dS_at_22
    · have hf := ts_f hf c2
      refine lv_aload_n C.1.1 C.1.2.1 dS_at_12 rfl (lv_at hl 0 rfl) ?_
      refine cg_Score_Score_row C hw dS_at_13 ?_
      refine lv_iload_n C.1.1 C.1.2.1 dS_at_16 rfl (lv_at hl 1 rfl) ?_
      obtain ⟨h3, hf⟩ := ts_g hf
      refine cra_0 C hw h3 dS_at_17 ?_
      refine lv_goto (tgt := 22) C.1.1 C.1.2.1 dS_at_18 (by decide) ?_
      exact c_reto C hr hlk hrv hw hf rfl ⟨Nat.le_of_ble_eq_true rfl, Nat.le_of_ble_eq_true rfl⟩ dS_at_22
abbrev cS_hasRoomFor : ByteArray := prog_6_method_4_code
abbrev yS_hasRoomFor : MethodName := ⟨"MidiDesk$Score", "hasRoomFor", "(I)Z"⟩
theorem kS_hasRoomFor : yS_hasRoomFor.cls ≠ "java/lang/invoke/MethodHandle" ∧ yS_hasRoomFor.cls ≠ "java/lang/invoke/VarHandle" ∧ (parseMethodDescriptor yS_hasRoomFor.desc).map (fun d => d.parameters.length) = some 1 := by decide +kernel
abbrev rS_hasRoomFor : Room := { frames := 1, cells := 0, slots := 0, locals := 21 }
theorem dS_hasRoomFor_0 : decode cS_hasRoomFor 0 = .ok (.aload_n 0, 1) := by decide +kernel
theorem dS_hasRoomFor_1 : decode cS_hasRoomFor 1 = .ok (.getfield 33, 3) := by decide +kernel
theorem dS_hasRoomFor_4 : decode cS_hasRoomFor 4 = .ok (.sipush 1000, 3) := by decide +kernel
theorem dS_hasRoomFor_7 : decode cS_hasRoomFor 7 = .ok (.if_icmp .ge 26, 3) := by decide +kernel
theorem dS_hasRoomFor_10 : decode cS_hasRoomFor 10 = .ok (.aload_n 0, 1) := by decide +kernel
theorem dS_hasRoomFor_11 : decode cS_hasRoomFor 11 = .ok (.getfield 14, 3) := by decide +kernel
theorem dS_hasRoomFor_14 : decode cS_hasRoomFor 14 = .ok (.invokevirtual 40, 3) := by decide +kernel
theorem dS_hasRoomFor_17 : decode cS_hasRoomFor 17 = .ok (.iconst 0, 1) := by decide +kernel
theorem dS_hasRoomFor_18 : decode cS_hasRoomFor 18 = .ok (.iload_n 1, 1) := by decide +kernel
theorem dS_hasRoomFor_19 : decode cS_hasRoomFor 19 = .ok (.invokestatic 43, 3) := by decide +kernel
theorem dS_hasRoomFor_22 : decode cS_hasRoomFor 22 = .ok (.iadd, 1) := by decide +kernel
theorem dS_hasRoomFor_23 : decode cS_hasRoomFor 23 = .ok (.sipush 8000, 3) := by decide +kernel
theorem dS_hasRoomFor_26 : decode cS_hasRoomFor 26 = .ok (.if_icmp .gt 7, 3) := by decide +kernel
theorem dS_hasRoomFor_29 : decode cS_hasRoomFor 29 = .ok (.iconst 1, 1) := by decide +kernel
theorem dS_hasRoomFor_30 : decode cS_hasRoomFor 30 = .ok (.goto 4, 3) := by decide +kernel
theorem dS_hasRoomFor_33 : decode cS_hasRoomFor 33 = .ok (.iconst 0, 1) := by decide +kernel
theorem dS_hasRoomFor_34 : decode cS_hasRoomFor 34 = .ok (.ireturn, 1) := by decide +kernel
def fS_hasRoomFor (h : cH) (z : cZ) (x1 : Int32) : Option (Int32 × cZ) := if (1000 : Int32) ≤ (zi z 7) then (some ((0 : Int32), z)) else ((fB2_size h z).bind fun (r2, z2) => if (8000 : Int32) < (r2 + (if (0 : Int32) < x1 then x1 else (0 : Int32))) then (some ((0 : Int32), z2)) else (some ((1 : Int32), z2)))
set_option maxHeartbeats 4000000 in
set_option maxRecDepth 100000 in
theorem cS_hasRoomFor_met {l : Launch} {g : gT} {qq ad ea : Nat → Nat} {h : cH} {X : va_W} {z z' : cZ} {x1 : Int32} {r' : Int32} (hf : fS_hasRoomFor h z x1 = some (r', z')) : cMet l yS_hasRoomFor cS_hasRoomFor 2 (some .boolean) rS_hasRoomFor g qq ad ea h X z [.ref (qq 4), .int x1] (some (.int r')) X z' := by
  refine c_entry (by decide) (Nat.le_of_ble_eq_true rfl) ?_
  intro p e s m args below meth c ls C hr hlk hnm hl hw
  have hrv : (some (.int r') : Option Value) = some (.int r') := rfl
  have C : mCx p m c cS_hasRoomFor 2 s args g "MidiDesk$Score" := C
  have hl : lv_has ls 2 [(0, .ref (qq 4)), (1, .int x1)] := hl
  unfold fS_hasRoomFor at hf
  refine lv_aload_n C.1.1 C.1.2.1 dS_hasRoomFor_0 rfl (lv_at hl 0 rfl) ?_
  refine cg_Score_Score_size C hw dS_hasRoomFor_1 ?_
  refine lv_sipush (v := (1000 : Int32)) C.1.1 C.1.2.1 dS_hasRoomFor_4 (by decide) ?_
  refine lv_icmp_ge (tgt := 33) C.1.1 C.1.2.1 dS_hasRoomFor_7 (by decide) (fun c1 => ?_) (fun c1 => ?_)
  · have hf := ts_t hf c1
    refine lv_iconst (v := (0 : Int32)) C.1.1 C.1.2.1 dS_hasRoomFor_33 (by decide) ?_
    exact c_retz C hr hlk hrv hw (Or.inl rfl) hf rfl ⟨Nat.le_of_ble_eq_true rfl, Nat.le_of_ble_eq_true rfl⟩ dS_hasRoomFor_34
  · have hf := ts_f hf c1
    refine lv_aload_n C.1.1 C.1.2.1 dS_hasRoomFor_10 rfl (lv_at hl 0 rfl) ?_
    refine cg_Score_Score_data C hw dS_hasRoomFor_11 ?_
    obtain ⟨⟨r2, z2⟩, g2, hf⟩ := ts_b hf
    try dsimp only at hf
    refine c_callV (rest := []) (As := []) (rv := (some (.int r2))) (b := (qq 3)) C hl.1 hw (cB2_size_met g2) rfl (callW_of (rm := rB2_size) (C := "MidiDesk$Bytes") 0 C.1.2.2.2.2 gw_313 gw_156 gw_157 gw_53 gw_158 kB2_size ⟨Nat.le_of_ble_eq_true rfl, Nat.le_of_ble_eq_true rfl⟩) (c_recv_B2 C.2 hw) rfl rfl (Nat.le_of_ble_eq_true rfl) dS_hasRoomFor_14 ⟨Nat.le_of_ble_eq_true rfl, Nat.le_of_ble_eq_true rfl⟩ (fun H locs hw => ?_)
    refine W.eq (g2 := F0 m 17 ls [.int r2]) rfl ?_
    refine lv_iconst (v := (0 : Int32)) C.1.1 C.1.2.1 dS_hasRoomFor_17 (by decide) ?_
    refine lv_iload_n C.1.1 C.1.2.1 dS_hasRoomFor_18 rfl (lv_at hl 1 rfl) ?_
    refine va_mmax C.1.1 C.1.2.1 (by rw [hl.1]; exact C.1.2.2.1) C.1.2.2.2.1 (C.1.2.2.2.2 _ gw_314) (C.1.2.2.2.2 _ gw_315) (C.1.2.2.2.2 _ gw_57) (C.1.2.2.2.2 _ gw_316) (Nat.le_of_ble_eq_true rfl) (Nat.le_of_ble_eq_true rfl) (Nat.le_of_ble_eq_true rfl) (Nat.le_of_ble_eq_true rfl) dS_hasRoomFor_19 ?_
    refine lv_iadd C.1.1 C.1.2.1 dS_hasRoomFor_22 ?_
    refine lv_sipush (v := (8000 : Int32)) C.1.1 C.1.2.1 dS_hasRoomFor_23 (by decide) ?_
    refine lv_icmp_gt (tgt := 33) C.1.1 C.1.2.1 dS_hasRoomFor_26 (by decide) (fun c3 => ?_) (fun c3 => ?_)
    · have hf := ts_t hf c3
      refine lv_iconst (v := (0 : Int32)) C.1.1 C.1.2.1 dS_hasRoomFor_33 (by decide) ?_
      exact c_retz C hr hlk hrv hw (Or.inl rfl) hf rfl ⟨Nat.le_of_ble_eq_true rfl, Nat.le_of_ble_eq_true rfl⟩ dS_hasRoomFor_34
    · have hf := ts_f hf c3
      refine lv_iconst (v := (1 : Int32)) C.1.1 C.1.2.1 dS_hasRoomFor_29 (by decide) ?_
      refine lv_goto (tgt := 34) C.1.1 C.1.2.1 dS_hasRoomFor_30 (by decide) ?_
      exact c_retz C hr hlk hrv hw (Or.inr rfl) hf rfl ⟨Nat.le_of_ble_eq_true rfl, Nat.le_of_ble_eq_true rfl⟩ dS_hasRoomFor_34
end
section
abbrev cS_mergeRuns : ByteArray := prog_6_method_8_code
abbrev yS_mergeRuns : MethodName := ⟨"MidiDesk$Score", "mergeRuns", "(III)V"⟩
theorem kS_mergeRuns : yS_mergeRuns.cls ≠ "java/lang/invoke/MethodHandle" ∧ yS_mergeRuns.cls ≠ "java/lang/invoke/VarHandle" ∧ (parseMethodDescriptor yS_mergeRuns.desc).map (fun d => d.parameters.length) = some 3 := by decide +kernel
abbrev rS_mergeRuns : Room := { frames := 1, cells := 0, slots := 0, locals := 21 }
theorem dS_mergeRuns_0 : decode cS_mergeRuns 0 = .ok (.iload_n 1, 1) := by decide +kernel
theorem dS_mergeRuns_1 : decode cS_mergeRuns 1 = .ok (.istore 4, 2) := by decide +kernel
theorem dS_mergeRuns_3 : decode cS_mergeRuns 3 = .ok (.iload_n 2, 1) := by decide +kernel
theorem dS_mergeRuns_4 : decode cS_mergeRuns 4 = .ok (.istore 5, 2) := by decide +kernel
theorem dS_mergeRuns_6 : decode cS_mergeRuns 6 = .ok (.iload_n 1, 1) := by decide +kernel
theorem dS_mergeRuns_7 : decode cS_mergeRuns 7 = .ok (.istore 6, 2) := by decide +kernel
theorem dS_mergeRuns_9 : decode cS_mergeRuns 9 = .ok (.iload 6, 2) := by decide +kernel
theorem dS_mergeRuns_11 : decode cS_mergeRuns 11 = .ok (.iload_n 3, 1) := by decide +kernel
theorem dS_mergeRuns_12 : decode cS_mergeRuns 12 = .ok (.if_icmp .ge 90, 3) := by decide +kernel
theorem dS_mergeRuns_15 : decode cS_mergeRuns 15 = .ok (.iload 4, 2) := by decide +kernel
theorem dS_mergeRuns_17 : decode cS_mergeRuns 17 = .ok (.iload_n 2, 1) := by decide +kernel
theorem dS_mergeRuns_18 : decode cS_mergeRuns 18 = .ok (.if_icmp .ge 29, 3) := by decide +kernel
theorem dS_mergeRuns_21 : decode cS_mergeRuns 21 = .ok (.iload 5, 2) := by decide +kernel
theorem dS_mergeRuns_23 : decode cS_mergeRuns 23 = .ok (.iload_n 3, 1) := by decide +kernel
theorem dS_mergeRuns_24 : decode cS_mergeRuns 24 = .ok (.if_icmp .ge 27, 3) := by decide +kernel
theorem dS_mergeRuns_27 : decode cS_mergeRuns 27 = .ok (.aload_n 0, 1) := by decide +kernel
theorem dS_mergeRuns_28 : decode cS_mergeRuns 28 = .ok (.getfield 22, 3) := by decide +kernel
theorem dS_mergeRuns_31 : decode cS_mergeRuns 31 = .ok (.iload 4, 2) := by decide +kernel
theorem dS_mergeRuns_33 : decode cS_mergeRuns 33 = .ok (.aaload, 1) := by decide +kernel
theorem dS_mergeRuns_34 : decode cS_mergeRuns 34 = .ok (.aload_n 0, 1) := by decide +kernel
theorem dS_mergeRuns_35 : decode cS_mergeRuns 35 = .ok (.getfield 22, 3) := by decide +kernel
theorem dS_mergeRuns_38 : decode cS_mergeRuns 38 = .ok (.iload 5, 2) := by decide +kernel
theorem dS_mergeRuns_40 : decode cS_mergeRuns 40 = .ok (.aaload, 1) := by decide +kernel
theorem dS_mergeRuns_41 : decode cS_mergeRuns 41 = .ok (.invokevirtual 61, 3) := by decide +kernel
theorem dS_mergeRuns_44 : decode cS_mergeRuns 44 = .ok (.ifCond .eq 7, 3) := by decide +kernel
theorem dS_mergeRuns_47 : decode cS_mergeRuns 47 = .ok (.iconst 1, 1) := by decide +kernel
theorem dS_mergeRuns_48 : decode cS_mergeRuns 48 = .ok (.goto 4, 3) := by decide +kernel
theorem dS_mergeRuns_51 : decode cS_mergeRuns 51 = .ok (.iconst 0, 1) := by decide +kernel
theorem dS_mergeRuns_52 : decode cS_mergeRuns 52 = .ok (.istore 7, 2) := by decide +kernel
theorem dS_mergeRuns_54 : decode cS_mergeRuns 54 = .ok (.iload 7, 2) := by decide +kernel
theorem dS_mergeRuns_56 : decode cS_mergeRuns 56 = .ok (.ifCond .eq 23, 3) := by decide +kernel
theorem dS_mergeRuns_59 : decode cS_mergeRuns 59 = .ok (.aload_n 0, 1) := by decide +kernel
theorem dS_mergeRuns_60 : decode cS_mergeRuns 60 = .ok (.getfield 26, 3) := by decide +kernel
theorem dS_mergeRuns_63 : decode cS_mergeRuns 63 = .ok (.iload 6, 2) := by decide +kernel
theorem dS_mergeRuns_65 : decode cS_mergeRuns 65 = .ok (.aload_n 0, 1) := by decide +kernel
theorem dS_mergeRuns_66 : decode cS_mergeRuns 66 = .ok (.getfield 22, 3) := by decide +kernel
theorem dS_mergeRuns_69 : decode cS_mergeRuns 69 = .ok (.iload 5, 2) := by decide +kernel
theorem dS_mergeRuns_71 : decode cS_mergeRuns 71 = .ok (.aaload, 1) := by decide +kernel
theorem dS_mergeRuns_72 : decode cS_mergeRuns 72 = .ok (.aastore, 1) := by decide +kernel
theorem dS_mergeRuns_73 : decode cS_mergeRuns 73 = .ok (.iinc 5 1, 3) := by decide +kernel
theorem dS_mergeRuns_76 : decode cS_mergeRuns 76 = .ok (.goto 20, 3) := by decide +kernel
theorem dS_mergeRuns_79 : decode cS_mergeRuns 79 = .ok (.aload_n 0, 1) := by decide +kernel
theorem dS_mergeRuns_80 : decode cS_mergeRuns 80 = .ok (.getfield 26, 3) := by decide +kernel
theorem dS_mergeRuns_83 : decode cS_mergeRuns 83 = .ok (.iload 6, 2) := by decide +kernel
theorem dS_mergeRuns_85 : decode cS_mergeRuns 85 = .ok (.aload_n 0, 1) := by decide +kernel
theorem dS_mergeRuns_86 : decode cS_mergeRuns 86 = .ok (.getfield 22, 3) := by decide +kernel
theorem dS_mergeRuns_89 : decode cS_mergeRuns 89 = .ok (.iload 4, 2) := by decide +kernel
theorem dS_mergeRuns_91 : decode cS_mergeRuns 91 = .ok (.aaload, 1) := by decide +kernel
theorem dS_mergeRuns_92 : decode cS_mergeRuns 92 = .ok (.aastore, 1) := by decide +kernel
theorem dS_mergeRuns_93 : decode cS_mergeRuns 93 = .ok (.iinc 4 1, 3) := by decide +kernel
theorem dS_mergeRuns_96 : decode cS_mergeRuns 96 = .ok (.iinc 6 1, 3) := by decide +kernel
theorem dS_mergeRuns_99 : decode cS_mergeRuns 99 = .ok (.goto (-90), 3) := by decide +kernel
theorem dS_mergeRuns_102 : decode cS_mergeRuns 102 = .ok (.return_, 1) := by decide +kernel
def jS_mergeRuns_96 (h : cH) (K9 : cZ → Int32 → Int32 → Int32 → Int32 → Int32 → Option (cZ)) (z : cZ) (x2 : Int32) (x3 : Int32) (x4 : Int32) (x5 : Int32) (x6 : Int32) : Option (cZ) := K9 z x2 x3 x4 x5 (x6 + 1)
def jS_mergeRuns_52 (h : cH) (K9 : cZ → Int32 → Int32 → Int32 → Int32 → Int32 → Option (cZ)) (z : cZ) (x2 : Int32) (x3 : Int32) (x4 : Int32) (x5 : Int32) (x6 : Int32) (s0 : Int32) : Option (cZ) := if s0 = 0 then (if x4 < 0 ∨ h.1 3 ≤ x4.toNatClampNeg then none else (if x6 < 0 ∨ h.1 4 ≤ x6.toNatClampNeg then none else (if okr h.2.1 (zr z 0 x4.toNatClampNeg) = false then none else (jS_mergeRuns_96 h K9 (zR z 1 x6.toNatClampNeg (zr z 0 x4.toNatClampNeg)) x2 x3 (x4 + 1) x5 x6)))) else (if x5 < 0 ∨ h.1 3 ≤ x5.toNatClampNeg then none else (if x6 < 0 ∨ h.1 4 ≤ x6.toNatClampNeg then none else (if okr h.2.1 (zr z 0 x5.toNatClampNeg) = false then none else (jS_mergeRuns_96 h K9 (zR z 1 x6.toNatClampNeg (zr z 0 x5.toNatClampNeg)) x2 x3 x4 (x5 + 1) x6))))
def jS_mergeRuns_47 (h : cH) (K9 : cZ → Int32 → Int32 → Int32 → Int32 → Int32 → Option (cZ)) (z : cZ) (x2 : Int32) (x3 : Int32) (x4 : Int32) (x5 : Int32) (x6 : Int32) : Option (cZ) := jS_mergeRuns_52 h K9 z x2 x3 x4 x5 x6 (1 : Int32)
def jS_mergeRuns_51 (h : cH) (K9 : cZ → Int32 → Int32 → Int32 → Int32 → Int32 → Option (cZ)) (z : cZ) (x2 : Int32) (x3 : Int32) (x4 : Int32) (x5 : Int32) (x6 : Int32) : Option (cZ) := jS_mergeRuns_52 h K9 z x2 x3 x4 x5 x6 (0 : Int32)
def lS_mergeRuns_9 (h : cH) : Nat → cZ → Int32 → Int32 → Int32 → Int32 → Int32 → Option (cZ)
  | 0 => fun _ _ _ _ _ _ => none
  | k + 1 => fun z x2 x3 x4 x5 x6 => if x3 ≤ x6 then (some z) else (if x2 ≤ x4 then (jS_mergeRuns_47 h (lS_mergeRuns_9 h k) z x2 x3 x4 x5 x6) else (if x3 ≤ x5 then (jS_mergeRuns_51 h (lS_mergeRuns_9 h k) z x2 x3 x4 x5 x6) else (if x4 < 0 ∨ h.1 3 ≤ x4.toNatClampNeg then none else (if x5 < 0 ∨ h.1 3 ≤ x5.toNatClampNeg then none else ((zr z 0 x4.toNatClampNeg).bind fun j6 => if h.2.1 ≤ j6 then none else ((fE_belongsBehind h z j6 (zr z 0 x5.toNatClampNeg)).bind fun (r7, z7) => if r7 = 0 then (jS_mergeRuns_51 h (lS_mergeRuns_9 h k) z7 x2 x3 x4 x5 x6) else (jS_mergeRuns_47 h (lS_mergeRuns_9 h k) z7 x2 x3 x4 x5 x6)))))))
def fS_mergeRuns (h : cH) (z : cZ) (x1 : Int32) (x2 : Int32) (x3 : Int32) : Option (cZ) := lS_mergeRuns_9 h FU z x2 x3 x1 x2 x1
set_option maxHeartbeats 4000000 in
set_option maxRecDepth 100000 in
theorem wS_mergeRuns_96 {p : Program} {l : Launch} {e : Env} {s : State} {m : MethodId} {args : Array Value} {below : List Frame} {meth : Method} {c : Code} {g : gT} {qq ad ea : Nat → Nat} {h : cH} {X : va_W} {rv : Option Value} {z' : cZ} (C : mCx p m c cS_mergeRuns 8 s args g "MidiDesk$Score") (hr : meth.sig.returnType = none) (hlk : meth.locks = false) (hrv : rv = none) {K9 : cZ → Int32 → Int32 → Int32 → Int32 → Int32 → Option (cZ)} (hK9 : ∀ (z : cZ) (x2 : Int32) (x3 : Int32) (x4 : Int32) (x5 : Int32) (x6 : Int32) (H : Heap) (locs : List Loc) (ls : Array Slot), lv_has ls 8 [(0, .ref (qq 4)), (2, .int x2), (3, .int x3), (4, .int x4), (5, .int x5), (6, .int x6)] → cWd g (cA g qq ad ea h X s.heap.size) s.heap qq ad ea h X z H locs → K9 z x2 x3 x4 x5 x6 = some z' → cG p l e rS_mergeRuns s m args below meth c g qq ad ea h X rv X z' H locs 0 0 (F0 m 9 ls [])) (z : cZ) (x2 : Int32) (x3 : Int32) (x4 : Int32) (x5 : Int32) (x6 : Int32) (H : Heap) (locs : List Loc) (ls : Array Slot) (hl : lv_has ls 8 [(0, .ref (qq 4)), (2, .int x2), (3, .int x3), (4, .int x4), (5, .int x5), (6, .int x6)]) (hw : cWd g (cA g qq ad ea h X s.heap.size) s.heap qq ad ea h X z H locs) (hf : jS_mergeRuns_96 h K9 z x2 x3 x4 x5 x6 = some z') : cG p l e rS_mergeRuns s m args below meth c g qq ad ea h X rv X z' H locs 0 0 (F0 m 96 ls []) := by
  unfold jS_mergeRuns_96 at hf
  refine lv_iinc (v := x6 + 1) (lv' := [(6, .int (x6 + 1)), (0, .ref (qq 4)), (2, .int x2), (3, .int x3), (4, .int x4), (5, .int x5)]) C.1.1 C.1.2.1 dS_mergeRuns_96 hl (k := 5) rfl rfl (by decide) rfl (fun ls hl => ?_)
  refine lv_goto (tgt := 9) C.1.1 C.1.2.1 dS_mergeRuns_99 (by decide) ?_
  exact hK9 z x2 x3 x4 x5 (x6 + 1) _ _ ls (lv_sub hl [1, 2, 3, 4, 5, 0] rfl) hw hf
set_option maxHeartbeats 4000000 in
set_option maxRecDepth 100000 in
theorem wS_mergeRuns_52 {p : Program} {l : Launch} {e : Env} {s : State} {m : MethodId} {args : Array Value} {below : List Frame} {meth : Method} {c : Code} {g : gT} {qq ad ea : Nat → Nat} {h : cH} {X : va_W} {rv : Option Value} {z' : cZ} (C : mCx p m c cS_mergeRuns 8 s args g "MidiDesk$Score") (hr : meth.sig.returnType = none) (hlk : meth.locks = false) (hrv : rv = none) {K9 : cZ → Int32 → Int32 → Int32 → Int32 → Int32 → Option (cZ)} (hK9 : ∀ (z : cZ) (x2 : Int32) (x3 : Int32) (x4 : Int32) (x5 : Int32) (x6 : Int32) (H : Heap) (locs : List Loc) (ls : Array Slot), lv_has ls 8 [(0, .ref (qq 4)), (2, .int x2), (3, .int x3), (4, .int x4), (5, .int x5), (6, .int x6)] → cWd g (cA g qq ad ea h X s.heap.size) s.heap qq ad ea h X z H locs → K9 z x2 x3 x4 x5 x6 = some z' → cG p l e rS_mergeRuns s m args below meth c g qq ad ea h X rv X z' H locs 0 0 (F0 m 9 ls [])) (z : cZ) (x2 : Int32) (x3 : Int32) (x4 : Int32) (x5 : Int32) (x6 : Int32) (s0 : Int32) (H : Heap) (locs : List Loc) (ls : Array Slot) (hl : lv_has ls 8 [(0, .ref (qq 4)), (2, .int x2), (3, .int x3), (4, .int x4), (5, .int x5), (6, .int x6)]) (hw : cWd g (cA g qq ad ea h X s.heap.size) s.heap qq ad ea h X z H locs) (hf : jS_mergeRuns_52 h K9 z x2 x3 x4 x5 x6 s0 = some z') : cG p l e rS_mergeRuns s m args below meth c g qq ad ea h X rv X z' H locs 0 0 (F0 m 52 ls [.int s0]) := by
  unfold jS_mergeRuns_52 at hf
  refine lv_istore (lv' := [(7, .int s0), (0, .ref (qq 4)), (2, .int x2), (3, .int x3), (4, .int x4), (5, .int x5), (6, .int x6)]) C.1.1 C.1.2.1 dS_mergeRuns_52 hl (by decide) rfl (fun ls hl => ?_)
  refine lv_iload C.1.1 C.1.2.1 dS_mergeRuns_54 (lv_at hl 0 rfl) ?_
  refine lv_if_eq (tgt := 79) C.1.1 C.1.2.1 dS_mergeRuns_56 (by decide) (fun c1 => ?_) (fun c1 => ?_)
  · have hf := ts_t hf c1
    refine lv_aload_n C.1.1 C.1.2.1 dS_mergeRuns_79 rfl (lv_at hl 1 rfl) ?_
    refine cg_Score_Score_spare C hw dS_mergeRuns_80 ?_
    refine lv_iload C.1.1 C.1.2.1 dS_mergeRuns_83 (lv_at hl 6 rfl) ?_
    refine lv_aload_n C.1.1 C.1.2.1 dS_mergeRuns_85 rfl (lv_at hl 1 rfl) ?_
    refine cg_Score_Score_row C hw dS_mergeRuns_86 ?_
    refine lv_iload C.1.1 C.1.2.1 dS_mergeRuns_89 (lv_at hl 4 rfl) ?_
    obtain ⟨h2, hf⟩ := ts_g hf
    refine cra_0 C hw h2 dS_mergeRuns_91 ?_
    obtain ⟨h3, hf⟩ := ts_g hf
    obtain ⟨h4, hf⟩ := ts_g hf
    refine crs_1 C hw h3 h4 dS_mergeRuns_92 (fun H locs hw => ?_)
    refine lv_iinc (v := x4 + 1) (lv' := [(4, .int (x4 + 1)), (7, .int s0), (0, .ref (qq 4)), (2, .int x2), (3, .int x3), (5, .int x5), (6, .int x6)]) C.1.1 C.1.2.1 dS_mergeRuns_93 hl (k := 4) rfl rfl (by decide) rfl (fun ls hl => ?_)
    exact wS_mergeRuns_96 C hr hlk hrv hK9 (zR z 1 x6.toNatClampNeg (zr z 0 x4.toNatClampNeg)) x2 x3 (x4 + 1) x5 x6 _ _ ls (lv_sub hl [2, 3, 4, 0, 5, 6] rfl) hw hf
  · have hf := ts_f hf c1
    refine lv_aload_n C.1.1 C.1.2.1 dS_mergeRuns_59 rfl (lv_at hl 1 rfl) ?_
    refine cg_Score_Score_spare C hw dS_mergeRuns_60 ?_
    refine lv_iload C.1.1 C.1.2.1 dS_mergeRuns_63 (lv_at hl 6 rfl) ?_
    refine lv_aload_n C.1.1 C.1.2.1 dS_mergeRuns_65 rfl (lv_at hl 1 rfl) ?_
    refine cg_Score_Score_row C hw dS_mergeRuns_66 ?_
    refine lv_iload C.1.1 C.1.2.1 dS_mergeRuns_69 (lv_at hl 5 rfl) ?_
    obtain ⟨h5, hf⟩ := ts_g hf
    refine cra_0 C hw h5 dS_mergeRuns_71 ?_
    obtain ⟨h6, hf⟩ := ts_g hf
    obtain ⟨h7, hf⟩ := ts_g hf
    refine crs_1 C hw h6 h7 dS_mergeRuns_72 (fun H locs hw => ?_)
    refine lv_iinc (v := x5 + 1) (lv' := [(5, .int (x5 + 1)), (7, .int s0), (0, .ref (qq 4)), (2, .int x2), (3, .int x3), (4, .int x4), (6, .int x6)]) C.1.1 C.1.2.1 dS_mergeRuns_73 hl (k := 5) rfl rfl (by decide) rfl (fun ls hl => ?_)
    refine lv_goto (tgt := 96) C.1.1 C.1.2.1 dS_mergeRuns_76 (by decide) ?_
    exact wS_mergeRuns_96 C hr hlk hrv hK9 (zR z 1 x6.toNatClampNeg (zr z 0 x5.toNatClampNeg)) x2 x3 x4 (x5 + 1) x6 _ _ ls (lv_sub hl [2, 3, 4, 5, 0, 6] rfl) hw hf
set_option maxHeartbeats 4000000 in
set_option maxRecDepth 100000 in
theorem wS_mergeRuns_47 {p : Program} {l : Launch} {e : Env} {s : State} {m : MethodId} {args : Array Value} {below : List Frame} {meth : Method} {c : Code} {g : gT} {qq ad ea : Nat → Nat} {h : cH} {X : va_W} {rv : Option Value} {z' : cZ} (C : mCx p m c cS_mergeRuns 8 s args g "MidiDesk$Score") (hr : meth.sig.returnType = none) (hlk : meth.locks = false) (hrv : rv = none) {K9 : cZ → Int32 → Int32 → Int32 → Int32 → Int32 → Option (cZ)} (hK9 : ∀ (z : cZ) (x2 : Int32) (x3 : Int32) (x4 : Int32) (x5 : Int32) (x6 : Int32) (H : Heap) (locs : List Loc) (ls : Array Slot), lv_has ls 8 [(0, .ref (qq 4)), (2, .int x2), (3, .int x3), (4, .int x4), (5, .int x5), (6, .int x6)] → cWd g (cA g qq ad ea h X s.heap.size) s.heap qq ad ea h X z H locs → K9 z x2 x3 x4 x5 x6 = some z' → cG p l e rS_mergeRuns s m args below meth c g qq ad ea h X rv X z' H locs 0 0 (F0 m 9 ls [])) (z : cZ) (x2 : Int32) (x3 : Int32) (x4 : Int32) (x5 : Int32) (x6 : Int32) (H : Heap) (locs : List Loc) (ls : Array Slot) (hl : lv_has ls 8 [(0, .ref (qq 4)), (2, .int x2), (3, .int x3), (4, .int x4), (5, .int x5), (6, .int x6)]) (hw : cWd g (cA g qq ad ea h X s.heap.size) s.heap qq ad ea h X z H locs) (hf : jS_mergeRuns_47 h K9 z x2 x3 x4 x5 x6 = some z') : cG p l e rS_mergeRuns s m args below meth c g qq ad ea h X rv X z' H locs 0 0 (F0 m 47 ls []) := by
  unfold jS_mergeRuns_47 at hf
  refine lv_iconst (v := (1 : Int32)) C.1.1 C.1.2.1 dS_mergeRuns_47 (by decide) ?_
  refine lv_goto (tgt := 52) C.1.1 C.1.2.1 dS_mergeRuns_48 (by decide) ?_
  exact wS_mergeRuns_52 C hr hlk hrv hK9 z x2 x3 x4 x5 x6 (1 : Int32) _ _ ls (lv_sub hl [0, 1, 2, 3, 4, 5] rfl) hw hf
set_option maxHeartbeats 4000000 in
set_option maxRecDepth 100000 in
theorem wS_mergeRuns_51 {p : Program} {l : Launch} {e : Env} {s : State} {m : MethodId} {args : Array Value} {below : List Frame} {meth : Method} {c : Code} {g : gT} {qq ad ea : Nat → Nat} {h : cH} {X : va_W} {rv : Option Value} {z' : cZ} (C : mCx p m c cS_mergeRuns 8 s args g "MidiDesk$Score") (hr : meth.sig.returnType = none) (hlk : meth.locks = false) (hrv : rv = none) {K9 : cZ → Int32 → Int32 → Int32 → Int32 → Int32 → Option (cZ)} (hK9 : ∀ (z : cZ) (x2 : Int32) (x3 : Int32) (x4 : Int32) (x5 : Int32) (x6 : Int32) (H : Heap) (locs : List Loc) (ls : Array Slot), lv_has ls 8 [(0, .ref (qq 4)), (2, .int x2), (3, .int x3), (4, .int x4), (5, .int x5), (6, .int x6)] → cWd g (cA g qq ad ea h X s.heap.size) s.heap qq ad ea h X z H locs → K9 z x2 x3 x4 x5 x6 = some z' → cG p l e rS_mergeRuns s m args below meth c g qq ad ea h X rv X z' H locs 0 0 (F0 m 9 ls [])) (z : cZ) (x2 : Int32) (x3 : Int32) (x4 : Int32) (x5 : Int32) (x6 : Int32) (H : Heap) (locs : List Loc) (ls : Array Slot) (hl : lv_has ls 8 [(0, .ref (qq 4)), (2, .int x2), (3, .int x3), (4, .int x4), (5, .int x5), (6, .int x6)]) (hw : cWd g (cA g qq ad ea h X s.heap.size) s.heap qq ad ea h X z H locs) (hf : jS_mergeRuns_51 h K9 z x2 x3 x4 x5 x6 = some z') : cG p l e rS_mergeRuns s m args below meth c g qq ad ea h X rv X z' H locs 0 0 (F0 m 51 ls []) := by
  unfold jS_mergeRuns_51 at hf
  refine lv_iconst (v := (0 : Int32)) C.1.1 C.1.2.1 dS_mergeRuns_51 (by decide) ?_
  exact wS_mergeRuns_52 C hr hlk hrv hK9 z x2 x3 x4 x5 x6 (0 : Int32) _ _ ls (lv_sub hl [0, 1, 2, 3, 4, 5] rfl) hw hf
set_option maxHeartbeats 4000000 in
set_option maxRecDepth 100000 in
theorem wS_mergeRuns_9 {p : Program} {l : Launch} {e : Env} {s : State} {m : MethodId} {args : Array Value} {below : List Frame} {meth : Method} {c : Code} {g : gT} {qq ad ea : Nat → Nat} {h : cH} {X : va_W} {rv : Option Value} {z' : cZ} (C : mCx p m c cS_mergeRuns 8 s args g "MidiDesk$Score") (hr : meth.sig.returnType = none) (hlk : meth.locks = false) (hrv : rv = none) (k : Nat) : ∀ (z : cZ) (x2 : Int32) (x3 : Int32) (x4 : Int32) (x5 : Int32) (x6 : Int32) (H : Heap) (locs : List Loc) (ls : Array Slot), lv_has ls 8 [(0, .ref (qq 4)), (2, .int x2), (3, .int x3), (4, .int x4), (5, .int x5), (6, .int x6)] → cWd g (cA g qq ad ea h X s.heap.size) s.heap qq ad ea h X z H locs → lS_mergeRuns_9 h k z x2 x3 x4 x5 x6 = some z' → cG p l e rS_mergeRuns s m args below meth c g qq ad ea h X rv X z' H locs 0 0 (F0 m 9 ls []) := by
  induction k with
  | zero => intro z x2 x3 x4 x5 x6 H locs ls hl hw hf; cases hf
  | succ k ih =>
    intro z x2 x3 x4 x5 x6 H locs ls hl hw hf
    have hf : (if x3 ≤ x6 then (some z) else (if x2 ≤ x4 then (jS_mergeRuns_47 h (lS_mergeRuns_9 h k) z x2 x3 x4 x5 x6) else (if x3 ≤ x5 then (jS_mergeRuns_51 h (lS_mergeRuns_9 h k) z x2 x3 x4 x5 x6) else (if x4 < 0 ∨ h.1 3 ≤ x4.toNatClampNeg then none else (if x5 < 0 ∨ h.1 3 ≤ x5.toNatClampNeg then none else ((zr z 0 x4.toNatClampNeg).bind fun j6 => if h.2.1 ≤ j6 then none else ((fE_belongsBehind h z j6 (zr z 0 x5.toNatClampNeg)).bind fun (r7, z7) => if r7 = 0 then (jS_mergeRuns_51 h (lS_mergeRuns_9 h k) z7 x2 x3 x4 x5 x6) else (jS_mergeRuns_47 h (lS_mergeRuns_9 h k) z7 x2 x3 x4 x5 x6)))))))) = some z' := hf
    refine lv_iload C.1.1 C.1.2.1 dS_mergeRuns_9 (lv_at hl 5 rfl) ?_
    refine lv_iload_n C.1.1 C.1.2.1 dS_mergeRuns_11 rfl (lv_at hl 2 rfl) ?_
    refine lv_icmp_ge (tgt := 102) C.1.1 C.1.2.1 dS_mergeRuns_12 (by decide) (fun c1 => ?_) (fun c1 => ?_)
    · have hf := ts_t hf c1
      exact c_retv C hr hlk hrv hw hf rfl ⟨Nat.le_of_ble_eq_true rfl, Nat.le_of_ble_eq_true rfl⟩ dS_mergeRuns_102
    · have hf := ts_f hf c1
      refine lv_iload C.1.1 C.1.2.1 dS_mergeRuns_15 (lv_at hl 3 rfl) ?_
      refine lv_iload_n C.1.1 C.1.2.1 dS_mergeRuns_17 rfl (lv_at hl 1 rfl) ?_
      refine lv_icmp_ge (tgt := 47) C.1.1 C.1.2.1 dS_mergeRuns_18 (by decide) (fun c2 => ?_) (fun c2 => ?_)
      · have hf := ts_t hf c2
        exact wS_mergeRuns_47 C hr hlk hrv ih z x2 x3 x4 x5 x6 _ _ ls (lv_sub hl [0, 1, 2, 3, 4, 5] rfl) hw hf
      · have hf := ts_f hf c2
        refine lv_iload C.1.1 C.1.2.1 dS_mergeRuns_21 (lv_at hl 4 rfl) ?_
        refine lv_iload_n C.1.1 C.1.2.1 dS_mergeRuns_23 rfl (lv_at hl 2 rfl) ?_
        refine lv_icmp_ge (tgt := 51) C.1.1 C.1.2.1 dS_mergeRuns_24 (by decide) (fun c3 => ?_) (fun c3 => ?_)
        · have hf := ts_t hf c3
          exact wS_mergeRuns_51 C hr hlk hrv ih z x2 x3 x4 x5 x6 _ _ ls (lv_sub hl [0, 1, 2, 3, 4, 5] rfl) hw hf
        · have hf := ts_f hf c3
          refine lv_aload_n C.1.1 C.1.2.1 dS_mergeRuns_27 rfl (lv_at hl 0 rfl) ?_
          refine cg_Score_Score_row C hw dS_mergeRuns_28 ?_
          refine lv_iload C.1.1 C.1.2.1 dS_mergeRuns_31 (lv_at hl 3 rfl) ?_
          obtain ⟨h4, hf⟩ := ts_g hf
          refine cra_0 C hw h4 dS_mergeRuns_33 ?_
          refine lv_aload_n C.1.1 C.1.2.1 dS_mergeRuns_34 rfl (lv_at hl 0 rfl) ?_
          refine cg_Score_Score_row C hw dS_mergeRuns_35 ?_
          refine lv_iload C.1.1 C.1.2.1 dS_mergeRuns_38 (lv_at hl 4 rfl) ?_
          obtain ⟨h5, hf⟩ := ts_g hf
          refine cra_0 C hw h5 dS_mergeRuns_40 ?_
          obtain ⟨j6, ho6, hf⟩ := ts_b hf
          try dsimp only at hf
          obtain ⟨hb6, hf⟩ := ts_g hf
          have hb6 := Nat.lt_of_not_le hb6
          obtain ⟨⟨r7, z7⟩, g7, hf⟩ := ts_b hf
          try dsimp only at hf
          refine c_callV (rest := []) (As := [va_rf (Option.map ea (zr z 0 x5.toNatClampNeg))]) (rv := (some (.int r7))) (b := (ea j6)) C hl.1 hw (cE_belongsBehind_met g7) rfl (callW_of (rm := rE_belongsBehind) (C := "MidiDesk$Event") 1 C.1.2.2.2.2 gw_388 gw_389 gw_390 gw_60 gw_391 kE_belongsBehind ⟨Nat.le_of_ble_eq_true rfl, Nat.le_of_ble_eq_true rfl⟩) (c_recvE C.2 hb6 hw) rfl (by rw [ho6]; rfl) (Nat.le_of_ble_eq_true rfl) dS_mergeRuns_41 ⟨Nat.le_of_ble_eq_true rfl, Nat.le_of_ble_eq_true rfl⟩ (fun H locs hw => ?_)
          refine W.eq (g2 := F0 m 44 ls [.int r7]) rfl ?_
          refine lv_if_eq (tgt := 51) C.1.1 C.1.2.1 dS_mergeRuns_44 (by decide) (fun c8 => ?_) (fun c8 => ?_)
          · have hf := ts_t hf c8
            exact wS_mergeRuns_51 C hr hlk hrv ih z7 x2 x3 x4 x5 x6 _ _ ls (lv_sub hl [0, 1, 2, 3, 4, 5] rfl) hw hf
          · have hf := ts_f hf c8
            exact wS_mergeRuns_47 C hr hlk hrv ih z7 x2 x3 x4 x5 x6 _ _ ls (lv_sub hl [0, 1, 2, 3, 4, 5] rfl) hw hf
set_option maxHeartbeats 4000000 in
set_option maxRecDepth 100000 in
theorem cS_mergeRuns_met {l : Launch} {g : gT} {qq ad ea : Nat → Nat} {h : cH} {X : va_W} {z z' : cZ} {x1 : Int32} {x2 : Int32} {x3 : Int32} (hf : fS_mergeRuns h z x1 x2 x3 = some z') : cMet l yS_mergeRuns cS_mergeRuns 8 none rS_mergeRuns g qq ad ea h X z [.ref (qq 4), .int x1, .int x2, .int x3] (none) X z' := by
  refine c_entry (by decide) (Nat.le_of_ble_eq_true rfl) ?_
  intro p e s m args below meth c ls C hr hlk hnm hl hw
  have hrv : (none : Option Value) = none := rfl
  have C : mCx p m c cS_mergeRuns 8 s args g "MidiDesk$Score" := C
  have hl : lv_has ls 8 [(0, .ref (qq 4)), (1, .int x1), (2, .int x2), (3, .int x3)] := hl
  unfold fS_mergeRuns at hf
  refine lv_iload_n C.1.1 C.1.2.1 dS_mergeRuns_0 rfl (lv_at hl 1 rfl) ?_
  refine lv_istore (lv' := [(4, .int x1), (0, .ref (qq 4)), (1, .int x1), (2, .int x2), (3, .int x3)]) C.1.1 C.1.2.1 dS_mergeRuns_1 hl (by decide) rfl (fun ls hl => ?_)
  refine lv_iload_n C.1.1 C.1.2.1 dS_mergeRuns_3 rfl (lv_at hl 3 rfl) ?_
  refine lv_istore (lv' := [(5, .int x2), (4, .int x1), (0, .ref (qq 4)), (1, .int x1), (2, .int x2), (3, .int x3)]) C.1.1 C.1.2.1 dS_mergeRuns_4 hl (by decide) rfl (fun ls hl => ?_)
  refine lv_iload_n C.1.1 C.1.2.1 dS_mergeRuns_6 rfl (lv_at hl 3 rfl) ?_
  refine lv_istore (lv' := [(6, .int x1), (5, .int x2), (4, .int x1), (0, .ref (qq 4)), (1, .int x1), (2, .int x2), (3, .int x3)]) C.1.1 C.1.2.1 dS_mergeRuns_7 hl (by decide) rfl (fun ls hl => ?_)
  exact wS_mergeRuns_9 C hr hlk hrv FU z x2 x3 x1 x2 x1 _ _ ls (lv_sub hl [3, 5, 6, 2, 1, 0] rfl) hw hf
abbrev cS_putInOrder : ByteArray := prog_6_method_7_code
abbrev yS_putInOrder : MethodName := ⟨"MidiDesk$Score", "putInOrder", "()V"⟩
theorem kS_putInOrder : yS_putInOrder.cls ≠ "java/lang/invoke/MethodHandle" ∧ yS_putInOrder.cls ≠ "java/lang/invoke/VarHandle" ∧ (parseMethodDescriptor yS_putInOrder.desc).map (fun d => d.parameters.length) = some 0 := by decide +kernel
abbrev rS_putInOrder : Room := { frames := 2, cells := 0, slots := 0, locals := 48 }
theorem dS_putInOrder_0 : decode cS_putInOrder 0 = .ok (.iconst 1, 1) := by decide +kernel
theorem dS_putInOrder_1 : decode cS_putInOrder 1 = .ok (.istore_n 1, 1) := by decide +kernel
theorem dS_putInOrder_2 : decode cS_putInOrder 2 = .ok (.iload_n 1, 1) := by decide +kernel
theorem dS_putInOrder_3 : decode cS_putInOrder 3 = .ok (.aload_n 0, 1) := by decide +kernel
theorem dS_putInOrder_4 : decode cS_putInOrder 4 = .ok (.getfield 33, 3) := by decide +kernel
theorem dS_putInOrder_7 : decode cS_putInOrder 7 = .ok (.if_icmp .ge 72, 3) := by decide +kernel
theorem dS_putInOrder_10 : decode cS_putInOrder 10 = .ok (.iconst 0, 1) := by decide +kernel
theorem dS_putInOrder_11 : decode cS_putInOrder 11 = .ok (.istore_n 2, 1) := by decide +kernel
theorem dS_putInOrder_12 : decode cS_putInOrder 12 = .ok (.iload_n 2, 1) := by decide +kernel
theorem dS_putInOrder_13 : decode cS_putInOrder 13 = .ok (.aload_n 0, 1) := by decide +kernel
theorem dS_putInOrder_14 : decode cS_putInOrder 14 = .ok (.getfield 33, 3) := by decide +kernel
theorem dS_putInOrder_17 : decode cS_putInOrder 17 = .ok (.if_icmp .ge 39, 3) := by decide +kernel
theorem dS_putInOrder_20 : decode cS_putInOrder 20 = .ok (.iload_n 2, 1) := by decide +kernel
theorem dS_putInOrder_21 : decode cS_putInOrder 21 = .ok (.iload_n 1, 1) := by decide +kernel
theorem dS_putInOrder_22 : decode cS_putInOrder 22 = .ok (.iadd, 1) := by decide +kernel
theorem dS_putInOrder_23 : decode cS_putInOrder 23 = .ok (.aload_n 0, 1) := by decide +kernel
theorem dS_putInOrder_24 : decode cS_putInOrder 24 = .ok (.getfield 33, 3) := by decide +kernel
theorem dS_putInOrder_27 : decode cS_putInOrder 27 = .ok (.invokestatic 54, 3) := by decide +kernel
theorem dS_putInOrder_30 : decode cS_putInOrder 30 = .ok (.istore_n 3, 1) := by decide +kernel
theorem dS_putInOrder_31 : decode cS_putInOrder 31 = .ok (.aload_n 0, 1) := by decide +kernel
theorem dS_putInOrder_32 : decode cS_putInOrder 32 = .ok (.iload_n 2, 1) := by decide +kernel
theorem dS_putInOrder_33 : decode cS_putInOrder 33 = .ok (.iload_n 3, 1) := by decide +kernel
theorem dS_putInOrder_34 : decode cS_putInOrder 34 = .ok (.iload_n 3, 1) := by decide +kernel
theorem dS_putInOrder_35 : decode cS_putInOrder 35 = .ok (.iload_n 1, 1) := by decide +kernel
theorem dS_putInOrder_36 : decode cS_putInOrder 36 = .ok (.iadd, 1) := by decide +kernel
theorem dS_putInOrder_37 : decode cS_putInOrder 37 = .ok (.aload_n 0, 1) := by decide +kernel
theorem dS_putInOrder_38 : decode cS_putInOrder 38 = .ok (.getfield 33, 3) := by decide +kernel
theorem dS_putInOrder_41 : decode cS_putInOrder 41 = .ok (.invokestatic 54, 3) := by decide +kernel
theorem dS_putInOrder_44 : decode cS_putInOrder 44 = .ok (.invokevirtual 57, 3) := by decide +kernel
theorem dS_putInOrder_47 : decode cS_putInOrder 47 = .ok (.iload_n 2, 1) := by decide +kernel
theorem dS_putInOrder_48 : decode cS_putInOrder 48 = .ok (.iconst 2, 1) := by decide +kernel
theorem dS_putInOrder_49 : decode cS_putInOrder 49 = .ok (.iload_n 1, 1) := by decide +kernel
theorem dS_putInOrder_50 : decode cS_putInOrder 50 = .ok (.imul, 1) := by decide +kernel
theorem dS_putInOrder_51 : decode cS_putInOrder 51 = .ok (.iadd, 1) := by decide +kernel
theorem dS_putInOrder_52 : decode cS_putInOrder 52 = .ok (.istore_n 2, 1) := by decide +kernel
theorem dS_putInOrder_53 : decode cS_putInOrder 53 = .ok (.goto (-41), 3) := by decide +kernel
theorem dS_putInOrder_56 : decode cS_putInOrder 56 = .ok (.aload_n 0, 1) := by decide +kernel
theorem dS_putInOrder_57 : decode cS_putInOrder 57 = .ok (.getfield 26, 3) := by decide +kernel
theorem dS_putInOrder_60 : decode cS_putInOrder 60 = .ok (.aload_n 0, 1) := by decide +kernel
theorem dS_putInOrder_61 : decode cS_putInOrder 61 = .ok (.getfield 22, 3) := by decide +kernel
theorem dS_putInOrder_64 : decode cS_putInOrder 64 = .ok (.iconst 0, 1) := by decide +kernel
theorem dS_putInOrder_65 : decode cS_putInOrder 65 = .ok (.aload_n 0, 1) := by decide +kernel
theorem dS_putInOrder_66 : decode cS_putInOrder 66 = .ok (.getfield 33, 3) := by decide +kernel
theorem dS_putInOrder_69 : decode cS_putInOrder 69 = .ok (.invokestatic 49, 3) := by decide +kernel
theorem dS_putInOrder_72 : decode cS_putInOrder 72 = .ok (.iload_n 1, 1) := by decide +kernel
theorem dS_putInOrder_73 : decode cS_putInOrder 73 = .ok (.iconst 2, 1) := by decide +kernel
theorem dS_putInOrder_74 : decode cS_putInOrder 74 = .ok (.imul, 1) := by decide +kernel
theorem dS_putInOrder_75 : decode cS_putInOrder 75 = .ok (.istore_n 1, 1) := by decide +kernel
theorem dS_putInOrder_76 : decode cS_putInOrder 76 = .ok (.goto (-74), 3) := by decide +kernel
theorem dS_putInOrder_79 : decode cS_putInOrder 79 = .ok (.return_, 1) := by decide +kernel
def lS_putInOrder_12 (h : cH) (K2 : cZ → Int32 → Option (cZ)) : Nat → cZ → Int32 → Int32 → Option (cZ)
  | 0 => fun _ _ _ => none
  | k + 1 => fun z x1 x2 => if (zi z 7) ≤ x2 then ((fS_copy10 h z (0 : Int32) (zi z 7)).bind fun z2 => K2 z2 (x1 * (2 : Int32))) else ((fS_mergeRuns h z x2 (if (zi z 7) < (x2 + x1) then (zi z 7) else (x2 + x1)) (if (zi z 7) < ((if (zi z 7) < (x2 + x1) then (zi z 7) else (x2 + x1)) + x1) then (zi z 7) else ((if (zi z 7) < (x2 + x1) then (zi z 7) else (x2 + x1)) + x1))).bind fun z3 => lS_putInOrder_12 h K2 k z3 x1 (x2 + ((2 : Int32) * x1)))
def lS_putInOrder_2 (h : cH) : Nat → cZ → Int32 → Option (cZ)
  | 0 => fun _ _ => none
  | k + 1 => fun z x1 => if (zi z 7) ≤ x1 then (some z) else (lS_putInOrder_12 h (lS_putInOrder_2 h k) FU z x1 (0 : Int32))
def fS_putInOrder (h : cH) (z : cZ) : Option (cZ) := lS_putInOrder_2 h FU z (1 : Int32)
set_option maxHeartbeats 4000000 in
set_option maxRecDepth 100000 in
theorem wS_putInOrder_12 {p : Program} {l : Launch} {e : Env} {s : State} {m : MethodId} {args : Array Value} {below : List Frame} {meth : Method} {c : Code} {g : gT} {qq ad ea : Nat → Nat} {h : cH} {X : va_W} {rv : Option Value} {z' : cZ} (C : mCx p m c cS_putInOrder 4 s args g "MidiDesk$Score") (hr : meth.sig.returnType = none) (hlk : meth.locks = false) (hrv : rv = none) {K2 : cZ → Int32 → Option (cZ)} (hK2 : ∀ (z : cZ) (x1 : Int32) (H : Heap) (locs : List Loc) (ls : Array Slot), lv_has ls 4 [(0, .ref (qq 4)), (1, .int x1)] → cWd g (cA g qq ad ea h X s.heap.size) s.heap qq ad ea h X z H locs → K2 z x1 = some z' → cG p l e rS_putInOrder s m args below meth c g qq ad ea h X rv X z' H locs 0 0 (F0 m 2 ls [])) (k : Nat) : ∀ (z : cZ) (x1 : Int32) (x2 : Int32) (H : Heap) (locs : List Loc) (ls : Array Slot), lv_has ls 4 [(0, .ref (qq 4)), (1, .int x1), (2, .int x2)] → cWd g (cA g qq ad ea h X s.heap.size) s.heap qq ad ea h X z H locs → lS_putInOrder_12 h K2 k z x1 x2 = some z' → cG p l e rS_putInOrder s m args below meth c g qq ad ea h X rv X z' H locs 0 0 (F0 m 12 ls []) := by
  induction k with
  | zero => intro z x1 x2 H locs ls hl hw hf; cases hf
  | succ k ih =>
    intro z x1 x2 H locs ls hl hw hf
    have hf : (if (zi z 7) ≤ x2 then ((fS_copy10 h z (0 : Int32) (zi z 7)).bind fun z2 => K2 z2 (x1 * (2 : Int32))) else ((fS_mergeRuns h z x2 (if (zi z 7) < (x2 + x1) then (zi z 7) else (x2 + x1)) (if (zi z 7) < ((if (zi z 7) < (x2 + x1) then (zi z 7) else (x2 + x1)) + x1) then (zi z 7) else ((if (zi z 7) < (x2 + x1) then (zi z 7) else (x2 + x1)) + x1))).bind fun z3 => lS_putInOrder_12 h K2 k z3 x1 (x2 + ((2 : Int32) * x1)))) = some z' := hf
    refine lv_iload_n C.1.1 C.1.2.1 dS_putInOrder_12 rfl (lv_at hl 2 rfl) ?_
    refine lv_aload_n C.1.1 C.1.2.1 dS_putInOrder_13 rfl (lv_at hl 0 rfl) ?_
    refine cg_Score_Score_size C hw dS_putInOrder_14 ?_
    refine lv_icmp_ge (tgt := 56) C.1.1 C.1.2.1 dS_putInOrder_17 (by decide) (fun c1 => ?_) (fun c1 => ?_)
    · have hf := ts_t hf c1
      refine lv_aload_n C.1.1 C.1.2.1 dS_putInOrder_56 rfl (lv_at hl 0 rfl) ?_
      refine cg_Score_Score_spare C hw dS_putInOrder_57 ?_
      refine lv_aload_n C.1.1 C.1.2.1 dS_putInOrder_60 rfl (lv_at hl 0 rfl) ?_
      refine cg_Score_Score_row C hw dS_putInOrder_61 ?_
      refine lv_iconst (v := (0 : Int32)) C.1.1 C.1.2.1 dS_putInOrder_64 (by decide) ?_
      refine lv_aload_n C.1.1 C.1.2.1 dS_putInOrder_65 rfl (lv_at hl 0 rfl) ?_
      refine cg_Score_Score_size C hw dS_putInOrder_66 ?_
      obtain ⟨z2, g2, hf⟩ := ts_b hf
      try dsimp only at hf
      refine c_callS (rest := []) (As := [.ref (ad 4), .ref (ad 3), .int (0 : Int32), .int (zi z 7)]) (rv := none) C hl.1 hw (cS_copy10_met g2) (callS_of (rm := rS_copy10) 4 C.1.2.2.2.2 gw_325 gw_326 gw_54 gw_327 kS_copy10 ⟨Nat.le_of_ble_eq_true rfl, Nat.le_of_ble_eq_true rfl⟩) rfl rfl (Nat.le_of_ble_eq_true rfl) dS_putInOrder_69 ⟨Nat.le_of_ble_eq_true rfl, Nat.le_of_ble_eq_true rfl⟩ (fun H locs hw => ?_)
      refine W.eq (g2 := F0 m 72 ls []) rfl ?_
      refine lv_iload_n C.1.1 C.1.2.1 dS_putInOrder_72 rfl (lv_at hl 1 rfl) ?_
      refine lv_iconst (v := (2 : Int32)) C.1.1 C.1.2.1 dS_putInOrder_73 (by decide) ?_
      refine lv_imul C.1.1 C.1.2.1 dS_putInOrder_74 ?_
      refine lv_istore_n (lv' := [(1, .int (x1 * (2 : Int32))), (0, .ref (qq 4)), (2, .int x2)]) C.1.1 C.1.2.1 dS_putInOrder_75 rfl hl (by decide) rfl (fun ls hl => ?_)
      refine lv_goto (tgt := 2) C.1.1 C.1.2.1 dS_putInOrder_76 (by decide) ?_
      exact hK2 z2 (x1 * (2 : Int32)) _ _ ls (lv_sub hl [1, 0] rfl) hw hf
    · have hf := ts_f hf c1
      refine lv_iload_n C.1.1 C.1.2.1 dS_putInOrder_20 rfl (lv_at hl 2 rfl) ?_
      refine lv_iload_n C.1.1 C.1.2.1 dS_putInOrder_21 rfl (lv_at hl 1 rfl) ?_
      refine lv_iadd C.1.1 C.1.2.1 dS_putInOrder_22 ?_
      refine lv_aload_n C.1.1 C.1.2.1 dS_putInOrder_23 rfl (lv_at hl 0 rfl) ?_
      refine cg_Score_Score_size C hw dS_putInOrder_24 ?_
      refine va_mmin C.1.1 C.1.2.1 (by rw [hl.1]; exact C.1.2.2.1) C.1.2.2.2.1 (C.1.2.2.2.2 _ gw_383) (C.1.2.2.2.2 _ gw_174) (C.1.2.2.2.2 _ gw_57) (C.1.2.2.2.2 _ gw_175) (Nat.le_of_ble_eq_true rfl) (Nat.le_of_ble_eq_true rfl) (Nat.le_of_ble_eq_true rfl) (Nat.le_of_ble_eq_true rfl) dS_putInOrder_27 ?_
      refine lv_istore_n (lv' := [(3, .int (if (zi z 7) < (x2 + x1) then (zi z 7) else (x2 + x1))), (0, .ref (qq 4)), (1, .int x1), (2, .int x2)]) C.1.1 C.1.2.1 dS_putInOrder_30 rfl hl (by decide) rfl (fun ls hl => ?_)
      refine lv_aload_n C.1.1 C.1.2.1 dS_putInOrder_31 rfl (lv_at hl 1 rfl) ?_
      refine lv_iload_n C.1.1 C.1.2.1 dS_putInOrder_32 rfl (lv_at hl 3 rfl) ?_
      refine lv_iload_n C.1.1 C.1.2.1 dS_putInOrder_33 rfl (lv_at hl 0 rfl) ?_
      refine lv_iload_n C.1.1 C.1.2.1 dS_putInOrder_34 rfl (lv_at hl 0 rfl) ?_
      refine lv_iload_n C.1.1 C.1.2.1 dS_putInOrder_35 rfl (lv_at hl 2 rfl) ?_
      refine lv_iadd C.1.1 C.1.2.1 dS_putInOrder_36 ?_
      refine lv_aload_n C.1.1 C.1.2.1 dS_putInOrder_37 rfl (lv_at hl 1 rfl) ?_
      refine cg_Score_Score_size C hw dS_putInOrder_38 ?_
      refine va_mmin C.1.1 C.1.2.1 (by rw [hl.1]; exact C.1.2.2.1) C.1.2.2.2.1 (C.1.2.2.2.2 _ gw_383) (C.1.2.2.2.2 _ gw_174) (C.1.2.2.2.2 _ gw_57) (C.1.2.2.2.2 _ gw_175) (Nat.le_of_ble_eq_true rfl) (Nat.le_of_ble_eq_true rfl) (Nat.le_of_ble_eq_true rfl) (Nat.le_of_ble_eq_true rfl) dS_putInOrder_41 ?_
      obtain ⟨z3, g3, hf⟩ := ts_b hf
      try dsimp only at hf
      refine c_callV (rest := []) (As := [.int x2, .int (if (zi z 7) < (x2 + x1) then (zi z 7) else (x2 + x1)), .int (if (zi z 7) < ((if (zi z 7) < (x2 + x1) then (zi z 7) else (x2 + x1)) + x1) then (zi z 7) else ((if (zi z 7) < (x2 + x1) then (zi z 7) else (x2 + x1)) + x1))]) (rv := none) (b := (qq 4)) C hl.1 hw (cS_mergeRuns_met g3) rfl (callW_of (rm := rS_mergeRuns) (C := "MidiDesk$Score") 3 C.1.2.2.2.2 gw_384 gw_386 gw_14 gw_54 gw_387 kS_mergeRuns ⟨Nat.le_of_ble_eq_true rfl, Nat.le_of_ble_eq_true rfl⟩) (c_recv_score C.2 hw) rfl rfl (Nat.le_of_ble_eq_true rfl) dS_putInOrder_44 ⟨Nat.le_of_ble_eq_true rfl, Nat.le_of_ble_eq_true rfl⟩ (fun H locs hw => ?_)
      refine W.eq (g2 := F0 m 47 ls []) rfl ?_
      refine lv_iload_n C.1.1 C.1.2.1 dS_putInOrder_47 rfl (lv_at hl 3 rfl) ?_
      refine lv_iconst (v := (2 : Int32)) C.1.1 C.1.2.1 dS_putInOrder_48 (by decide) ?_
      refine lv_iload_n C.1.1 C.1.2.1 dS_putInOrder_49 rfl (lv_at hl 2 rfl) ?_
      refine lv_imul C.1.1 C.1.2.1 dS_putInOrder_50 ?_
      refine lv_iadd C.1.1 C.1.2.1 dS_putInOrder_51 ?_
      refine lv_istore_n (lv' := [(2, .int (x2 + ((2 : Int32) * x1))), (3, .int (if (zi z 7) < (x2 + x1) then (zi z 7) else (x2 + x1))), (0, .ref (qq 4)), (1, .int x1)]) C.1.1 C.1.2.1 dS_putInOrder_52 rfl hl (by decide) rfl (fun ls hl => ?_)
      refine lv_goto (tgt := 12) C.1.1 C.1.2.1 dS_putInOrder_53 (by decide) ?_
      exact ih z3 x1 (x2 + ((2 : Int32) * x1)) _ _ ls (lv_sub hl [2, 3, 0] rfl) hw hf
set_option maxHeartbeats 4000000 in
set_option maxRecDepth 100000 in
theorem wS_putInOrder_2 {p : Program} {l : Launch} {e : Env} {s : State} {m : MethodId} {args : Array Value} {below : List Frame} {meth : Method} {c : Code} {g : gT} {qq ad ea : Nat → Nat} {h : cH} {X : va_W} {rv : Option Value} {z' : cZ} (C : mCx p m c cS_putInOrder 4 s args g "MidiDesk$Score") (hr : meth.sig.returnType = none) (hlk : meth.locks = false) (hrv : rv = none) (k : Nat) : ∀ (z : cZ) (x1 : Int32) (H : Heap) (locs : List Loc) (ls : Array Slot), lv_has ls 4 [(0, .ref (qq 4)), (1, .int x1)] → cWd g (cA g qq ad ea h X s.heap.size) s.heap qq ad ea h X z H locs → lS_putInOrder_2 h k z x1 = some z' → cG p l e rS_putInOrder s m args below meth c g qq ad ea h X rv X z' H locs 0 0 (F0 m 2 ls []) := by
  induction k with
  | zero => intro z x1 H locs ls hl hw hf; cases hf
  | succ k ih =>
    intro z x1 H locs ls hl hw hf
    have hf : (if (zi z 7) ≤ x1 then (some z) else (lS_putInOrder_12 h (lS_putInOrder_2 h k) FU z x1 (0 : Int32))) = some z' := hf
    refine lv_iload_n C.1.1 C.1.2.1 dS_putInOrder_2 rfl (lv_at hl 1 rfl) ?_
    refine lv_aload_n C.1.1 C.1.2.1 dS_putInOrder_3 rfl (lv_at hl 0 rfl) ?_
    refine cg_Score_Score_size C hw dS_putInOrder_4 ?_
    refine lv_icmp_ge (tgt := 79) C.1.1 C.1.2.1 dS_putInOrder_7 (by decide) (fun c1 => ?_) (fun c1 => ?_)
    · have hf := ts_t hf c1
      exact c_retv C hr hlk hrv hw hf rfl ⟨Nat.le_of_ble_eq_true rfl, Nat.le_of_ble_eq_true rfl⟩ dS_putInOrder_79
    · have hf := ts_f hf c1
      refine lv_iconst (v := (0 : Int32)) C.1.1 C.1.2.1 dS_putInOrder_10 (by decide) ?_
      refine lv_istore_n (lv' := [(2, .int (0 : Int32)), (0, .ref (qq 4)), (1, .int x1)]) C.1.1 C.1.2.1 dS_putInOrder_11 rfl hl (by decide) rfl (fun ls hl => ?_)
      exact wS_putInOrder_12 C hr hlk hrv ih FU z x1 (0 : Int32) _ _ ls (lv_sub hl [1, 2, 0] rfl) hw hf
set_option maxHeartbeats 4000000 in
set_option maxRecDepth 100000 in
theorem cS_putInOrder_met {l : Launch} {g : gT} {qq ad ea : Nat → Nat} {h : cH} {X : va_W} {z z' : cZ} (hf : fS_putInOrder h z = some z') : cMet l yS_putInOrder cS_putInOrder 4 none rS_putInOrder g qq ad ea h X z [.ref (qq 4)] (none) X z' := by
  refine c_entry (by decide) (Nat.le_of_ble_eq_true rfl) ?_
  intro p e s m args below meth c ls C hr hlk hnm hl hw
  have hrv : (none : Option Value) = none := rfl
  have C : mCx p m c cS_putInOrder 4 s args g "MidiDesk$Score" := C
  have hl : lv_has ls 4 [(0, .ref (qq 4))] := hl
  unfold fS_putInOrder at hf
  refine lv_iconst (v := (1 : Int32)) C.1.1 C.1.2.1 dS_putInOrder_0 (by decide) ?_
  refine lv_istore_n (lv' := [(1, .int (1 : Int32)), (0, .ref (qq 4))]) C.1.1 C.1.2.1 dS_putInOrder_1 rfl hl (by decide) rfl (fun ls hl => ?_)
  exact wS_putInOrder_2 C hr hlk hrv FU z (1 : Int32) _ _ ls (lv_sub hl [1, 0] rfl) hw hf
abbrev cS_greatestTick : ByteArray := prog_6_method_9_code
abbrev yS_greatestTick : MethodName := ⟨"MidiDesk$Score", "greatestTick", "()I"⟩
theorem kS_greatestTick : yS_greatestTick.cls ≠ "java/lang/invoke/MethodHandle" ∧ yS_greatestTick.cls ≠ "java/lang/invoke/VarHandle" ∧ (parseMethodDescriptor yS_greatestTick.desc).map (fun d => d.parameters.length) = some 0 := by decide +kernel
abbrev rS_greatestTick : Room := { frames := 0, cells := 0, slots := 0, locals := 0 }
theorem dS_greatestTick_0 : decode cS_greatestTick 0 = .ok (.aload_n 0, 1) := by decide +kernel
theorem dS_greatestTick_1 : decode cS_greatestTick 1 = .ok (.getfield 33, 3) := by decide +kernel
theorem dS_greatestTick_4 : decode cS_greatestTick 4 = .ok (.ifCond .le 20, 3) := by decide +kernel
theorem dS_greatestTick_7 : decode cS_greatestTick 7 = .ok (.aload_n 0, 1) := by decide +kernel
theorem dS_greatestTick_8 : decode cS_greatestTick 8 = .ok (.getfield 22, 3) := by decide +kernel
theorem dS_greatestTick_11 : decode cS_greatestTick 11 = .ok (.aload_n 0, 1) := by decide +kernel
theorem dS_greatestTick_12 : decode cS_greatestTick 12 = .ok (.getfield 33, 3) := by decide +kernel
theorem dS_greatestTick_15 : decode cS_greatestTick 15 = .ok (.iconst 1, 1) := by decide +kernel
theorem dS_greatestTick_16 : decode cS_greatestTick 16 = .ok (.isub, 1) := by decide +kernel
theorem dS_greatestTick_17 : decode cS_greatestTick 17 = .ok (.aaload, 1) := by decide +kernel
theorem dS_greatestTick_18 : decode cS_greatestTick 18 = .ok (.getfield 65, 3) := by decide +kernel
theorem dS_greatestTick_21 : decode cS_greatestTick 21 = .ok (.goto 4, 3) := by decide +kernel
theorem dS_greatestTick_24 : decode cS_greatestTick 24 = .ok (.iconst 0, 1) := by decide +kernel
theorem dS_greatestTick_25 : decode cS_greatestTick 25 = .ok (.ireturn, 1) := by decide +kernel
def fS_greatestTick (h : cH) (z : cZ) : Option (Int32 × cZ) := if (zi z 7) ≤ 0 then (some ((0 : Int32), z)) else (if ((zi z 7) - (1 : Int32)) < 0 ∨ h.1 3 ≤ ((zi z 7) - (1 : Int32)).toNatClampNeg then none else ((zr z 0 ((zi z 7) - (1 : Int32)).toNatClampNeg).bind fun j3 => if h.2.1 ≤ j3 then none else (some (ze z j3 0, z))))
set_option maxHeartbeats 4000000 in
set_option maxRecDepth 100000 in
theorem cS_greatestTick_met {l : Launch} {g : gT} {qq ad ea : Nat → Nat} {h : cH} {X : va_W} {z z' : cZ} {r' : Int32} (hf : fS_greatestTick h z = some (r', z')) : cMet l yS_greatestTick cS_greatestTick 1 (some .int) rS_greatestTick g qq ad ea h X z [.ref (qq 4)] (some (.int r')) X z' := by
  refine c_entry (by decide) (Nat.le_of_ble_eq_true rfl) ?_
  intro p e s m args below meth c ls C hr hlk hnm hl hw
  have hrv : (some (.int r') : Option Value) = some (.int r') := rfl
  have C : mCx p m c cS_greatestTick 1 s args g "MidiDesk$Score" := C
  have hl : lv_has ls 1 [(0, .ref (qq 4))] := hl
  unfold fS_greatestTick at hf
  refine lv_aload_n C.1.1 C.1.2.1 dS_greatestTick_0 rfl (lv_at hl 0 rfl) ?_
  refine cg_Score_Score_size C hw dS_greatestTick_1 ?_
  refine lv_if_le (tgt := 24) C.1.1 C.1.2.1 dS_greatestTick_4 (by decide) (fun c1 => ?_) (fun c1 => ?_)
  · have hf := ts_t hf c1
    refine lv_iconst (v := (0 : Int32)) C.1.1 C.1.2.1 dS_greatestTick_24 (by decide) ?_
    exact c_reti C hr hlk hrv hw hf rfl ⟨Nat.le_of_ble_eq_true rfl, Nat.le_of_ble_eq_true rfl⟩ dS_greatestTick_25
  · have hf := ts_f hf c1
    refine lv_aload_n C.1.1 C.1.2.1 dS_greatestTick_7 rfl (lv_at hl 0 rfl) ?_
    refine cg_Score_Score_row C hw dS_greatestTick_8 ?_
    refine lv_aload_n C.1.1 C.1.2.1 dS_greatestTick_11 rfl (lv_at hl 0 rfl) ?_
    refine cg_Score_Score_size C hw dS_greatestTick_12 ?_
    refine lv_iconst (v := (1 : Int32)) C.1.1 C.1.2.1 dS_greatestTick_15 (by decide) ?_
    refine lv_isub C.1.1 C.1.2.1 dS_greatestTick_16 ?_
    obtain ⟨h2, hf⟩ := ts_g hf
    refine cra_0 C hw h2 dS_greatestTick_17 ?_
    obtain ⟨j3, ho3, hf⟩ := ts_b hf
    try dsimp only at hf
    obtain ⟨hb3, hf⟩ := ts_g hf
    have hb3 := Nat.lt_of_not_le hb3
    refine cg_Score_Event_tick C hw ho3 hb3 dS_greatestTick_18 ?_
    refine lv_goto (tgt := 25) C.1.1 C.1.2.1 dS_greatestTick_21 (by decide) ?_
    exact c_reti C hr hlk hrv hw hf rfl ⟨Nat.le_of_ble_eq_true rfl, Nat.le_of_ble_eq_true rfl⟩ dS_greatestTick_25
abbrev cS_tempoEvents : ByteArray := prog_6_method_10_code
abbrev yS_tempoEvents : MethodName := ⟨"MidiDesk$Score", "tempoEvents", "()I"⟩
theorem kS_tempoEvents : yS_tempoEvents.cls ≠ "java/lang/invoke/MethodHandle" ∧ yS_tempoEvents.cls ≠ "java/lang/invoke/VarHandle" ∧ (parseMethodDescriptor yS_tempoEvents.desc).map (fun d => d.parameters.length) = some 0 := by decide +kernel
abbrev rS_tempoEvents : Room := { frames := 1, cells := 0, slots := 0, locals := 20 }
theorem dS_tempoEvents_0 : decode cS_tempoEvents 0 = .ok (.iconst 0, 1) := by decide +kernel
theorem dS_tempoEvents_1 : decode cS_tempoEvents 1 = .ok (.istore_n 1, 1) := by decide +kernel
theorem dS_tempoEvents_2 : decode cS_tempoEvents 2 = .ok (.iconst 0, 1) := by decide +kernel
theorem dS_tempoEvents_3 : decode cS_tempoEvents 3 = .ok (.istore_n 2, 1) := by decide +kernel
theorem dS_tempoEvents_4 : decode cS_tempoEvents 4 = .ok (.iload_n 2, 1) := by decide +kernel
theorem dS_tempoEvents_5 : decode cS_tempoEvents 5 = .ok (.aload_n 0, 1) := by decide +kernel
theorem dS_tempoEvents_6 : decode cS_tempoEvents 6 = .ok (.getfield 33, 3) := by decide +kernel
theorem dS_tempoEvents_9 : decode cS_tempoEvents 9 = .ok (.if_icmp .ge 24, 3) := by decide +kernel
theorem dS_tempoEvents_12 : decode cS_tempoEvents 12 = .ok (.aload_n 0, 1) := by decide +kernel
theorem dS_tempoEvents_13 : decode cS_tempoEvents 13 = .ok (.getfield 22, 3) := by decide +kernel
theorem dS_tempoEvents_16 : decode cS_tempoEvents 16 = .ok (.iload_n 2, 1) := by decide +kernel
theorem dS_tempoEvents_17 : decode cS_tempoEvents 17 = .ok (.aaload, 1) := by decide +kernel
theorem dS_tempoEvents_18 : decode cS_tempoEvents 18 = .ok (.invokevirtual 68, 3) := by decide +kernel
theorem dS_tempoEvents_21 : decode cS_tempoEvents 21 = .ok (.ifCond .eq 6, 3) := by decide +kernel
theorem dS_tempoEvents_24 : decode cS_tempoEvents 24 = .ok (.iinc 1 1, 3) := by decide +kernel
theorem dS_tempoEvents_27 : decode cS_tempoEvents 27 = .ok (.iinc 2 1, 3) := by decide +kernel
theorem dS_tempoEvents_30 : decode cS_tempoEvents 30 = .ok (.goto (-26), 3) := by decide +kernel
theorem dS_tempoEvents_33 : decode cS_tempoEvents 33 = .ok (.iload_n 1, 1) := by decide +kernel
theorem dS_tempoEvents_34 : decode cS_tempoEvents 34 = .ok (.ireturn, 1) := by decide +kernel
def jS_tempoEvents_27 (h : cH) (K4 : cZ → Int32 → Int32 → Option (Int32 × cZ)) (z : cZ) (x1 : Int32) (x2 : Int32) : Option (Int32 × cZ) := K4 z x1 (x2 + 1)
def lS_tempoEvents_4 (h : cH) : Nat → cZ → Int32 → Int32 → Option (Int32 × cZ)
  | 0 => fun _ _ _ => none
  | k + 1 => fun z x1 x2 => if (zi z 7) ≤ x2 then (some (x1, z)) else (if x2 < 0 ∨ h.1 3 ≤ x2.toNatClampNeg then none else ((zr z 0 x2.toNatClampNeg).bind fun j3 => if h.2.1 ≤ j3 then none else ((fE_isTempo h z j3).bind fun (r4, z4) => if r4 = 0 then (jS_tempoEvents_27 h (lS_tempoEvents_4 h k) z4 x1 x2) else (jS_tempoEvents_27 h (lS_tempoEvents_4 h k) z4 (x1 + 1) x2))))
def fS_tempoEvents (h : cH) (z : cZ) : Option (Int32 × cZ) := lS_tempoEvents_4 h FU z (0 : Int32) (0 : Int32)
set_option maxHeartbeats 4000000 in
set_option maxRecDepth 100000 in
theorem wS_tempoEvents_27 {p : Program} {l : Launch} {e : Env} {s : State} {m : MethodId} {args : Array Value} {below : List Frame} {meth : Method} {c : Code} {g : gT} {qq ad ea : Nat → Nat} {h : cH} {X : va_W} {rv : Option Value} {z' : cZ} {r' : Int32} (C : mCx p m c cS_tempoEvents 3 s args g "MidiDesk$Score") (hr : meth.sig.returnType = (some .int)) (hlk : meth.locks = false) (hrv : rv = some (.int r')) {K4 : cZ → Int32 → Int32 → Option (Int32 × cZ)} (hK4 : ∀ (z : cZ) (x1 : Int32) (x2 : Int32) (H : Heap) (locs : List Loc) (ls : Array Slot), lv_has ls 3 [(0, .ref (qq 4)), (1, .int x1), (2, .int x2)] → cWd g (cA g qq ad ea h X s.heap.size) s.heap qq ad ea h X z H locs → K4 z x1 x2 = some (r', z') → cG p l e rS_tempoEvents s m args below meth c g qq ad ea h X rv X z' H locs 0 0 (F0 m 4 ls [])) (z : cZ) (x1 : Int32) (x2 : Int32) (H : Heap) (locs : List Loc) (ls : Array Slot) (hl : lv_has ls 3 [(0, .ref (qq 4)), (1, .int x1), (2, .int x2)]) (hw : cWd g (cA g qq ad ea h X s.heap.size) s.heap qq ad ea h X z H locs) (hf : jS_tempoEvents_27 h K4 z x1 x2 = some (r', z')) : cG p l e rS_tempoEvents s m args below meth c g qq ad ea h X rv X z' H locs 0 0 (F0 m 27 ls []) := by
  unfold jS_tempoEvents_27 at hf
  refine lv_iinc (v := x2 + 1) (lv' := [(2, .int (x2 + 1)), (0, .ref (qq 4)), (1, .int x1)]) C.1.1 C.1.2.1 dS_tempoEvents_27 hl (k := 2) rfl rfl (by decide) rfl (fun ls hl => ?_)
  refine lv_goto (tgt := 4) C.1.1 C.1.2.1 dS_tempoEvents_30 (by decide) ?_
  exact hK4 z x1 (x2 + 1) _ _ ls (lv_sub hl [1, 2, 0] rfl) hw hf
set_option maxHeartbeats 4000000 in
set_option maxRecDepth 100000 in
theorem wS_tempoEvents_4 {p : Program} {l : Launch} {e : Env} {s : State} {m : MethodId} {args : Array Value} {below : List Frame} {meth : Method} {c : Code} {g : gT} {qq ad ea : Nat → Nat} {h : cH} {X : va_W} {rv : Option Value} {z' : cZ} {r' : Int32} (C : mCx p m c cS_tempoEvents 3 s args g "MidiDesk$Score") (hr : meth.sig.returnType = (some .int)) (hlk : meth.locks = false) (hrv : rv = some (.int r')) (k : Nat) : ∀ (z : cZ) (x1 : Int32) (x2 : Int32) (H : Heap) (locs : List Loc) (ls : Array Slot), lv_has ls 3 [(0, .ref (qq 4)), (1, .int x1), (2, .int x2)] → cWd g (cA g qq ad ea h X s.heap.size) s.heap qq ad ea h X z H locs → lS_tempoEvents_4 h k z x1 x2 = some (r', z') → cG p l e rS_tempoEvents s m args below meth c g qq ad ea h X rv X z' H locs 0 0 (F0 m 4 ls []) := by
  induction k with
  | zero => intro z x1 x2 H locs ls hl hw hf; cases hf
  | succ k ih =>
    intro z x1 x2 H locs ls hl hw hf
    have hf : (if (zi z 7) ≤ x2 then (some (x1, z)) else (if x2 < 0 ∨ h.1 3 ≤ x2.toNatClampNeg then none else ((zr z 0 x2.toNatClampNeg).bind fun j3 => if h.2.1 ≤ j3 then none else ((fE_isTempo h z j3).bind fun (r4, z4) => if r4 = 0 then (jS_tempoEvents_27 h (lS_tempoEvents_4 h k) z4 x1 x2) else (jS_tempoEvents_27 h (lS_tempoEvents_4 h k) z4 (x1 + 1) x2))))) = some (r', z') := hf
    refine lv_iload_n C.1.1 C.1.2.1 dS_tempoEvents_4 rfl (lv_at hl 2 rfl) ?_
    refine lv_aload_n C.1.1 C.1.2.1 dS_tempoEvents_5 rfl (lv_at hl 0 rfl) ?_
    refine cg_Score_Score_size C hw dS_tempoEvents_6 ?_
    refine lv_icmp_ge (tgt := 33) C.1.1 C.1.2.1 dS_tempoEvents_9 (by decide) (fun c1 => ?_) (fun c1 => ?_)
    · have hf := ts_t hf c1
      refine lv_iload_n C.1.1 C.1.2.1 dS_tempoEvents_33 rfl (lv_at hl 1 rfl) ?_
      exact c_reti C hr hlk hrv hw hf rfl ⟨Nat.le_of_ble_eq_true rfl, Nat.le_of_ble_eq_true rfl⟩ dS_tempoEvents_34
    · have hf := ts_f hf c1
      refine lv_aload_n C.1.1 C.1.2.1 dS_tempoEvents_12 rfl (lv_at hl 0 rfl) ?_
      refine cg_Score_Score_row C hw dS_tempoEvents_13 ?_
      refine lv_iload_n C.1.1 C.1.2.1 dS_tempoEvents_16 rfl (lv_at hl 2 rfl) ?_
      obtain ⟨h2, hf⟩ := ts_g hf
      refine cra_0 C hw h2 dS_tempoEvents_17 ?_
      obtain ⟨j3, ho3, hf⟩ := ts_b hf
      try dsimp only at hf
      obtain ⟨hb3, hf⟩ := ts_g hf
      have hb3 := Nat.lt_of_not_le hb3
      obtain ⟨⟨r4, z4⟩, g4, hf⟩ := ts_b hf
      try dsimp only at hf
      refine c_callV (rest := []) (As := []) (rv := (some (.int r4))) (b := (ea j3)) C hl.1 hw (cE_isTempo_met g4) rfl (callW_of (rm := rE_isTempo) (C := "MidiDesk$Event") 0 C.1.2.2.2.2 gw_447 gw_448 gw_449 gw_60 gw_450 kE_isTempo ⟨Nat.le_of_ble_eq_true rfl, Nat.le_of_ble_eq_true rfl⟩) (c_recvE C.2 hb3 hw) rfl (by rw [ho3]; rfl) (Nat.le_of_ble_eq_true rfl) dS_tempoEvents_18 ⟨Nat.le_of_ble_eq_true rfl, Nat.le_of_ble_eq_true rfl⟩ (fun H locs hw => ?_)
      refine W.eq (g2 := F0 m 21 ls [.int r4]) rfl ?_
      refine lv_if_eq (tgt := 27) C.1.1 C.1.2.1 dS_tempoEvents_21 (by decide) (fun c5 => ?_) (fun c5 => ?_)
      · have hf := ts_t hf c5
        exact wS_tempoEvents_27 C hr hlk hrv ih z4 x1 x2 _ _ ls (lv_sub hl [0, 1, 2] rfl) hw hf
      · have hf := ts_f hf c5
        refine lv_iinc (v := x1 + 1) (lv' := [(1, .int (x1 + 1)), (0, .ref (qq 4)), (2, .int x2)]) C.1.1 C.1.2.1 dS_tempoEvents_24 hl (k := 1) rfl rfl (by decide) rfl (fun ls hl => ?_)
        exact wS_tempoEvents_27 C hr hlk hrv ih z4 (x1 + 1) x2 _ _ ls (lv_sub hl [1, 0, 2] rfl) hw hf
set_option maxHeartbeats 4000000 in
set_option maxRecDepth 100000 in
theorem cS_tempoEvents_met {l : Launch} {g : gT} {qq ad ea : Nat → Nat} {h : cH} {X : va_W} {z z' : cZ} {r' : Int32} (hf : fS_tempoEvents h z = some (r', z')) : cMet l yS_tempoEvents cS_tempoEvents 3 (some .int) rS_tempoEvents g qq ad ea h X z [.ref (qq 4)] (some (.int r')) X z' := by
  refine c_entry (by decide) (Nat.le_of_ble_eq_true rfl) ?_
  intro p e s m args below meth c ls C hr hlk hnm hl hw
  have hrv : (some (.int r') : Option Value) = some (.int r') := rfl
  have C : mCx p m c cS_tempoEvents 3 s args g "MidiDesk$Score" := C
  have hl : lv_has ls 3 [(0, .ref (qq 4))] := hl
  unfold fS_tempoEvents at hf
  refine lv_iconst (v := (0 : Int32)) C.1.1 C.1.2.1 dS_tempoEvents_0 (by decide) ?_
  refine lv_istore_n (lv' := [(1, .int (0 : Int32)), (0, .ref (qq 4))]) C.1.1 C.1.2.1 dS_tempoEvents_1 rfl hl (by decide) rfl (fun ls hl => ?_)
  refine lv_iconst (v := (0 : Int32)) C.1.1 C.1.2.1 dS_tempoEvents_2 (by decide) ?_
  refine lv_istore_n (lv' := [(2, .int (0 : Int32)), (1, .int (0 : Int32)), (0, .ref (qq 4))]) C.1.1 C.1.2.1 dS_tempoEvents_3 rfl hl (by decide) rfl (fun ls hl => ?_)
  exact wS_tempoEvents_4 C hr hlk hrv FU z (0 : Int32) (0 : Int32) _ _ ls (lv_sub hl [2, 1, 0] rfl) hw hf
abbrev cS_notesBegun : ByteArray := prog_6_method_11_code
abbrev yS_notesBegun : MethodName := ⟨"MidiDesk$Score", "notesBegun", "()I"⟩
theorem kS_notesBegun : yS_notesBegun.cls ≠ "java/lang/invoke/MethodHandle" ∧ yS_notesBegun.cls ≠ "java/lang/invoke/VarHandle" ∧ (parseMethodDescriptor yS_notesBegun.desc).map (fun d => d.parameters.length) = some 0 := by decide +kernel
abbrev rS_notesBegun : Room := { frames := 1, cells := 0, slots := 0, locals := 20 }
theorem dS_notesBegun_0 : decode cS_notesBegun 0 = .ok (.iconst 0, 1) := by decide +kernel
theorem dS_notesBegun_1 : decode cS_notesBegun 1 = .ok (.istore_n 1, 1) := by decide +kernel
theorem dS_notesBegun_2 : decode cS_notesBegun 2 = .ok (.iconst 0, 1) := by decide +kernel
theorem dS_notesBegun_3 : decode cS_notesBegun 3 = .ok (.istore_n 2, 1) := by decide +kernel
theorem dS_notesBegun_4 : decode cS_notesBegun 4 = .ok (.iload_n 2, 1) := by decide +kernel
theorem dS_notesBegun_5 : decode cS_notesBegun 5 = .ok (.aload_n 0, 1) := by decide +kernel
theorem dS_notesBegun_6 : decode cS_notesBegun 6 = .ok (.getfield 33, 3) := by decide +kernel
theorem dS_notesBegun_9 : decode cS_notesBegun 9 = .ok (.if_icmp .ge 24, 3) := by decide +kernel
theorem dS_notesBegun_12 : decode cS_notesBegun 12 = .ok (.aload_n 0, 1) := by decide +kernel
theorem dS_notesBegun_13 : decode cS_notesBegun 13 = .ok (.getfield 22, 3) := by decide +kernel
theorem dS_notesBegun_16 : decode cS_notesBegun 16 = .ok (.iload_n 2, 1) := by decide +kernel
theorem dS_notesBegun_17 : decode cS_notesBegun 17 = .ok (.aaload, 1) := by decide +kernel
theorem dS_notesBegun_18 : decode cS_notesBegun 18 = .ok (.invokevirtual 72, 3) := by decide +kernel
theorem dS_notesBegun_21 : decode cS_notesBegun 21 = .ok (.ifCond .eq 6, 3) := by decide +kernel
theorem dS_notesBegun_24 : decode cS_notesBegun 24 = .ok (.iinc 1 1, 3) := by decide +kernel
theorem dS_notesBegun_27 : decode cS_notesBegun 27 = .ok (.iinc 2 1, 3) := by decide +kernel
theorem dS_notesBegun_30 : decode cS_notesBegun 30 = .ok (.goto (-26), 3) := by decide +kernel
theorem dS_notesBegun_33 : decode cS_notesBegun 33 = .ok (.iload_n 1, 1) := by decide +kernel
theorem dS_notesBegun_34 : decode cS_notesBegun 34 = .ok (.ireturn, 1) := by decide +kernel
def jS_notesBegun_27 (h : cH) (K4 : cZ → Int32 → Int32 → Option (Int32 × cZ)) (z : cZ) (x1 : Int32) (x2 : Int32) : Option (Int32 × cZ) := K4 z x1 (x2 + 1)
def lS_notesBegun_4 (h : cH) : Nat → cZ → Int32 → Int32 → Option (Int32 × cZ)
  | 0 => fun _ _ _ => none
  | k + 1 => fun z x1 x2 => if (zi z 7) ≤ x2 then (some (x1, z)) else (if x2 < 0 ∨ h.1 3 ≤ x2.toNatClampNeg then none else ((zr z 0 x2.toNatClampNeg).bind fun j3 => if h.2.1 ≤ j3 then none else ((fE_beginsNote h z j3).bind fun (r4, z4) => if r4 = 0 then (jS_notesBegun_27 h (lS_notesBegun_4 h k) z4 x1 x2) else (jS_notesBegun_27 h (lS_notesBegun_4 h k) z4 (x1 + 1) x2))))
def fS_notesBegun (h : cH) (z : cZ) : Option (Int32 × cZ) := lS_notesBegun_4 h FU z (0 : Int32) (0 : Int32)
set_option maxHeartbeats 4000000 in
set_option maxRecDepth 100000 in
theorem wS_notesBegun_27 {p : Program} {l : Launch} {e : Env} {s : State} {m : MethodId} {args : Array Value} {below : List Frame} {meth : Method} {c : Code} {g : gT} {qq ad ea : Nat → Nat} {h : cH} {X : va_W} {rv : Option Value} {z' : cZ} {r' : Int32} (C : mCx p m c cS_notesBegun 3 s args g "MidiDesk$Score") (hr : meth.sig.returnType = (some .int)) (hlk : meth.locks = false) (hrv : rv = some (.int r')) {K4 : cZ → Int32 → Int32 → Option (Int32 × cZ)} (hK4 : ∀ (z : cZ) (x1 : Int32) (x2 : Int32) (H : Heap) (locs : List Loc) (ls : Array Slot), lv_has ls 3 [(0, .ref (qq 4)), (1, .int x1), (2, .int x2)] → cWd g (cA g qq ad ea h X s.heap.size) s.heap qq ad ea h X z H locs → K4 z x1 x2 = some (r', z') → cG p l e rS_notesBegun s m args below meth c g qq ad ea h X rv X z' H locs 0 0 (F0 m 4 ls [])) (z : cZ) (x1 : Int32) (x2 : Int32) (H : Heap) (locs : List Loc) (ls : Array Slot) (hl : lv_has ls 3 [(0, .ref (qq 4)), (1, .int x1), (2, .int x2)]) (hw : cWd g (cA g qq ad ea h X s.heap.size) s.heap qq ad ea h X z H locs) (hf : jS_notesBegun_27 h K4 z x1 x2 = some (r', z')) : cG p l e rS_notesBegun s m args below meth c g qq ad ea h X rv X z' H locs 0 0 (F0 m 27 ls []) := by
  unfold jS_notesBegun_27 at hf
  refine lv_iinc (v := x2 + 1) (lv' := [(2, .int (x2 + 1)), (0, .ref (qq 4)), (1, .int x1)]) C.1.1 C.1.2.1 dS_notesBegun_27 hl (k := 2) rfl rfl (by decide) rfl (fun ls hl => ?_)
  refine lv_goto (tgt := 4) C.1.1 C.1.2.1 dS_notesBegun_30 (by decide) ?_
  exact hK4 z x1 (x2 + 1) _ _ ls (lv_sub hl [1, 2, 0] rfl) hw hf
set_option maxHeartbeats 4000000 in
set_option maxRecDepth 100000 in
theorem wS_notesBegun_4 {p : Program} {l : Launch} {e : Env} {s : State} {m : MethodId} {args : Array Value} {below : List Frame} {meth : Method} {c : Code} {g : gT} {qq ad ea : Nat → Nat} {h : cH} {X : va_W} {rv : Option Value} {z' : cZ} {r' : Int32} (C : mCx p m c cS_notesBegun 3 s args g "MidiDesk$Score") (hr : meth.sig.returnType = (some .int)) (hlk : meth.locks = false) (hrv : rv = some (.int r')) (k : Nat) : ∀ (z : cZ) (x1 : Int32) (x2 : Int32) (H : Heap) (locs : List Loc) (ls : Array Slot), lv_has ls 3 [(0, .ref (qq 4)), (1, .int x1), (2, .int x2)] → cWd g (cA g qq ad ea h X s.heap.size) s.heap qq ad ea h X z H locs → lS_notesBegun_4 h k z x1 x2 = some (r', z') → cG p l e rS_notesBegun s m args below meth c g qq ad ea h X rv X z' H locs 0 0 (F0 m 4 ls []) := by
  induction k with
  | zero => intro z x1 x2 H locs ls hl hw hf; cases hf
  | succ k ih =>
    intro z x1 x2 H locs ls hl hw hf
    have hf : (if (zi z 7) ≤ x2 then (some (x1, z)) else (if x2 < 0 ∨ h.1 3 ≤ x2.toNatClampNeg then none else ((zr z 0 x2.toNatClampNeg).bind fun j3 => if h.2.1 ≤ j3 then none else ((fE_beginsNote h z j3).bind fun (r4, z4) => if r4 = 0 then (jS_notesBegun_27 h (lS_notesBegun_4 h k) z4 x1 x2) else (jS_notesBegun_27 h (lS_notesBegun_4 h k) z4 (x1 + 1) x2))))) = some (r', z') := hf
    refine lv_iload_n C.1.1 C.1.2.1 dS_notesBegun_4 rfl (lv_at hl 2 rfl) ?_
    refine lv_aload_n C.1.1 C.1.2.1 dS_notesBegun_5 rfl (lv_at hl 0 rfl) ?_
    refine cg_Score_Score_size C hw dS_notesBegun_6 ?_
    refine lv_icmp_ge (tgt := 33) C.1.1 C.1.2.1 dS_notesBegun_9 (by decide) (fun c1 => ?_) (fun c1 => ?_)
    · have hf := ts_t hf c1
      refine lv_iload_n C.1.1 C.1.2.1 dS_notesBegun_33 rfl (lv_at hl 1 rfl) ?_
      exact c_reti C hr hlk hrv hw hf rfl ⟨Nat.le_of_ble_eq_true rfl, Nat.le_of_ble_eq_true rfl⟩ dS_notesBegun_34
    · have hf := ts_f hf c1
      refine lv_aload_n C.1.1 C.1.2.1 dS_notesBegun_12 rfl (lv_at hl 0 rfl) ?_
      refine cg_Score_Score_row C hw dS_notesBegun_13 ?_
      refine lv_iload_n C.1.1 C.1.2.1 dS_notesBegun_16 rfl (lv_at hl 2 rfl) ?_
      obtain ⟨h2, hf⟩ := ts_g hf
      refine cra_0 C hw h2 dS_notesBegun_17 ?_
      obtain ⟨j3, ho3, hf⟩ := ts_b hf
      try dsimp only at hf
      obtain ⟨hb3, hf⟩ := ts_g hf
      have hb3 := Nat.lt_of_not_le hb3
      obtain ⟨⟨r4, z4⟩, g4, hf⟩ := ts_b hf
      try dsimp only at hf
      refine c_callV (rest := []) (As := []) (rv := (some (.int r4))) (b := (ea j3)) C hl.1 hw (cE_beginsNote_met g4) rfl (callW_of (rm := rE_beginsNote) (C := "MidiDesk$Event") 0 C.1.2.2.2.2 gw_415 gw_416 gw_417 gw_60 gw_418 kE_beginsNote ⟨Nat.le_of_ble_eq_true rfl, Nat.le_of_ble_eq_true rfl⟩) (c_recvE C.2 hb3 hw) rfl (by rw [ho3]; rfl) (Nat.le_of_ble_eq_true rfl) dS_notesBegun_18 ⟨Nat.le_of_ble_eq_true rfl, Nat.le_of_ble_eq_true rfl⟩ (fun H locs hw => ?_)
      refine W.eq (g2 := F0 m 21 ls [.int r4]) rfl ?_
      refine lv_if_eq (tgt := 27) C.1.1 C.1.2.1 dS_notesBegun_21 (by decide) (fun c5 => ?_) (fun c5 => ?_)
      · have hf := ts_t hf c5
        exact wS_notesBegun_27 C hr hlk hrv ih z4 x1 x2 _ _ ls (lv_sub hl [0, 1, 2] rfl) hw hf
      · have hf := ts_f hf c5
        refine lv_iinc (v := x1 + 1) (lv' := [(1, .int (x1 + 1)), (0, .ref (qq 4)), (2, .int x2)]) C.1.1 C.1.2.1 dS_notesBegun_24 hl (k := 1) rfl rfl (by decide) rfl (fun ls hl => ?_)
        exact wS_notesBegun_27 C hr hlk hrv ih z4 (x1 + 1) x2 _ _ ls (lv_sub hl [1, 0, 2] rfl) hw hf
set_option maxHeartbeats 4000000 in
set_option maxRecDepth 100000 in
theorem cS_notesBegun_met {l : Launch} {g : gT} {qq ad ea : Nat → Nat} {h : cH} {X : va_W} {z z' : cZ} {r' : Int32} (hf : fS_notesBegun h z = some (r', z')) : cMet l yS_notesBegun cS_notesBegun 3 (some .int) rS_notesBegun g qq ad ea h X z [.ref (qq 4)] (some (.int r')) X z' := by
  refine c_entry (by decide) (Nat.le_of_ble_eq_true rfl) ?_
  intro p e s m args below meth c ls C hr hlk hnm hl hw
  have hrv : (some (.int r') : Option Value) = some (.int r') := rfl
  have C : mCx p m c cS_notesBegun 3 s args g "MidiDesk$Score" := C
  have hl : lv_has ls 3 [(0, .ref (qq 4))] := hl
  unfold fS_notesBegun at hf
  refine lv_iconst (v := (0 : Int32)) C.1.1 C.1.2.1 dS_notesBegun_0 (by decide) ?_
  refine lv_istore_n (lv' := [(1, .int (0 : Int32)), (0, .ref (qq 4))]) C.1.1 C.1.2.1 dS_notesBegun_1 rfl hl (by decide) rfl (fun ls hl => ?_)
  refine lv_iconst (v := (0 : Int32)) C.1.1 C.1.2.1 dS_notesBegun_2 (by decide) ?_
  refine lv_istore_n (lv' := [(2, .int (0 : Int32)), (1, .int (0 : Int32)), (0, .ref (qq 4))]) C.1.1 C.1.2.1 dS_notesBegun_3 rfl hl (by decide) rfl (fun ls hl => ?_)
  exact wS_notesBegun_4 C hr hlk hrv FU z (0 : Int32) (0 : Int32) _ _ ls (lv_sub hl [2, 1, 0] rfl) hw hf
abbrev cS_noteTicks : ByteArray := prog_6_method_12_code
abbrev yS_noteTicks : MethodName := ⟨"MidiDesk$Score", "noteTicks", "(I)I"⟩
theorem kS_noteTicks : yS_noteTicks.cls ≠ "java/lang/invoke/MethodHandle" ∧ yS_noteTicks.cls ≠ "java/lang/invoke/VarHandle" ∧ (parseMethodDescriptor yS_noteTicks.desc).map (fun d => d.parameters.length) = some 1 := by decide +kernel
abbrev rS_noteTicks : Room := { frames := 2, cells := 0, slots := 0, locals := 42 }
theorem dS_noteTicks_0 : decode cS_noteTicks 0 = .ok (.aload_n 0, 1) := by decide +kernel
theorem dS_noteTicks_1 : decode cS_noteTicks 1 = .ok (.iload_n 1, 1) := by decide +kernel
theorem dS_noteTicks_2 : decode cS_noteTicks 2 = .ok (.invokevirtual 75, 3) := by decide +kernel
theorem dS_noteTicks_5 : decode cS_noteTicks 5 = .ok (.astore_n 2, 1) := by decide +kernel
theorem dS_noteTicks_6 : decode cS_noteTicks 6 = .ok (.aload_n 2, 1) := by decide +kernel
theorem dS_noteTicks_7 : decode cS_noteTicks 7 = .ok (.ifnull 10, 3) := by decide +kernel
theorem dS_noteTicks_10 : decode cS_noteTicks 10 = .ok (.aload_n 2, 1) := by decide +kernel
theorem dS_noteTicks_11 : decode cS_noteTicks 11 = .ok (.invokevirtual 72, 3) := by decide +kernel
theorem dS_noteTicks_14 : decode cS_noteTicks 14 = .ok (.ifCond .ne 5, 3) := by decide +kernel
theorem dS_noteTicks_17 : decode cS_noteTicks 17 = .ok (.iconst (-1), 1) := by decide +kernel
theorem dS_noteTicks_18 : decode cS_noteTicks 18 = .ok (.ireturn, 1) := by decide +kernel
theorem dS_noteTicks_19 : decode cS_noteTicks 19 = .ok (.iload_n 1, 1) := by decide +kernel
theorem dS_noteTicks_20 : decode cS_noteTicks 20 = .ok (.iconst 1, 1) := by decide +kernel
theorem dS_noteTicks_21 : decode cS_noteTicks 21 = .ok (.iadd, 1) := by decide +kernel
theorem dS_noteTicks_22 : decode cS_noteTicks 22 = .ok (.istore_n 3, 1) := by decide +kernel
theorem dS_noteTicks_23 : decode cS_noteTicks 23 = .ok (.iload_n 3, 1) := by decide +kernel
theorem dS_noteTicks_24 : decode cS_noteTicks 24 = .ok (.aload_n 0, 1) := by decide +kernel
theorem dS_noteTicks_25 : decode cS_noteTicks 25 = .ok (.getfield 33, 3) := by decide +kernel
theorem dS_noteTicks_28 : decode cS_noteTicks 28 = .ok (.if_icmp .ge 37, 3) := by decide +kernel
theorem dS_noteTicks_31 : decode cS_noteTicks 31 = .ok (.aload_n 0, 1) := by decide +kernel
theorem dS_noteTicks_32 : decode cS_noteTicks 32 = .ok (.getfield 22, 3) := by decide +kernel
theorem dS_noteTicks_35 : decode cS_noteTicks 35 = .ok (.iload_n 3, 1) := by decide +kernel
theorem dS_noteTicks_36 : decode cS_noteTicks 36 = .ok (.aaload, 1) := by decide +kernel
theorem dS_noteTicks_37 : decode cS_noteTicks 37 = .ok (.aload_n 2, 1) := by decide +kernel
theorem dS_noteTicks_38 : decode cS_noteTicks 38 = .ok (.invokevirtual 79, 3) := by decide +kernel
theorem dS_noteTicks_41 : decode cS_noteTicks 41 = .ok (.ifCond .eq 18, 3) := by decide +kernel
theorem dS_noteTicks_44 : decode cS_noteTicks 44 = .ok (.aload_n 0, 1) := by decide +kernel
theorem dS_noteTicks_45 : decode cS_noteTicks 45 = .ok (.getfield 22, 3) := by decide +kernel
theorem dS_noteTicks_48 : decode cS_noteTicks 48 = .ok (.iload_n 3, 1) := by decide +kernel
theorem dS_noteTicks_49 : decode cS_noteTicks 49 = .ok (.aaload, 1) := by decide +kernel
theorem dS_noteTicks_50 : decode cS_noteTicks 50 = .ok (.getfield 65, 3) := by decide +kernel
theorem dS_noteTicks_53 : decode cS_noteTicks 53 = .ok (.aload_n 2, 1) := by decide +kernel
theorem dS_noteTicks_54 : decode cS_noteTicks 54 = .ok (.getfield 65, 3) := by decide +kernel
theorem dS_noteTicks_57 : decode cS_noteTicks 57 = .ok (.isub, 1) := by decide +kernel
theorem dS_noteTicks_58 : decode cS_noteTicks 58 = .ok (.ireturn, 1) := by decide +kernel
theorem dS_noteTicks_59 : decode cS_noteTicks 59 = .ok (.iinc 3 1, 3) := by decide +kernel
theorem dS_noteTicks_62 : decode cS_noteTicks 62 = .ok (.goto (-39), 3) := by decide +kernel
theorem dS_noteTicks_65 : decode cS_noteTicks 65 = .ok (.iconst (-1), 1) := by decide +kernel
theorem dS_noteTicks_66 : decode cS_noteTicks 66 = .ok (.ireturn, 1) := by decide +kernel
def lS_noteTicks_23 (h : cH) : Nat → cZ → Option Nat → Int32 → Option (Int32 × cZ)
  | 0 => fun _ _ _ => none
  | k + 1 => fun z o2 x3 => if (zi z 7) ≤ x3 then (some ((-1 : Int32), z)) else (if x3 < 0 ∨ h.1 3 ≤ x3.toNatClampNeg then none else ((zr z 0 x3.toNatClampNeg).bind fun j3 => if h.2.1 ≤ j3 then none else ((fE_endsNoteOf h z j3 o2).bind fun (r4, z4) => if r4 = 0 then (lS_noteTicks_23 h k z4 o2 (x3 + 1)) else (if x3 < 0 ∨ h.1 3 ≤ x3.toNatClampNeg then none else ((zr z4 0 x3.toNatClampNeg).bind fun j7 => if h.2.1 ≤ j7 then none else ((o2).bind fun j8 => if h.2.1 ≤ j8 then none else (some ((ze z4 j7 0) - (ze z4 j8 0), z4))))))))
def fS_noteTicks (h : cH) (z : cZ) (x1 : Int32) : Option (Int32 × cZ) := (fS_at h z x1).bind fun (r1, z1) => if r1 = none then (some ((-1 : Int32), z1)) else ((r1).bind fun j3 => if h.2.1 ≤ j3 then none else ((fE_beginsNote h z1 j3).bind fun (r4, z4) => if r4 = 0 then (some ((-1 : Int32), z4)) else (lS_noteTicks_23 h FU z4 r1 (x1 + (1 : Int32)))))
set_option maxHeartbeats 4000000 in
set_option maxRecDepth 100000 in
theorem wS_noteTicks_23 {p : Program} {l : Launch} {e : Env} {s : State} {m : MethodId} {args : Array Value} {below : List Frame} {meth : Method} {c : Code} {g : gT} {qq ad ea : Nat → Nat} {h : cH} {X : va_W} {rv : Option Value} {z' : cZ} {r' : Int32} (C : mCx p m c cS_noteTicks 4 s args g "MidiDesk$Score") (hr : meth.sig.returnType = (some .int)) (hlk : meth.locks = false) (hrv : rv = some (.int r')) (k : Nat) : ∀ (z : cZ) (o2 : Option Nat) (x3 : Int32) (H : Heap) (locs : List Loc) (ls : Array Slot), lv_has ls 4 [(0, .ref (qq 4)), (2, va_rf (Option.map ea o2)), (3, .int x3)] → cWd g (cA g qq ad ea h X s.heap.size) s.heap qq ad ea h X z H locs → lS_noteTicks_23 h k z o2 x3 = some (r', z') → cG p l e rS_noteTicks s m args below meth c g qq ad ea h X rv X z' H locs 0 0 (F0 m 23 ls []) := by
  induction k with
  | zero => intro z o2 x3 H locs ls hl hw hf; cases hf
  | succ k ih =>
    intro z o2 x3 H locs ls hl hw hf
    have hf : (if (zi z 7) ≤ x3 then (some ((-1 : Int32), z)) else (if x3 < 0 ∨ h.1 3 ≤ x3.toNatClampNeg then none else ((zr z 0 x3.toNatClampNeg).bind fun j3 => if h.2.1 ≤ j3 then none else ((fE_endsNoteOf h z j3 o2).bind fun (r4, z4) => if r4 = 0 then (lS_noteTicks_23 h k z4 o2 (x3 + 1)) else (if x3 < 0 ∨ h.1 3 ≤ x3.toNatClampNeg then none else ((zr z4 0 x3.toNatClampNeg).bind fun j7 => if h.2.1 ≤ j7 then none else ((o2).bind fun j8 => if h.2.1 ≤ j8 then none else (some ((ze z4 j7 0) - (ze z4 j8 0), z4))))))))) = some (r', z') := hf
    refine lv_iload_n C.1.1 C.1.2.1 dS_noteTicks_23 rfl (lv_at hl 2 rfl) ?_
    refine lv_aload_n C.1.1 C.1.2.1 dS_noteTicks_24 rfl (lv_at hl 0 rfl) ?_
    refine cg_Score_Score_size C hw dS_noteTicks_25 ?_
    refine lv_icmp_ge (tgt := 65) C.1.1 C.1.2.1 dS_noteTicks_28 (by decide) (fun c1 => ?_) (fun c1 => ?_)
    · have hf := ts_t hf c1
      refine lv_iconst (v := (-1 : Int32)) C.1.1 C.1.2.1 dS_noteTicks_65 (by decide) ?_
      exact c_reti C hr hlk hrv hw hf rfl ⟨Nat.le_of_ble_eq_true rfl, Nat.le_of_ble_eq_true rfl⟩ dS_noteTicks_66
    · have hf := ts_f hf c1
      refine lv_aload_n C.1.1 C.1.2.1 dS_noteTicks_31 rfl (lv_at hl 0 rfl) ?_
      refine cg_Score_Score_row C hw dS_noteTicks_32 ?_
      refine lv_iload_n C.1.1 C.1.2.1 dS_noteTicks_35 rfl (lv_at hl 2 rfl) ?_
      obtain ⟨h2, hf⟩ := ts_g hf
      refine cra_0 C hw h2 dS_noteTicks_36 ?_
      refine c_aload_n C.1.1 C.1.2.1 dS_noteTicks_37 rfl (lv_at hl 1 rfl) ?_
      obtain ⟨j3, ho3, hf⟩ := ts_b hf
      try dsimp only at hf
      obtain ⟨hb3, hf⟩ := ts_g hf
      have hb3 := Nat.lt_of_not_le hb3
      obtain ⟨⟨r4, z4⟩, g4, hf⟩ := ts_b hf
      try dsimp only at hf
      refine c_callV (rest := []) (As := [va_rf (Option.map ea o2)]) (rv := (some (.int r4))) (b := (ea j3)) C hl.1 hw (cE_endsNoteOf_met g4) rfl (callW_of (rm := rE_endsNoteOf) (C := "MidiDesk$Event") 1 C.1.2.2.2.2 gw_419 gw_420 gw_421 gw_60 gw_422 kE_endsNoteOf ⟨Nat.le_of_ble_eq_true rfl, Nat.le_of_ble_eq_true rfl⟩) (c_recvE C.2 hb3 hw) rfl (by rw [ho3]; rfl) (Nat.le_of_ble_eq_true rfl) dS_noteTicks_38 ⟨Nat.le_of_ble_eq_true rfl, Nat.le_of_ble_eq_true rfl⟩ (fun H locs hw => ?_)
      refine W.eq (g2 := F0 m 41 ls [.int r4]) rfl ?_
      refine lv_if_eq (tgt := 59) C.1.1 C.1.2.1 dS_noteTicks_41 (by decide) (fun c5 => ?_) (fun c5 => ?_)
      · have hf := ts_t hf c5
        refine lv_iinc (v := x3 + 1) (lv' := [(3, .int (x3 + 1)), (0, .ref (qq 4)), (2, va_rf (Option.map ea o2))]) C.1.1 C.1.2.1 dS_noteTicks_59 hl (k := 2) rfl rfl (by decide) (by generalize Option.map ea o2 = oo; cases oo <;> rfl) (fun ls hl => ?_)
        refine lv_goto (tgt := 23) C.1.1 C.1.2.1 dS_noteTicks_62 (by decide) ?_
        exact ih z4 o2 (x3 + 1) _ _ ls (lv_sub hl [1, 2, 0] rfl) hw hf
      · have hf := ts_f hf c5
        refine lv_aload_n C.1.1 C.1.2.1 dS_noteTicks_44 rfl (lv_at hl 0 rfl) ?_
        refine cg_Score_Score_row C hw dS_noteTicks_45 ?_
        refine lv_iload_n C.1.1 C.1.2.1 dS_noteTicks_48 rfl (lv_at hl 2 rfl) ?_
        obtain ⟨h6, hf⟩ := ts_g hf
        refine cra_0 C hw h6 dS_noteTicks_49 ?_
        obtain ⟨j7, ho7, hf⟩ := ts_b hf
        try dsimp only at hf
        obtain ⟨hb7, hf⟩ := ts_g hf
        have hb7 := Nat.lt_of_not_le hb7
        refine cg_Score_Event_tick C hw ho7 hb7 dS_noteTicks_50 ?_
        refine c_aload_n C.1.1 C.1.2.1 dS_noteTicks_53 rfl (lv_at hl 1 rfl) ?_
        obtain ⟨j8, ho8, hf⟩ := ts_b hf
        try dsimp only at hf
        obtain ⟨hb8, hf⟩ := ts_g hf
        have hb8 := Nat.lt_of_not_le hb8
        refine cg_Score_Event_tick C hw ho8 hb8 dS_noteTicks_54 ?_
        refine lv_isub C.1.1 C.1.2.1 dS_noteTicks_57 ?_
        exact c_reti C hr hlk hrv hw hf rfl ⟨Nat.le_of_ble_eq_true rfl, Nat.le_of_ble_eq_true rfl⟩ dS_noteTicks_58
set_option maxHeartbeats 4000000 in
set_option maxRecDepth 100000 in
theorem cS_noteTicks_met {l : Launch} {g : gT} {qq ad ea : Nat → Nat} {h : cH} {X : va_W} {z z' : cZ} {x1 : Int32} {r' : Int32} (hf : fS_noteTicks h z x1 = some (r', z')) : cMet l yS_noteTicks cS_noteTicks 4 (some .int) rS_noteTicks g qq ad ea h X z [.ref (qq 4), .int x1] (some (.int r')) X z' := by
  refine c_entry (by decide) (Nat.le_of_ble_eq_true rfl) ?_
  intro p e s m args below meth c ls C hr hlk hnm hl hw
  have hrv : (some (.int r') : Option Value) = some (.int r') := rfl
  have C : mCx p m c cS_noteTicks 4 s args g "MidiDesk$Score" := C
  have hl : lv_has ls 4 [(0, .ref (qq 4)), (1, .int x1)] := hl
  unfold fS_noteTicks at hf
  refine lv_aload_n C.1.1 C.1.2.1 dS_noteTicks_0 rfl (lv_at hl 0 rfl) ?_
  refine lv_iload_n C.1.1 C.1.2.1 dS_noteTicks_1 rfl (lv_at hl 1 rfl) ?_
  obtain ⟨⟨r1, z1⟩, g1, hf⟩ := ts_b hf
  try dsimp only at hf
  refine c_callV (rest := []) (As := [.int x1]) (rv := (some (va_rf (Option.map ea r1)))) (b := (qq 4)) C hl.1 hw (cS_at_met g1) rfl (callW_of (rm := rS_at) (C := "MidiDesk$Score") 1 C.1.2.2.2.2 gw_414 gw_398 gw_399 gw_54 gw_400 kS_at ⟨Nat.le_of_ble_eq_true rfl, Nat.le_of_ble_eq_true rfl⟩) (c_recv_score C.2 hw) rfl rfl (Nat.le_of_ble_eq_true rfl) dS_noteTicks_2 ⟨Nat.le_of_ble_eq_true rfl, Nat.le_of_ble_eq_true rfl⟩ (fun H locs hw => ?_)
  refine W.eq (g2 := F0 m 5 ls [va_rf (Option.map ea r1)]) rfl ?_
  refine c_astore_n (lv' := [(2, va_rf (Option.map ea r1)), (0, .ref (qq 4)), (1, .int x1)]) C.1.1 C.1.2.1 dS_noteTicks_5 rfl hl (by decide) rfl (fun ls hl => ?_)
  refine c_aload_n C.1.1 C.1.2.1 dS_noteTicks_6 rfl (lv_at hl 0 rfl) ?_
  refine c_ifnull (x := r1) (tgt := 17) C.1.1 C.1.2.1 dS_noteTicks_7 (by decide) (fun c2 => ?_) (fun c2 => ?_)
  · have hf := ts_t hf c2
    refine lv_iconst (v := (-1 : Int32)) C.1.1 C.1.2.1 dS_noteTicks_17 (by decide) ?_
    exact c_reti C hr hlk hrv hw hf rfl ⟨Nat.le_of_ble_eq_true rfl, Nat.le_of_ble_eq_true rfl⟩ dS_noteTicks_18
  · have hf := ts_f hf c2
    refine c_aload_n C.1.1 C.1.2.1 dS_noteTicks_10 rfl (lv_at hl 0 rfl) ?_
    obtain ⟨j3, ho3, hf⟩ := ts_b hf
    try dsimp only at hf
    obtain ⟨hb3, hf⟩ := ts_g hf
    have hb3 := Nat.lt_of_not_le hb3
    obtain ⟨⟨r4, z4⟩, g4, hf⟩ := ts_b hf
    try dsimp only at hf
    refine c_callV (rest := []) (As := []) (rv := (some (.int r4))) (b := (ea j3)) C hl.1 hw (cE_beginsNote_met g4) rfl (callW_of (rm := rE_beginsNote) (C := "MidiDesk$Event") 0 C.1.2.2.2.2 gw_415 gw_416 gw_417 gw_60 gw_418 kE_beginsNote ⟨Nat.le_of_ble_eq_true rfl, Nat.le_of_ble_eq_true rfl⟩) (c_recvE C.2 hb3 hw) rfl (by rw [ho3]; rfl) (Nat.le_of_ble_eq_true rfl) dS_noteTicks_11 ⟨Nat.le_of_ble_eq_true rfl, Nat.le_of_ble_eq_true rfl⟩ (fun H locs hw => ?_)
    refine W.eq (g2 := F0 m 14 ls [.int r4]) rfl ?_
    refine lv_if_ne (tgt := 19) C.1.1 C.1.2.1 dS_noteTicks_14 (by decide) (fun c5 => ?_) (fun c5 => ?_)
    · have hf := ts_f hf c5
      refine lv_iload_n C.1.1 C.1.2.1 dS_noteTicks_19 rfl (lv_at hl 2 rfl) ?_
      refine lv_iconst (v := (1 : Int32)) C.1.1 C.1.2.1 dS_noteTicks_20 (by decide) ?_
      refine lv_iadd C.1.1 C.1.2.1 dS_noteTicks_21 ?_
      refine lv_istore_n (lv' := [(3, .int (x1 + (1 : Int32))), (2, va_rf (Option.map ea r1)), (0, .ref (qq 4)), (1, .int x1)]) C.1.1 C.1.2.1 dS_noteTicks_22 rfl hl (by decide) (by generalize Option.map ea r1 = oo; cases oo <;> rfl) (fun ls hl => ?_)
      exact wS_noteTicks_23 C hr hlk hrv FU z4 r1 (x1 + (1 : Int32)) _ _ ls (lv_sub hl [2, 1, 0] rfl) hw hf
    · have hf := ts_t hf c5
      refine lv_iconst (v := (-1 : Int32)) C.1.1 C.1.2.1 dS_noteTicks_17 (by decide) ?_
      exact c_reti C hr hlk hrv hw hf rfl ⟨Nat.le_of_ble_eq_true rfl, Nat.le_of_ble_eq_true rfl⟩ dS_noteTicks_18
abbrev cS_shiftNotes : ByteArray := prog_6_method_13_code
abbrev yS_shiftNotes : MethodName := ⟨"MidiDesk$Score", "shiftNotes", "(II)I"⟩
theorem kS_shiftNotes : yS_shiftNotes.cls ≠ "java/lang/invoke/MethodHandle" ∧ yS_shiftNotes.cls ≠ "java/lang/invoke/VarHandle" ∧ (parseMethodDescriptor yS_shiftNotes.desc).map (fun d => d.parameters.length) = some 2 := by decide +kernel
abbrev rS_shiftNotes : Room := { frames := 1, cells := 0, slots := 0, locals := 21 }
theorem dS_shiftNotes_0 : decode cS_shiftNotes 0 = .ok (.iconst 0, 1) := by decide +kernel
theorem dS_shiftNotes_1 : decode cS_shiftNotes 1 = .ok (.istore_n 3, 1) := by decide +kernel
theorem dS_shiftNotes_2 : decode cS_shiftNotes 2 = .ok (.iconst 0, 1) := by decide +kernel
theorem dS_shiftNotes_3 : decode cS_shiftNotes 3 = .ok (.istore 4, 2) := by decide +kernel
theorem dS_shiftNotes_5 : decode cS_shiftNotes 5 = .ok (.iload 4, 2) := by decide +kernel
theorem dS_shiftNotes_7 : decode cS_shiftNotes 7 = .ok (.aload_n 0, 1) := by decide +kernel
theorem dS_shiftNotes_8 : decode cS_shiftNotes 8 = .ok (.getfield 33, 3) := by decide +kernel
theorem dS_shiftNotes_11 : decode cS_shiftNotes 11 = .ok (.if_icmp .ge 67, 3) := by decide +kernel
theorem dS_shiftNotes_14 : decode cS_shiftNotes 14 = .ok (.aload_n 0, 1) := by decide +kernel
theorem dS_shiftNotes_15 : decode cS_shiftNotes 15 = .ok (.getfield 22, 3) := by decide +kernel
theorem dS_shiftNotes_18 : decode cS_shiftNotes 18 = .ok (.iload 4, 2) := by decide +kernel
theorem dS_shiftNotes_20 : decode cS_shiftNotes 20 = .ok (.aaload, 1) := by decide +kernel
theorem dS_shiftNotes_21 : decode cS_shiftNotes 21 = .ok (.astore 5, 2) := by decide +kernel
theorem dS_shiftNotes_23 : decode cS_shiftNotes 23 = .ok (.aload 5, 2) := by decide +kernel
theorem dS_shiftNotes_25 : decode cS_shiftNotes 25 = .ok (.invokevirtual 82, 3) := by decide +kernel
theorem dS_shiftNotes_28 : decode cS_shiftNotes 28 = .ok (.ifCond .eq 44, 3) := by decide +kernel
theorem dS_shiftNotes_31 : decode cS_shiftNotes 31 = .ok (.aload 5, 2) := by decide +kernel
theorem dS_shiftNotes_33 : decode cS_shiftNotes 33 = .ok (.iload_n 1, 1) := by decide +kernel
theorem dS_shiftNotes_34 : decode cS_shiftNotes 34 = .ok (.invokevirtual 85, 3) := by decide +kernel
theorem dS_shiftNotes_37 : decode cS_shiftNotes 37 = .ok (.ifCond .eq 35, 3) := by decide +kernel
theorem dS_shiftNotes_40 : decode cS_shiftNotes 40 = .ok (.aload 5, 2) := by decide +kernel
theorem dS_shiftNotes_42 : decode cS_shiftNotes 42 = .ok (.getfield 89, 3) := by decide +kernel
theorem dS_shiftNotes_45 : decode cS_shiftNotes 45 = .ok (.i2l, 1) := by decide +kernel
theorem dS_shiftNotes_46 : decode cS_shiftNotes 46 = .ok (.iload_n 2, 1) := by decide +kernel
theorem dS_shiftNotes_47 : decode cS_shiftNotes 47 = .ok (.i2l, 1) := by decide +kernel
theorem dS_shiftNotes_48 : decode cS_shiftNotes 48 = .ok (.ladd, 1) := by decide +kernel
theorem dS_shiftNotes_49 : decode cS_shiftNotes 49 = .ok (.lstore 6, 2) := by decide +kernel
theorem dS_shiftNotes_51 : decode cS_shiftNotes 51 = .ok (.lload 6, 2) := by decide +kernel
theorem dS_shiftNotes_53 : decode cS_shiftNotes 53 = .ok (.lconst 0, 1) := by decide +kernel
theorem dS_shiftNotes_54 : decode cS_shiftNotes 54 = .ok (.lcmp, 1) := by decide +kernel
theorem dS_shiftNotes_55 : decode cS_shiftNotes 55 = .ok (.ifCond .lt 12, 3) := by decide +kernel
theorem dS_shiftNotes_58 : decode cS_shiftNotes 58 = .ok (.lload 6, 2) := by decide +kernel
theorem dS_shiftNotes_60 : decode cS_shiftNotes 60 = .ok (.ldc2_w 92, 3) := by decide +kernel
theorem dS_shiftNotes_63 : decode cS_shiftNotes 63 = .ok (.lcmp, 1) := by decide +kernel
theorem dS_shiftNotes_64 : decode cS_shiftNotes 64 = .ok (.ifCond .le 5, 3) := by decide +kernel
theorem dS_shiftNotes_67 : decode cS_shiftNotes 67 = .ok (.iconst (-1), 1) := by decide +kernel
theorem dS_shiftNotes_68 : decode cS_shiftNotes 68 = .ok (.ireturn, 1) := by decide +kernel
theorem dS_shiftNotes_69 : decode cS_shiftNotes 69 = .ok (.iinc 3 1, 3) := by decide +kernel
theorem dS_shiftNotes_72 : decode cS_shiftNotes 72 = .ok (.iinc 4 1, 3) := by decide +kernel
theorem dS_shiftNotes_75 : decode cS_shiftNotes 75 = .ok (.goto (-70), 3) := by decide +kernel
theorem dS_shiftNotes_78 : decode cS_shiftNotes 78 = .ok (.iconst 0, 1) := by decide +kernel
theorem dS_shiftNotes_79 : decode cS_shiftNotes 79 = .ok (.istore 4, 2) := by decide +kernel
theorem dS_shiftNotes_81 : decode cS_shiftNotes 81 = .ok (.iload 4, 2) := by decide +kernel
theorem dS_shiftNotes_83 : decode cS_shiftNotes 83 = .ok (.aload_n 0, 1) := by decide +kernel
theorem dS_shiftNotes_84 : decode cS_shiftNotes 84 = .ok (.getfield 33, 3) := by decide +kernel
theorem dS_shiftNotes_87 : decode cS_shiftNotes 87 = .ok (.if_icmp .ge 46, 3) := by decide +kernel
theorem dS_shiftNotes_90 : decode cS_shiftNotes 90 = .ok (.aload_n 0, 1) := by decide +kernel
theorem dS_shiftNotes_91 : decode cS_shiftNotes 91 = .ok (.getfield 22, 3) := by decide +kernel
theorem dS_shiftNotes_94 : decode cS_shiftNotes 94 = .ok (.iload 4, 2) := by decide +kernel
theorem dS_shiftNotes_96 : decode cS_shiftNotes 96 = .ok (.aaload, 1) := by decide +kernel
theorem dS_shiftNotes_97 : decode cS_shiftNotes 97 = .ok (.astore 5, 2) := by decide +kernel
theorem dS_shiftNotes_99 : decode cS_shiftNotes 99 = .ok (.aload 5, 2) := by decide +kernel
theorem dS_shiftNotes_101 : decode cS_shiftNotes 101 = .ok (.invokevirtual 82, 3) := by decide +kernel
theorem dS_shiftNotes_104 : decode cS_shiftNotes 104 = .ok (.ifCond .eq 23, 3) := by decide +kernel
theorem dS_shiftNotes_107 : decode cS_shiftNotes 107 = .ok (.aload 5, 2) := by decide +kernel
theorem dS_shiftNotes_109 : decode cS_shiftNotes 109 = .ok (.iload_n 1, 1) := by decide +kernel
theorem dS_shiftNotes_110 : decode cS_shiftNotes 110 = .ok (.invokevirtual 85, 3) := by decide +kernel
theorem dS_shiftNotes_113 : decode cS_shiftNotes 113 = .ok (.ifCond .eq 14, 3) := by decide +kernel
theorem dS_shiftNotes_116 : decode cS_shiftNotes 116 = .ok (.aload 5, 2) := by decide +kernel
theorem dS_shiftNotes_118 : decode cS_shiftNotes 118 = .ok (.dup, 1) := by decide +kernel
theorem dS_shiftNotes_119 : decode cS_shiftNotes 119 = .ok (.getfield 89, 3) := by decide +kernel
theorem dS_shiftNotes_122 : decode cS_shiftNotes 122 = .ok (.iload_n 2, 1) := by decide +kernel
theorem dS_shiftNotes_123 : decode cS_shiftNotes 123 = .ok (.iadd, 1) := by decide +kernel
theorem dS_shiftNotes_124 : decode cS_shiftNotes 124 = .ok (.putfield 89, 3) := by decide +kernel
theorem dS_shiftNotes_127 : decode cS_shiftNotes 127 = .ok (.iinc 4 1, 3) := by decide +kernel
theorem dS_shiftNotes_130 : decode cS_shiftNotes 130 = .ok (.goto (-49), 3) := by decide +kernel
theorem dS_shiftNotes_133 : decode cS_shiftNotes 133 = .ok (.iload_n 3, 1) := by decide +kernel
theorem dS_shiftNotes_134 : decode cS_shiftNotes 134 = .ok (.ireturn, 1) := by decide +kernel
def jS_shiftNotes_72 (h : cH) (K5 : cZ → Int32 → Int32 → Int32 → Int32 → Option (Int32 × cZ)) (z : cZ) (x1 : Int32) (x2 : Int32) (x3 : Int32) (x4 : Int32) : Option (Int32 × cZ) := K5 z x1 x2 x3 (x4 + 1)
def jS_shiftNotes_127 (h : cH) (K81 : cZ → Int32 → Int32 → Int32 → Int32 → Option (Int32 × cZ)) (z : cZ) (x1 : Int32) (x2 : Int32) (x3 : Int32) (x4 : Int32) : Option (Int32 × cZ) := K81 z x1 x2 x3 (x4 + 1)
def lS_shiftNotes_81 (h : cH) : Nat → cZ → Int32 → Int32 → Int32 → Int32 → Option (Int32 × cZ)
  | 0 => fun _ _ _ _ _ => none
  | k + 1 => fun z x1 x2 x3 x4 => if (zi z 7) ≤ x4 then (some (x3, z)) else (if x4 < 0 ∨ h.1 3 ≤ x4.toNatClampNeg then none else ((zr z 0 x4.toNatClampNeg).bind fun j3 => if h.2.1 ≤ j3 then none else ((fE_isOfNote h z j3).bind fun (r4, z4) => if r4 = 0 then (jS_shiftNotes_127 h (lS_shiftNotes_81 h k) z4 x1 x2 x3 x4) else ((fE_isOfChannel h z4 j3 x1).bind fun (r6, z6) => if r6 = 0 then (jS_shiftNotes_127 h (lS_shiftNotes_81 h k) z6 x1 x2 x3 x4) else (jS_shiftNotes_127 h (lS_shiftNotes_81 h k) (zE z6 j3 3 ((ze z6 j3 3) + x2)) x1 x2 x3 x4)))))
def lS_shiftNotes_5 (h : cH) : Nat → cZ → Int32 → Int32 → Int32 → Int32 → Option (Int32 × cZ)
  | 0 => fun _ _ _ _ _ => none
  | k + 1 => fun z x1 x2 x3 x4 => if (zi z 7) ≤ x4 then (lS_shiftNotes_81 h FU z x1 x2 x3 (0 : Int32)) else (if x4 < 0 ∨ h.1 3 ≤ x4.toNatClampNeg then none else ((zr z 0 x4.toNatClampNeg).bind fun j3 => if h.2.1 ≤ j3 then none else ((fE_isOfNote h z j3).bind fun (r4, z4) => if r4 = 0 then (jS_shiftNotes_72 h (lS_shiftNotes_5 h k) z4 x1 x2 x3 x4) else ((fE_isOfChannel h z4 j3 x1).bind fun (r6, z6) => if r6 = 0 then (jS_shiftNotes_72 h (lS_shiftNotes_5 h k) z6 x1 x2 x3 x4) else (if (lg_cmp (((ze z6 j3 3).toInt64) + x2.toInt64) (0 : Int64)) < 0 then (some ((-1 : Int32), z6)) else (if (lg_cmp (((ze z6 j3 3).toInt64) + x2.toInt64) (127 : Int64)) ≤ 0 then (jS_shiftNotes_72 h (lS_shiftNotes_5 h k) z6 x1 x2 (x3 + 1) x4) else (some ((-1 : Int32), z6))))))))
def fS_shiftNotes (h : cH) (z : cZ) (x1 : Int32) (x2 : Int32) : Option (Int32 × cZ) := lS_shiftNotes_5 h FU z x1 x2 (0 : Int32) (0 : Int32)
set_option maxHeartbeats 4000000 in
set_option maxRecDepth 100000 in
theorem wS_shiftNotes_72 {p : Program} {l : Launch} {e : Env} {s : State} {m : MethodId} {args : Array Value} {below : List Frame} {meth : Method} {c : Code} {g : gT} {qq ad ea : Nat → Nat} {h : cH} {X : va_W} {rv : Option Value} {z' : cZ} {r' : Int32} (C : mCx p m c cS_shiftNotes 8 s args g "MidiDesk$Score") (hr : meth.sig.returnType = (some .int)) (hlk : meth.locks = false) (hrv : rv = some (.int r')) {K5 : cZ → Int32 → Int32 → Int32 → Int32 → Option (Int32 × cZ)} (hK5 : ∀ (z : cZ) (x1 : Int32) (x2 : Int32) (x3 : Int32) (x4 : Int32) (H : Heap) (locs : List Loc) (ls : Array Slot), lv_has ls 8 [(0, .ref (qq 4)), (1, .int x1), (2, .int x2), (3, .int x3), (4, .int x4)] → cWd g (cA g qq ad ea h X s.heap.size) s.heap qq ad ea h X z H locs → K5 z x1 x2 x3 x4 = some (r', z') → cG p l e rS_shiftNotes s m args below meth c g qq ad ea h X rv X z' H locs 0 0 (F0 m 5 ls [])) (z : cZ) (x1 : Int32) (x2 : Int32) (x3 : Int32) (x4 : Int32) (H : Heap) (locs : List Loc) (ls : Array Slot) (hl : lv_has ls 8 [(0, .ref (qq 4)), (1, .int x1), (2, .int x2), (3, .int x3), (4, .int x4)]) (hw : cWd g (cA g qq ad ea h X s.heap.size) s.heap qq ad ea h X z H locs) (hf : jS_shiftNotes_72 h K5 z x1 x2 x3 x4 = some (r', z')) : cG p l e rS_shiftNotes s m args below meth c g qq ad ea h X rv X z' H locs 0 0 (F0 m 72 ls []) := by
  unfold jS_shiftNotes_72 at hf
  refine lv_iinc (v := x4 + 1) (lv' := [(4, .int (x4 + 1)), (0, .ref (qq 4)), (1, .int x1), (2, .int x2), (3, .int x3)]) C.1.1 C.1.2.1 dS_shiftNotes_72 hl (k := 4) rfl rfl (by decide) rfl (fun ls hl => ?_)
  refine lv_goto (tgt := 5) C.1.1 C.1.2.1 dS_shiftNotes_75 (by decide) ?_
  exact hK5 z x1 x2 x3 (x4 + 1) _ _ ls (lv_sub hl [1, 2, 3, 4, 0] rfl) hw hf
set_option maxHeartbeats 4000000 in
set_option maxRecDepth 100000 in
theorem wS_shiftNotes_127 {p : Program} {l : Launch} {e : Env} {s : State} {m : MethodId} {args : Array Value} {below : List Frame} {meth : Method} {c : Code} {g : gT} {qq ad ea : Nat → Nat} {h : cH} {X : va_W} {rv : Option Value} {z' : cZ} {r' : Int32} (C : mCx p m c cS_shiftNotes 8 s args g "MidiDesk$Score") (hr : meth.sig.returnType = (some .int)) (hlk : meth.locks = false) (hrv : rv = some (.int r')) {K81 : cZ → Int32 → Int32 → Int32 → Int32 → Option (Int32 × cZ)} (hK81 : ∀ (z : cZ) (x1 : Int32) (x2 : Int32) (x3 : Int32) (x4 : Int32) (H : Heap) (locs : List Loc) (ls : Array Slot), lv_has ls 8 [(0, .ref (qq 4)), (1, .int x1), (2, .int x2), (3, .int x3), (4, .int x4)] → cWd g (cA g qq ad ea h X s.heap.size) s.heap qq ad ea h X z H locs → K81 z x1 x2 x3 x4 = some (r', z') → cG p l e rS_shiftNotes s m args below meth c g qq ad ea h X rv X z' H locs 0 0 (F0 m 81 ls [])) (z : cZ) (x1 : Int32) (x2 : Int32) (x3 : Int32) (x4 : Int32) (H : Heap) (locs : List Loc) (ls : Array Slot) (hl : lv_has ls 8 [(0, .ref (qq 4)), (1, .int x1), (2, .int x2), (3, .int x3), (4, .int x4)]) (hw : cWd g (cA g qq ad ea h X s.heap.size) s.heap qq ad ea h X z H locs) (hf : jS_shiftNotes_127 h K81 z x1 x2 x3 x4 = some (r', z')) : cG p l e rS_shiftNotes s m args below meth c g qq ad ea h X rv X z' H locs 0 0 (F0 m 127 ls []) := by
  unfold jS_shiftNotes_127 at hf
  refine lv_iinc (v := x4 + 1) (lv' := [(4, .int (x4 + 1)), (0, .ref (qq 4)), (1, .int x1), (2, .int x2), (3, .int x3)]) C.1.1 C.1.2.1 dS_shiftNotes_127 hl (k := 4) rfl rfl (by decide) rfl (fun ls hl => ?_)
  refine lv_goto (tgt := 81) C.1.1 C.1.2.1 dS_shiftNotes_130 (by decide) ?_
  exact hK81 z x1 x2 x3 (x4 + 1) _ _ ls (lv_sub hl [1, 2, 3, 4, 0] rfl) hw hf
set_option maxHeartbeats 4000000 in
set_option maxRecDepth 100000 in
theorem wS_shiftNotes_81 {p : Program} {l : Launch} {e : Env} {s : State} {m : MethodId} {args : Array Value} {below : List Frame} {meth : Method} {c : Code} {g : gT} {qq ad ea : Nat → Nat} {h : cH} {X : va_W} {rv : Option Value} {z' : cZ} {r' : Int32} (C : mCx p m c cS_shiftNotes 8 s args g "MidiDesk$Score") (hr : meth.sig.returnType = (some .int)) (hlk : meth.locks = false) (hrv : rv = some (.int r')) (k : Nat) : ∀ (z : cZ) (x1 : Int32) (x2 : Int32) (x3 : Int32) (x4 : Int32) (H : Heap) (locs : List Loc) (ls : Array Slot), lv_has ls 8 [(0, .ref (qq 4)), (1, .int x1), (2, .int x2), (3, .int x3), (4, .int x4)] → cWd g (cA g qq ad ea h X s.heap.size) s.heap qq ad ea h X z H locs → lS_shiftNotes_81 h k z x1 x2 x3 x4 = some (r', z') → cG p l e rS_shiftNotes s m args below meth c g qq ad ea h X rv X z' H locs 0 0 (F0 m 81 ls []) := by
  induction k with
  | zero => intro z x1 x2 x3 x4 H locs ls hl hw hf; cases hf
  | succ k ih =>
    intro z x1 x2 x3 x4 H locs ls hl hw hf
    have hf : (if (zi z 7) ≤ x4 then (some (x3, z)) else (if x4 < 0 ∨ h.1 3 ≤ x4.toNatClampNeg then none else ((zr z 0 x4.toNatClampNeg).bind fun j3 => if h.2.1 ≤ j3 then none else ((fE_isOfNote h z j3).bind fun (r4, z4) => if r4 = 0 then (jS_shiftNotes_127 h (lS_shiftNotes_81 h k) z4 x1 x2 x3 x4) else ((fE_isOfChannel h z4 j3 x1).bind fun (r6, z6) => if r6 = 0 then (jS_shiftNotes_127 h (lS_shiftNotes_81 h k) z6 x1 x2 x3 x4) else (jS_shiftNotes_127 h (lS_shiftNotes_81 h k) (zE z6 j3 3 ((ze z6 j3 3) + x2)) x1 x2 x3 x4)))))) = some (r', z') := hf
    refine lv_iload C.1.1 C.1.2.1 dS_shiftNotes_81 (lv_at hl 4 rfl) ?_
    refine lv_aload_n C.1.1 C.1.2.1 dS_shiftNotes_83 rfl (lv_at hl 0 rfl) ?_
    refine cg_Score_Score_size C hw dS_shiftNotes_84 ?_
    refine lv_icmp_ge (tgt := 133) C.1.1 C.1.2.1 dS_shiftNotes_87 (by decide) (fun c1 => ?_) (fun c1 => ?_)
    · have hf := ts_t hf c1
      refine lv_iload_n C.1.1 C.1.2.1 dS_shiftNotes_133 rfl (lv_at hl 3 rfl) ?_
      exact c_reti C hr hlk hrv hw hf rfl ⟨Nat.le_of_ble_eq_true rfl, Nat.le_of_ble_eq_true rfl⟩ dS_shiftNotes_134
    · have hf := ts_f hf c1
      refine lv_aload_n C.1.1 C.1.2.1 dS_shiftNotes_90 rfl (lv_at hl 0 rfl) ?_
      refine cg_Score_Score_row C hw dS_shiftNotes_91 ?_
      refine lv_iload C.1.1 C.1.2.1 dS_shiftNotes_94 (lv_at hl 4 rfl) ?_
      obtain ⟨h2, hf⟩ := ts_g hf
      refine cra_0 C hw h2 dS_shiftNotes_96 ?_
      refine c_astore (lv' := [(5, va_rf (Option.map ea (zr z 0 x4.toNatClampNeg))), (0, .ref (qq 4)), (1, .int x1), (2, .int x2), (3, .int x3), (4, .int x4)]) C.1.1 C.1.2.1 dS_shiftNotes_97 hl (by decide) rfl (fun ls hl => ?_)
      refine c_aload C.1.1 C.1.2.1 dS_shiftNotes_99 (lv_at hl 0 rfl) ?_
      obtain ⟨j3, ho3, hf⟩ := ts_b hf
      try dsimp only at hf
      obtain ⟨hb3, hf⟩ := ts_g hf
      have hb3 := Nat.lt_of_not_le hb3
      obtain ⟨⟨r4, z4⟩, g4, hf⟩ := ts_b hf
      try dsimp only at hf
      refine c_callV (rest := []) (As := []) (rv := (some (.int r4))) (b := (ea j3)) C hl.1 hw (cE_isOfNote_met g4) rfl (callW_of (rm := rE_isOfNote) (C := "MidiDesk$Event") 0 C.1.2.2.2.2 gw_603 gw_604 gw_605 gw_60 gw_606 kE_isOfNote ⟨Nat.le_of_ble_eq_true rfl, Nat.le_of_ble_eq_true rfl⟩) (c_recvE C.2 hb3 hw) rfl (by rw [ho3]; rfl) (Nat.le_of_ble_eq_true rfl) dS_shiftNotes_101 ⟨Nat.le_of_ble_eq_true rfl, Nat.le_of_ble_eq_true rfl⟩ (fun H locs hw => ?_)
      refine W.eq (g2 := F0 m 104 ls [.int r4]) rfl ?_
      refine lv_if_eq (tgt := 127) C.1.1 C.1.2.1 dS_shiftNotes_104 (by decide) (fun c5 => ?_) (fun c5 => ?_)
      · have hf := ts_t hf c5
        exact wS_shiftNotes_127 C hr hlk hrv ih z4 x1 x2 x3 x4 _ _ ls (lv_sub hl [1, 2, 3, 4, 5] rfl) hw hf
      · have hf := ts_f hf c5
        refine c_aload C.1.1 C.1.2.1 dS_shiftNotes_107 (lv_at hl 0 rfl) ?_
        refine lv_iload_n C.1.1 C.1.2.1 dS_shiftNotes_109 rfl (lv_at hl 2 rfl) ?_
        obtain ⟨⟨r6, z6⟩, g6, hf⟩ := ts_b hf
        try dsimp only at hf
        refine c_callV (rest := []) (As := [.int x1]) (rv := (some (.int r6))) (b := (ea j3)) C hl.1 hw (cE_isOfChannel_met g6) rfl (callW_of (rm := rE_isOfChannel) (C := "MidiDesk$Event") 1 C.1.2.2.2.2 gw_607 gw_608 gw_609 gw_60 gw_610 kE_isOfChannel ⟨Nat.le_of_ble_eq_true rfl, Nat.le_of_ble_eq_true rfl⟩) (c_recvE C.2 hb3 hw) rfl (by rw [ho3]; rfl) (Nat.le_of_ble_eq_true rfl) dS_shiftNotes_110 ⟨Nat.le_of_ble_eq_true rfl, Nat.le_of_ble_eq_true rfl⟩ (fun H locs hw => ?_)
        refine W.eq (g2 := F0 m 113 ls [.int r6]) rfl ?_
        refine lv_if_eq (tgt := 127) C.1.1 C.1.2.1 dS_shiftNotes_113 (by decide) (fun c7 => ?_) (fun c7 => ?_)
        · have hf := ts_t hf c7
          exact wS_shiftNotes_127 C hr hlk hrv ih z6 x1 x2 x3 x4 _ _ ls (lv_sub hl [1, 2, 3, 4, 5] rfl) hw hf
        · have hf := ts_f hf c7
          refine c_aload C.1.1 C.1.2.1 dS_shiftNotes_116 (lv_at hl 0 rfl) ?_
          refine lv_dup C.1.1 C.1.2.1 dS_shiftNotes_118 (rf_cat _) ?_
          refine cg_Score_Event_first C hw ho3 hb3 dS_shiftNotes_119 ?_
          refine lv_iload_n C.1.1 C.1.2.1 dS_shiftNotes_122 rfl (lv_at hl 3 rfl) ?_
          refine lv_iadd C.1.1 C.1.2.1 dS_shiftNotes_123 ?_
          refine cp_Score_Event_first C hw ho3 hb3 dS_shiftNotes_124 (fun H locs hw => ?_)
          exact wS_shiftNotes_127 C hr hlk hrv ih (zE z6 j3 3 ((ze z6 j3 3) + x2)) x1 x2 x3 x4 _ _ ls (lv_sub hl [1, 2, 3, 4, 5] rfl) hw hf
set_option maxHeartbeats 4000000 in
set_option maxRecDepth 100000 in
theorem wS_shiftNotes_5 {p : Program} {l : Launch} {e : Env} {s : State} {m : MethodId} {args : Array Value} {below : List Frame} {meth : Method} {c : Code} {g : gT} {qq ad ea : Nat → Nat} {h : cH} {X : va_W} {rv : Option Value} {z' : cZ} {r' : Int32} (C : mCx p m c cS_shiftNotes 8 s args g "MidiDesk$Score") (hr : meth.sig.returnType = (some .int)) (hlk : meth.locks = false) (hrv : rv = some (.int r')) (k : Nat) : ∀ (z : cZ) (x1 : Int32) (x2 : Int32) (x3 : Int32) (x4 : Int32) (H : Heap) (locs : List Loc) (ls : Array Slot), lv_has ls 8 [(0, .ref (qq 4)), (1, .int x1), (2, .int x2), (3, .int x3), (4, .int x4)] → cWd g (cA g qq ad ea h X s.heap.size) s.heap qq ad ea h X z H locs → lS_shiftNotes_5 h k z x1 x2 x3 x4 = some (r', z') → cG p l e rS_shiftNotes s m args below meth c g qq ad ea h X rv X z' H locs 0 0 (F0 m 5 ls []) := by
  induction k with
  | zero => intro z x1 x2 x3 x4 H locs ls hl hw hf; cases hf
  | succ k ih =>
    intro z x1 x2 x3 x4 H locs ls hl hw hf
    have hf : (if (zi z 7) ≤ x4 then (lS_shiftNotes_81 h FU z x1 x2 x3 (0 : Int32)) else (if x4 < 0 ∨ h.1 3 ≤ x4.toNatClampNeg then none else ((zr z 0 x4.toNatClampNeg).bind fun j3 => if h.2.1 ≤ j3 then none else ((fE_isOfNote h z j3).bind fun (r4, z4) => if r4 = 0 then (jS_shiftNotes_72 h (lS_shiftNotes_5 h k) z4 x1 x2 x3 x4) else ((fE_isOfChannel h z4 j3 x1).bind fun (r6, z6) => if r6 = 0 then (jS_shiftNotes_72 h (lS_shiftNotes_5 h k) z6 x1 x2 x3 x4) else (if (lg_cmp (((ze z6 j3 3).toInt64) + x2.toInt64) (0 : Int64)) < 0 then (some ((-1 : Int32), z6)) else (if (lg_cmp (((ze z6 j3 3).toInt64) + x2.toInt64) (127 : Int64)) ≤ 0 then (jS_shiftNotes_72 h (lS_shiftNotes_5 h k) z6 x1 x2 (x3 + 1) x4) else (some ((-1 : Int32), z6))))))))) = some (r', z') := hf
    refine lv_iload C.1.1 C.1.2.1 dS_shiftNotes_5 (lv_at hl 4 rfl) ?_
    refine lv_aload_n C.1.1 C.1.2.1 dS_shiftNotes_7 rfl (lv_at hl 0 rfl) ?_
    refine cg_Score_Score_size C hw dS_shiftNotes_8 ?_
    refine lv_icmp_ge (tgt := 78) C.1.1 C.1.2.1 dS_shiftNotes_11 (by decide) (fun c1 => ?_) (fun c1 => ?_)
    · have hf := ts_t hf c1
      refine lv_iconst (v := (0 : Int32)) C.1.1 C.1.2.1 dS_shiftNotes_78 (by decide) ?_
      refine lv_istore (lv' := [(4, .int (0 : Int32)), (0, .ref (qq 4)), (1, .int x1), (2, .int x2), (3, .int x3)]) C.1.1 C.1.2.1 dS_shiftNotes_79 hl (by decide) rfl (fun ls hl => ?_)
      exact wS_shiftNotes_81 C hr hlk hrv FU z x1 x2 x3 (0 : Int32) _ _ ls (lv_sub hl [1, 2, 3, 4, 0] rfl) hw hf
    · have hf := ts_f hf c1
      refine lv_aload_n C.1.1 C.1.2.1 dS_shiftNotes_14 rfl (lv_at hl 0 rfl) ?_
      refine cg_Score_Score_row C hw dS_shiftNotes_15 ?_
      refine lv_iload C.1.1 C.1.2.1 dS_shiftNotes_18 (lv_at hl 4 rfl) ?_
      obtain ⟨h2, hf⟩ := ts_g hf
      refine cra_0 C hw h2 dS_shiftNotes_20 ?_
      refine c_astore (lv' := [(5, va_rf (Option.map ea (zr z 0 x4.toNatClampNeg))), (0, .ref (qq 4)), (1, .int x1), (2, .int x2), (3, .int x3), (4, .int x4)]) C.1.1 C.1.2.1 dS_shiftNotes_21 hl (by decide) rfl (fun ls hl => ?_)
      refine c_aload C.1.1 C.1.2.1 dS_shiftNotes_23 (lv_at hl 0 rfl) ?_
      obtain ⟨j3, ho3, hf⟩ := ts_b hf
      try dsimp only at hf
      obtain ⟨hb3, hf⟩ := ts_g hf
      have hb3 := Nat.lt_of_not_le hb3
      obtain ⟨⟨r4, z4⟩, g4, hf⟩ := ts_b hf
      try dsimp only at hf
      refine c_callV (rest := []) (As := []) (rv := (some (.int r4))) (b := (ea j3)) C hl.1 hw (cE_isOfNote_met g4) rfl (callW_of (rm := rE_isOfNote) (C := "MidiDesk$Event") 0 C.1.2.2.2.2 gw_603 gw_604 gw_605 gw_60 gw_606 kE_isOfNote ⟨Nat.le_of_ble_eq_true rfl, Nat.le_of_ble_eq_true rfl⟩) (c_recvE C.2 hb3 hw) rfl (by rw [ho3]; rfl) (Nat.le_of_ble_eq_true rfl) dS_shiftNotes_25 ⟨Nat.le_of_ble_eq_true rfl, Nat.le_of_ble_eq_true rfl⟩ (fun H locs hw => ?_)
      refine W.eq (g2 := F0 m 28 ls [.int r4]) rfl ?_
      refine lv_if_eq (tgt := 72) C.1.1 C.1.2.1 dS_shiftNotes_28 (by decide) (fun c5 => ?_) (fun c5 => ?_)
      · have hf := ts_t hf c5
        exact wS_shiftNotes_72 C hr hlk hrv ih z4 x1 x2 x3 x4 _ _ ls (lv_sub hl [1, 2, 3, 4, 5] rfl) hw hf
      · have hf := ts_f hf c5
        refine c_aload C.1.1 C.1.2.1 dS_shiftNotes_31 (lv_at hl 0 rfl) ?_
        refine lv_iload_n C.1.1 C.1.2.1 dS_shiftNotes_33 rfl (lv_at hl 2 rfl) ?_
        obtain ⟨⟨r6, z6⟩, g6, hf⟩ := ts_b hf
        try dsimp only at hf
        refine c_callV (rest := []) (As := [.int x1]) (rv := (some (.int r6))) (b := (ea j3)) C hl.1 hw (cE_isOfChannel_met g6) rfl (callW_of (rm := rE_isOfChannel) (C := "MidiDesk$Event") 1 C.1.2.2.2.2 gw_607 gw_608 gw_609 gw_60 gw_610 kE_isOfChannel ⟨Nat.le_of_ble_eq_true rfl, Nat.le_of_ble_eq_true rfl⟩) (c_recvE C.2 hb3 hw) rfl (by rw [ho3]; rfl) (Nat.le_of_ble_eq_true rfl) dS_shiftNotes_34 ⟨Nat.le_of_ble_eq_true rfl, Nat.le_of_ble_eq_true rfl⟩ (fun H locs hw => ?_)
        refine W.eq (g2 := F0 m 37 ls [.int r6]) rfl ?_
        refine lv_if_eq (tgt := 72) C.1.1 C.1.2.1 dS_shiftNotes_37 (by decide) (fun c7 => ?_) (fun c7 => ?_)
        · have hf := ts_t hf c7
          exact wS_shiftNotes_72 C hr hlk hrv ih z6 x1 x2 x3 x4 _ _ ls (lv_sub hl [1, 2, 3, 4, 5] rfl) hw hf
        · have hf := ts_f hf c7
          refine c_aload C.1.1 C.1.2.1 dS_shiftNotes_40 (lv_at hl 0 rfl) ?_
          refine cg_Score_Event_first C hw ho3 hb3 dS_shiftNotes_42 ?_
          refine lv_i2l C.1.1 C.1.2.1 dS_shiftNotes_45 rfl ?_
          refine lv_iload_n C.1.1 C.1.2.1 dS_shiftNotes_46 rfl (lv_at hl 3 rfl) ?_
          refine lv_i2l C.1.1 C.1.2.1 dS_shiftNotes_47 rfl ?_
          refine lv_ladd C.1.1 C.1.2.1 dS_shiftNotes_48 ?_
          refine lv_lstore (lv' := [(6, .long (((ze z6 j3 3).toInt64) + x2.toInt64)), (5, va_rf (Option.map ea (zr z 0 x4.toNatClampNeg))), (0, .ref (qq 4)), (1, .int x1), (2, .int x2), (3, .int x3), (4, .int x4)]) C.1.1 C.1.2.1 dS_shiftNotes_49 hl (by decide) (by generalize Option.map ea (zr z 0 x4.toNatClampNeg) = oo; cases oo <;> rfl) (fun ls hl => ?_)
          refine lv_lload C.1.1 C.1.2.1 dS_shiftNotes_51 (lv_at hl 0 rfl) ?_
          refine lv_lconst (v := 0) C.1.1 C.1.2.1 dS_shiftNotes_53 (by decide) ?_
          refine W.lcmp C.1.1 C.1.2.1 dS_shiftNotes_54 ?_
          refine lv_if_lt (tgt := 67) C.1.1 C.1.2.1 dS_shiftNotes_55 (by decide) (fun c8 => ?_) (fun c8 => ?_)
          · have hf := ts_t hf c8
            refine lv_iconst (v := (-1 : Int32)) C.1.1 C.1.2.1 dS_shiftNotes_67 (by decide) ?_
            exact c_reti C hr hlk hrv hw hf rfl ⟨Nat.le_of_ble_eq_true rfl, Nat.le_of_ble_eq_true rfl⟩ dS_shiftNotes_68
          · have hf := ts_f hf c8
            refine lv_lload C.1.1 C.1.2.1 dS_shiftNotes_58 (lv_at hl 0 rfl) ?_
            refine lv_ldc2 C.1.1 C.1.2.1 C.1.2.2.2.1 (C.1.2.2.2.2 _ gw_611) dS_shiftNotes_60 ?_
            refine W.lcmp C.1.1 C.1.2.1 dS_shiftNotes_63 ?_
            refine lv_if_le (tgt := 69) C.1.1 C.1.2.1 dS_shiftNotes_64 (by decide) (fun c9 => ?_) (fun c9 => ?_)
            · have hf := ts_t hf c9
              refine lv_iinc (v := x3 + 1) (lv' := [(3, .int (x3 + 1)), (6, .long (((ze z6 j3 3).toInt64) + x2.toInt64)), (5, va_rf (Option.map ea (zr z 0 x4.toNatClampNeg))), (0, .ref (qq 4)), (1, .int x1), (2, .int x2), (4, .int x4)]) C.1.1 C.1.2.1 dS_shiftNotes_69 hl (k := 5) rfl rfl (by decide) rfl (fun ls hl => ?_)
              exact wS_shiftNotes_72 C hr hlk hrv ih z6 x1 x2 (x3 + 1) x4 _ _ ls (lv_sub hl [3, 4, 5, 0, 6] rfl) hw hf
            · have hf := ts_f hf c9
              refine lv_iconst (v := (-1 : Int32)) C.1.1 C.1.2.1 dS_shiftNotes_67 (by decide) ?_
              exact c_reti C hr hlk hrv hw hf rfl ⟨Nat.le_of_ble_eq_true rfl, Nat.le_of_ble_eq_true rfl⟩ dS_shiftNotes_68
set_option maxHeartbeats 4000000 in
set_option maxRecDepth 100000 in
theorem cS_shiftNotes_met {l : Launch} {g : gT} {qq ad ea : Nat → Nat} {h : cH} {X : va_W} {z z' : cZ} {x1 : Int32} {x2 : Int32} {r' : Int32} (hf : fS_shiftNotes h z x1 x2 = some (r', z')) : cMet l yS_shiftNotes cS_shiftNotes 8 (some .int) rS_shiftNotes g qq ad ea h X z [.ref (qq 4), .int x1, .int x2] (some (.int r')) X z' := by
  refine c_entry (by decide) (Nat.le_of_ble_eq_true rfl) ?_
  intro p e s m args below meth c ls C hr hlk hnm hl hw
  have hrv : (some (.int r') : Option Value) = some (.int r') := rfl
  have C : mCx p m c cS_shiftNotes 8 s args g "MidiDesk$Score" := C
  have hl : lv_has ls 8 [(0, .ref (qq 4)), (1, .int x1), (2, .int x2)] := hl
  unfold fS_shiftNotes at hf
  refine lv_iconst (v := (0 : Int32)) C.1.1 C.1.2.1 dS_shiftNotes_0 (by decide) ?_
  refine lv_istore_n (lv' := [(3, .int (0 : Int32)), (0, .ref (qq 4)), (1, .int x1), (2, .int x2)]) C.1.1 C.1.2.1 dS_shiftNotes_1 rfl hl (by decide) rfl (fun ls hl => ?_)
  refine lv_iconst (v := (0 : Int32)) C.1.1 C.1.2.1 dS_shiftNotes_2 (by decide) ?_
  refine lv_istore (lv' := [(4, .int (0 : Int32)), (3, .int (0 : Int32)), (0, .ref (qq 4)), (1, .int x1), (2, .int x2)]) C.1.1 C.1.2.1 dS_shiftNotes_3 hl (by decide) rfl (fun ls hl => ?_)
  exact wS_shiftNotes_5 C hr hlk hrv FU z x1 x2 (0 : Int32) (0 : Int32) _ _ ls (lv_sub hl [2, 3, 4, 1, 0] rfl) hw hf
end
section
abbrev cS_roundTicks : ByteArray := prog_6_method_14_code
abbrev yS_roundTicks : MethodName := ⟨"MidiDesk$Score", "roundTicks", "(I)I"⟩
theorem kS_roundTicks : yS_roundTicks.cls ≠ "java/lang/invoke/MethodHandle" ∧ yS_roundTicks.cls ≠ "java/lang/invoke/VarHandle" ∧ (parseMethodDescriptor yS_roundTicks.desc).map (fun d => d.parameters.length) = some 1 := by decide +kernel
abbrev rS_roundTicks : Room := { frames := 3, cells := 0, slots := 0, locals := 71 }
theorem dS_roundTicks_0 : decode cS_roundTicks 0 = .ok (.iconst 0, 1) := by decide +kernel
theorem dS_roundTicks_1 : decode cS_roundTicks 1 = .ok (.istore_n 2, 1) := by decide +kernel
theorem dS_roundTicks_2 : decode cS_roundTicks 2 = .ok (.iconst 0, 1) := by decide +kernel
theorem dS_roundTicks_3 : decode cS_roundTicks 3 = .ok (.istore_n 3, 1) := by decide +kernel
theorem dS_roundTicks_4 : decode cS_roundTicks 4 = .ok (.iload_n 3, 1) := by decide +kernel
theorem dS_roundTicks_5 : decode cS_roundTicks 5 = .ok (.aload_n 0, 1) := by decide +kernel
theorem dS_roundTicks_6 : decode cS_roundTicks 6 = .ok (.getfield 33, 3) := by decide +kernel
theorem dS_roundTicks_9 : decode cS_roundTicks 9 = .ok (.if_icmp .ge 52, 3) := by decide +kernel
theorem dS_roundTicks_12 : decode cS_roundTicks 12 = .ok (.aload_n 0, 1) := by decide +kernel
theorem dS_roundTicks_13 : decode cS_roundTicks 13 = .ok (.getfield 22, 3) := by decide +kernel
theorem dS_roundTicks_16 : decode cS_roundTicks 16 = .ok (.iload_n 3, 1) := by decide +kernel
theorem dS_roundTicks_17 : decode cS_roundTicks 17 = .ok (.aaload, 1) := by decide +kernel
theorem dS_roundTicks_18 : decode cS_roundTicks 18 = .ok (.getfield 65, 3) := by decide +kernel
theorem dS_roundTicks_21 : decode cS_roundTicks 21 = .ok (.iload_n 1, 1) := by decide +kernel
theorem dS_roundTicks_22 : decode cS_roundTicks 22 = .ok (.invokestatic 94, 3) := by decide +kernel
theorem dS_roundTicks_25 : decode cS_roundTicks 25 = .ok (.istore 4, 2) := by decide +kernel
theorem dS_roundTicks_27 : decode cS_roundTicks 27 = .ok (.iload 4, 2) := by decide +kernel
theorem dS_roundTicks_29 : decode cS_roundTicks 29 = .ok (.aload_n 0, 1) := by decide +kernel
theorem dS_roundTicks_30 : decode cS_roundTicks 30 = .ok (.getfield 22, 3) := by decide +kernel
theorem dS_roundTicks_33 : decode cS_roundTicks 33 = .ok (.iload_n 3, 1) := by decide +kernel
theorem dS_roundTicks_34 : decode cS_roundTicks 34 = .ok (.aaload, 1) := by decide +kernel
theorem dS_roundTicks_35 : decode cS_roundTicks 35 = .ok (.getfield 65, 3) := by decide +kernel
theorem dS_roundTicks_38 : decode cS_roundTicks 38 = .ok (.if_icmp .eq 6, 3) := by decide +kernel
theorem dS_roundTicks_41 : decode cS_roundTicks 41 = .ok (.iinc 2 1, 3) := by decide +kernel
theorem dS_roundTicks_44 : decode cS_roundTicks 44 = .ok (.aload_n 0, 1) := by decide +kernel
theorem dS_roundTicks_45 : decode cS_roundTicks 45 = .ok (.getfield 22, 3) := by decide +kernel
theorem dS_roundTicks_48 : decode cS_roundTicks 48 = .ok (.iload_n 3, 1) := by decide +kernel
theorem dS_roundTicks_49 : decode cS_roundTicks 49 = .ok (.aaload, 1) := by decide +kernel
theorem dS_roundTicks_50 : decode cS_roundTicks 50 = .ok (.iload 4, 2) := by decide +kernel
theorem dS_roundTicks_52 : decode cS_roundTicks 52 = .ok (.putfield 65, 3) := by decide +kernel
theorem dS_roundTicks_55 : decode cS_roundTicks 55 = .ok (.iinc 3 1, 3) := by decide +kernel
theorem dS_roundTicks_58 : decode cS_roundTicks 58 = .ok (.goto (-54), 3) := by decide +kernel
theorem dS_roundTicks_61 : decode cS_roundTicks 61 = .ok (.aload_n 0, 1) := by decide +kernel
theorem dS_roundTicks_62 : decode cS_roundTicks 62 = .ok (.invokevirtual 97, 3) := by decide +kernel
theorem dS_roundTicks_65 : decode cS_roundTicks 65 = .ok (.iload_n 2, 1) := by decide +kernel
theorem dS_roundTicks_66 : decode cS_roundTicks 66 = .ok (.ireturn, 1) := by decide +kernel
def jS_roundTicks_44 (h : cH) (K4 : cZ → Int32 → Int32 → Int32 → Option (Int32 × cZ)) (z : cZ) (x1 : Int32) (x2 : Int32) (x3 : Int32) (x4 : Int32) : Option (Int32 × cZ) := if x3 < 0 ∨ h.1 3 ≤ x3.toNatClampNeg then none else ((zr z 0 x3.toNatClampNeg).bind fun j2 => if h.2.1 ≤ j2 then none else (K4 (zE z j2 0 x4) x1 x2 (x3 + 1)))
def lS_roundTicks_4 (h : cH) : Nat → cZ → Int32 → Int32 → Int32 → Option (Int32 × cZ)
  | 0 => fun _ _ _ _ => none
  | k + 1 => fun z x1 x2 x3 => if (zi z 7) ≤ x3 then ((fS_putInOrder h z).bind fun z2 => some (x2, z2)) else (if x3 < 0 ∨ h.1 3 ≤ x3.toNatClampNeg then none else ((zr z 0 x3.toNatClampNeg).bind fun j4 => if h.2.1 ≤ j4 then none else ((fD_nearest h z (ze z j4 0) x1).bind fun (r5, z5) => if x3 < 0 ∨ h.1 3 ≤ x3.toNatClampNeg then none else ((zr z5 0 x3.toNatClampNeg).bind fun j7 => if h.2.1 ≤ j7 then none else (if r5 = (ze z5 j7 0) then (jS_roundTicks_44 h (lS_roundTicks_4 h k) z5 x1 x2 x3 r5) else (jS_roundTicks_44 h (lS_roundTicks_4 h k) z5 x1 (x2 + 1) x3 r5))))))
def fS_roundTicks (h : cH) (z : cZ) (x1 : Int32) : Option (Int32 × cZ) := lS_roundTicks_4 h FU z x1 (0 : Int32) (0 : Int32)
set_option maxHeartbeats 4000000 in
set_option maxRecDepth 100000 in
theorem wS_roundTicks_44 {p : Program} {l : Launch} {e : Env} {s : State} {m : MethodId} {args : Array Value} {below : List Frame} {meth : Method} {c : Code} {g : gT} {qq ad ea : Nat → Nat} {h : cH} {X : va_W} {rv : Option Value} {z' : cZ} {r' : Int32} (C : mCx p m c cS_roundTicks 5 s args g "MidiDesk$Score") (hr : meth.sig.returnType = (some .int)) (hlk : meth.locks = false) (hrv : rv = some (.int r')) {K4 : cZ → Int32 → Int32 → Int32 → Option (Int32 × cZ)} (hK4 : ∀ (z : cZ) (x1 : Int32) (x2 : Int32) (x3 : Int32) (H : Heap) (locs : List Loc) (ls : Array Slot), lv_has ls 5 [(0, .ref (qq 4)), (1, .int x1), (2, .int x2), (3, .int x3)] → cWd g (cA g qq ad ea h X s.heap.size) s.heap qq ad ea h X z H locs → K4 z x1 x2 x3 = some (r', z') → cG p l e rS_roundTicks s m args below meth c g qq ad ea h X rv X z' H locs 0 0 (F0 m 4 ls [])) (z : cZ) (x1 : Int32) (x2 : Int32) (x3 : Int32) (x4 : Int32) (H : Heap) (locs : List Loc) (ls : Array Slot) (hl : lv_has ls 5 [(0, .ref (qq 4)), (1, .int x1), (2, .int x2), (3, .int x3), (4, .int x4)]) (hw : cWd g (cA g qq ad ea h X s.heap.size) s.heap qq ad ea h X z H locs) (hf : jS_roundTicks_44 h K4 z x1 x2 x3 x4 = some (r', z')) : cG p l e rS_roundTicks s m args below meth c g qq ad ea h X rv X z' H locs 0 0 (F0 m 44 ls []) := by
  unfold jS_roundTicks_44 at hf
  refine lv_aload_n C.1.1 C.1.2.1 dS_roundTicks_44 rfl (lv_at hl 0 rfl) ?_
  refine cg_Score_Score_row C hw dS_roundTicks_45 ?_
  refine lv_iload_n C.1.1 C.1.2.1 dS_roundTicks_48 rfl (lv_at hl 3 rfl) ?_
  obtain ⟨h1, hf⟩ := ts_g hf
  refine cra_0 C hw h1 dS_roundTicks_49 ?_
  refine lv_iload C.1.1 C.1.2.1 dS_roundTicks_50 (lv_at hl 4 rfl) ?_
  obtain ⟨j2, ho2, hf⟩ := ts_b hf
  try dsimp only at hf
  obtain ⟨hb2, hf⟩ := ts_g hf
  have hb2 := Nat.lt_of_not_le hb2
  refine cp_Score_Event_tick C hw ho2 hb2 dS_roundTicks_52 (fun H locs hw => ?_)
  refine lv_iinc (v := x3 + 1) (lv' := [(3, .int (x3 + 1)), (0, .ref (qq 4)), (1, .int x1), (2, .int x2), (4, .int x4)]) C.1.1 C.1.2.1 dS_roundTicks_55 hl (k := 3) rfl rfl (by decide) rfl (fun ls hl => ?_)
  refine lv_goto (tgt := 4) C.1.1 C.1.2.1 dS_roundTicks_58 (by decide) ?_
  exact hK4 (zE z j2 0 x4) x1 x2 (x3 + 1) _ _ ls (lv_sub hl [1, 2, 3, 0] rfl) hw hf
set_option maxHeartbeats 4000000 in
set_option maxRecDepth 100000 in
theorem wS_roundTicks_4 {p : Program} {l : Launch} {e : Env} {s : State} {m : MethodId} {args : Array Value} {below : List Frame} {meth : Method} {c : Code} {g : gT} {qq ad ea : Nat → Nat} {h : cH} {X : va_W} {rv : Option Value} {z' : cZ} {r' : Int32} (C : mCx p m c cS_roundTicks 5 s args g "MidiDesk$Score") (hr : meth.sig.returnType = (some .int)) (hlk : meth.locks = false) (hrv : rv = some (.int r')) (k : Nat) : ∀ (z : cZ) (x1 : Int32) (x2 : Int32) (x3 : Int32) (H : Heap) (locs : List Loc) (ls : Array Slot), lv_has ls 5 [(0, .ref (qq 4)), (1, .int x1), (2, .int x2), (3, .int x3)] → cWd g (cA g qq ad ea h X s.heap.size) s.heap qq ad ea h X z H locs → lS_roundTicks_4 h k z x1 x2 x3 = some (r', z') → cG p l e rS_roundTicks s m args below meth c g qq ad ea h X rv X z' H locs 0 0 (F0 m 4 ls []) := by
  induction k with
  | zero => intro z x1 x2 x3 H locs ls hl hw hf; cases hf
  | succ k ih =>
    intro z x1 x2 x3 H locs ls hl hw hf
    have hf : (if (zi z 7) ≤ x3 then ((fS_putInOrder h z).bind fun z2 => some (x2, z2)) else (if x3 < 0 ∨ h.1 3 ≤ x3.toNatClampNeg then none else ((zr z 0 x3.toNatClampNeg).bind fun j4 => if h.2.1 ≤ j4 then none else ((fD_nearest h z (ze z j4 0) x1).bind fun (r5, z5) => if x3 < 0 ∨ h.1 3 ≤ x3.toNatClampNeg then none else ((zr z5 0 x3.toNatClampNeg).bind fun j7 => if h.2.1 ≤ j7 then none else (if r5 = (ze z5 j7 0) then (jS_roundTicks_44 h (lS_roundTicks_4 h k) z5 x1 x2 x3 r5) else (jS_roundTicks_44 h (lS_roundTicks_4 h k) z5 x1 (x2 + 1) x3 r5))))))) = some (r', z') := hf
    refine lv_iload_n C.1.1 C.1.2.1 dS_roundTicks_4 rfl (lv_at hl 3 rfl) ?_
    refine lv_aload_n C.1.1 C.1.2.1 dS_roundTicks_5 rfl (lv_at hl 0 rfl) ?_
    refine cg_Score_Score_size C hw dS_roundTicks_6 ?_
    refine lv_icmp_ge (tgt := 61) C.1.1 C.1.2.1 dS_roundTicks_9 (by decide) (fun c1 => ?_) (fun c1 => ?_)
    · have hf := ts_t hf c1
      refine lv_aload_n C.1.1 C.1.2.1 dS_roundTicks_61 rfl (lv_at hl 0 rfl) ?_
      obtain ⟨z2, g2, hf⟩ := ts_b hf
      try dsimp only at hf
      refine c_callV (rest := []) (As := []) (rv := none) (b := (qq 4)) C hl.1 hw (cS_putInOrder_met g2) rfl (callW_of (rm := rS_putInOrder) (C := "MidiDesk$Score") 0 C.1.2.2.2.2 gw_630 gw_380 gw_381 gw_54 gw_382 kS_putInOrder ⟨Nat.le_of_ble_eq_true rfl, Nat.le_of_ble_eq_true rfl⟩) (c_recv_score C.2 hw) rfl rfl (Nat.le_of_ble_eq_true rfl) dS_roundTicks_62 ⟨Nat.le_of_ble_eq_true rfl, Nat.le_of_ble_eq_true rfl⟩ (fun H locs hw => ?_)
      refine W.eq (g2 := F0 m 65 ls []) rfl ?_
      refine lv_iload_n C.1.1 C.1.2.1 dS_roundTicks_65 rfl (lv_at hl 2 rfl) ?_
      exact c_reti C hr hlk hrv hw hf rfl ⟨Nat.le_of_ble_eq_true rfl, Nat.le_of_ble_eq_true rfl⟩ dS_roundTicks_66
    · have hf := ts_f hf c1
      refine lv_aload_n C.1.1 C.1.2.1 dS_roundTicks_12 rfl (lv_at hl 0 rfl) ?_
      refine cg_Score_Score_row C hw dS_roundTicks_13 ?_
      refine lv_iload_n C.1.1 C.1.2.1 dS_roundTicks_16 rfl (lv_at hl 3 rfl) ?_
      obtain ⟨h3, hf⟩ := ts_g hf
      refine cra_0 C hw h3 dS_roundTicks_17 ?_
      obtain ⟨j4, ho4, hf⟩ := ts_b hf
      try dsimp only at hf
      obtain ⟨hb4, hf⟩ := ts_g hf
      have hb4 := Nat.lt_of_not_le hb4
      refine cg_Score_Event_tick C hw ho4 hb4 dS_roundTicks_18 ?_
      refine lv_iload_n C.1.1 C.1.2.1 dS_roundTicks_21 rfl (lv_at hl 1 rfl) ?_
      obtain ⟨⟨r5, z5⟩, g5, hf⟩ := ts_b hf
      try dsimp only at hf
      refine c_callSN (rest := []) (As := [.int (ze z j4 0), .int x1]) (rv := (some (.int r5))) (rm := rD_nearest) C hl.1 hw (cD_nearest_met g5) gw_623 nw_578 gw_622 gw_52 kD_nearest ⟨Nat.le_of_ble_eq_true rfl, Nat.le_of_ble_eq_true rfl⟩ rfl rfl (Nat.le_of_ble_eq_true rfl) dS_roundTicks_22 ⟨Nat.le_of_ble_eq_true rfl, Nat.le_of_ble_eq_true rfl⟩ (fun H locs hw => ?_)
      refine W.eq (g2 := F0 m 25 ls [.int r5]) rfl ?_
      refine lv_istore (lv' := [(4, .int r5), (0, .ref (qq 4)), (1, .int x1), (2, .int x2), (3, .int x3)]) C.1.1 C.1.2.1 dS_roundTicks_25 hl (by decide) rfl (fun ls hl => ?_)
      refine lv_iload C.1.1 C.1.2.1 dS_roundTicks_27 (lv_at hl 0 rfl) ?_
      refine lv_aload_n C.1.1 C.1.2.1 dS_roundTicks_29 rfl (lv_at hl 1 rfl) ?_
      refine cg_Score_Score_row C hw dS_roundTicks_30 ?_
      refine lv_iload_n C.1.1 C.1.2.1 dS_roundTicks_33 rfl (lv_at hl 4 rfl) ?_
      obtain ⟨h6, hf⟩ := ts_g hf
      refine cra_0 C hw h6 dS_roundTicks_34 ?_
      obtain ⟨j7, ho7, hf⟩ := ts_b hf
      try dsimp only at hf
      obtain ⟨hb7, hf⟩ := ts_g hf
      have hb7 := Nat.lt_of_not_le hb7
      refine cg_Score_Event_tick C hw ho7 hb7 dS_roundTicks_35 ?_
      refine lv_icmp_eq (tgt := 44) C.1.1 C.1.2.1 dS_roundTicks_38 (by decide) (fun c8 => ?_) (fun c8 => ?_)
      · have hf := ts_t hf c8
        exact wS_roundTicks_44 C hr hlk hrv ih z5 x1 x2 x3 r5 _ _ ls (lv_sub hl [1, 2, 3, 4, 0] rfl) hw hf
      · have hf := ts_f hf c8
        refine lv_iinc (v := x2 + 1) (lv' := [(2, .int (x2 + 1)), (4, .int r5), (0, .ref (qq 4)), (1, .int x1), (3, .int x3)]) C.1.1 C.1.2.1 dS_roundTicks_41 hl (k := 3) rfl rfl (by decide) rfl (fun ls hl => ?_)
        exact wS_roundTicks_44 C hr hlk hrv ih z5 x1 (x2 + 1) x3 r5 _ _ ls (lv_sub hl [2, 3, 0, 4, 1] rfl) hw hf
set_option maxHeartbeats 4000000 in
set_option maxRecDepth 100000 in
theorem cS_roundTicks_met {l : Launch} {g : gT} {qq ad ea : Nat → Nat} {h : cH} {X : va_W} {z z' : cZ} {x1 : Int32} {r' : Int32} (hf : fS_roundTicks h z x1 = some (r', z')) : cMet l yS_roundTicks cS_roundTicks 5 (some .int) rS_roundTicks g qq ad ea h X z [.ref (qq 4), .int x1] (some (.int r')) X z' := by
  refine c_entry (by decide) (Nat.le_of_ble_eq_true rfl) ?_
  intro p e s m args below meth c ls C hr hlk hnm hl hw
  have hrv : (some (.int r') : Option Value) = some (.int r') := rfl
  have C : mCx p m c cS_roundTicks 5 s args g "MidiDesk$Score" := C
  have hl : lv_has ls 5 [(0, .ref (qq 4)), (1, .int x1)] := hl
  unfold fS_roundTicks at hf
  refine lv_iconst (v := (0 : Int32)) C.1.1 C.1.2.1 dS_roundTicks_0 (by decide) ?_
  refine lv_istore_n (lv' := [(2, .int (0 : Int32)), (0, .ref (qq 4)), (1, .int x1)]) C.1.1 C.1.2.1 dS_roundTicks_1 rfl hl (by decide) rfl (fun ls hl => ?_)
  refine lv_iconst (v := (0 : Int32)) C.1.1 C.1.2.1 dS_roundTicks_2 (by decide) ?_
  refine lv_istore_n (lv' := [(3, .int (0 : Int32)), (2, .int (0 : Int32)), (0, .ref (qq 4)), (1, .int x1)]) C.1.1 C.1.2.1 dS_roundTicks_3 rfl hl (by decide) rfl (fun ls hl => ?_)
  exact wS_roundTicks_4 C hr hlk hrv FU z x1 (0 : Int32) (0 : Int32) _ _ ls (lv_sub hl [2, 3, 1, 0] rfl) hw hf
abbrev cS_dropTrack : ByteArray := prog_6_method_15_code
abbrev yS_dropTrack : MethodName := ⟨"MidiDesk$Score", "dropTrack", "(I)I"⟩
theorem kS_dropTrack : yS_dropTrack.cls ≠ "java/lang/invoke/MethodHandle" ∧ yS_dropTrack.cls ≠ "java/lang/invoke/VarHandle" ∧ (parseMethodDescriptor yS_dropTrack.desc).map (fun d => d.parameters.length) = some 1 := by decide +kernel
abbrev rS_dropTrack : Room := { frames := 1, cells := 0, slots := 0, locals := 24 }
theorem dS_dropTrack_0 : decode cS_dropTrack 0 = .ok (.iconst 0, 1) := by decide +kernel
theorem dS_dropTrack_1 : decode cS_dropTrack 1 = .ok (.istore_n 2, 1) := by decide +kernel
theorem dS_dropTrack_2 : decode cS_dropTrack 2 = .ok (.iconst 0, 1) := by decide +kernel
theorem dS_dropTrack_3 : decode cS_dropTrack 3 = .ok (.istore_n 3, 1) := by decide +kernel
theorem dS_dropTrack_4 : decode cS_dropTrack 4 = .ok (.iconst 0, 1) := by decide +kernel
theorem dS_dropTrack_5 : decode cS_dropTrack 5 = .ok (.istore 4, 2) := by decide +kernel
theorem dS_dropTrack_7 : decode cS_dropTrack 7 = .ok (.iload 4, 2) := by decide +kernel
theorem dS_dropTrack_9 : decode cS_dropTrack 9 = .ok (.aload_n 0, 1) := by decide +kernel
theorem dS_dropTrack_10 : decode cS_dropTrack 10 = .ok (.getfield 33, 3) := by decide +kernel
theorem dS_dropTrack_13 : decode cS_dropTrack 13 = .ok (.if_icmp .ge 52, 3) := by decide +kernel
theorem dS_dropTrack_16 : decode cS_dropTrack 16 = .ok (.aload_n 0, 1) := by decide +kernel
theorem dS_dropTrack_17 : decode cS_dropTrack 17 = .ok (.getfield 22, 3) := by decide +kernel
theorem dS_dropTrack_20 : decode cS_dropTrack 20 = .ok (.iload 4, 2) := by decide +kernel
theorem dS_dropTrack_22 : decode cS_dropTrack 22 = .ok (.aaload, 1) := by decide +kernel
theorem dS_dropTrack_23 : decode cS_dropTrack 23 = .ok (.astore 5, 2) := by decide +kernel
theorem dS_dropTrack_25 : decode cS_dropTrack 25 = .ok (.aload 5, 2) := by decide +kernel
theorem dS_dropTrack_27 : decode cS_dropTrack 27 = .ok (.getfield 100, 3) := by decide +kernel
theorem dS_dropTrack_30 : decode cS_dropTrack 30 = .ok (.iload_n 1, 1) := by decide +kernel
theorem dS_dropTrack_31 : decode cS_dropTrack 31 = .ok (.if_icmp .ne 17, 3) := by decide +kernel
theorem dS_dropTrack_34 : decode cS_dropTrack 34 = .ok (.aload_n 0, 1) := by decide +kernel
theorem dS_dropTrack_35 : decode cS_dropTrack 35 = .ok (.getfield 26, 3) := by decide +kernel
theorem dS_dropTrack_38 : decode cS_dropTrack 38 = .ok (.iload_n 3, 1) := by decide +kernel
theorem dS_dropTrack_39 : decode cS_dropTrack 39 = .ok (.aload 5, 2) := by decide +kernel
theorem dS_dropTrack_41 : decode cS_dropTrack 41 = .ok (.aastore, 1) := by decide +kernel
theorem dS_dropTrack_42 : decode cS_dropTrack 42 = .ok (.iinc 3 1, 3) := by decide +kernel
theorem dS_dropTrack_45 : decode cS_dropTrack 45 = .ok (.goto 14, 3) := by decide +kernel
theorem dS_dropTrack_48 : decode cS_dropTrack 48 = .ok (.aload_n 0, 1) := by decide +kernel
theorem dS_dropTrack_49 : decode cS_dropTrack 49 = .ok (.getfield 22, 3) := by decide +kernel
theorem dS_dropTrack_52 : decode cS_dropTrack 52 = .ok (.iload_n 2, 1) := by decide +kernel
theorem dS_dropTrack_53 : decode cS_dropTrack 53 = .ok (.aload 5, 2) := by decide +kernel
theorem dS_dropTrack_55 : decode cS_dropTrack 55 = .ok (.aastore, 1) := by decide +kernel
theorem dS_dropTrack_56 : decode cS_dropTrack 56 = .ok (.iinc 2 1, 3) := by decide +kernel
theorem dS_dropTrack_59 : decode cS_dropTrack 59 = .ok (.iinc 4 1, 3) := by decide +kernel
theorem dS_dropTrack_62 : decode cS_dropTrack 62 = .ok (.goto (-55), 3) := by decide +kernel
theorem dS_dropTrack_65 : decode cS_dropTrack 65 = .ok (.aload_n 0, 1) := by decide +kernel
theorem dS_dropTrack_66 : decode cS_dropTrack 66 = .ok (.getfield 26, 3) := by decide +kernel
theorem dS_dropTrack_69 : decode cS_dropTrack 69 = .ok (.aload_n 0, 1) := by decide +kernel
theorem dS_dropTrack_70 : decode cS_dropTrack 70 = .ok (.getfield 22, 3) := by decide +kernel
theorem dS_dropTrack_73 : decode cS_dropTrack 73 = .ok (.iload_n 2, 1) := by decide +kernel
theorem dS_dropTrack_74 : decode cS_dropTrack 74 = .ok (.iload_n 3, 1) := by decide +kernel
theorem dS_dropTrack_75 : decode cS_dropTrack 75 = .ok (.invokestatic 49, 3) := by decide +kernel
theorem dS_dropTrack_78 : decode cS_dropTrack 78 = .ok (.aload_n 0, 1) := by decide +kernel
theorem dS_dropTrack_79 : decode cS_dropTrack 79 = .ok (.iload_n 2, 1) := by decide +kernel
theorem dS_dropTrack_80 : decode cS_dropTrack 80 = .ok (.putfield 33, 3) := by decide +kernel
theorem dS_dropTrack_83 : decode cS_dropTrack 83 = .ok (.iload_n 3, 1) := by decide +kernel
theorem dS_dropTrack_84 : decode cS_dropTrack 84 = .ok (.ireturn, 1) := by decide +kernel
def jS_dropTrack_59 (h : cH) (K7 : cZ → Int32 → Int32 → Int32 → Int32 → Option (Int32 × cZ)) (z : cZ) (x1 : Int32) (x2 : Int32) (x3 : Int32) (x4 : Int32) : Option (Int32 × cZ) := K7 z x1 x2 x3 (x4 + 1)
def lS_dropTrack_7 (h : cH) : Nat → cZ → Int32 → Int32 → Int32 → Int32 → Option (Int32 × cZ)
  | 0 => fun _ _ _ _ _ => none
  | k + 1 => fun z x1 x2 x3 x4 => if (zi z 7) ≤ x4 then ((fS_copy10 h z x2 x3).bind fun z2 => some (x3, zU z2 7 x2)) else (if x4 < 0 ∨ h.1 3 ≤ x4.toNatClampNeg then none else ((zr z 0 x4.toNatClampNeg).bind fun j4 => if h.2.1 ≤ j4 then none else (if (ze z j4 1) = x1 then (if x3 < 0 ∨ h.1 4 ≤ x3.toNatClampNeg then none else (if okr h.2.1 (zr z 0 x4.toNatClampNeg) = false then none else (jS_dropTrack_59 h (lS_dropTrack_7 h k) (zR z 1 x3.toNatClampNeg (zr z 0 x4.toNatClampNeg)) x1 x2 (x3 + 1) x4))) else (if x2 < 0 ∨ h.1 3 ≤ x2.toNatClampNeg then none else (if okr h.2.1 (zr z 0 x4.toNatClampNeg) = false then none else (jS_dropTrack_59 h (lS_dropTrack_7 h k) (zR z 0 x2.toNatClampNeg (zr z 0 x4.toNatClampNeg)) x1 (x2 + 1) x3 x4))))))
def fS_dropTrack (h : cH) (z : cZ) (x1 : Int32) : Option (Int32 × cZ) := lS_dropTrack_7 h FU z x1 (0 : Int32) (0 : Int32) (0 : Int32)
set_option maxHeartbeats 4000000 in
set_option maxRecDepth 100000 in
theorem wS_dropTrack_59 {p : Program} {l : Launch} {e : Env} {s : State} {m : MethodId} {args : Array Value} {below : List Frame} {meth : Method} {c : Code} {g : gT} {qq ad ea : Nat → Nat} {h : cH} {X : va_W} {rv : Option Value} {z' : cZ} {r' : Int32} (C : mCx p m c cS_dropTrack 6 s args g "MidiDesk$Score") (hr : meth.sig.returnType = (some .int)) (hlk : meth.locks = false) (hrv : rv = some (.int r')) {K7 : cZ → Int32 → Int32 → Int32 → Int32 → Option (Int32 × cZ)} (hK7 : ∀ (z : cZ) (x1 : Int32) (x2 : Int32) (x3 : Int32) (x4 : Int32) (H : Heap) (locs : List Loc) (ls : Array Slot), lv_has ls 6 [(0, .ref (qq 4)), (1, .int x1), (2, .int x2), (3, .int x3), (4, .int x4)] → cWd g (cA g qq ad ea h X s.heap.size) s.heap qq ad ea h X z H locs → K7 z x1 x2 x3 x4 = some (r', z') → cG p l e rS_dropTrack s m args below meth c g qq ad ea h X rv X z' H locs 0 0 (F0 m 7 ls [])) (z : cZ) (x1 : Int32) (x2 : Int32) (x3 : Int32) (x4 : Int32) (H : Heap) (locs : List Loc) (ls : Array Slot) (hl : lv_has ls 6 [(0, .ref (qq 4)), (1, .int x1), (2, .int x2), (3, .int x3), (4, .int x4)]) (hw : cWd g (cA g qq ad ea h X s.heap.size) s.heap qq ad ea h X z H locs) (hf : jS_dropTrack_59 h K7 z x1 x2 x3 x4 = some (r', z')) : cG p l e rS_dropTrack s m args below meth c g qq ad ea h X rv X z' H locs 0 0 (F0 m 59 ls []) := by
  unfold jS_dropTrack_59 at hf
  refine lv_iinc (v := x4 + 1) (lv' := [(4, .int (x4 + 1)), (0, .ref (qq 4)), (1, .int x1), (2, .int x2), (3, .int x3)]) C.1.1 C.1.2.1 dS_dropTrack_59 hl (k := 4) rfl rfl (by decide) rfl (fun ls hl => ?_)
  refine lv_goto (tgt := 7) C.1.1 C.1.2.1 dS_dropTrack_62 (by decide) ?_
  exact hK7 z x1 x2 x3 (x4 + 1) _ _ ls (lv_sub hl [1, 2, 3, 4, 0] rfl) hw hf
set_option maxHeartbeats 4000000 in
set_option maxRecDepth 100000 in
theorem wS_dropTrack_7 {p : Program} {l : Launch} {e : Env} {s : State} {m : MethodId} {args : Array Value} {below : List Frame} {meth : Method} {c : Code} {g : gT} {qq ad ea : Nat → Nat} {h : cH} {X : va_W} {rv : Option Value} {z' : cZ} {r' : Int32} (C : mCx p m c cS_dropTrack 6 s args g "MidiDesk$Score") (hr : meth.sig.returnType = (some .int)) (hlk : meth.locks = false) (hrv : rv = some (.int r')) (k : Nat) : ∀ (z : cZ) (x1 : Int32) (x2 : Int32) (x3 : Int32) (x4 : Int32) (H : Heap) (locs : List Loc) (ls : Array Slot), lv_has ls 6 [(0, .ref (qq 4)), (1, .int x1), (2, .int x2), (3, .int x3), (4, .int x4)] → cWd g (cA g qq ad ea h X s.heap.size) s.heap qq ad ea h X z H locs → lS_dropTrack_7 h k z x1 x2 x3 x4 = some (r', z') → cG p l e rS_dropTrack s m args below meth c g qq ad ea h X rv X z' H locs 0 0 (F0 m 7 ls []) := by
  induction k with
  | zero => intro z x1 x2 x3 x4 H locs ls hl hw hf; cases hf
  | succ k ih =>
    intro z x1 x2 x3 x4 H locs ls hl hw hf
    have hf : (if (zi z 7) ≤ x4 then ((fS_copy10 h z x2 x3).bind fun z2 => some (x3, zU z2 7 x2)) else (if x4 < 0 ∨ h.1 3 ≤ x4.toNatClampNeg then none else ((zr z 0 x4.toNatClampNeg).bind fun j4 => if h.2.1 ≤ j4 then none else (if (ze z j4 1) = x1 then (if x3 < 0 ∨ h.1 4 ≤ x3.toNatClampNeg then none else (if okr h.2.1 (zr z 0 x4.toNatClampNeg) = false then none else (jS_dropTrack_59 h (lS_dropTrack_7 h k) (zR z 1 x3.toNatClampNeg (zr z 0 x4.toNatClampNeg)) x1 x2 (x3 + 1) x4))) else (if x2 < 0 ∨ h.1 3 ≤ x2.toNatClampNeg then none else (if okr h.2.1 (zr z 0 x4.toNatClampNeg) = false then none else (jS_dropTrack_59 h (lS_dropTrack_7 h k) (zR z 0 x2.toNatClampNeg (zr z 0 x4.toNatClampNeg)) x1 (x2 + 1) x3 x4))))))) = some (r', z') := hf
    refine lv_iload C.1.1 C.1.2.1 dS_dropTrack_7 (lv_at hl 4 rfl) ?_
    refine lv_aload_n C.1.1 C.1.2.1 dS_dropTrack_9 rfl (lv_at hl 0 rfl) ?_
    refine cg_Score_Score_size C hw dS_dropTrack_10 ?_
    refine lv_icmp_ge (tgt := 65) C.1.1 C.1.2.1 dS_dropTrack_13 (by decide) (fun c1 => ?_) (fun c1 => ?_)
    · have hf := ts_t hf c1
      refine lv_aload_n C.1.1 C.1.2.1 dS_dropTrack_65 rfl (lv_at hl 0 rfl) ?_
      refine cg_Score_Score_spare C hw dS_dropTrack_66 ?_
      refine lv_aload_n C.1.1 C.1.2.1 dS_dropTrack_69 rfl (lv_at hl 0 rfl) ?_
      refine cg_Score_Score_row C hw dS_dropTrack_70 ?_
      refine lv_iload_n C.1.1 C.1.2.1 dS_dropTrack_73 rfl (lv_at hl 2 rfl) ?_
      refine lv_iload_n C.1.1 C.1.2.1 dS_dropTrack_74 rfl (lv_at hl 3 rfl) ?_
      obtain ⟨z2, g2, hf⟩ := ts_b hf
      try dsimp only at hf
      refine c_callS (rest := []) (As := [.ref (ad 4), .ref (ad 3), .int x2, .int x3]) (rv := none) C hl.1 hw (cS_copy10_met g2) (callS_of (rm := rS_copy10) 4 C.1.2.2.2.2 gw_325 gw_326 gw_54 gw_327 kS_copy10 ⟨Nat.le_of_ble_eq_true rfl, Nat.le_of_ble_eq_true rfl⟩) rfl rfl (Nat.le_of_ble_eq_true rfl) dS_dropTrack_75 ⟨Nat.le_of_ble_eq_true rfl, Nat.le_of_ble_eq_true rfl⟩ (fun H locs hw => ?_)
      refine W.eq (g2 := F0 m 78 ls []) rfl ?_
      refine lv_aload_n C.1.1 C.1.2.1 dS_dropTrack_78 rfl (lv_at hl 0 rfl) ?_
      refine lv_iload_n C.1.1 C.1.2.1 dS_dropTrack_79 rfl (lv_at hl 2 rfl) ?_
      refine cp_Score_Score_size C hw dS_dropTrack_80 (fun H locs hw => ?_)
      refine lv_iload_n C.1.1 C.1.2.1 dS_dropTrack_83 rfl (lv_at hl 3 rfl) ?_
      exact c_reti C hr hlk hrv hw hf rfl ⟨Nat.le_of_ble_eq_true rfl, Nat.le_of_ble_eq_true rfl⟩ dS_dropTrack_84
    · have hf := ts_f hf c1
      refine lv_aload_n C.1.1 C.1.2.1 dS_dropTrack_16 rfl (lv_at hl 0 rfl) ?_
      refine cg_Score_Score_row C hw dS_dropTrack_17 ?_
      refine lv_iload C.1.1 C.1.2.1 dS_dropTrack_20 (lv_at hl 4 rfl) ?_
      obtain ⟨h3, hf⟩ := ts_g hf
      refine cra_0 C hw h3 dS_dropTrack_22 ?_
      refine c_astore (lv' := [(5, va_rf (Option.map ea (zr z 0 x4.toNatClampNeg))), (0, .ref (qq 4)), (1, .int x1), (2, .int x2), (3, .int x3), (4, .int x4)]) C.1.1 C.1.2.1 dS_dropTrack_23 hl (by decide) rfl (fun ls hl => ?_)
      refine c_aload C.1.1 C.1.2.1 dS_dropTrack_25 (lv_at hl 0 rfl) ?_
      obtain ⟨j4, ho4, hf⟩ := ts_b hf
      try dsimp only at hf
      obtain ⟨hb4, hf⟩ := ts_g hf
      have hb4 := Nat.lt_of_not_le hb4
      refine cg_Score_Event_track C hw ho4 hb4 dS_dropTrack_27 ?_
      refine lv_iload_n C.1.1 C.1.2.1 dS_dropTrack_30 rfl (lv_at hl 2 rfl) ?_
      refine lv_icmp_ne (tgt := 48) C.1.1 C.1.2.1 dS_dropTrack_31 (by decide) (fun c5 => ?_) (fun c5 => ?_)
      · have hf := ts_f hf c5
        refine lv_aload_n C.1.1 C.1.2.1 dS_dropTrack_48 rfl (lv_at hl 1 rfl) ?_
        refine cg_Score_Score_row C hw dS_dropTrack_49 ?_
        refine lv_iload_n C.1.1 C.1.2.1 dS_dropTrack_52 rfl (lv_at hl 3 rfl) ?_
        refine c_aload C.1.1 C.1.2.1 dS_dropTrack_53 (lv_at hl 0 rfl) ?_
        obtain ⟨h6, hf⟩ := ts_g hf
        obtain ⟨h7, hf⟩ := ts_g hf
        refine crs_0 C hw h6 h7 dS_dropTrack_55 (fun H locs hw => ?_)
        refine lv_iinc (v := x2 + 1) (lv' := [(2, .int (x2 + 1)), (5, va_rf (Option.map ea (zr z 0 x4.toNatClampNeg))), (0, .ref (qq 4)), (1, .int x1), (3, .int x3), (4, .int x4)]) C.1.1 C.1.2.1 dS_dropTrack_56 hl (k := 3) rfl rfl (by decide) rfl (fun ls hl => ?_)
        exact wS_dropTrack_59 C hr hlk hrv ih (zR z 0 x2.toNatClampNeg (zr z 0 x4.toNatClampNeg)) x1 (x2 + 1) x3 x4 _ _ ls (lv_sub hl [2, 3, 0, 4, 5] rfl) hw hf
      · have hf := ts_t hf c5
        refine lv_aload_n C.1.1 C.1.2.1 dS_dropTrack_34 rfl (lv_at hl 1 rfl) ?_
        refine cg_Score_Score_spare C hw dS_dropTrack_35 ?_
        refine lv_iload_n C.1.1 C.1.2.1 dS_dropTrack_38 rfl (lv_at hl 4 rfl) ?_
        refine c_aload C.1.1 C.1.2.1 dS_dropTrack_39 (lv_at hl 0 rfl) ?_
        obtain ⟨h8, hf⟩ := ts_g hf
        obtain ⟨h9, hf⟩ := ts_g hf
        refine crs_1 C hw h8 h9 dS_dropTrack_41 (fun H locs hw => ?_)
        refine lv_iinc (v := x3 + 1) (lv' := [(3, .int (x3 + 1)), (5, va_rf (Option.map ea (zr z 0 x4.toNatClampNeg))), (0, .ref (qq 4)), (1, .int x1), (2, .int x2), (4, .int x4)]) C.1.1 C.1.2.1 dS_dropTrack_42 hl (k := 4) rfl rfl (by decide) rfl (fun ls hl => ?_)
        refine lv_goto (tgt := 59) C.1.1 C.1.2.1 dS_dropTrack_45 (by decide) ?_
        exact wS_dropTrack_59 C hr hlk hrv ih (zR z 1 x3.toNatClampNeg (zr z 0 x4.toNatClampNeg)) x1 x2 (x3 + 1) x4 _ _ ls (lv_sub hl [2, 3, 4, 0, 5] rfl) hw hf
set_option maxHeartbeats 4000000 in
set_option maxRecDepth 100000 in
theorem cS_dropTrack_met {l : Launch} {g : gT} {qq ad ea : Nat → Nat} {h : cH} {X : va_W} {z z' : cZ} {x1 : Int32} {r' : Int32} (hf : fS_dropTrack h z x1 = some (r', z')) : cMet l yS_dropTrack cS_dropTrack 6 (some .int) rS_dropTrack g qq ad ea h X z [.ref (qq 4), .int x1] (some (.int r')) X z' := by
  refine c_entry (by decide) (Nat.le_of_ble_eq_true rfl) ?_
  intro p e s m args below meth c ls C hr hlk hnm hl hw
  have hrv : (some (.int r') : Option Value) = some (.int r') := rfl
  have C : mCx p m c cS_dropTrack 6 s args g "MidiDesk$Score" := C
  have hl : lv_has ls 6 [(0, .ref (qq 4)), (1, .int x1)] := hl
  unfold fS_dropTrack at hf
  refine lv_iconst (v := (0 : Int32)) C.1.1 C.1.2.1 dS_dropTrack_0 (by decide) ?_
  refine lv_istore_n (lv' := [(2, .int (0 : Int32)), (0, .ref (qq 4)), (1, .int x1)]) C.1.1 C.1.2.1 dS_dropTrack_1 rfl hl (by decide) rfl (fun ls hl => ?_)
  refine lv_iconst (v := (0 : Int32)) C.1.1 C.1.2.1 dS_dropTrack_2 (by decide) ?_
  refine lv_istore_n (lv' := [(3, .int (0 : Int32)), (2, .int (0 : Int32)), (0, .ref (qq 4)), (1, .int x1)]) C.1.1 C.1.2.1 dS_dropTrack_3 rfl hl (by decide) rfl (fun ls hl => ?_)
  refine lv_iconst (v := (0 : Int32)) C.1.1 C.1.2.1 dS_dropTrack_4 (by decide) ?_
  refine lv_istore (lv' := [(4, .int (0 : Int32)), (3, .int (0 : Int32)), (2, .int (0 : Int32)), (0, .ref (qq 4)), (1, .int x1)]) C.1.1 C.1.2.1 dS_dropTrack_5 hl (by decide) rfl (fun ls hl => ?_)
  exact wS_dropTrack_7 C hr hlk hrv FU z x1 (0 : Int32) (0 : Int32) (0 : Int32) _ _ ls (lv_sub hl [3, 4, 2, 1, 0] rfl) hw hf
abbrev cS_hasFrames : ByteArray := prog_6_method_16_code
abbrev yS_hasFrames : MethodName := ⟨"MidiDesk$Score", "hasFrames", "()Z"⟩
theorem kS_hasFrames : yS_hasFrames.cls ≠ "java/lang/invoke/MethodHandle" ∧ yS_hasFrames.cls ≠ "java/lang/invoke/VarHandle" ∧ (parseMethodDescriptor yS_hasFrames.desc).map (fun d => d.parameters.length) = some 0 := by decide +kernel
abbrev rS_hasFrames : Room := { frames := 0, cells := 0, slots := 0, locals := 0 }
theorem dS_hasFrames_0 : decode cS_hasFrames 0 = .ok (.aload_n 0, 1) := by decide +kernel
theorem dS_hasFrames_1 : decode cS_hasFrames 1 = .ok (.getfield 103, 3) := by decide +kernel
theorem dS_hasFrames_4 : decode cS_hasFrames 4 = .ok (.sipush 32767, 3) := by decide +kernel
theorem dS_hasFrames_7 : decode cS_hasFrames 7 = .ok (.if_icmp .le 7, 3) := by decide +kernel
theorem dS_hasFrames_10 : decode cS_hasFrames 10 = .ok (.iconst 1, 1) := by decide +kernel
theorem dS_hasFrames_11 : decode cS_hasFrames 11 = .ok (.goto 4, 3) := by decide +kernel
theorem dS_hasFrames_14 : decode cS_hasFrames 14 = .ok (.iconst 0, 1) := by decide +kernel
theorem dS_hasFrames_15 : decode cS_hasFrames 15 = .ok (.ireturn, 1) := by decide +kernel
def fS_hasFrames (h : cH) (z : cZ) : Option (Int32 × cZ) := if (zi z 6) ≤ (32767 : Int32) then (some ((0 : Int32), z)) else (some ((1 : Int32), z))
set_option maxHeartbeats 4000000 in
set_option maxRecDepth 100000 in
theorem cS_hasFrames_met {l : Launch} {g : gT} {qq ad ea : Nat → Nat} {h : cH} {X : va_W} {z z' : cZ} {r' : Int32} (hf : fS_hasFrames h z = some (r', z')) : cMet l yS_hasFrames cS_hasFrames 1 (some .boolean) rS_hasFrames g qq ad ea h X z [.ref (qq 4)] (some (.int r')) X z' := by
  refine c_entry (by decide) (Nat.le_of_ble_eq_true rfl) ?_
  intro p e s m args below meth c ls C hr hlk hnm hl hw
  have hrv : (some (.int r') : Option Value) = some (.int r') := rfl
  have C : mCx p m c cS_hasFrames 1 s args g "MidiDesk$Score" := C
  have hl : lv_has ls 1 [(0, .ref (qq 4))] := hl
  unfold fS_hasFrames at hf
  refine lv_aload_n C.1.1 C.1.2.1 dS_hasFrames_0 rfl (lv_at hl 0 rfl) ?_
  refine cg_Score_Score_division C hw dS_hasFrames_1 ?_
  refine lv_sipush (v := (32767 : Int32)) C.1.1 C.1.2.1 dS_hasFrames_4 (by decide) ?_
  refine lv_icmp_le (tgt := 14) C.1.1 C.1.2.1 dS_hasFrames_7 (by decide) (fun c1 => ?_) (fun c1 => ?_)
  · have hf := ts_t hf c1
    refine lv_iconst (v := (0 : Int32)) C.1.1 C.1.2.1 dS_hasFrames_14 (by decide) ?_
    exact c_retz C hr hlk hrv hw (Or.inl rfl) hf rfl ⟨Nat.le_of_ble_eq_true rfl, Nat.le_of_ble_eq_true rfl⟩ dS_hasFrames_15
  · have hf := ts_f hf c1
    refine lv_iconst (v := (1 : Int32)) C.1.1 C.1.2.1 dS_hasFrames_10 (by decide) ?_
    refine lv_goto (tgt := 15) C.1.1 C.1.2.1 dS_hasFrames_11 (by decide) ?_
    exact c_retz C hr hlk hrv hw (Or.inr rfl) hf rfl ⟨Nat.le_of_ble_eq_true rfl, Nat.le_of_ble_eq_true rfl⟩ dS_hasFrames_15
abbrev cS_frames : ByteArray := prog_6_method_17_code
abbrev yS_frames : MethodName := ⟨"MidiDesk$Score", "frames", "()I"⟩
theorem kS_frames : yS_frames.cls ≠ "java/lang/invoke/MethodHandle" ∧ yS_frames.cls ≠ "java/lang/invoke/VarHandle" ∧ (parseMethodDescriptor yS_frames.desc).map (fun d => d.parameters.length) = some 0 := by decide +kernel
abbrev rS_frames : Room := { frames := 0, cells := 0, slots := 0, locals := 0 }
theorem dS_frames_0 : decode cS_frames 0 = .ok (.sipush 256, 3) := by decide +kernel
theorem dS_frames_3 : decode cS_frames 3 = .ok (.aload_n 0, 1) := by decide +kernel
theorem dS_frames_4 : decode cS_frames 4 = .ok (.getfield 103, 3) := by decide +kernel
theorem dS_frames_7 : decode cS_frames 7 = .ok (.bipush 8, 2) := by decide +kernel
theorem dS_frames_9 : decode cS_frames 9 = .ok (.ishr, 1) := by decide +kernel
theorem dS_frames_10 : decode cS_frames 10 = .ok (.isub, 1) := by decide +kernel
theorem dS_frames_11 : decode cS_frames 11 = .ok (.ireturn, 1) := by decide +kernel
def fS_frames (h : cH) (z : cZ) : Option (Int32 × cZ) := some ((256 : Int32) - ((zi z 6) >>> ((8 : Int32) &&& 31)), z)
set_option maxHeartbeats 4000000 in
set_option maxRecDepth 100000 in
theorem cS_frames_met {l : Launch} {g : gT} {qq ad ea : Nat → Nat} {h : cH} {X : va_W} {z z' : cZ} {r' : Int32} (hf : fS_frames h z = some (r', z')) : cMet l yS_frames cS_frames 1 (some .int) rS_frames g qq ad ea h X z [.ref (qq 4)] (some (.int r')) X z' := by
  refine c_entry (by decide) (Nat.le_of_ble_eq_true rfl) ?_
  intro p e s m args below meth c ls C hr hlk hnm hl hw
  have hrv : (some (.int r') : Option Value) = some (.int r') := rfl
  have C : mCx p m c cS_frames 1 s args g "MidiDesk$Score" := C
  have hl : lv_has ls 1 [(0, .ref (qq 4))] := hl
  unfold fS_frames at hf
  refine lv_sipush (v := (256 : Int32)) C.1.1 C.1.2.1 dS_frames_0 (by decide) ?_
  refine lv_aload_n C.1.1 C.1.2.1 dS_frames_3 rfl (lv_at hl 0 rfl) ?_
  refine cg_Score_Score_division C hw dS_frames_4 ?_
  refine lv_bipush (v := (8 : Int32)) C.1.1 C.1.2.1 dS_frames_7 (by decide) ?_
  refine lv_ishr C.1.1 C.1.2.1 dS_frames_9 ?_
  refine lv_isub C.1.1 C.1.2.1 dS_frames_10 ?_
  exact c_reti C hr hlk hrv hw hf rfl ⟨Nat.le_of_ble_eq_true rfl, Nat.le_of_ble_eq_true rfl⟩ dS_frames_11
abbrev cS_partsOfMicrosecond : ByteArray := prog_6_method_18_code
abbrev yS_partsOfMicrosecond : MethodName := ⟨"MidiDesk$Score", "partsOfMicrosecond", "()I"⟩
theorem kS_partsOfMicrosecond : yS_partsOfMicrosecond.cls ≠ "java/lang/invoke/MethodHandle" ∧ yS_partsOfMicrosecond.cls ≠ "java/lang/invoke/VarHandle" ∧ (parseMethodDescriptor yS_partsOfMicrosecond.desc).map (fun d => d.parameters.length) = some 0 := by decide +kernel
abbrev rS_partsOfMicrosecond : Room := { frames := 1, cells := 0, slots := 0, locals := 21 }
theorem dS_partsOfMicrosecond_0 : decode cS_partsOfMicrosecond 0 = .ok (.aload_n 0, 1) := by decide +kernel
theorem dS_partsOfMicrosecond_1 : decode cS_partsOfMicrosecond 1 = .ok (.invokevirtual 106, 3) := by decide +kernel
theorem dS_partsOfMicrosecond_4 : decode cS_partsOfMicrosecond 4 = .ok (.ifCond .ne 12, 3) := by decide +kernel
theorem dS_partsOfMicrosecond_7 : decode cS_partsOfMicrosecond 7 = .ok (.iconst 1, 1) := by decide +kernel
theorem dS_partsOfMicrosecond_8 : decode cS_partsOfMicrosecond 8 = .ok (.aload_n 0, 1) := by decide +kernel
theorem dS_partsOfMicrosecond_9 : decode cS_partsOfMicrosecond 9 = .ok (.getfield 103, 3) := by decide +kernel
theorem dS_partsOfMicrosecond_12 : decode cS_partsOfMicrosecond 12 = .ok (.invokestatic 43, 3) := by decide +kernel
theorem dS_partsOfMicrosecond_15 : decode cS_partsOfMicrosecond 15 = .ok (.ireturn, 1) := by decide +kernel
theorem dS_partsOfMicrosecond_16 : decode cS_partsOfMicrosecond 16 = .ok (.iconst 1, 1) := by decide +kernel
theorem dS_partsOfMicrosecond_17 : decode cS_partsOfMicrosecond 17 = .ok (.aload_n 0, 1) := by decide +kernel
theorem dS_partsOfMicrosecond_18 : decode cS_partsOfMicrosecond 18 = .ok (.getfield 103, 3) := by decide +kernel
theorem dS_partsOfMicrosecond_21 : decode cS_partsOfMicrosecond 21 = .ok (.sipush 255, 3) := by decide +kernel
theorem dS_partsOfMicrosecond_24 : decode cS_partsOfMicrosecond 24 = .ok (.iand, 1) := by decide +kernel
theorem dS_partsOfMicrosecond_25 : decode cS_partsOfMicrosecond 25 = .ok (.invokestatic 43, 3) := by decide +kernel
theorem dS_partsOfMicrosecond_28 : decode cS_partsOfMicrosecond 28 = .ok (.istore_n 1, 1) := by decide +kernel
theorem dS_partsOfMicrosecond_29 : decode cS_partsOfMicrosecond 29 = .ok (.iload_n 1, 1) := by decide +kernel
theorem dS_partsOfMicrosecond_30 : decode cS_partsOfMicrosecond 30 = .ok (.aload_n 0, 1) := by decide +kernel
theorem dS_partsOfMicrosecond_31 : decode cS_partsOfMicrosecond 31 = .ok (.invokevirtual 109, 3) := by decide +kernel
theorem dS_partsOfMicrosecond_34 : decode cS_partsOfMicrosecond 34 = .ok (.bipush 29, 2) := by decide +kernel
theorem dS_partsOfMicrosecond_36 : decode cS_partsOfMicrosecond 36 = .ok (.if_icmp .ne 7, 3) := by decide +kernel
theorem dS_partsOfMicrosecond_39 : decode cS_partsOfMicrosecond 39 = .ok (.iconst 3, 1) := by decide +kernel
theorem dS_partsOfMicrosecond_40 : decode cS_partsOfMicrosecond 40 = .ok (.goto 7, 3) := by decide +kernel
theorem dS_partsOfMicrosecond_43 : decode cS_partsOfMicrosecond 43 = .ok (.aload_n 0, 1) := by decide +kernel
theorem dS_partsOfMicrosecond_44 : decode cS_partsOfMicrosecond 44 = .ok (.invokevirtual 109, 3) := by decide +kernel
theorem dS_partsOfMicrosecond_47 : decode cS_partsOfMicrosecond 47 = .ok (.imul, 1) := by decide +kernel
theorem dS_partsOfMicrosecond_48 : decode cS_partsOfMicrosecond 48 = .ok (.ireturn, 1) := by decide +kernel
def fS_partsOfMicrosecond (h : cH) (z : cZ) : Option (Int32 × cZ) := (fS_hasFrames h z).bind fun (r1, z1) => if r1 = 0 then (some (if (1 : Int32) < (zi z1 6) then (zi z1 6) else (1 : Int32), z1)) else ((fS_frames h z1).bind fun (r3, z3) => if r3 = (29 : Int32) then (some ((if (1 : Int32) < ((zi z1 6) &&& (255 : Int32)) then ((zi z1 6) &&& (255 : Int32)) else (1 : Int32)) * (3 : Int32), z3)) else ((fS_frames h z3).bind fun (r5, z5) => some ((if (1 : Int32) < ((zi z1 6) &&& (255 : Int32)) then ((zi z1 6) &&& (255 : Int32)) else (1 : Int32)) * r5, z5)))
set_option maxHeartbeats 4000000 in
set_option maxRecDepth 100000 in
theorem cS_partsOfMicrosecond_met {l : Launch} {g : gT} {qq ad ea : Nat → Nat} {h : cH} {X : va_W} {z z' : cZ} {r' : Int32} (hf : fS_partsOfMicrosecond h z = some (r', z')) : cMet l yS_partsOfMicrosecond cS_partsOfMicrosecond 2 (some .int) rS_partsOfMicrosecond g qq ad ea h X z [.ref (qq 4)] (some (.int r')) X z' := by
  refine c_entry (by decide) (Nat.le_of_ble_eq_true rfl) ?_
  intro p e s m args below meth c ls C hr hlk hnm hl hw
  have hrv : (some (.int r') : Option Value) = some (.int r') := rfl
  have C : mCx p m c cS_partsOfMicrosecond 2 s args g "MidiDesk$Score" := C
  have hl : lv_has ls 2 [(0, .ref (qq 4))] := hl
  unfold fS_partsOfMicrosecond at hf
  refine lv_aload_n C.1.1 C.1.2.1 dS_partsOfMicrosecond_0 rfl (lv_at hl 0 rfl) ?_
  obtain ⟨⟨r1, z1⟩, g1, hf⟩ := ts_b hf
  try dsimp only at hf
  refine c_callV (rest := []) (As := []) (rv := (some (.int r1))) (b := (qq 4)) C hl.1 hw (cS_hasFrames_met g1) rfl (callW_of (rm := rS_hasFrames) (C := "MidiDesk$Score") 0 C.1.2.2.2.2 gw_463 gw_465 gw_16 gw_54 gw_466 kS_hasFrames ⟨Nat.le_of_ble_eq_true rfl, Nat.le_of_ble_eq_true rfl⟩) (c_recv_score C.2 hw) rfl rfl (Nat.le_of_ble_eq_true rfl) dS_partsOfMicrosecond_1 ⟨Nat.le_of_ble_eq_true rfl, Nat.le_of_ble_eq_true rfl⟩ (fun H locs hw => ?_)
  refine W.eq (g2 := F0 m 4 ls [.int r1]) rfl ?_
  refine lv_if_ne (tgt := 16) C.1.1 C.1.2.1 dS_partsOfMicrosecond_4 (by decide) (fun c2 => ?_) (fun c2 => ?_)
  · have hf := ts_f hf c2
    refine lv_iconst (v := (1 : Int32)) C.1.1 C.1.2.1 dS_partsOfMicrosecond_16 (by decide) ?_
    refine lv_aload_n C.1.1 C.1.2.1 dS_partsOfMicrosecond_17 rfl (lv_at hl 0 rfl) ?_
    refine cg_Score_Score_division C hw dS_partsOfMicrosecond_18 ?_
    refine lv_sipush (v := (255 : Int32)) C.1.1 C.1.2.1 dS_partsOfMicrosecond_21 (by decide) ?_
    refine lv_iand C.1.1 C.1.2.1 dS_partsOfMicrosecond_24 ?_
    refine va_mmax C.1.1 C.1.2.1 (by rw [hl.1]; exact C.1.2.2.1) C.1.2.2.2.1 (C.1.2.2.2.2 _ gw_314) (C.1.2.2.2.2 _ gw_315) (C.1.2.2.2.2 _ gw_57) (C.1.2.2.2.2 _ gw_316) (Nat.le_of_ble_eq_true rfl) (Nat.le_of_ble_eq_true rfl) (Nat.le_of_ble_eq_true rfl) (Nat.le_of_ble_eq_true rfl) dS_partsOfMicrosecond_25 ?_
    refine lv_istore_n (lv' := [(1, .int (if (1 : Int32) < ((zi z1 6) &&& (255 : Int32)) then ((zi z1 6) &&& (255 : Int32)) else (1 : Int32))), (0, .ref (qq 4))]) C.1.1 C.1.2.1 dS_partsOfMicrosecond_28 rfl hl (by decide) rfl (fun ls hl => ?_)
    refine lv_iload_n C.1.1 C.1.2.1 dS_partsOfMicrosecond_29 rfl (lv_at hl 0 rfl) ?_
    refine lv_aload_n C.1.1 C.1.2.1 dS_partsOfMicrosecond_30 rfl (lv_at hl 1 rfl) ?_
    obtain ⟨⟨r3, z3⟩, g3, hf⟩ := ts_b hf
    try dsimp only at hf
    refine c_callV (rest := [.int (if (1 : Int32) < ((zi z1 6) &&& (255 : Int32)) then ((zi z1 6) &&& (255 : Int32)) else (1 : Int32))]) (As := []) (rv := (some (.int r3))) (b := (qq 4)) C hl.1 hw (cS_frames_met g3) rfl (callW_of (rm := rS_frames) (C := "MidiDesk$Score") 0 C.1.2.2.2.2 gw_467 gw_469 gw_17 gw_54 gw_470 kS_frames ⟨Nat.le_of_ble_eq_true rfl, Nat.le_of_ble_eq_true rfl⟩) (c_recv_score C.2 hw) rfl rfl (Nat.le_of_ble_eq_true rfl) dS_partsOfMicrosecond_31 ⟨Nat.le_of_ble_eq_true rfl, Nat.le_of_ble_eq_true rfl⟩ (fun H locs hw => ?_)
    refine W.eq (g2 := F0 m 34 ls [.int r3, .int (if (1 : Int32) < ((zi z1 6) &&& (255 : Int32)) then ((zi z1 6) &&& (255 : Int32)) else (1 : Int32))]) rfl ?_
    refine lv_bipush (v := (29 : Int32)) C.1.1 C.1.2.1 dS_partsOfMicrosecond_34 (by decide) ?_
    refine lv_icmp_ne (tgt := 43) C.1.1 C.1.2.1 dS_partsOfMicrosecond_36 (by decide) (fun c4 => ?_) (fun c4 => ?_)
    · have hf := ts_f hf c4
      refine lv_aload_n C.1.1 C.1.2.1 dS_partsOfMicrosecond_43 rfl (lv_at hl 1 rfl) ?_
      obtain ⟨⟨r5, z5⟩, g5, hf⟩ := ts_b hf
      try dsimp only at hf
      refine c_callV (rest := [.int (if (1 : Int32) < ((zi z1 6) &&& (255 : Int32)) then ((zi z1 6) &&& (255 : Int32)) else (1 : Int32))]) (As := []) (rv := (some (.int r5))) (b := (qq 4)) C hl.1 hw (cS_frames_met g5) rfl (callW_of (rm := rS_frames) (C := "MidiDesk$Score") 0 C.1.2.2.2.2 gw_467 gw_469 gw_17 gw_54 gw_470 kS_frames ⟨Nat.le_of_ble_eq_true rfl, Nat.le_of_ble_eq_true rfl⟩) (c_recv_score C.2 hw) rfl rfl (Nat.le_of_ble_eq_true rfl) dS_partsOfMicrosecond_44 ⟨Nat.le_of_ble_eq_true rfl, Nat.le_of_ble_eq_true rfl⟩ (fun H locs hw => ?_)
      refine W.eq (g2 := F0 m 47 ls [.int r5, .int (if (1 : Int32) < ((zi z1 6) &&& (255 : Int32)) then ((zi z1 6) &&& (255 : Int32)) else (1 : Int32))]) rfl ?_
      refine lv_imul C.1.1 C.1.2.1 dS_partsOfMicrosecond_47 ?_
      exact c_reti C hr hlk hrv hw hf rfl ⟨Nat.le_of_ble_eq_true rfl, Nat.le_of_ble_eq_true rfl⟩ dS_partsOfMicrosecond_48
    · have hf := ts_t hf c4
      refine lv_iconst (v := (3 : Int32)) C.1.1 C.1.2.1 dS_partsOfMicrosecond_39 (by decide) ?_
      refine lv_goto (tgt := 47) C.1.1 C.1.2.1 dS_partsOfMicrosecond_40 (by decide) ?_
      refine lv_imul C.1.1 C.1.2.1 dS_partsOfMicrosecond_47 ?_
      exact c_reti C hr hlk hrv hw hf rfl ⟨Nat.le_of_ble_eq_true rfl, Nat.le_of_ble_eq_true rfl⟩ dS_partsOfMicrosecond_48
  · have hf := ts_t hf c2
    refine lv_iconst (v := (1 : Int32)) C.1.1 C.1.2.1 dS_partsOfMicrosecond_7 (by decide) ?_
    refine lv_aload_n C.1.1 C.1.2.1 dS_partsOfMicrosecond_8 rfl (lv_at hl 0 rfl) ?_
    refine cg_Score_Score_division C hw dS_partsOfMicrosecond_9 ?_
    refine va_mmax C.1.1 C.1.2.1 (by rw [hl.1]; exact C.1.2.2.1) C.1.2.2.2.1 (C.1.2.2.2.2 _ gw_314) (C.1.2.2.2.2 _ gw_315) (C.1.2.2.2.2 _ gw_57) (C.1.2.2.2.2 _ gw_316) (Nat.le_of_ble_eq_true rfl) (Nat.le_of_ble_eq_true rfl) (Nat.le_of_ble_eq_true rfl) (Nat.le_of_ble_eq_true rfl) dS_partsOfMicrosecond_12 ?_
    exact c_reti C hr hlk hrv hw hf rfl ⟨Nat.le_of_ble_eq_true rfl, Nat.le_of_ble_eq_true rfl⟩ dS_partsOfMicrosecond_15
abbrev cS_tempoOf : ByteArray := prog_6_method_20_code
abbrev yS_tempoOf : MethodName := ⟨"MidiDesk$Score", "tempoOf", "(LMidiDesk$Event;)I"⟩
theorem kS_tempoOf : yS_tempoOf.cls ≠ "java/lang/invoke/MethodHandle" ∧ yS_tempoOf.cls ≠ "java/lang/invoke/VarHandle" ∧ (parseMethodDescriptor yS_tempoOf.desc).map (fun d => d.parameters.length) = some 1 := by decide +kernel
abbrev rS_tempoOf : Room := { frames := 1, cells := 0, slots := 0, locals := 21 }
theorem dS_tempoOf_0 : decode cS_tempoOf 0 = .ok (.aload_n 0, 1) := by decide +kernel
theorem dS_tempoOf_1 : decode cS_tempoOf 1 = .ok (.getfield 14, 3) := by decide +kernel
theorem dS_tempoOf_4 : decode cS_tempoOf 4 = .ok (.aload_n 1, 1) := by decide +kernel
theorem dS_tempoOf_5 : decode cS_tempoOf 5 = .ok (.getfield 123, 3) := by decide +kernel
theorem dS_tempoOf_8 : decode cS_tempoOf 8 = .ok (.invokevirtual 126, 3) := by decide +kernel
theorem dS_tempoOf_11 : decode cS_tempoOf 11 = .ok (.bipush 16, 2) := by decide +kernel
theorem dS_tempoOf_13 : decode cS_tempoOf 13 = .ok (.ishl, 1) := by decide +kernel
theorem dS_tempoOf_14 : decode cS_tempoOf 14 = .ok (.aload_n 0, 1) := by decide +kernel
theorem dS_tempoOf_15 : decode cS_tempoOf 15 = .ok (.getfield 14, 3) := by decide +kernel
theorem dS_tempoOf_18 : decode cS_tempoOf 18 = .ok (.aload_n 1, 1) := by decide +kernel
theorem dS_tempoOf_19 : decode cS_tempoOf 19 = .ok (.getfield 123, 3) := by decide +kernel
theorem dS_tempoOf_22 : decode cS_tempoOf 22 = .ok (.iconst 1, 1) := by decide +kernel
theorem dS_tempoOf_23 : decode cS_tempoOf 23 = .ok (.iadd, 1) := by decide +kernel
theorem dS_tempoOf_24 : decode cS_tempoOf 24 = .ok (.invokevirtual 126, 3) := by decide +kernel
theorem dS_tempoOf_27 : decode cS_tempoOf 27 = .ok (.bipush 8, 2) := by decide +kernel
theorem dS_tempoOf_29 : decode cS_tempoOf 29 = .ok (.ishl, 1) := by decide +kernel
theorem dS_tempoOf_30 : decode cS_tempoOf 30 = .ok (.ior, 1) := by decide +kernel
theorem dS_tempoOf_31 : decode cS_tempoOf 31 = .ok (.aload_n 0, 1) := by decide +kernel
theorem dS_tempoOf_32 : decode cS_tempoOf 32 = .ok (.getfield 14, 3) := by decide +kernel
theorem dS_tempoOf_35 : decode cS_tempoOf 35 = .ok (.aload_n 1, 1) := by decide +kernel
theorem dS_tempoOf_36 : decode cS_tempoOf 36 = .ok (.getfield 123, 3) := by decide +kernel
theorem dS_tempoOf_39 : decode cS_tempoOf 39 = .ok (.iconst 2, 1) := by decide +kernel
theorem dS_tempoOf_40 : decode cS_tempoOf 40 = .ok (.iadd, 1) := by decide +kernel
theorem dS_tempoOf_41 : decode cS_tempoOf 41 = .ok (.invokevirtual 126, 3) := by decide +kernel
theorem dS_tempoOf_44 : decode cS_tempoOf 44 = .ok (.ior, 1) := by decide +kernel
theorem dS_tempoOf_45 : decode cS_tempoOf 45 = .ok (.ireturn, 1) := by decide +kernel
def fS_tempoOf (h : cH) (z : cZ) (o1 : Option Nat) : Option (Int32 × cZ) := (o1).bind fun j1 => if h.2.1 ≤ j1 then none else ((fB2_at h z (ze z j1 5)).bind fun (r2, z2) => (fB2_at h z2 ((ze z2 j1 5) + (1 : Int32))).bind fun (r3, z3) => (fB2_at h z3 ((ze z3 j1 5) + (2 : Int32))).bind fun (r4, z4) => some (((r2 <<< ((16 : Int32) &&& 31)) ||| (r3 <<< ((8 : Int32) &&& 31))) ||| r4, z4))
set_option maxHeartbeats 4000000 in
set_option maxRecDepth 100000 in
theorem cS_tempoOf_met {l : Launch} {g : gT} {qq ad ea : Nat → Nat} {h : cH} {X : va_W} {z z' : cZ} {o1 : Option Nat} {r' : Int32} (hf : fS_tempoOf h z o1 = some (r', z')) : cMet l yS_tempoOf cS_tempoOf 2 (some .int) rS_tempoOf g qq ad ea h X z [.ref (qq 4), va_rf (Option.map ea o1)] (some (.int r')) X z' := by
  refine c_entry (by decide) (by cases o1 <;> exact Nat.le_of_ble_eq_true rfl) ?_
  intro p e s m args below meth c ls C hr hlk hnm hl hw
  have hrv : (some (.int r') : Option Value) = some (.int r') := rfl
  have C : mCx p m c cS_tempoOf 2 s args g "MidiDesk$Score" := C
  have hl : lv_has ls 2 [(0, .ref (qq 4)), (1, va_rf (Option.map ea o1))] := hl
  unfold fS_tempoOf at hf
  refine lv_aload_n C.1.1 C.1.2.1 dS_tempoOf_0 rfl (lv_at hl 0 rfl) ?_
  refine cg_Score_Score_data C hw dS_tempoOf_1 ?_
  refine c_aload_n C.1.1 C.1.2.1 dS_tempoOf_4 rfl (lv_at hl 1 rfl) ?_
  obtain ⟨j1, ho1, hf⟩ := ts_b hf
  try dsimp only at hf
  obtain ⟨hb1, hf⟩ := ts_g hf
  have hb1 := Nat.lt_of_not_le hb1
  refine cg_Score_Event_start C hw ho1 hb1 dS_tempoOf_5 ?_
  obtain ⟨⟨r2, z2⟩, g2, hf⟩ := ts_b hf
  try dsimp only at hf
  refine c_callV (rest := []) (As := [.int (ze z j1 5)]) (rv := (some (.int r2))) (b := (qq 3)) C hl.1 hw (cB2_at_met g2) rfl (callW_of (rm := rB2_at) (C := "MidiDesk$Bytes") 1 C.1.2.2.2.2 gw_583 gw_256 gw_257 gw_53 gw_258 kB2_at ⟨Nat.le_of_ble_eq_true rfl, Nat.le_of_ble_eq_true rfl⟩) (c_recv_B2 C.2 hw) rfl rfl (Nat.le_of_ble_eq_true rfl) dS_tempoOf_8 ⟨Nat.le_of_ble_eq_true rfl, Nat.le_of_ble_eq_true rfl⟩ (fun H locs hw => ?_)
  refine W.eq (g2 := F0 m 11 ls [.int r2]) rfl ?_
  refine lv_bipush (v := (16 : Int32)) C.1.1 C.1.2.1 dS_tempoOf_11 (by decide) ?_
  refine lv_ishl C.1.1 C.1.2.1 dS_tempoOf_13 ?_
  refine lv_aload_n C.1.1 C.1.2.1 dS_tempoOf_14 rfl (lv_at hl 0 rfl) ?_
  refine cg_Score_Score_data C hw dS_tempoOf_15 ?_
  refine c_aload_n C.1.1 C.1.2.1 dS_tempoOf_18 rfl (lv_at hl 1 rfl) ?_
  refine cg_Score_Event_start C hw ho1 hb1 dS_tempoOf_19 ?_
  refine lv_iconst (v := (1 : Int32)) C.1.1 C.1.2.1 dS_tempoOf_22 (by decide) ?_
  refine lv_iadd C.1.1 C.1.2.1 dS_tempoOf_23 ?_
  obtain ⟨⟨r3, z3⟩, g3, hf⟩ := ts_b hf
  try dsimp only at hf
  refine c_callV (rest := [.int (r2 <<< ((16 : Int32) &&& 31))]) (As := [.int ((ze z2 j1 5) + (1 : Int32))]) (rv := (some (.int r3))) (b := (qq 3)) C hl.1 hw (cB2_at_met g3) rfl (callW_of (rm := rB2_at) (C := "MidiDesk$Bytes") 1 C.1.2.2.2.2 gw_583 gw_256 gw_257 gw_53 gw_258 kB2_at ⟨Nat.le_of_ble_eq_true rfl, Nat.le_of_ble_eq_true rfl⟩) (c_recv_B2 C.2 hw) rfl rfl (Nat.le_of_ble_eq_true rfl) dS_tempoOf_24 ⟨Nat.le_of_ble_eq_true rfl, Nat.le_of_ble_eq_true rfl⟩ (fun H locs hw => ?_)
  refine W.eq (g2 := F0 m 27 ls [.int r3, .int (r2 <<< ((16 : Int32) &&& 31))]) rfl ?_
  refine lv_bipush (v := (8 : Int32)) C.1.1 C.1.2.1 dS_tempoOf_27 (by decide) ?_
  refine lv_ishl C.1.1 C.1.2.1 dS_tempoOf_29 ?_
  refine lv_ior C.1.1 C.1.2.1 dS_tempoOf_30 ?_
  refine lv_aload_n C.1.1 C.1.2.1 dS_tempoOf_31 rfl (lv_at hl 0 rfl) ?_
  refine cg_Score_Score_data C hw dS_tempoOf_32 ?_
  refine c_aload_n C.1.1 C.1.2.1 dS_tempoOf_35 rfl (lv_at hl 1 rfl) ?_
  refine cg_Score_Event_start C hw ho1 hb1 dS_tempoOf_36 ?_
  refine lv_iconst (v := (2 : Int32)) C.1.1 C.1.2.1 dS_tempoOf_39 (by decide) ?_
  refine lv_iadd C.1.1 C.1.2.1 dS_tempoOf_40 ?_
  obtain ⟨⟨r4, z4⟩, g4, hf⟩ := ts_b hf
  try dsimp only at hf
  refine c_callV (rest := [.int ((r2 <<< ((16 : Int32) &&& 31)) ||| (r3 <<< ((8 : Int32) &&& 31)))]) (As := [.int ((ze z3 j1 5) + (2 : Int32))]) (rv := (some (.int r4))) (b := (qq 3)) C hl.1 hw (cB2_at_met g4) rfl (callW_of (rm := rB2_at) (C := "MidiDesk$Bytes") 1 C.1.2.2.2.2 gw_583 gw_256 gw_257 gw_53 gw_258 kB2_at ⟨Nat.le_of_ble_eq_true rfl, Nat.le_of_ble_eq_true rfl⟩) (c_recv_B2 C.2 hw) rfl rfl (Nat.le_of_ble_eq_true rfl) dS_tempoOf_41 ⟨Nat.le_of_ble_eq_true rfl, Nat.le_of_ble_eq_true rfl⟩ (fun H locs hw => ?_)
  refine W.eq (g2 := F0 m 44 ls [.int r4, .int ((r2 <<< ((16 : Int32) &&& 31)) ||| (r3 <<< ((8 : Int32) &&& 31)))]) rfl ?_
  refine lv_ior C.1.1 C.1.2.1 dS_tempoOf_44 ?_
  exact c_reti C hr hlk hrv hw hf rfl ⟨Nat.le_of_ble_eq_true rfl, Nat.le_of_ble_eq_true rfl⟩ dS_tempoOf_45
abbrev cS_partsBefore : ByteArray := prog_6_method_19_code
abbrev yS_partsBefore : MethodName := ⟨"MidiDesk$Score", "partsBefore", "(I)J"⟩
theorem kS_partsBefore : yS_partsBefore.cls ≠ "java/lang/invoke/MethodHandle" ∧ yS_partsBefore.cls ≠ "java/lang/invoke/VarHandle" ∧ (parseMethodDescriptor yS_partsBefore.desc).map (fun d => d.parameters.length) = some 1 := by decide +kernel
abbrev rS_partsBefore : Room := { frames := 2, cells := 0, slots := 0, locals := 42 }
theorem dS_partsBefore_0 : decode cS_partsBefore 0 = .ok (.aload_n 0, 1) := by decide +kernel
theorem dS_partsBefore_1 : decode cS_partsBefore 1 = .ok (.invokevirtual 106, 3) := by decide +kernel
theorem dS_partsBefore_4 : decode cS_partsBefore 4 = .ok (.ifCond .eq 24, 3) := by decide +kernel
theorem dS_partsBefore_7 : decode cS_partsBefore 7 = .ok (.iload_n 1, 1) := by decide +kernel
theorem dS_partsBefore_8 : decode cS_partsBefore 8 = .ok (.i2l, 1) := by decide +kernel
theorem dS_partsBefore_9 : decode cS_partsBefore 9 = .ok (.aload_n 0, 1) := by decide +kernel
theorem dS_partsBefore_10 : decode cS_partsBefore 10 = .ok (.invokevirtual 109, 3) := by decide +kernel
theorem dS_partsBefore_13 : decode cS_partsBefore 13 = .ok (.bipush 29, 2) := by decide +kernel
theorem dS_partsBefore_15 : decode cS_partsBefore 15 = .ok (.if_icmp .ne 8, 3) := by decide +kernel
theorem dS_partsBefore_18 : decode cS_partsBefore 18 = .ok (.ldc 112, 2) := by decide +kernel
theorem dS_partsBefore_20 : decode cS_partsBefore 20 = .ok (.goto 5, 3) := by decide +kernel
theorem dS_partsBefore_23 : decode cS_partsBefore 23 = .ok (.ldc 113, 2) := by decide +kernel
theorem dS_partsBefore_25 : decode cS_partsBefore 25 = .ok (.i2l, 1) := by decide +kernel
theorem dS_partsBefore_26 : decode cS_partsBefore 26 = .ok (.lmul, 1) := by decide +kernel
theorem dS_partsBefore_27 : decode cS_partsBefore 27 = .ok (.lreturn, 1) := by decide +kernel
theorem dS_partsBefore_28 : decode cS_partsBefore 28 = .ok (.lconst 0, 1) := by decide +kernel
theorem dS_partsBefore_29 : decode cS_partsBefore 29 = .ok (.lstore_n 2, 1) := by decide +kernel
theorem dS_partsBefore_30 : decode cS_partsBefore 30 = .ok (.ldc2_w 114, 3) := by decide +kernel
theorem dS_partsBefore_33 : decode cS_partsBefore 33 = .ok (.lstore 4, 2) := by decide +kernel
theorem dS_partsBefore_35 : decode cS_partsBefore 35 = .ok (.iconst 0, 1) := by decide +kernel
theorem dS_partsBefore_36 : decode cS_partsBefore 36 = .ok (.istore 6, 2) := by decide +kernel
theorem dS_partsBefore_38 : decode cS_partsBefore 38 = .ok (.iconst 0, 1) := by decide +kernel
theorem dS_partsBefore_39 : decode cS_partsBefore 39 = .ok (.istore 7, 2) := by decide +kernel
theorem dS_partsBefore_41 : decode cS_partsBefore 41 = .ok (.iload 7, 2) := by decide +kernel
theorem dS_partsBefore_43 : decode cS_partsBefore 43 = .ok (.aload_n 0, 1) := by decide +kernel
theorem dS_partsBefore_44 : decode cS_partsBefore 44 = .ok (.getfield 33, 3) := by decide +kernel
theorem dS_partsBefore_47 : decode cS_partsBefore 47 = .ok (.if_icmp .ge 87, 3) := by decide +kernel
theorem dS_partsBefore_50 : decode cS_partsBefore 50 = .ok (.aload_n 0, 1) := by decide +kernel
theorem dS_partsBefore_51 : decode cS_partsBefore 51 = .ok (.getfield 22, 3) := by decide +kernel
theorem dS_partsBefore_54 : decode cS_partsBefore 54 = .ok (.iload 7, 2) := by decide +kernel
theorem dS_partsBefore_56 : decode cS_partsBefore 56 = .ok (.aaload, 1) := by decide +kernel
theorem dS_partsBefore_57 : decode cS_partsBefore 57 = .ok (.getfield 65, 3) := by decide +kernel
theorem dS_partsBefore_60 : decode cS_partsBefore 60 = .ok (.iload_n 1, 1) := by decide +kernel
theorem dS_partsBefore_61 : decode cS_partsBefore 61 = .ok (.if_icmp .ge 73, 3) := by decide +kernel
theorem dS_partsBefore_64 : decode cS_partsBefore 64 = .ok (.aload_n 0, 1) := by decide +kernel
theorem dS_partsBefore_65 : decode cS_partsBefore 65 = .ok (.getfield 22, 3) := by decide +kernel
theorem dS_partsBefore_68 : decode cS_partsBefore 68 = .ok (.iload 7, 2) := by decide +kernel
theorem dS_partsBefore_70 : decode cS_partsBefore 70 = .ok (.aaload, 1) := by decide +kernel
theorem dS_partsBefore_71 : decode cS_partsBefore 71 = .ok (.astore 8, 2) := by decide +kernel
theorem dS_partsBefore_73 : decode cS_partsBefore 73 = .ok (.aload 8, 2) := by decide +kernel
theorem dS_partsBefore_75 : decode cS_partsBefore 75 = .ok (.invokevirtual 68, 3) := by decide +kernel
theorem dS_partsBefore_78 : decode cS_partsBefore 78 = .ok (.ifCond .eq 50, 3) := by decide +kernel
theorem dS_partsBefore_81 : decode cS_partsBefore 81 = .ok (.aload_n 0, 1) := by decide +kernel
theorem dS_partsBefore_82 : decode cS_partsBefore 82 = .ok (.getfield 116, 3) := by decide +kernel
theorem dS_partsBefore_85 : decode cS_partsBefore 85 = .ok (.iconst 2, 1) := by decide +kernel
theorem dS_partsBefore_86 : decode cS_partsBefore 86 = .ok (.if_icmp .ne 11, 3) := by decide +kernel
theorem dS_partsBefore_89 : decode cS_partsBefore 89 = .ok (.aload 8, 2) := by decide +kernel
theorem dS_partsBefore_91 : decode cS_partsBefore 91 = .ok (.getfield 100, 3) := by decide +kernel
theorem dS_partsBefore_94 : decode cS_partsBefore 94 = .ok (.ifCond .ne 34, 3) := by decide +kernel
theorem dS_partsBefore_97 : decode cS_partsBefore 97 = .ok (.lload_n 2, 1) := by decide +kernel
theorem dS_partsBefore_98 : decode cS_partsBefore 98 = .ok (.lload 4, 2) := by decide +kernel
theorem dS_partsBefore_100 : decode cS_partsBefore 100 = .ok (.aload 8, 2) := by decide +kernel
theorem dS_partsBefore_102 : decode cS_partsBefore 102 = .ok (.getfield 65, 3) := by decide +kernel
theorem dS_partsBefore_105 : decode cS_partsBefore 105 = .ok (.iload 6, 2) := by decide +kernel
theorem dS_partsBefore_107 : decode cS_partsBefore 107 = .ok (.isub, 1) := by decide +kernel
theorem dS_partsBefore_108 : decode cS_partsBefore 108 = .ok (.i2l, 1) := by decide +kernel
theorem dS_partsBefore_109 : decode cS_partsBefore 109 = .ok (.lmul, 1) := by decide +kernel
theorem dS_partsBefore_110 : decode cS_partsBefore 110 = .ok (.ladd, 1) := by decide +kernel
theorem dS_partsBefore_111 : decode cS_partsBefore 111 = .ok (.lstore_n 2, 1) := by decide +kernel
theorem dS_partsBefore_112 : decode cS_partsBefore 112 = .ok (.aload 8, 2) := by decide +kernel
theorem dS_partsBefore_114 : decode cS_partsBefore 114 = .ok (.getfield 65, 3) := by decide +kernel
theorem dS_partsBefore_117 : decode cS_partsBefore 117 = .ok (.istore 6, 2) := by decide +kernel
theorem dS_partsBefore_119 : decode cS_partsBefore 119 = .ok (.aload_n 0, 1) := by decide +kernel
theorem dS_partsBefore_120 : decode cS_partsBefore 120 = .ok (.aload 8, 2) := by decide +kernel
theorem dS_partsBefore_122 : decode cS_partsBefore 122 = .ok (.invokevirtual 119, 3) := by decide +kernel
theorem dS_partsBefore_125 : decode cS_partsBefore 125 = .ok (.i2l, 1) := by decide +kernel
theorem dS_partsBefore_126 : decode cS_partsBefore 126 = .ok (.lstore 4, 2) := by decide +kernel
theorem dS_partsBefore_128 : decode cS_partsBefore 128 = .ok (.iinc 7 1, 3) := by decide +kernel
theorem dS_partsBefore_131 : decode cS_partsBefore 131 = .ok (.goto (-90), 3) := by decide +kernel
theorem dS_partsBefore_134 : decode cS_partsBefore 134 = .ok (.lload_n 2, 1) := by decide +kernel
theorem dS_partsBefore_135 : decode cS_partsBefore 135 = .ok (.lload 4, 2) := by decide +kernel
theorem dS_partsBefore_137 : decode cS_partsBefore 137 = .ok (.iload_n 1, 1) := by decide +kernel
theorem dS_partsBefore_138 : decode cS_partsBefore 138 = .ok (.iload 6, 2) := by decide +kernel
theorem dS_partsBefore_140 : decode cS_partsBefore 140 = .ok (.isub, 1) := by decide +kernel
theorem dS_partsBefore_141 : decode cS_partsBefore 141 = .ok (.i2l, 1) := by decide +kernel
theorem dS_partsBefore_142 : decode cS_partsBefore 142 = .ok (.lmul, 1) := by decide +kernel
theorem dS_partsBefore_143 : decode cS_partsBefore 143 = .ok (.ladd, 1) := by decide +kernel
theorem dS_partsBefore_144 : decode cS_partsBefore 144 = .ok (.lreturn, 1) := by decide +kernel
def jS_partsBefore_128 (h : cH) (K41 : cZ → Int32 → Int64 → Int64 → Int32 → Int32 → Option (Int64 × cZ)) (z : cZ) (x1 : Int32) (y2 : Int64) (y4 : Int64) (x6 : Int32) (x7 : Int32) : Option (Int64 × cZ) := K41 z x1 y2 y4 x6 (x7 + 1)
def jS_partsBefore_97 (h : cH) (K41 : cZ → Int32 → Int64 → Int64 → Int32 → Int32 → Option (Int64 × cZ)) (z : cZ) (x1 : Int32) (y2 : Int64) (y4 : Int64) (x6 : Int32) (x7 : Int32) (o8 : Option Nat) : Option (Int64 × cZ) := (o8).bind fun j1 => if h.2.1 ≤ j1 then none else ((fS_tempoOf h z o8).bind fun (r2, z2) => jS_partsBefore_128 h K41 z2 x1 (y2 + (y4 * (((ze z j1 0) - x6).toInt64))) r2.toInt64 (ze z j1 0) x7)
def jS_partsBefore_134 (h : cH) (z : cZ) (x1 : Int32) (y2 : Int64) (y4 : Int64) (x6 : Int32) : Option (Int64 × cZ) := some (y2 + (y4 * ((x1 - x6).toInt64)), z)
def lS_partsBefore_41 (h : cH) : Nat → cZ → Int32 → Int64 → Int64 → Int32 → Int32 → Option (Int64 × cZ)
  | 0 => fun _ _ _ _ _ _ => none
  | k + 1 => fun z x1 y2 y4 x6 x7 => if (zi z 7) ≤ x7 then (jS_partsBefore_134 h z x1 y2 y4 x6) else (if x7 < 0 ∨ h.1 3 ≤ x7.toNatClampNeg then none else ((zr z 0 x7.toNatClampNeg).bind fun j3 => if h.2.1 ≤ j3 then none else (if x1 ≤ (ze z j3 0) then (jS_partsBefore_134 h z x1 y2 y4 x6) else (if x7 < 0 ∨ h.1 3 ≤ x7.toNatClampNeg then none else ((fE_isTempo h z j3).bind fun (r6, z6) => if r6 = 0 then (jS_partsBefore_128 h (lS_partsBefore_41 h k) z6 x1 y2 y4 x6 x7) else (if (zi z6 4) = (2 : Int32) then (if (ze z6 j3 1) = 0 then (jS_partsBefore_97 h (lS_partsBefore_41 h k) z6 x1 y2 y4 x6 x7 (zr z 0 x7.toNatClampNeg)) else (jS_partsBefore_128 h (lS_partsBefore_41 h k) z6 x1 y2 y4 x6 x7)) else (jS_partsBefore_97 h (lS_partsBefore_41 h k) z6 x1 y2 y4 x6 x7 (zr z 0 x7.toNatClampNeg))))))))
def fS_partsBefore (h : cH) (z : cZ) (x1 : Int32) : Option (Int64 × cZ) := (fS_hasFrames h z).bind fun (r1, z1) => if r1 = 0 then (lS_partsBefore_41 h FU z1 x1 (0 : Int64) (500000 : Int64) (0 : Int32) (0 : Int32)) else ((fS_frames h z1).bind fun (r3, z3) => if r3 = (29 : Int32) then (some (x1.toInt64 * ((100100 : Int32).toInt64), z3)) else (some (x1.toInt64 * ((1000000 : Int32).toInt64), z3)))
set_option maxHeartbeats 4000000 in
set_option maxRecDepth 100000 in
theorem wS_partsBefore_128 {p : Program} {l : Launch} {e : Env} {s : State} {m : MethodId} {args : Array Value} {below : List Frame} {meth : Method} {c : Code} {g : gT} {qq ad ea : Nat → Nat} {h : cH} {X : va_W} {rv : Option Value} {z' : cZ} {r' : Int64} (C : mCx p m c cS_partsBefore 9 s args g "MidiDesk$Score") (hr : meth.sig.returnType = (some .long)) (hlk : meth.locks = false) (hrv : rv = some (.long r')) {K41 : cZ → Int32 → Int64 → Int64 → Int32 → Int32 → Option (Int64 × cZ)} (hK41 : ∀ (z : cZ) (x1 : Int32) (y2 : Int64) (y4 : Int64) (x6 : Int32) (x7 : Int32) (H : Heap) (locs : List Loc) (ls : Array Slot), lv_has ls 9 [(0, .ref (qq 4)), (1, .int x1), (2, .long y2), (4, .long y4), (6, .int x6), (7, .int x7)] → cWd g (cA g qq ad ea h X s.heap.size) s.heap qq ad ea h X z H locs → K41 z x1 y2 y4 x6 x7 = some (r', z') → cG p l e rS_partsBefore s m args below meth c g qq ad ea h X rv X z' H locs 0 0 (F0 m 41 ls [])) (z : cZ) (x1 : Int32) (y2 : Int64) (y4 : Int64) (x6 : Int32) (x7 : Int32) (H : Heap) (locs : List Loc) (ls : Array Slot) (hl : lv_has ls 9 [(0, .ref (qq 4)), (1, .int x1), (2, .long y2), (4, .long y4), (6, .int x6), (7, .int x7)]) (hw : cWd g (cA g qq ad ea h X s.heap.size) s.heap qq ad ea h X z H locs) (hf : jS_partsBefore_128 h K41 z x1 y2 y4 x6 x7 = some (r', z')) : cG p l e rS_partsBefore s m args below meth c g qq ad ea h X rv X z' H locs 0 0 (F0 m 128 ls []) := by
  unfold jS_partsBefore_128 at hf
  refine lv_iinc (v := x7 + 1) (lv' := [(7, .int (x7 + 1)), (0, .ref (qq 4)), (1, .int x1), (2, .long y2), (4, .long y4), (6, .int x6)]) C.1.1 C.1.2.1 dS_partsBefore_128 hl (k := 5) rfl rfl (by decide) rfl (fun ls hl => ?_)
  refine lv_goto (tgt := 41) C.1.1 C.1.2.1 dS_partsBefore_131 (by decide) ?_
  exact hK41 z x1 y2 y4 x6 (x7 + 1) _ _ ls (lv_sub hl [1, 2, 3, 4, 5, 0] rfl) hw hf
set_option maxHeartbeats 4000000 in
set_option maxRecDepth 100000 in
theorem wS_partsBefore_97 {p : Program} {l : Launch} {e : Env} {s : State} {m : MethodId} {args : Array Value} {below : List Frame} {meth : Method} {c : Code} {g : gT} {qq ad ea : Nat → Nat} {h : cH} {X : va_W} {rv : Option Value} {z' : cZ} {r' : Int64} (C : mCx p m c cS_partsBefore 9 s args g "MidiDesk$Score") (hr : meth.sig.returnType = (some .long)) (hlk : meth.locks = false) (hrv : rv = some (.long r')) {K41 : cZ → Int32 → Int64 → Int64 → Int32 → Int32 → Option (Int64 × cZ)} (hK41 : ∀ (z : cZ) (x1 : Int32) (y2 : Int64) (y4 : Int64) (x6 : Int32) (x7 : Int32) (H : Heap) (locs : List Loc) (ls : Array Slot), lv_has ls 9 [(0, .ref (qq 4)), (1, .int x1), (2, .long y2), (4, .long y4), (6, .int x6), (7, .int x7)] → cWd g (cA g qq ad ea h X s.heap.size) s.heap qq ad ea h X z H locs → K41 z x1 y2 y4 x6 x7 = some (r', z') → cG p l e rS_partsBefore s m args below meth c g qq ad ea h X rv X z' H locs 0 0 (F0 m 41 ls [])) (z : cZ) (x1 : Int32) (y2 : Int64) (y4 : Int64) (x6 : Int32) (x7 : Int32) (o8 : Option Nat) (H : Heap) (locs : List Loc) (ls : Array Slot) (hl : lv_has ls 9 [(0, .ref (qq 4)), (1, .int x1), (2, .long y2), (4, .long y4), (6, .int x6), (7, .int x7), (8, va_rf (Option.map ea o8))]) (hw : cWd g (cA g qq ad ea h X s.heap.size) s.heap qq ad ea h X z H locs) (hf : jS_partsBefore_97 h K41 z x1 y2 y4 x6 x7 o8 = some (r', z')) : cG p l e rS_partsBefore s m args below meth c g qq ad ea h X rv X z' H locs 0 0 (F0 m 97 ls []) := by
  unfold jS_partsBefore_97 at hf
  refine lv_lload_n C.1.1 C.1.2.1 dS_partsBefore_97 rfl (lv_at hl 2 rfl) ?_
  refine lv_lload C.1.1 C.1.2.1 dS_partsBefore_98 (lv_at hl 3 rfl) ?_
  refine c_aload C.1.1 C.1.2.1 dS_partsBefore_100 (lv_at hl 6 rfl) ?_
  obtain ⟨j1, ho1, hf⟩ := ts_b hf
  try dsimp only at hf
  obtain ⟨hb1, hf⟩ := ts_g hf
  have hb1 := Nat.lt_of_not_le hb1
  refine cg_Score_Event_tick C hw ho1 hb1 dS_partsBefore_102 ?_
  refine lv_iload C.1.1 C.1.2.1 dS_partsBefore_105 (lv_at hl 4 rfl) ?_
  refine lv_isub C.1.1 C.1.2.1 dS_partsBefore_107 ?_
  refine lv_i2l C.1.1 C.1.2.1 dS_partsBefore_108 rfl ?_
  refine lv_lmul C.1.1 C.1.2.1 dS_partsBefore_109 ?_
  refine lv_ladd C.1.1 C.1.2.1 dS_partsBefore_110 ?_
  refine lv_lstore_n (lv' := [(2, .long (y2 + (y4 * (((ze z j1 0) - x6).toInt64)))), (0, .ref (qq 4)), (1, .int x1), (4, .long y4), (6, .int x6), (7, .int x7), (8, va_rf (Option.map ea o8))]) C.1.1 C.1.2.1 dS_partsBefore_111 rfl hl (by decide) rfl (fun ls hl => ?_)
  refine c_aload C.1.1 C.1.2.1 dS_partsBefore_112 (lv_at hl 6 rfl) ?_
  refine cg_Score_Event_tick C hw ho1 hb1 dS_partsBefore_114 ?_
  refine lv_istore (lv' := [(6, .int (ze z j1 0)), (2, .long (y2 + (y4 * (((ze z j1 0) - x6).toInt64)))), (0, .ref (qq 4)), (1, .int x1), (4, .long y4), (7, .int x7), (8, va_rf (Option.map ea o8))]) C.1.1 C.1.2.1 dS_partsBefore_117 hl (by decide) rfl (fun ls hl => ?_)
  refine lv_aload_n C.1.1 C.1.2.1 dS_partsBefore_119 rfl (lv_at hl 2 rfl) ?_
  refine c_aload C.1.1 C.1.2.1 dS_partsBefore_120 (lv_at hl 6 rfl) ?_
  obtain ⟨⟨r2, z2⟩, g2, hf⟩ := ts_b hf
  try dsimp only at hf
  refine c_callV (rest := []) (As := [va_rf (Option.map ea o8)]) (rv := (some (.int r2))) (b := (qq 4)) C hl.1 hw (cS_tempoOf_met g2) rfl (callW_of (rm := rS_tempoOf) (C := "MidiDesk$Score") 1 C.1.2.2.2.2 gw_579 gw_581 gw_21 gw_54 gw_582 kS_tempoOf ⟨Nat.le_of_ble_eq_true rfl, Nat.le_of_ble_eq_true rfl⟩) (c_recv_score C.2 hw) rfl rfl (Nat.le_of_ble_eq_true rfl) dS_partsBefore_122 ⟨Nat.le_of_ble_eq_true rfl, Nat.le_of_ble_eq_true rfl⟩ (fun H locs hw => ?_)
  refine W.eq (g2 := F0 m 125 ls [.int r2]) rfl ?_
  refine lv_i2l C.1.1 C.1.2.1 dS_partsBefore_125 rfl ?_
  refine lv_lstore (lv' := [(4, .long r2.toInt64), (6, .int (ze z j1 0)), (2, .long (y2 + (y4 * (((ze z j1 0) - x6).toInt64)))), (0, .ref (qq 4)), (1, .int x1), (7, .int x7), (8, va_rf (Option.map ea o8))]) C.1.1 C.1.2.1 dS_partsBefore_126 hl (by decide) rfl (fun ls hl => ?_)
  exact wS_partsBefore_128 C hr hlk hrv hK41 z2 x1 (y2 + (y4 * (((ze z j1 0) - x6).toInt64))) r2.toInt64 (ze z j1 0) x7 _ _ ls (lv_sub hl [3, 4, 2, 0, 1, 5] rfl) hw hf
set_option maxHeartbeats 4000000 in
set_option maxRecDepth 100000 in
theorem wS_partsBefore_134 {p : Program} {l : Launch} {e : Env} {s : State} {m : MethodId} {args : Array Value} {below : List Frame} {meth : Method} {c : Code} {g : gT} {qq ad ea : Nat → Nat} {h : cH} {X : va_W} {rv : Option Value} {z' : cZ} {r' : Int64} (C : mCx p m c cS_partsBefore 9 s args g "MidiDesk$Score") (hr : meth.sig.returnType = (some .long)) (hlk : meth.locks = false) (hrv : rv = some (.long r')) (z : cZ) (x1 : Int32) (y2 : Int64) (y4 : Int64) (x6 : Int32) (H : Heap) (locs : List Loc) (ls : Array Slot) (hl : lv_has ls 9 [(0, .ref (qq 4)), (1, .int x1), (2, .long y2), (4, .long y4), (6, .int x6)]) (hw : cWd g (cA g qq ad ea h X s.heap.size) s.heap qq ad ea h X z H locs) (hf : jS_partsBefore_134 h z x1 y2 y4 x6 = some (r', z')) : cG p l e rS_partsBefore s m args below meth c g qq ad ea h X rv X z' H locs 0 0 (F0 m 134 ls []) := by
  unfold jS_partsBefore_134 at hf
  refine lv_lload_n C.1.1 C.1.2.1 dS_partsBefore_134 rfl (lv_at hl 2 rfl) ?_
  refine lv_lload C.1.1 C.1.2.1 dS_partsBefore_135 (lv_at hl 3 rfl) ?_
  refine lv_iload_n C.1.1 C.1.2.1 dS_partsBefore_137 rfl (lv_at hl 1 rfl) ?_
  refine lv_iload C.1.1 C.1.2.1 dS_partsBefore_138 (lv_at hl 4 rfl) ?_
  refine lv_isub C.1.1 C.1.2.1 dS_partsBefore_140 ?_
  refine lv_i2l C.1.1 C.1.2.1 dS_partsBefore_141 rfl ?_
  refine lv_lmul C.1.1 C.1.2.1 dS_partsBefore_142 ?_
  refine lv_ladd C.1.1 C.1.2.1 dS_partsBefore_143 ?_
  exact c_retl C hr hlk hrv hw hf rfl ⟨Nat.le_of_ble_eq_true rfl, Nat.le_of_ble_eq_true rfl⟩ dS_partsBefore_144
set_option maxHeartbeats 4000000 in
set_option maxRecDepth 100000 in
theorem wS_partsBefore_41 {p : Program} {l : Launch} {e : Env} {s : State} {m : MethodId} {args : Array Value} {below : List Frame} {meth : Method} {c : Code} {g : gT} {qq ad ea : Nat → Nat} {h : cH} {X : va_W} {rv : Option Value} {z' : cZ} {r' : Int64} (C : mCx p m c cS_partsBefore 9 s args g "MidiDesk$Score") (hr : meth.sig.returnType = (some .long)) (hlk : meth.locks = false) (hrv : rv = some (.long r')) (k : Nat) : ∀ (z : cZ) (x1 : Int32) (y2 : Int64) (y4 : Int64) (x6 : Int32) (x7 : Int32) (H : Heap) (locs : List Loc) (ls : Array Slot), lv_has ls 9 [(0, .ref (qq 4)), (1, .int x1), (2, .long y2), (4, .long y4), (6, .int x6), (7, .int x7)] → cWd g (cA g qq ad ea h X s.heap.size) s.heap qq ad ea h X z H locs → lS_partsBefore_41 h k z x1 y2 y4 x6 x7 = some (r', z') → cG p l e rS_partsBefore s m args below meth c g qq ad ea h X rv X z' H locs 0 0 (F0 m 41 ls []) := by
  induction k with
  | zero => intro z x1 y2 y4 x6 x7 H locs ls hl hw hf; cases hf
  | succ k ih =>
    intro z x1 y2 y4 x6 x7 H locs ls hl hw hf
    have hf : (if (zi z 7) ≤ x7 then (jS_partsBefore_134 h z x1 y2 y4 x6) else (if x7 < 0 ∨ h.1 3 ≤ x7.toNatClampNeg then none else ((zr z 0 x7.toNatClampNeg).bind fun j3 => if h.2.1 ≤ j3 then none else (if x1 ≤ (ze z j3 0) then (jS_partsBefore_134 h z x1 y2 y4 x6) else (if x7 < 0 ∨ h.1 3 ≤ x7.toNatClampNeg then none else ((fE_isTempo h z j3).bind fun (r6, z6) => if r6 = 0 then (jS_partsBefore_128 h (lS_partsBefore_41 h k) z6 x1 y2 y4 x6 x7) else (if (zi z6 4) = (2 : Int32) then (if (ze z6 j3 1) = 0 then (jS_partsBefore_97 h (lS_partsBefore_41 h k) z6 x1 y2 y4 x6 x7 (zr z 0 x7.toNatClampNeg)) else (jS_partsBefore_128 h (lS_partsBefore_41 h k) z6 x1 y2 y4 x6 x7)) else (jS_partsBefore_97 h (lS_partsBefore_41 h k) z6 x1 y2 y4 x6 x7 (zr z 0 x7.toNatClampNeg))))))))) = some (r', z') := hf
    refine lv_iload C.1.1 C.1.2.1 dS_partsBefore_41 (lv_at hl 5 rfl) ?_
    refine lv_aload_n C.1.1 C.1.2.1 dS_partsBefore_43 rfl (lv_at hl 0 rfl) ?_
    refine cg_Score_Score_size C hw dS_partsBefore_44 ?_
    refine lv_icmp_ge (tgt := 134) C.1.1 C.1.2.1 dS_partsBefore_47 (by decide) (fun c1 => ?_) (fun c1 => ?_)
    · have hf := ts_t hf c1
      exact wS_partsBefore_134 C hr hlk hrv z x1 y2 y4 x6 _ _ ls (lv_sub hl [0, 1, 2, 3, 4] rfl) hw hf
    · have hf := ts_f hf c1
      refine lv_aload_n C.1.1 C.1.2.1 dS_partsBefore_50 rfl (lv_at hl 0 rfl) ?_
      refine cg_Score_Score_row C hw dS_partsBefore_51 ?_
      refine lv_iload C.1.1 C.1.2.1 dS_partsBefore_54 (lv_at hl 5 rfl) ?_
      obtain ⟨h2, hf⟩ := ts_g hf
      refine cra_0 C hw h2 dS_partsBefore_56 ?_
      obtain ⟨j3, ho3, hf⟩ := ts_b hf
      try dsimp only at hf
      obtain ⟨hb3, hf⟩ := ts_g hf
      have hb3 := Nat.lt_of_not_le hb3
      refine cg_Score_Event_tick C hw ho3 hb3 dS_partsBefore_57 ?_
      refine lv_iload_n C.1.1 C.1.2.1 dS_partsBefore_60 rfl (lv_at hl 1 rfl) ?_
      refine lv_icmp_ge (tgt := 134) C.1.1 C.1.2.1 dS_partsBefore_61 (by decide) (fun c4 => ?_) (fun c4 => ?_)
      · have hf := ts_t hf c4
        exact wS_partsBefore_134 C hr hlk hrv z x1 y2 y4 x6 _ _ ls (lv_sub hl [0, 1, 2, 3, 4] rfl) hw hf
      · have hf := ts_f hf c4
        refine lv_aload_n C.1.1 C.1.2.1 dS_partsBefore_64 rfl (lv_at hl 0 rfl) ?_
        refine cg_Score_Score_row C hw dS_partsBefore_65 ?_
        refine lv_iload C.1.1 C.1.2.1 dS_partsBefore_68 (lv_at hl 5 rfl) ?_
        obtain ⟨h5, hf⟩ := ts_g hf
        refine cra_0 C hw h5 dS_partsBefore_70 ?_
        refine c_astore (lv' := [(8, va_rf (Option.map ea (zr z 0 x7.toNatClampNeg))), (0, .ref (qq 4)), (1, .int x1), (2, .long y2), (4, .long y4), (6, .int x6), (7, .int x7)]) C.1.1 C.1.2.1 dS_partsBefore_71 hl (by decide) rfl (fun ls hl => ?_)
        refine c_aload C.1.1 C.1.2.1 dS_partsBefore_73 (lv_at hl 0 rfl) ?_
        obtain ⟨⟨r6, z6⟩, g6, hf⟩ := ts_b hf
        try dsimp only at hf
        refine c_callV (rest := []) (As := []) (rv := (some (.int r6))) (b := (ea j3)) C hl.1 hw (cE_isTempo_met g6) rfl (callW_of (rm := rE_isTempo) (C := "MidiDesk$Event") 0 C.1.2.2.2.2 gw_447 gw_448 gw_449 gw_60 gw_450 kE_isTempo ⟨Nat.le_of_ble_eq_true rfl, Nat.le_of_ble_eq_true rfl⟩) (c_recvE C.2 hb3 hw) rfl (by rw [ho3]; rfl) (Nat.le_of_ble_eq_true rfl) dS_partsBefore_75 ⟨Nat.le_of_ble_eq_true rfl, Nat.le_of_ble_eq_true rfl⟩ (fun H locs hw => ?_)
        refine W.eq (g2 := F0 m 78 ls [.int r6]) rfl ?_
        refine lv_if_eq (tgt := 128) C.1.1 C.1.2.1 dS_partsBefore_78 (by decide) (fun c7 => ?_) (fun c7 => ?_)
        · have hf := ts_t hf c7
          exact wS_partsBefore_128 C hr hlk hrv ih z6 x1 y2 y4 x6 x7 _ _ ls (lv_sub hl [1, 2, 3, 4, 5, 6] rfl) hw hf
        · have hf := ts_f hf c7
          refine lv_aload_n C.1.1 C.1.2.1 dS_partsBefore_81 rfl (lv_at hl 1 rfl) ?_
          refine cg_Score_Score_format C hw dS_partsBefore_82 ?_
          refine lv_iconst (v := (2 : Int32)) C.1.1 C.1.2.1 dS_partsBefore_85 (by decide) ?_
          refine lv_icmp_ne (tgt := 97) C.1.1 C.1.2.1 dS_partsBefore_86 (by decide) (fun c8 => ?_) (fun c8 => ?_)
          · have hf := ts_f hf c8
            exact wS_partsBefore_97 C hr hlk hrv ih z6 x1 y2 y4 x6 x7 (zr z 0 x7.toNatClampNeg) _ _ ls (lv_sub hl [1, 2, 3, 4, 5, 6, 0] rfl) hw hf
          · have hf := ts_t hf c8
            refine c_aload C.1.1 C.1.2.1 dS_partsBefore_89 (lv_at hl 0 rfl) ?_
            refine cg_Score_Event_track C hw ho3 hb3 dS_partsBefore_91 ?_
            refine lv_if_ne (tgt := 128) C.1.1 C.1.2.1 dS_partsBefore_94 (by decide) (fun c9 => ?_) (fun c9 => ?_)
            · have hf := ts_f hf c9
              exact wS_partsBefore_128 C hr hlk hrv ih z6 x1 y2 y4 x6 x7 _ _ ls (lv_sub hl [1, 2, 3, 4, 5, 6] rfl) hw hf
            · have hf := ts_t hf c9
              exact wS_partsBefore_97 C hr hlk hrv ih z6 x1 y2 y4 x6 x7 (zr z 0 x7.toNatClampNeg) _ _ ls (lv_sub hl [1, 2, 3, 4, 5, 6, 0] rfl) hw hf
set_option maxHeartbeats 4000000 in
set_option maxRecDepth 100000 in
theorem cS_partsBefore_met {l : Launch} {g : gT} {qq ad ea : Nat → Nat} {h : cH} {X : va_W} {z z' : cZ} {x1 : Int32} {r' : Int64} (hf : fS_partsBefore h z x1 = some (r', z')) : cMet l yS_partsBefore cS_partsBefore 9 (some .long) rS_partsBefore g qq ad ea h X z [.ref (qq 4), .int x1] (some (.long r')) X z' := by
  refine c_entry (by decide) (Nat.le_of_ble_eq_true rfl) ?_
  intro p e s m args below meth c ls C hr hlk hnm hl hw
  have hrv : (some (.long r') : Option Value) = some (.long r') := rfl
  have C : mCx p m c cS_partsBefore 9 s args g "MidiDesk$Score" := C
  have hl : lv_has ls 9 [(0, .ref (qq 4)), (1, .int x1)] := hl
  unfold fS_partsBefore at hf
  refine lv_aload_n C.1.1 C.1.2.1 dS_partsBefore_0 rfl (lv_at hl 0 rfl) ?_
  obtain ⟨⟨r1, z1⟩, g1, hf⟩ := ts_b hf
  try dsimp only at hf
  refine c_callV (rest := []) (As := []) (rv := (some (.int r1))) (b := (qq 4)) C hl.1 hw (cS_hasFrames_met g1) rfl (callW_of (rm := rS_hasFrames) (C := "MidiDesk$Score") 0 C.1.2.2.2.2 gw_463 gw_465 gw_16 gw_54 gw_466 kS_hasFrames ⟨Nat.le_of_ble_eq_true rfl, Nat.le_of_ble_eq_true rfl⟩) (c_recv_score C.2 hw) rfl rfl (Nat.le_of_ble_eq_true rfl) dS_partsBefore_1 ⟨Nat.le_of_ble_eq_true rfl, Nat.le_of_ble_eq_true rfl⟩ (fun H locs hw => ?_)
  refine W.eq (g2 := F0 m 4 ls [.int r1]) rfl ?_
  refine lv_if_eq (tgt := 28) C.1.1 C.1.2.1 dS_partsBefore_4 (by decide) (fun c2 => ?_) (fun c2 => ?_)
  · have hf := ts_t hf c2
    refine lv_lconst (v := 0) C.1.1 C.1.2.1 dS_partsBefore_28 (by decide) ?_
    refine lv_lstore_n (lv' := [(2, .long (0 : Int64)), (0, .ref (qq 4)), (1, .int x1)]) C.1.1 C.1.2.1 dS_partsBefore_29 rfl hl (by decide) rfl (fun ls hl => ?_)
    refine lv_ldc2 C.1.1 C.1.2.1 C.1.2.2.2.1 (C.1.2.2.2.2 _ gw_578) dS_partsBefore_30 ?_
    refine lv_lstore (lv' := [(4, .long (500000 : Int64)), (2, .long (0 : Int64)), (0, .ref (qq 4)), (1, .int x1)]) C.1.1 C.1.2.1 dS_partsBefore_33 hl (by decide) rfl (fun ls hl => ?_)
    refine lv_iconst (v := (0 : Int32)) C.1.1 C.1.2.1 dS_partsBefore_35 (by decide) ?_
    refine lv_istore (lv' := [(6, .int (0 : Int32)), (4, .long (500000 : Int64)), (2, .long (0 : Int64)), (0, .ref (qq 4)), (1, .int x1)]) C.1.1 C.1.2.1 dS_partsBefore_36 hl (by decide) rfl (fun ls hl => ?_)
    refine lv_iconst (v := (0 : Int32)) C.1.1 C.1.2.1 dS_partsBefore_38 (by decide) ?_
    refine lv_istore (lv' := [(7, .int (0 : Int32)), (6, .int (0 : Int32)), (4, .long (500000 : Int64)), (2, .long (0 : Int64)), (0, .ref (qq 4)), (1, .int x1)]) C.1.1 C.1.2.1 dS_partsBefore_39 hl (by decide) rfl (fun ls hl => ?_)
    exact wS_partsBefore_41 C hr hlk hrv FU z1 x1 (0 : Int64) (500000 : Int64) (0 : Int32) (0 : Int32) _ _ ls (lv_sub hl [4, 5, 3, 2, 1, 0] rfl) hw hf
  · have hf := ts_f hf c2
    refine lv_iload_n C.1.1 C.1.2.1 dS_partsBefore_7 rfl (lv_at hl 1 rfl) ?_
    refine lv_i2l C.1.1 C.1.2.1 dS_partsBefore_8 rfl ?_
    refine lv_aload_n C.1.1 C.1.2.1 dS_partsBefore_9 rfl (lv_at hl 0 rfl) ?_
    obtain ⟨⟨r3, z3⟩, g3, hf⟩ := ts_b hf
    try dsimp only at hf
    refine c_callV (rest := [.long x1.toInt64]) (As := []) (rv := (some (.int r3))) (b := (qq 4)) C hl.1 hw (cS_frames_met g3) rfl (callW_of (rm := rS_frames) (C := "MidiDesk$Score") 0 C.1.2.2.2.2 gw_467 gw_469 gw_17 gw_54 gw_470 kS_frames ⟨Nat.le_of_ble_eq_true rfl, Nat.le_of_ble_eq_true rfl⟩) (c_recv_score C.2 hw) rfl rfl (Nat.le_of_ble_eq_true rfl) dS_partsBefore_10 ⟨Nat.le_of_ble_eq_true rfl, Nat.le_of_ble_eq_true rfl⟩ (fun H locs hw => ?_)
    refine W.eq (g2 := F0 m 13 ls [.int r3, .long x1.toInt64]) rfl ?_
    refine lv_bipush (v := (29 : Int32)) C.1.1 C.1.2.1 dS_partsBefore_13 (by decide) ?_
    refine lv_icmp_ne (tgt := 23) C.1.1 C.1.2.1 dS_partsBefore_15 (by decide) (fun c4 => ?_) (fun c4 => ?_)
    · have hf := ts_f hf c4
      refine lv_ldc C.1.1 C.1.2.1 C.1.2.2.2.1 (C.1.2.2.2.2 _ gw_577) dS_partsBefore_23 ?_
      refine lv_i2l C.1.1 C.1.2.1 dS_partsBefore_25 rfl ?_
      refine lv_lmul C.1.1 C.1.2.1 dS_partsBefore_26 ?_
      exact c_retl C hr hlk hrv hw hf rfl ⟨Nat.le_of_ble_eq_true rfl, Nat.le_of_ble_eq_true rfl⟩ dS_partsBefore_27
    · have hf := ts_t hf c4
      refine lv_ldc C.1.1 C.1.2.1 C.1.2.2.2.1 (C.1.2.2.2.2 _ gw_576) dS_partsBefore_18 ?_
      refine lv_goto (tgt := 25) C.1.1 C.1.2.1 dS_partsBefore_20 (by decide) ?_
      refine lv_i2l C.1.1 C.1.2.1 dS_partsBefore_25 rfl ?_
      refine lv_lmul C.1.1 C.1.2.1 dS_partsBefore_26 ?_
      exact c_retl C hr hlk hrv hw hf rfl ⟨Nat.le_of_ble_eq_true rfl, Nat.le_of_ble_eq_true rfl⟩ dS_partsBefore_27
abbrev cP_expect : ByteArray := prog_4_method_3_code
abbrev yP_expect : MethodName := ⟨"MidiDesk$Parser", "expect", "(ZII)V"⟩
theorem kP_expect : yP_expect.cls ≠ "java/lang/invoke/MethodHandle" ∧ yP_expect.cls ≠ "java/lang/invoke/VarHandle" ∧ (parseMethodDescriptor yP_expect.desc).map (fun d => d.parameters.length) = some 3 := by decide +kernel
abbrev rP_expect : Room := { frames := 0, cells := 0, slots := 0, locals := 0 }
theorem dP_expect_0 : decode cP_expect 0 = .ok (.iload_n 1, 1) := by decide +kernel
theorem dP_expect_1 : decode cP_expect 1 = .ok (.ifCond .ne 20, 3) := by decide +kernel
theorem dP_expect_4 : decode cP_expect 4 = .ok (.aload_n 0, 1) := by decide +kernel
theorem dP_expect_5 : decode cP_expect 5 = .ok (.getfield 37, 3) := by decide +kernel
theorem dP_expect_8 : decode cP_expect 8 = .ok (.ifCond .ne 13, 3) := by decide +kernel
theorem dP_expect_11 : decode cP_expect 11 = .ok (.aload_n 0, 1) := by decide +kernel
theorem dP_expect_12 : decode cP_expect 12 = .ok (.iload_n 2, 1) := by decide +kernel
theorem dP_expect_13 : decode cP_expect 13 = .ok (.bipush 16, 2) := by decide +kernel
theorem dP_expect_15 : decode cP_expect 15 = .ok (.iload_n 3, 1) := by decide +kernel
theorem dP_expect_16 : decode cP_expect 16 = .ok (.imul, 1) := by decide +kernel
theorem dP_expect_17 : decode cP_expect 17 = .ok (.iadd, 1) := by decide +kernel
theorem dP_expect_18 : decode cP_expect 18 = .ok (.putfield 37, 3) := by decide +kernel
theorem dP_expect_21 : decode cP_expect 21 = .ok (.return_, 1) := by decide +kernel
def fP_expect (h : cH) (z : cZ) (pv : Nat → Int32) (x1 : Int32) (x2 : Int32) (x3 : Int32) : Option (cZ × (Nat → Int32)) := if x1 = 0 then (if (pv 2) = 0 then (some (z, upd pv 2 (x2 + ((16 : Int32) * x3)))) else (some (z, pv))) else (some (z, pv))
set_option maxHeartbeats 4000000 in
set_option maxRecDepth 100000 in
theorem cP_expect_met {l : Launch} {g : gT} {qq ad ea : Nat → Nat} {h : cH} {X : va_W} {qp : Nat} {pv pv' : Nat → Int32} {z z' : cZ} {x1 : Int32} {x2 : Int32} {x3 : Int32} (hf : fP_expect h z pv x1 x2 x3 = some (z', pv')) : cMet l yP_expect cP_expect 4 none rP_expect g qq ad ea h (pcell qp qq pv :: X) z [.ref qp, .int x1, .int x2, .int x3] (none) (pcell qp qq pv' :: X) z' := by
  refine c_entry (by decide) (Nat.le_of_ble_eq_true rfl) ?_
  intro p e s m args below meth c ls C hr hlk hnm hl hw
  have hrv : (none : Option Value) = none := rfl
  have C : mCx p m c cP_expect 4 s args g "MidiDesk$Parser" := C
  have hl : lv_has ls 4 [(0, .ref qp), (1, .int x1), (2, .int x2), (3, .int x3)] := hl
  unfold fP_expect at hf
  refine lv_iload_n C.1.1 C.1.2.1 dP_expect_0 rfl (lv_at hl 1 rfl) ?_
  refine lv_if_ne (tgt := 21) C.1.1 C.1.2.1 dP_expect_1 (by decide) (fun c1 => ?_) (fun c1 => ?_)
  · have hf := ts_f hf c1
    obtain ⟨hf, hpv⟩ := pr2 hf
    exact c_retv C hr hlk hrv hw hf (by rw [hpv]) ⟨Nat.le_of_ble_eq_true rfl, Nat.le_of_ble_eq_true rfl⟩ dP_expect_21
  · have hf := ts_t hf c1
    refine lv_aload_n C.1.1 C.1.2.1 dP_expect_4 rfl (lv_at hl 0 rfl) ?_
    refine cg_Parser_Parser_fault C hw dP_expect_5 ?_
    refine lv_if_ne (tgt := 21) C.1.1 C.1.2.1 dP_expect_8 (by decide) (fun c2 => ?_) (fun c2 => ?_)
    · have hf := ts_f hf c2
      obtain ⟨hf, hpv⟩ := pr2 hf
      exact c_retv C hr hlk hrv hw hf (by rw [hpv]) ⟨Nat.le_of_ble_eq_true rfl, Nat.le_of_ble_eq_true rfl⟩ dP_expect_21
    · have hf := ts_t hf c2
      refine lv_aload_n C.1.1 C.1.2.1 dP_expect_11 rfl (lv_at hl 0 rfl) ?_
      refine lv_iload_n C.1.1 C.1.2.1 dP_expect_12 rfl (lv_at hl 2 rfl) ?_
      refine lv_bipush (v := (16 : Int32)) C.1.1 C.1.2.1 dP_expect_13 (by decide) ?_
      refine lv_iload_n C.1.1 C.1.2.1 dP_expect_15 rfl (lv_at hl 3 rfl) ?_
      refine lv_imul C.1.1 C.1.2.1 dP_expect_16 ?_
      refine lv_iadd C.1.1 C.1.2.1 dP_expect_17 ?_
      refine cp_Parser_Parser_fault C hw dP_expect_18 (fun H locs hw => ?_)
      obtain ⟨hf, hpv⟩ := pr2 hf
      exact c_retv C hr hlk hrv hw hf (by rw [hpv]) ⟨Nat.le_of_ble_eq_true rfl, Nat.le_of_ble_eq_true rfl⟩ dP_expect_21
abbrev cP_fixed : ByteArray := prog_4_method_4_code
abbrev yP_fixed : MethodName := ⟨"MidiDesk$Parser", "fixed", "(I)J"⟩
theorem kP_fixed : yP_fixed.cls ≠ "java/lang/invoke/MethodHandle" ∧ yP_fixed.cls ≠ "java/lang/invoke/VarHandle" ∧ (parseMethodDescriptor yP_fixed.desc).map (fun d => d.parameters.length) = some 1 := by decide +kernel
abbrev rP_fixed : Room := { frames := 1, cells := 0, slots := 0, locals := 23 }
theorem dP_fixed_0 : decode cP_fixed 0 = .ok (.aload_n 0, 1) := by decide +kernel
theorem dP_fixed_1 : decode cP_fixed 1 = .ok (.iload_n 1, 1) := by decide +kernel
theorem dP_fixed_2 : decode cP_fixed 2 = .ok (.aload_n 0, 1) := by decide +kernel
theorem dP_fixed_3 : decode cP_fixed 3 = .ok (.getfield 30, 3) := by decide +kernel
theorem dP_fixed_6 : decode cP_fixed 6 = .ok (.aload_n 0, 1) := by decide +kernel
theorem dP_fixed_7 : decode cP_fixed 7 = .ok (.getfield 40, 3) := by decide +kernel
theorem dP_fixed_10 : decode cP_fixed 10 = .ok (.isub, 1) := by decide +kernel
theorem dP_fixed_11 : decode cP_fixed 11 = .ok (.if_icmp .gt 7, 3) := by decide +kernel
theorem dP_fixed_14 : decode cP_fixed 14 = .ok (.iconst 1, 1) := by decide +kernel
theorem dP_fixed_15 : decode cP_fixed 15 = .ok (.goto 4, 3) := by decide +kernel
theorem dP_fixed_18 : decode cP_fixed 18 = .ok (.iconst 0, 1) := by decide +kernel
theorem dP_fixed_19 : decode cP_fixed 19 = .ok (.iconst 1, 1) := by decide +kernel
theorem dP_fixed_20 : decode cP_fixed 20 = .ok (.aload_n 0, 1) := by decide +kernel
theorem dP_fixed_21 : decode cP_fixed 21 = .ok (.getfield 30, 3) := by decide +kernel
theorem dP_fixed_24 : decode cP_fixed 24 = .ok (.invokevirtual 56, 3) := by decide +kernel
theorem dP_fixed_27 : decode cP_fixed 27 = .ok (.aload_n 0, 1) := by decide +kernel
theorem dP_fixed_28 : decode cP_fixed 28 = .ok (.getfield 37, 3) := by decide +kernel
theorem dP_fixed_31 : decode cP_fixed 31 = .ok (.ifCond .eq 7, 3) := by decide +kernel
theorem dP_fixed_34 : decode cP_fixed 34 = .ok (.ldc2_w 67, 3) := by decide +kernel
theorem dP_fixed_37 : decode cP_fixed 37 = .ok (.lreturn, 1) := by decide +kernel
theorem dP_fixed_38 : decode cP_fixed 38 = .ok (.lconst 0, 1) := by decide +kernel
theorem dP_fixed_39 : decode cP_fixed 39 = .ok (.lstore_n 2, 1) := by decide +kernel
theorem dP_fixed_40 : decode cP_fixed 40 = .ok (.iconst 0, 1) := by decide +kernel
theorem dP_fixed_41 : decode cP_fixed 41 = .ok (.istore 4, 2) := by decide +kernel
theorem dP_fixed_43 : decode cP_fixed 43 = .ok (.iload 4, 2) := by decide +kernel
theorem dP_fixed_45 : decode cP_fixed 45 = .ok (.iload_n 1, 1) := by decide +kernel
theorem dP_fixed_46 : decode cP_fixed 46 = .ok (.if_icmp .ge 37, 3) := by decide +kernel
theorem dP_fixed_49 : decode cP_fixed 49 = .ok (.lload_n 2, 1) := by decide +kernel
theorem dP_fixed_50 : decode cP_fixed 50 = .ok (.bipush 8, 2) := by decide +kernel
theorem dP_fixed_52 : decode cP_fixed 52 = .ok (.lshl, 1) := by decide +kernel
theorem dP_fixed_53 : decode cP_fixed 53 = .ok (.aload_n 0, 1) := by decide +kernel
theorem dP_fixed_54 : decode cP_fixed 54 = .ok (.getfield 9, 3) := by decide +kernel
theorem dP_fixed_57 : decode cP_fixed 57 = .ok (.aload_n 0, 1) := by decide +kernel
theorem dP_fixed_58 : decode cP_fixed 58 = .ok (.getfield 40, 3) := by decide +kernel
theorem dP_fixed_61 : decode cP_fixed 61 = .ok (.invokevirtual 69, 3) := by decide +kernel
theorem dP_fixed_64 : decode cP_fixed 64 = .ok (.i2l, 1) := by decide +kernel
theorem dP_fixed_65 : decode cP_fixed 65 = .ok (.lor, 1) := by decide +kernel
theorem dP_fixed_66 : decode cP_fixed 66 = .ok (.lstore_n 2, 1) := by decide +kernel
theorem dP_fixed_67 : decode cP_fixed 67 = .ok (.aload_n 0, 1) := by decide +kernel
theorem dP_fixed_68 : decode cP_fixed 68 = .ok (.dup, 1) := by decide +kernel
theorem dP_fixed_69 : decode cP_fixed 69 = .ok (.getfield 40, 3) := by decide +kernel
theorem dP_fixed_72 : decode cP_fixed 72 = .ok (.iconst 1, 1) := by decide +kernel
theorem dP_fixed_73 : decode cP_fixed 73 = .ok (.iadd, 1) := by decide +kernel
theorem dP_fixed_74 : decode cP_fixed 74 = .ok (.putfield 40, 3) := by decide +kernel
theorem dP_fixed_77 : decode cP_fixed 77 = .ok (.iinc 4 1, 3) := by decide +kernel
theorem dP_fixed_80 : decode cP_fixed 80 = .ok (.goto (-37), 3) := by decide +kernel
theorem dP_fixed_83 : decode cP_fixed 83 = .ok (.lload_n 2, 1) := by decide +kernel
theorem dP_fixed_84 : decode cP_fixed 84 = .ok (.lreturn, 1) := by decide +kernel
def lP_fixed_43 (h : cH) : Nat → cZ → (Nat → Int32) → Int32 → Int64 → Int32 → Option (Int64 × cZ × (Nat → Int32))
  | 0 => fun _ _ _ _ _ => none
  | k + 1 => fun z pv x1 y2 x4 => if x1 ≤ x4 then (some (y2, z, pv)) else ((fB0_at h z (pv 0)).bind fun (r2, z2) => lP_fixed_43 h k z2 (upd pv 0 ((pv 0) + (1 : Int32))) x1 ((y2 <<< ((8 : Int32).toInt64 &&& 63)) ||| r2.toInt64) (x4 + 1))
def jP_fixed_19 (h : cH) (z : cZ) (pv : Nat → Int32) (x1 : Int32) (s1 : Int32) : Option (Int64 × cZ × (Nat → Int32)) := (fP_expect h z pv s1 (1 : Int32) (pv 1)).bind fun (z1, pv1) => if (pv1 2) = 0 then (lP_fixed_43 h FU z1 pv1 x1 (0 : Int64) (0 : Int32)) else (some ((-1 : Int64), z1, pv1))
def fP_fixed (h : cH) (z : cZ) (pv : Nat → Int32) (x1 : Int32) : Option (Int64 × cZ × (Nat → Int32)) := if ((pv 1) - (pv 0)) < x1 then (jP_fixed_19 h z pv x1 (0 : Int32)) else (jP_fixed_19 h z pv x1 (1 : Int32))
set_option maxHeartbeats 4000000 in
set_option maxRecDepth 100000 in
theorem wP_fixed_43 {p : Program} {l : Launch} {e : Env} {s : State} {m : MethodId} {args : Array Value} {below : List Frame} {meth : Method} {c : Code} {g : gT} {qq ad ea : Nat → Nat} {h : cH} {X : va_W} {rv : Option Value} {qp : Nat} {pv0 pv' : Nat → Int32} {z' : cZ} {r' : Int64} (C : mCx p m c cP_fixed 5 s args g "MidiDesk$Parser") (hr : meth.sig.returnType = (some .long)) (hlk : meth.locks = false) (hrv : rv = some (.long r')) (k : Nat) : ∀ (z : cZ) (pv : Nat → Int32) (x1 : Int32) (y2 : Int64) (x4 : Int32) (H : Heap) (locs : List Loc) (ls : Array Slot), lv_has ls 5 [(0, .ref qp), (1, .int x1), (2, .long y2), (4, .int x4)] → cWd g (cA g qq ad ea h (pcell qp qq pv0 :: X) s.heap.size) s.heap qq ad ea h (pcell qp qq pv :: X) z H locs → lP_fixed_43 h k z pv x1 y2 x4 = some (r', z', pv') → cG p l e rP_fixed s m args below meth c g qq ad ea h (pcell qp qq pv0 :: X) rv (pcell qp qq pv' :: X) z' H locs 0 0 (F0 m 43 ls []) := by
  induction k with
  | zero => intro z pv x1 y2 x4 H locs ls hl hw hf; cases hf
  | succ k ih =>
    intro z pv x1 y2 x4 H locs ls hl hw hf
    have hf : (if x1 ≤ x4 then (some (y2, z, pv)) else ((fB0_at h z (pv 0)).bind fun (r2, z2) => lP_fixed_43 h k z2 (upd pv 0 ((pv 0) + (1 : Int32))) x1 ((y2 <<< ((8 : Int32).toInt64 &&& 63)) ||| r2.toInt64) (x4 + 1))) = some (r', z', pv') := hf
    refine lv_iload C.1.1 C.1.2.1 dP_fixed_43 (lv_at hl 3 rfl) ?_
    refine lv_iload_n C.1.1 C.1.2.1 dP_fixed_45 rfl (lv_at hl 1 rfl) ?_
    refine lv_icmp_ge (tgt := 83) C.1.1 C.1.2.1 dP_fixed_46 (by decide) (fun c1 => ?_) (fun c1 => ?_)
    · have hf := ts_t hf c1
      refine lv_lload_n C.1.1 C.1.2.1 dP_fixed_83 rfl (lv_at hl 2 rfl) ?_
      obtain ⟨hf, hpv⟩ := pr3 hf
      exact c_retl C hr hlk hrv hw hf (by rw [hpv]) ⟨Nat.le_of_ble_eq_true rfl, Nat.le_of_ble_eq_true rfl⟩ dP_fixed_84
    · have hf := ts_f hf c1
      refine lv_lload_n C.1.1 C.1.2.1 dP_fixed_49 rfl (lv_at hl 2 rfl) ?_
      refine lv_bipush (v := (8 : Int32)) C.1.1 C.1.2.1 dP_fixed_50 (by decide) ?_
      refine lv_lshl C.1.1 C.1.2.1 dP_fixed_52 rfl ?_
      refine lv_aload_n C.1.1 C.1.2.1 dP_fixed_53 rfl (lv_at hl 0 rfl) ?_
      refine cg_Parser_Parser_input C hw dP_fixed_54 ?_
      refine lv_aload_n C.1.1 C.1.2.1 dP_fixed_57 rfl (lv_at hl 0 rfl) ?_
      refine cg_Parser_Parser_pos C hw dP_fixed_58 ?_
      obtain ⟨⟨r2, z2⟩, g2, hf⟩ := ts_b hf
      try dsimp only at hf
      refine c_callV (rest := [.long (y2 <<< ((8 : Int32).toInt64 &&& 63))]) (As := [.int (pv 0)]) (rv := (some (.int r2))) (b := (qq 1)) C hl.1 hw (cB0_at_met g2) rfl (callW_of (rm := rB0_at) (C := "MidiDesk$Bytes") 1 C.1.2.2.2.2 gw_255 gw_256 gw_257 gw_53 gw_258 kB0_at ⟨Nat.le_of_ble_eq_true rfl, Nat.le_of_ble_eq_true rfl⟩) (c_recv_B0 C.2 hw) rfl rfl (Nat.le_of_ble_eq_true rfl) dP_fixed_61 ⟨Nat.le_of_ble_eq_true rfl, Nat.le_of_ble_eq_true rfl⟩ (fun H locs hw => ?_)
      refine W.eq (g2 := F0 m 64 ls [.int r2, .long (y2 <<< ((8 : Int32).toInt64 &&& 63))]) rfl ?_
      refine lv_i2l C.1.1 C.1.2.1 dP_fixed_64 rfl ?_
      refine lv_lor C.1.1 C.1.2.1 dP_fixed_65 ?_
      refine lv_lstore_n (lv' := [(2, .long ((y2 <<< ((8 : Int32).toInt64 &&& 63)) ||| r2.toInt64)), (0, .ref qp), (1, .int x1), (4, .int x4)]) C.1.1 C.1.2.1 dP_fixed_66 rfl hl (by decide) rfl (fun ls hl => ?_)
      refine lv_aload_n C.1.1 C.1.2.1 dP_fixed_67 rfl (lv_at hl 1 rfl) ?_
      refine lv_dup C.1.1 C.1.2.1 dP_fixed_68 rfl ?_
      refine cg_Parser_Parser_pos C hw dP_fixed_69 ?_
      refine lv_iconst (v := (1 : Int32)) C.1.1 C.1.2.1 dP_fixed_72 (by decide) ?_
      refine lv_iadd C.1.1 C.1.2.1 dP_fixed_73 ?_
      refine cp_Parser_Parser_pos C hw dP_fixed_74 (fun H locs hw => ?_)
      refine lv_iinc (v := x4 + 1) (lv' := [(4, .int (x4 + 1)), (2, .long ((y2 <<< ((8 : Int32).toInt64 &&& 63)) ||| r2.toInt64)), (0, .ref qp), (1, .int x1)]) C.1.1 C.1.2.1 dP_fixed_77 hl (k := 3) rfl rfl (by decide) rfl (fun ls hl => ?_)
      refine lv_goto (tgt := 43) C.1.1 C.1.2.1 dP_fixed_80 (by decide) ?_
      exact ih z2 (upd pv 0 ((pv 0) + (1 : Int32))) x1 ((y2 <<< ((8 : Int32).toInt64 &&& 63)) ||| r2.toInt64) (x4 + 1) _ _ ls (lv_sub hl [2, 3, 1, 0] rfl) hw hf
set_option maxHeartbeats 4000000 in
set_option maxRecDepth 100000 in
theorem wP_fixed_19 {p : Program} {l : Launch} {e : Env} {s : State} {m : MethodId} {args : Array Value} {below : List Frame} {meth : Method} {c : Code} {g : gT} {qq ad ea : Nat → Nat} {h : cH} {X : va_W} {rv : Option Value} {qp : Nat} {pv0 pv' : Nat → Int32} {z' : cZ} {r' : Int64} (C : mCx p m c cP_fixed 5 s args g "MidiDesk$Parser") (hr : meth.sig.returnType = (some .long)) (hlk : meth.locks = false) (hrv : rv = some (.long r')) (z : cZ) (pv : Nat → Int32) (x1 : Int32) (s1 : Int32) (H : Heap) (locs : List Loc) (ls : Array Slot) (hl : lv_has ls 5 [(0, .ref qp), (1, .int x1)]) (hw : cWd g (cA g qq ad ea h (pcell qp qq pv0 :: X) s.heap.size) s.heap qq ad ea h (pcell qp qq pv :: X) z H locs) (hf : jP_fixed_19 h z pv x1 s1 = some (r', z', pv')) : cG p l e rP_fixed s m args below meth c g qq ad ea h (pcell qp qq pv0 :: X) rv (pcell qp qq pv' :: X) z' H locs 0 0 (F0 m 19 ls [.int s1, .ref qp]) := by
  unfold jP_fixed_19 at hf
  refine lv_iconst (v := (1 : Int32)) C.1.1 C.1.2.1 dP_fixed_19 (by decide) ?_
  refine lv_aload_n C.1.1 C.1.2.1 dP_fixed_20 rfl (lv_at hl 0 rfl) ?_
  refine cg_Parser_Parser_end C hw dP_fixed_21 ?_
  obtain ⟨⟨z1, pv1⟩, g1, hf⟩ := ts_b hf
  try dsimp only at hf
  refine c_callV (rest := []) (As := [.int s1, .int (1 : Int32), .int (pv 1)]) (rv := none) (b := qp) C hl.1 hw (cP_expect_met g1) rfl (callW_of (rm := rP_expect) (C := "MidiDesk$Parser") 3 C.1.2.2.2.2 gw_250 gw_252 gw_2 gw_59 gw_253 kP_expect ⟨Nat.le_of_ble_eq_true rfl, Nat.le_of_ble_eq_true rfl⟩) (c_recvX (ci := 2) C.2 rfl hw) rfl rfl (Nat.le_of_ble_eq_true rfl) dP_fixed_24 ⟨Nat.le_of_ble_eq_true rfl, Nat.le_of_ble_eq_true rfl⟩ (fun H locs hw => ?_)
  refine W.eq (g2 := F0 m 27 ls []) rfl ?_
  refine lv_aload_n C.1.1 C.1.2.1 dP_fixed_27 rfl (lv_at hl 0 rfl) ?_
  refine cg_Parser_Parser_fault C hw dP_fixed_28 ?_
  refine lv_if_eq (tgt := 38) C.1.1 C.1.2.1 dP_fixed_31 (by decide) (fun c2 => ?_) (fun c2 => ?_)
  · have hf := ts_t hf c2
    refine lv_lconst (v := 0) C.1.1 C.1.2.1 dP_fixed_38 (by decide) ?_
    refine lv_lstore_n (lv' := [(2, .long (0 : Int64)), (0, .ref qp), (1, .int x1)]) C.1.1 C.1.2.1 dP_fixed_39 rfl hl (by decide) rfl (fun ls hl => ?_)
    refine lv_iconst (v := (0 : Int32)) C.1.1 C.1.2.1 dP_fixed_40 (by decide) ?_
    refine lv_istore (lv' := [(4, .int (0 : Int32)), (2, .long (0 : Int64)), (0, .ref qp), (1, .int x1)]) C.1.1 C.1.2.1 dP_fixed_41 hl (by decide) rfl (fun ls hl => ?_)
    exact wP_fixed_43 C hr hlk hrv FU z1 pv1 x1 (0 : Int64) (0 : Int32) _ _ ls (lv_sub hl [2, 3, 1, 0] rfl) hw hf
  · have hf := ts_f hf c2
    refine lv_ldc2 C.1.1 C.1.2.1 C.1.2.2.2.1 (C.1.2.2.2.2 _ gw_254) dP_fixed_34 ?_
    obtain ⟨hf, hpv⟩ := pr3 hf
    exact c_retl C hr hlk hrv hw hf (by rw [hpv]) ⟨Nat.le_of_ble_eq_true rfl, Nat.le_of_ble_eq_true rfl⟩ dP_fixed_37
set_option maxHeartbeats 4000000 in
set_option maxRecDepth 100000 in
theorem cP_fixed_met {l : Launch} {g : gT} {qq ad ea : Nat → Nat} {h : cH} {X : va_W} {qp : Nat} {pv pv' : Nat → Int32} {z z' : cZ} {x1 : Int32} {r' : Int64} (hf : fP_fixed h z pv x1 = some (r', z', pv')) : cMet l yP_fixed cP_fixed 5 (some .long) rP_fixed g qq ad ea h (pcell qp qq pv :: X) z [.ref qp, .int x1] (some (.long r')) (pcell qp qq pv' :: X) z' := by
  refine c_entry (by decide) (Nat.le_of_ble_eq_true rfl) ?_
  intro p e s m args below meth c ls C hr hlk hnm hl hw
  have hrv : (some (.long r') : Option Value) = some (.long r') := rfl
  have C : mCx p m c cP_fixed 5 s args g "MidiDesk$Parser" := C
  have hl : lv_has ls 5 [(0, .ref qp), (1, .int x1)] := hl
  unfold fP_fixed at hf
  refine lv_aload_n C.1.1 C.1.2.1 dP_fixed_0 rfl (lv_at hl 0 rfl) ?_
  refine lv_iload_n C.1.1 C.1.2.1 dP_fixed_1 rfl (lv_at hl 1 rfl) ?_
  refine lv_aload_n C.1.1 C.1.2.1 dP_fixed_2 rfl (lv_at hl 0 rfl) ?_
  refine cg_Parser_Parser_end C hw dP_fixed_3 ?_
  refine lv_aload_n C.1.1 C.1.2.1 dP_fixed_6 rfl (lv_at hl 0 rfl) ?_
  refine cg_Parser_Parser_pos C hw dP_fixed_7 ?_
  refine lv_isub C.1.1 C.1.2.1 dP_fixed_10 ?_
  refine lv_icmp_gt (tgt := 18) C.1.1 C.1.2.1 dP_fixed_11 (by decide) (fun c1 => ?_) (fun c1 => ?_)
  · have hf := ts_t hf c1
    refine lv_iconst (v := (0 : Int32)) C.1.1 C.1.2.1 dP_fixed_18 (by decide) ?_
    exact wP_fixed_19 C hr hlk hrv z pv x1 (0 : Int32) _ _ ls (lv_sub hl [0, 1] rfl) hw hf
  · have hf := ts_f hf c1
    refine lv_iconst (v := (1 : Int32)) C.1.1 C.1.2.1 dP_fixed_14 (by decide) ?_
    refine lv_goto (tgt := 19) C.1.1 C.1.2.1 dP_fixed_15 (by decide) ?_
    exact wP_fixed_19 C hr hlk hrv z pv x1 (1 : Int32) _ _ ls (lv_sub hl [0, 1] rfl) hw hf
end
section
abbrev cP_number : ByteArray := prog_4_method_5_code
abbrev yP_number : MethodName := ⟨"MidiDesk$Parser", "number", "()I"⟩
theorem kP_number : yP_number.cls ≠ "java/lang/invoke/MethodHandle" ∧ yP_number.cls ≠ "java/lang/invoke/VarHandle" ∧ (parseMethodDescriptor yP_number.desc).map (fun d => d.parameters.length) = some 0 := by decide +kernel
abbrev rP_number : Room := { frames := 2, cells := 0, slots := 0, locals := 47 }
theorem dP_number_0 : decode cP_number 0 = .ok (.aload_n 0, 1) := by decide +kernel
theorem dP_number_1 : decode cP_number 1 = .ok (.getfield 40, 3) := by decide +kernel
theorem dP_number_4 : decode cP_number 4 = .ok (.istore_n 1, 1) := by decide +kernel
theorem dP_number_5 : decode cP_number 5 = .ok (.iconst 0, 1) := by decide +kernel
theorem dP_number_6 : decode cP_number 6 = .ok (.istore_n 2, 1) := by decide +kernel
theorem dP_number_7 : decode cP_number 7 = .ok (.iconst 0, 1) := by decide +kernel
theorem dP_number_8 : decode cP_number 8 = .ok (.istore_n 3, 1) := by decide +kernel
theorem dP_number_9 : decode cP_number 9 = .ok (.iload_n 3, 1) := by decide +kernel
theorem dP_number_10 : decode cP_number 10 = .ok (.iconst 4, 1) := by decide +kernel
theorem dP_number_11 : decode cP_number 11 = .ok (.if_icmp .ge 47, 3) := by decide +kernel
theorem dP_number_14 : decode cP_number 14 = .ok (.aload_n 0, 1) := by decide +kernel
theorem dP_number_15 : decode cP_number 15 = .ok (.iconst 1, 1) := by decide +kernel
theorem dP_number_16 : decode cP_number 16 = .ok (.invokevirtual 73, 3) := by decide +kernel
theorem dP_number_19 : decode cP_number 19 = .ok (.l2i, 1) := by decide +kernel
theorem dP_number_20 : decode cP_number 20 = .ok (.istore 4, 2) := by decide +kernel
theorem dP_number_22 : decode cP_number 22 = .ok (.aload_n 0, 1) := by decide +kernel
theorem dP_number_23 : decode cP_number 23 = .ok (.getfield 37, 3) := by decide +kernel
theorem dP_number_26 : decode cP_number 26 = .ok (.ifCond .eq 5, 3) := by decide +kernel
theorem dP_number_29 : decode cP_number 29 = .ok (.iconst 0, 1) := by decide +kernel
theorem dP_number_30 : decode cP_number 30 = .ok (.ireturn, 1) := by decide +kernel
theorem dP_number_31 : decode cP_number 31 = .ok (.iload_n 2, 1) := by decide +kernel
theorem dP_number_32 : decode cP_number 32 = .ok (.bipush 7, 2) := by decide +kernel
theorem dP_number_34 : decode cP_number 34 = .ok (.ishl, 1) := by decide +kernel
theorem dP_number_35 : decode cP_number 35 = .ok (.iload 4, 2) := by decide +kernel
theorem dP_number_37 : decode cP_number 37 = .ok (.bipush 127, 2) := by decide +kernel
theorem dP_number_39 : decode cP_number 39 = .ok (.iand, 1) := by decide +kernel
theorem dP_number_40 : decode cP_number 40 = .ok (.ior, 1) := by decide +kernel
theorem dP_number_41 : decode cP_number 41 = .ok (.istore_n 2, 1) := by decide +kernel
theorem dP_number_42 : decode cP_number 42 = .ok (.iload 4, 2) := by decide +kernel
theorem dP_number_44 : decode cP_number 44 = .ok (.sipush 128, 3) := by decide +kernel
theorem dP_number_47 : decode cP_number 47 = .ok (.if_icmp .ge 5, 3) := by decide +kernel
theorem dP_number_50 : decode cP_number 50 = .ok (.iload_n 2, 1) := by decide +kernel
theorem dP_number_51 : decode cP_number 51 = .ok (.ireturn, 1) := by decide +kernel
theorem dP_number_52 : decode cP_number 52 = .ok (.iinc 3 1, 3) := by decide +kernel
theorem dP_number_55 : decode cP_number 55 = .ok (.goto (-46), 3) := by decide +kernel
theorem dP_number_58 : decode cP_number 58 = .ok (.aload_n 0, 1) := by decide +kernel
theorem dP_number_59 : decode cP_number 59 = .ok (.iconst 0, 1) := by decide +kernel
theorem dP_number_60 : decode cP_number 60 = .ok (.iconst 4, 1) := by decide +kernel
theorem dP_number_61 : decode cP_number 61 = .ok (.iload_n 1, 1) := by decide +kernel
theorem dP_number_62 : decode cP_number 62 = .ok (.invokevirtual 56, 3) := by decide +kernel
theorem dP_number_65 : decode cP_number 65 = .ok (.iconst 0, 1) := by decide +kernel
theorem dP_number_66 : decode cP_number 66 = .ok (.ireturn, 1) := by decide +kernel
def lP_number_9 (h : cH) : Nat → cZ → (Nat → Int32) → Int32 → Int32 → Int32 → Option (Int32 × cZ × (Nat → Int32))
  | 0 => fun _ _ _ _ _ => none
  | k + 1 => fun z pv x1 x2 x3 => if (4 : Int32) ≤ x3 then ((fP_expect h z pv (0 : Int32) (4 : Int32) x1).bind fun (z2, pv2) => some ((0 : Int32), z2, pv2)) else ((fP_fixed h z pv (1 : Int32)).bind fun (r3, z3, pv3) => if (pv3 2) = 0 then (if (128 : Int32) ≤ r3.toInt32 then (lP_number_9 h k z3 pv3 x1 ((x2 <<< ((7 : Int32) &&& 31)) ||| (r3.toInt32 &&& (127 : Int32))) (x3 + 1)) else (some ((x2 <<< ((7 : Int32) &&& 31)) ||| (r3.toInt32 &&& (127 : Int32)), z3, pv3))) else (some ((0 : Int32), z3, pv3)))
def fP_number (h : cH) (z : cZ) (pv : Nat → Int32) : Option (Int32 × cZ × (Nat → Int32)) := lP_number_9 h FU z pv (pv 0) (0 : Int32) (0 : Int32)
set_option maxHeartbeats 4000000 in
set_option maxRecDepth 100000 in
theorem wP_number_9 {p : Program} {l : Launch} {e : Env} {s : State} {m : MethodId} {args : Array Value} {below : List Frame} {meth : Method} {c : Code} {g : gT} {qq ad ea : Nat → Nat} {h : cH} {X : va_W} {rv : Option Value} {qp : Nat} {pv0 pv' : Nat → Int32} {z' : cZ} {r' : Int32} (C : mCx p m c cP_number 5 s args g "MidiDesk$Parser") (hr : meth.sig.returnType = (some .int)) (hlk : meth.locks = false) (hrv : rv = some (.int r')) (k : Nat) : ∀ (z : cZ) (pv : Nat → Int32) (x1 : Int32) (x2 : Int32) (x3 : Int32) (H : Heap) (locs : List Loc) (ls : Array Slot), lv_has ls 5 [(0, .ref qp), (1, .int x1), (2, .int x2), (3, .int x3)] → cWd g (cA g qq ad ea h (pcell qp qq pv0 :: X) s.heap.size) s.heap qq ad ea h (pcell qp qq pv :: X) z H locs → lP_number_9 h k z pv x1 x2 x3 = some (r', z', pv') → cG p l e rP_number s m args below meth c g qq ad ea h (pcell qp qq pv0 :: X) rv (pcell qp qq pv' :: X) z' H locs 0 0 (F0 m 9 ls []) := by
  induction k with
  | zero => intro z pv x1 x2 x3 H locs ls hl hw hf; cases hf
  | succ k ih =>
    intro z pv x1 x2 x3 H locs ls hl hw hf
    have hf : (if (4 : Int32) ≤ x3 then ((fP_expect h z pv (0 : Int32) (4 : Int32) x1).bind fun (z2, pv2) => some ((0 : Int32), z2, pv2)) else ((fP_fixed h z pv (1 : Int32)).bind fun (r3, z3, pv3) => if (pv3 2) = 0 then (if (128 : Int32) ≤ r3.toInt32 then (lP_number_9 h k z3 pv3 x1 ((x2 <<< ((7 : Int32) &&& 31)) ||| (r3.toInt32 &&& (127 : Int32))) (x3 + 1)) else (some ((x2 <<< ((7 : Int32) &&& 31)) ||| (r3.toInt32 &&& (127 : Int32)), z3, pv3))) else (some ((0 : Int32), z3, pv3)))) = some (r', z', pv') := hf
    refine lv_iload_n C.1.1 C.1.2.1 dP_number_9 rfl (lv_at hl 3 rfl) ?_
    refine lv_iconst (v := (4 : Int32)) C.1.1 C.1.2.1 dP_number_10 (by decide) ?_
    refine lv_icmp_ge (tgt := 58) C.1.1 C.1.2.1 dP_number_11 (by decide) (fun c1 => ?_) (fun c1 => ?_)
    · have hf := ts_t hf c1
      refine lv_aload_n C.1.1 C.1.2.1 dP_number_58 rfl (lv_at hl 0 rfl) ?_
      refine lv_iconst (v := (0 : Int32)) C.1.1 C.1.2.1 dP_number_59 (by decide) ?_
      refine lv_iconst (v := (4 : Int32)) C.1.1 C.1.2.1 dP_number_60 (by decide) ?_
      refine lv_iload_n C.1.1 C.1.2.1 dP_number_61 rfl (lv_at hl 1 rfl) ?_
      obtain ⟨⟨z2, pv2⟩, g2, hf⟩ := ts_b hf
      try dsimp only at hf
      refine c_callV (rest := []) (As := [.int (0 : Int32), .int (4 : Int32), .int x1]) (rv := none) (b := qp) C hl.1 hw (cP_expect_met g2) rfl (callW_of (rm := rP_expect) (C := "MidiDesk$Parser") 3 C.1.2.2.2.2 gw_250 gw_252 gw_2 gw_59 gw_253 kP_expect ⟨Nat.le_of_ble_eq_true rfl, Nat.le_of_ble_eq_true rfl⟩) (c_recvX (ci := 2) C.2 rfl hw) rfl rfl (Nat.le_of_ble_eq_true rfl) dP_number_62 ⟨Nat.le_of_ble_eq_true rfl, Nat.le_of_ble_eq_true rfl⟩ (fun H locs hw => ?_)
      refine W.eq (g2 := F0 m 65 ls []) rfl ?_
      refine lv_iconst (v := (0 : Int32)) C.1.1 C.1.2.1 dP_number_65 (by decide) ?_
      obtain ⟨hf, hpv⟩ := pr3 hf
      exact c_reti C hr hlk hrv hw hf (by rw [hpv]) ⟨Nat.le_of_ble_eq_true rfl, Nat.le_of_ble_eq_true rfl⟩ dP_number_66
    · have hf := ts_f hf c1
      refine lv_aload_n C.1.1 C.1.2.1 dP_number_14 rfl (lv_at hl 0 rfl) ?_
      refine lv_iconst (v := (1 : Int32)) C.1.1 C.1.2.1 dP_number_15 (by decide) ?_
      obtain ⟨⟨r3, z3, pv3⟩, g3, hf⟩ := ts_b hf
      try dsimp only at hf
      refine c_callV (rest := []) (As := [.int (1 : Int32)]) (rv := (some (.long r3))) (b := qp) C hl.1 hw (cP_fixed_met g3) rfl (callW_of (rm := rP_fixed) (C := "MidiDesk$Parser") 1 C.1.2.2.2.2 gw_246 gw_248 gw_1 gw_59 gw_249 kP_fixed ⟨Nat.le_of_ble_eq_true rfl, Nat.le_of_ble_eq_true rfl⟩) (c_recvX (ci := 2) C.2 rfl hw) rfl rfl (Nat.le_of_ble_eq_true rfl) dP_number_16 ⟨Nat.le_of_ble_eq_true rfl, Nat.le_of_ble_eq_true rfl⟩ (fun H locs hw => ?_)
      refine W.eq (g2 := F0 m 19 ls [.long r3]) rfl ?_
      refine lv_l2i C.1.1 C.1.2.1 dP_number_19 rfl ?_
      refine lv_istore (lv' := [(4, .int r3.toInt32), (0, .ref qp), (1, .int x1), (2, .int x2), (3, .int x3)]) C.1.1 C.1.2.1 dP_number_20 hl (by decide) rfl (fun ls hl => ?_)
      refine lv_aload_n C.1.1 C.1.2.1 dP_number_22 rfl (lv_at hl 1 rfl) ?_
      refine cg_Parser_Parser_fault C hw dP_number_23 ?_
      refine lv_if_eq (tgt := 31) C.1.1 C.1.2.1 dP_number_26 (by decide) (fun c4 => ?_) (fun c4 => ?_)
      · have hf := ts_t hf c4
        refine lv_iload_n C.1.1 C.1.2.1 dP_number_31 rfl (lv_at hl 3 rfl) ?_
        refine lv_bipush (v := (7 : Int32)) C.1.1 C.1.2.1 dP_number_32 (by decide) ?_
        refine lv_ishl C.1.1 C.1.2.1 dP_number_34 ?_
        refine lv_iload C.1.1 C.1.2.1 dP_number_35 (lv_at hl 0 rfl) ?_
        refine lv_bipush (v := (127 : Int32)) C.1.1 C.1.2.1 dP_number_37 (by decide) ?_
        refine lv_iand C.1.1 C.1.2.1 dP_number_39 ?_
        refine lv_ior C.1.1 C.1.2.1 dP_number_40 ?_
        refine lv_istore_n (lv' := [(2, .int ((x2 <<< ((7 : Int32) &&& 31)) ||| (r3.toInt32 &&& (127 : Int32)))), (4, .int r3.toInt32), (0, .ref qp), (1, .int x1), (3, .int x3)]) C.1.1 C.1.2.1 dP_number_41 rfl hl (by decide) rfl (fun ls hl => ?_)
        refine lv_iload C.1.1 C.1.2.1 dP_number_42 (lv_at hl 1 rfl) ?_
        refine lv_sipush (v := (128 : Int32)) C.1.1 C.1.2.1 dP_number_44 (by decide) ?_
        refine lv_icmp_ge (tgt := 52) C.1.1 C.1.2.1 dP_number_47 (by decide) (fun c5 => ?_) (fun c5 => ?_)
        · have hf := ts_t hf c5
          refine lv_iinc (v := x3 + 1) (lv' := [(3, .int (x3 + 1)), (2, .int ((x2 <<< ((7 : Int32) &&& 31)) ||| (r3.toInt32 &&& (127 : Int32)))), (4, .int r3.toInt32), (0, .ref qp), (1, .int x1)]) C.1.1 C.1.2.1 dP_number_52 hl (k := 4) rfl rfl (by decide) rfl (fun ls hl => ?_)
          refine lv_goto (tgt := 9) C.1.1 C.1.2.1 dP_number_55 (by decide) ?_
          exact ih z3 pv3 x1 ((x2 <<< ((7 : Int32) &&& 31)) ||| (r3.toInt32 &&& (127 : Int32))) (x3 + 1) _ _ ls (lv_sub hl [3, 4, 1, 0] rfl) hw hf
        · have hf := ts_f hf c5
          refine lv_iload_n C.1.1 C.1.2.1 dP_number_50 rfl (lv_at hl 0 rfl) ?_
          obtain ⟨hf, hpv⟩ := pr3 hf
          exact c_reti C hr hlk hrv hw hf (by rw [hpv]) ⟨Nat.le_of_ble_eq_true rfl, Nat.le_of_ble_eq_true rfl⟩ dP_number_51
      · have hf := ts_f hf c4
        refine lv_iconst (v := (0 : Int32)) C.1.1 C.1.2.1 dP_number_29 (by decide) ?_
        obtain ⟨hf, hpv⟩ := pr3 hf
        exact c_reti C hr hlk hrv hw hf (by rw [hpv]) ⟨Nat.le_of_ble_eq_true rfl, Nat.le_of_ble_eq_true rfl⟩ dP_number_30
set_option maxHeartbeats 4000000 in
set_option maxRecDepth 100000 in
theorem cP_number_met {l : Launch} {g : gT} {qq ad ea : Nat → Nat} {h : cH} {X : va_W} {qp : Nat} {pv pv' : Nat → Int32} {z z' : cZ} {r' : Int32} (hf : fP_number h z pv = some (r', z', pv')) : cMet l yP_number cP_number 5 (some .int) rP_number g qq ad ea h (pcell qp qq pv :: X) z [.ref qp] (some (.int r')) (pcell qp qq pv' :: X) z' := by
  refine c_entry (by decide) (Nat.le_of_ble_eq_true rfl) ?_
  intro p e s m args below meth c ls C hr hlk hnm hl hw
  have hrv : (some (.int r') : Option Value) = some (.int r') := rfl
  have C : mCx p m c cP_number 5 s args g "MidiDesk$Parser" := C
  have hl : lv_has ls 5 [(0, .ref qp)] := hl
  unfold fP_number at hf
  refine lv_aload_n C.1.1 C.1.2.1 dP_number_0 rfl (lv_at hl 0 rfl) ?_
  refine cg_Parser_Parser_pos C hw dP_number_1 ?_
  refine lv_istore_n (lv' := [(1, .int (pv 0)), (0, .ref qp)]) C.1.1 C.1.2.1 dP_number_4 rfl hl (by decide) rfl (fun ls hl => ?_)
  refine lv_iconst (v := (0 : Int32)) C.1.1 C.1.2.1 dP_number_5 (by decide) ?_
  refine lv_istore_n (lv' := [(2, .int (0 : Int32)), (1, .int (pv 0)), (0, .ref qp)]) C.1.1 C.1.2.1 dP_number_6 rfl hl (by decide) rfl (fun ls hl => ?_)
  refine lv_iconst (v := (0 : Int32)) C.1.1 C.1.2.1 dP_number_7 (by decide) ?_
  refine lv_istore_n (lv' := [(3, .int (0 : Int32)), (2, .int (0 : Int32)), (1, .int (pv 0)), (0, .ref qp)]) C.1.1 C.1.2.1 dP_number_8 rfl hl (by decide) rfl (fun ls hl => ?_)
  exact wP_number_9 C hr hlk hrv FU z pv (pv 0) (0 : Int32) (0 : Int32) _ _ ls (lv_sub hl [3, 2, 1, 0] rfl) hw hf
abbrev cP_lowByte : ByteArray := prog_4_method_6_code
abbrev yP_lowByte : MethodName := ⟨"MidiDesk$Parser", "lowByte", "()I"⟩
theorem kP_lowByte : yP_lowByte.cls ≠ "java/lang/invoke/MethodHandle" ∧ yP_lowByte.cls ≠ "java/lang/invoke/VarHandle" ∧ (parseMethodDescriptor yP_lowByte.desc).map (fun d => d.parameters.length) = some 0 := by decide +kernel
abbrev rP_lowByte : Room := { frames := 2, cells := 0, slots := 0, locals := 47 }
theorem dP_lowByte_0 : decode cP_lowByte 0 = .ok (.aload_n 0, 1) := by decide +kernel
theorem dP_lowByte_1 : decode cP_lowByte 1 = .ok (.getfield 40, 3) := by decide +kernel
theorem dP_lowByte_4 : decode cP_lowByte 4 = .ok (.istore_n 1, 1) := by decide +kernel
theorem dP_lowByte_5 : decode cP_lowByte 5 = .ok (.aload_n 0, 1) := by decide +kernel
theorem dP_lowByte_6 : decode cP_lowByte 6 = .ok (.iconst 1, 1) := by decide +kernel
theorem dP_lowByte_7 : decode cP_lowByte 7 = .ok (.invokevirtual 73, 3) := by decide +kernel
theorem dP_lowByte_10 : decode cP_lowByte 10 = .ok (.l2i, 1) := by decide +kernel
theorem dP_lowByte_11 : decode cP_lowByte 11 = .ok (.istore_n 2, 1) := by decide +kernel
theorem dP_lowByte_12 : decode cP_lowByte 12 = .ok (.aload_n 0, 1) := by decide +kernel
theorem dP_lowByte_13 : decode cP_lowByte 13 = .ok (.iload_n 2, 1) := by decide +kernel
theorem dP_lowByte_14 : decode cP_lowByte 14 = .ok (.sipush 128, 3) := by decide +kernel
theorem dP_lowByte_17 : decode cP_lowByte 17 = .ok (.if_icmp .ge 7, 3) := by decide +kernel
theorem dP_lowByte_20 : decode cP_lowByte 20 = .ok (.iconst 1, 1) := by decide +kernel
theorem dP_lowByte_21 : decode cP_lowByte 21 = .ok (.goto 4, 3) := by decide +kernel
theorem dP_lowByte_24 : decode cP_lowByte 24 = .ok (.iconst 0, 1) := by decide +kernel
theorem dP_lowByte_25 : decode cP_lowByte 25 = .ok (.bipush 6, 2) := by decide +kernel
theorem dP_lowByte_27 : decode cP_lowByte 27 = .ok (.iload_n 1, 1) := by decide +kernel
theorem dP_lowByte_28 : decode cP_lowByte 28 = .ok (.invokevirtual 56, 3) := by decide +kernel
theorem dP_lowByte_31 : decode cP_lowByte 31 = .ok (.iload_n 2, 1) := by decide +kernel
theorem dP_lowByte_32 : decode cP_lowByte 32 = .ok (.ireturn, 1) := by decide +kernel
def jP_lowByte_25 (h : cH) (z : cZ) (pv : Nat → Int32) (x1 : Int32) (x2 : Int32) (s1 : Int32) : Option (Int32 × cZ × (Nat → Int32)) := (fP_expect h z pv s1 (6 : Int32) x1).bind fun (z1, pv1) => some (x2, z1, pv1)
def fP_lowByte (h : cH) (z : cZ) (pv : Nat → Int32) : Option (Int32 × cZ × (Nat → Int32)) := (fP_fixed h z pv (1 : Int32)).bind fun (r1, z1, pv1) => if (128 : Int32) ≤ r1.toInt32 then (jP_lowByte_25 h z1 pv1 (pv 0) r1.toInt32 (0 : Int32)) else (jP_lowByte_25 h z1 pv1 (pv 0) r1.toInt32 (1 : Int32))
set_option maxHeartbeats 4000000 in
set_option maxRecDepth 100000 in
theorem wP_lowByte_25 {p : Program} {l : Launch} {e : Env} {s : State} {m : MethodId} {args : Array Value} {below : List Frame} {meth : Method} {c : Code} {g : gT} {qq ad ea : Nat → Nat} {h : cH} {X : va_W} {rv : Option Value} {qp : Nat} {pv0 pv' : Nat → Int32} {z' : cZ} {r' : Int32} (C : mCx p m c cP_lowByte 3 s args g "MidiDesk$Parser") (hr : meth.sig.returnType = (some .int)) (hlk : meth.locks = false) (hrv : rv = some (.int r')) (z : cZ) (pv : Nat → Int32) (x1 : Int32) (x2 : Int32) (s1 : Int32) (H : Heap) (locs : List Loc) (ls : Array Slot) (hl : lv_has ls 3 [(0, .ref qp), (1, .int x1), (2, .int x2)]) (hw : cWd g (cA g qq ad ea h (pcell qp qq pv0 :: X) s.heap.size) s.heap qq ad ea h (pcell qp qq pv :: X) z H locs) (hf : jP_lowByte_25 h z pv x1 x2 s1 = some (r', z', pv')) : cG p l e rP_lowByte s m args below meth c g qq ad ea h (pcell qp qq pv0 :: X) rv (pcell qp qq pv' :: X) z' H locs 0 0 (F0 m 25 ls [.int s1, .ref qp]) := by
  unfold jP_lowByte_25 at hf
  refine lv_bipush (v := (6 : Int32)) C.1.1 C.1.2.1 dP_lowByte_25 (by decide) ?_
  refine lv_iload_n C.1.1 C.1.2.1 dP_lowByte_27 rfl (lv_at hl 1 rfl) ?_
  obtain ⟨⟨z1, pv1⟩, g1, hf⟩ := ts_b hf
  try dsimp only at hf
  refine c_callV (rest := []) (As := [.int s1, .int (6 : Int32), .int x1]) (rv := none) (b := qp) C hl.1 hw (cP_expect_met g1) rfl (callW_of (rm := rP_expect) (C := "MidiDesk$Parser") 3 C.1.2.2.2.2 gw_250 gw_252 gw_2 gw_59 gw_253 kP_expect ⟨Nat.le_of_ble_eq_true rfl, Nat.le_of_ble_eq_true rfl⟩) (c_recvX (ci := 2) C.2 rfl hw) rfl rfl (Nat.le_of_ble_eq_true rfl) dP_lowByte_28 ⟨Nat.le_of_ble_eq_true rfl, Nat.le_of_ble_eq_true rfl⟩ (fun H locs hw => ?_)
  refine W.eq (g2 := F0 m 31 ls []) rfl ?_
  refine lv_iload_n C.1.1 C.1.2.1 dP_lowByte_31 rfl (lv_at hl 2 rfl) ?_
  obtain ⟨hf, hpv⟩ := pr3 hf
  exact c_reti C hr hlk hrv hw hf (by rw [hpv]) ⟨Nat.le_of_ble_eq_true rfl, Nat.le_of_ble_eq_true rfl⟩ dP_lowByte_32
set_option maxHeartbeats 4000000 in
set_option maxRecDepth 100000 in
theorem cP_lowByte_met {l : Launch} {g : gT} {qq ad ea : Nat → Nat} {h : cH} {X : va_W} {qp : Nat} {pv pv' : Nat → Int32} {z z' : cZ} {r' : Int32} (hf : fP_lowByte h z pv = some (r', z', pv')) : cMet l yP_lowByte cP_lowByte 3 (some .int) rP_lowByte g qq ad ea h (pcell qp qq pv :: X) z [.ref qp] (some (.int r')) (pcell qp qq pv' :: X) z' := by
  refine c_entry (by decide) (Nat.le_of_ble_eq_true rfl) ?_
  intro p e s m args below meth c ls C hr hlk hnm hl hw
  have hrv : (some (.int r') : Option Value) = some (.int r') := rfl
  have C : mCx p m c cP_lowByte 3 s args g "MidiDesk$Parser" := C
  have hl : lv_has ls 3 [(0, .ref qp)] := hl
  unfold fP_lowByte at hf
  refine lv_aload_n C.1.1 C.1.2.1 dP_lowByte_0 rfl (lv_at hl 0 rfl) ?_
  refine cg_Parser_Parser_pos C hw dP_lowByte_1 ?_
  refine lv_istore_n (lv' := [(1, .int (pv 0)), (0, .ref qp)]) C.1.1 C.1.2.1 dP_lowByte_4 rfl hl (by decide) rfl (fun ls hl => ?_)
  refine lv_aload_n C.1.1 C.1.2.1 dP_lowByte_5 rfl (lv_at hl 1 rfl) ?_
  refine lv_iconst (v := (1 : Int32)) C.1.1 C.1.2.1 dP_lowByte_6 (by decide) ?_
  obtain ⟨⟨r1, z1, pv1⟩, g1, hf⟩ := ts_b hf
  try dsimp only at hf
  refine c_callV (rest := []) (As := [.int (1 : Int32)]) (rv := (some (.long r1))) (b := qp) C hl.1 hw (cP_fixed_met g1) rfl (callW_of (rm := rP_fixed) (C := "MidiDesk$Parser") 1 C.1.2.2.2.2 gw_246 gw_248 gw_1 gw_59 gw_249 kP_fixed ⟨Nat.le_of_ble_eq_true rfl, Nat.le_of_ble_eq_true rfl⟩) (c_recvX (ci := 2) C.2 rfl hw) rfl rfl (Nat.le_of_ble_eq_true rfl) dP_lowByte_7 ⟨Nat.le_of_ble_eq_true rfl, Nat.le_of_ble_eq_true rfl⟩ (fun H locs hw => ?_)
  refine W.eq (g2 := F0 m 10 ls [.long r1]) rfl ?_
  refine lv_l2i C.1.1 C.1.2.1 dP_lowByte_10 rfl ?_
  refine lv_istore_n (lv' := [(2, .int r1.toInt32), (1, .int (pv 0)), (0, .ref qp)]) C.1.1 C.1.2.1 dP_lowByte_11 rfl hl (by decide) rfl (fun ls hl => ?_)
  refine lv_aload_n C.1.1 C.1.2.1 dP_lowByte_12 rfl (lv_at hl 2 rfl) ?_
  refine lv_iload_n C.1.1 C.1.2.1 dP_lowByte_13 rfl (lv_at hl 0 rfl) ?_
  refine lv_sipush (v := (128 : Int32)) C.1.1 C.1.2.1 dP_lowByte_14 (by decide) ?_
  refine lv_icmp_ge (tgt := 24) C.1.1 C.1.2.1 dP_lowByte_17 (by decide) (fun c2 => ?_) (fun c2 => ?_)
  · have hf := ts_t hf c2
    refine lv_iconst (v := (0 : Int32)) C.1.1 C.1.2.1 dP_lowByte_24 (by decide) ?_
    exact wP_lowByte_25 C hr hlk hrv z1 pv1 (pv 0) r1.toInt32 (0 : Int32) _ _ ls (lv_sub hl [2, 1, 0] rfl) hw hf
  · have hf := ts_f hf c2
    refine lv_iconst (v := (1 : Int32)) C.1.1 C.1.2.1 dP_lowByte_20 (by decide) ?_
    refine lv_goto (tgt := 25) C.1.1 C.1.2.1 dP_lowByte_21 (by decide) ?_
    exact wP_lowByte_25 C hr hlk hrv z1 pv1 (pv 0) r1.toInt32 (1 : Int32) _ _ ls (lv_sub hl [2, 1, 0] rfl) hw hf
abbrev cP_isDivision : ByteArray := prog_4_method_8_code
abbrev yP_isDivision : MethodName := ⟨"MidiDesk$Parser", "isDivision", "(I)Z"⟩
theorem kP_isDivision : yP_isDivision.cls ≠ "java/lang/invoke/MethodHandle" ∧ yP_isDivision.cls ≠ "java/lang/invoke/VarHandle" ∧ (parseMethodDescriptor yP_isDivision.desc).map (fun d => d.parameters.length) = some 1 := by decide +kernel
abbrev rP_isDivision : Room := { frames := 0, cells := 0, slots := 0, locals := 0 }
theorem dP_isDivision_0 : decode cP_isDivision 0 = .ok (.iload_n 0, 1) := by decide +kernel
theorem dP_isDivision_1 : decode cP_isDivision 1 = .ok (.sipush 32767, 3) := by decide +kernel
theorem dP_isDivision_4 : decode cP_isDivision 4 = .ok (.if_icmp .gt 14, 3) := by decide +kernel
theorem dP_isDivision_7 : decode cP_isDivision 7 = .ok (.iload_n 0, 1) := by decide +kernel
theorem dP_isDivision_8 : decode cP_isDivision 8 = .ok (.iconst 1, 1) := by decide +kernel
theorem dP_isDivision_9 : decode cP_isDivision 9 = .ok (.if_icmp .lt 7, 3) := by decide +kernel
theorem dP_isDivision_12 : decode cP_isDivision 12 = .ok (.iconst 1, 1) := by decide +kernel
theorem dP_isDivision_13 : decode cP_isDivision 13 = .ok (.goto 4, 3) := by decide +kernel
theorem dP_isDivision_16 : decode cP_isDivision 16 = .ok (.iconst 0, 1) := by decide +kernel
theorem dP_isDivision_17 : decode cP_isDivision 17 = .ok (.ireturn, 1) := by decide +kernel
theorem dP_isDivision_18 : decode cP_isDivision 18 = .ok (.sipush 256, 3) := by decide +kernel
theorem dP_isDivision_21 : decode cP_isDivision 21 = .ok (.iload_n 0, 1) := by decide +kernel
theorem dP_isDivision_22 : decode cP_isDivision 22 = .ok (.bipush 8, 2) := by decide +kernel
theorem dP_isDivision_24 : decode cP_isDivision 24 = .ok (.ishr, 1) := by decide +kernel
theorem dP_isDivision_25 : decode cP_isDivision 25 = .ok (.isub, 1) := by decide +kernel
theorem dP_isDivision_26 : decode cP_isDivision 26 = .ok (.istore_n 1, 1) := by decide +kernel
theorem dP_isDivision_27 : decode cP_isDivision 27 = .ok (.iload_n 1, 1) := by decide +kernel
theorem dP_isDivision_28 : decode cP_isDivision 28 = .ok (.bipush 24, 2) := by decide +kernel
theorem dP_isDivision_30 : decode cP_isDivision 30 = .ok (.if_icmp .eq 21, 3) := by decide +kernel
theorem dP_isDivision_33 : decode cP_isDivision 33 = .ok (.iload_n 1, 1) := by decide +kernel
theorem dP_isDivision_34 : decode cP_isDivision 34 = .ok (.bipush 25, 2) := by decide +kernel
theorem dP_isDivision_36 : decode cP_isDivision 36 = .ok (.if_icmp .eq 15, 3) := by decide +kernel
theorem dP_isDivision_39 : decode cP_isDivision 39 = .ok (.iload_n 1, 1) := by decide +kernel
theorem dP_isDivision_40 : decode cP_isDivision 40 = .ok (.bipush 29, 2) := by decide +kernel
theorem dP_isDivision_42 : decode cP_isDivision 42 = .ok (.if_icmp .eq 9, 3) := by decide +kernel
theorem dP_isDivision_45 : decode cP_isDivision 45 = .ok (.iload_n 1, 1) := by decide +kernel
theorem dP_isDivision_46 : decode cP_isDivision 46 = .ok (.bipush 30, 2) := by decide +kernel
theorem dP_isDivision_48 : decode cP_isDivision 48 = .ok (.if_icmp .ne 7, 3) := by decide +kernel
theorem dP_isDivision_51 : decode cP_isDivision 51 = .ok (.iconst 1, 1) := by decide +kernel
theorem dP_isDivision_52 : decode cP_isDivision 52 = .ok (.goto 4, 3) := by decide +kernel
theorem dP_isDivision_55 : decode cP_isDivision 55 = .ok (.iconst 0, 1) := by decide +kernel
theorem dP_isDivision_56 : decode cP_isDivision 56 = .ok (.istore_n 2, 1) := by decide +kernel
theorem dP_isDivision_57 : decode cP_isDivision 57 = .ok (.iload_n 2, 1) := by decide +kernel
theorem dP_isDivision_58 : decode cP_isDivision 58 = .ok (.ifCond .eq 15, 3) := by decide +kernel
theorem dP_isDivision_61 : decode cP_isDivision 61 = .ok (.iload_n 0, 1) := by decide +kernel
theorem dP_isDivision_62 : decode cP_isDivision 62 = .ok (.sipush 255, 3) := by decide +kernel
theorem dP_isDivision_65 : decode cP_isDivision 65 = .ok (.iand, 1) := by decide +kernel
theorem dP_isDivision_66 : decode cP_isDivision 66 = .ok (.ifCond .le 7, 3) := by decide +kernel
theorem dP_isDivision_69 : decode cP_isDivision 69 = .ok (.iconst 1, 1) := by decide +kernel
theorem dP_isDivision_70 : decode cP_isDivision 70 = .ok (.goto 4, 3) := by decide +kernel
theorem dP_isDivision_73 : decode cP_isDivision 73 = .ok (.iconst 0, 1) := by decide +kernel
theorem dP_isDivision_74 : decode cP_isDivision 74 = .ok (.ireturn, 1) := by decide +kernel
def jP_isDivision_56 (h : cH) (z : cZ) (x0 : Int32) (s0 : Int32) : Option (Int32 × cZ) := if s0 = 0 then (some ((0 : Int32), z)) else (if (x0 &&& (255 : Int32)) ≤ 0 then (some ((0 : Int32), z)) else (some ((1 : Int32), z)))
def jP_isDivision_51 (h : cH) (z : cZ) (x0 : Int32) : Option (Int32 × cZ) := jP_isDivision_56 h z x0 (1 : Int32)
def fP_isDivision (h : cH) (z : cZ) (x0 : Int32) : Option (Int32 × cZ) := if (32767 : Int32) < x0 then (if ((256 : Int32) - (x0 >>> ((8 : Int32) &&& 31))) = (24 : Int32) then (jP_isDivision_51 h z x0) else (if ((256 : Int32) - (x0 >>> ((8 : Int32) &&& 31))) = (25 : Int32) then (jP_isDivision_51 h z x0) else (if ((256 : Int32) - (x0 >>> ((8 : Int32) &&& 31))) = (29 : Int32) then (jP_isDivision_51 h z x0) else (if ((256 : Int32) - (x0 >>> ((8 : Int32) &&& 31))) = (30 : Int32) then (jP_isDivision_51 h z x0) else (jP_isDivision_56 h z x0 (0 : Int32)))))) else (if x0 < (1 : Int32) then (some ((0 : Int32), z)) else (some ((1 : Int32), z)))
set_option maxHeartbeats 4000000 in
set_option maxRecDepth 100000 in
theorem wP_isDivision_56 {p : Program} {l : Launch} {e : Env} {s : State} {m : MethodId} {args : Array Value} {below : List Frame} {meth : Method} {c : Code} {g : gT} {qq ad ea : Nat → Nat} {h : cH} {X : va_W} {rv : Option Value} {z' : cZ} {r' : Int32} (C : mCx p m c cP_isDivision 3 s args g "MidiDesk$Parser") (hr : meth.sig.returnType = (some .boolean)) (hlk : meth.locks = false) (hrv : rv = some (.int r')) (z : cZ) (x0 : Int32) (s0 : Int32) (H : Heap) (locs : List Loc) (ls : Array Slot) (hl : lv_has ls 3 [(0, .int x0)]) (hw : cWd g (cA g qq ad ea h X s.heap.size) s.heap qq ad ea h X z H locs) (hf : jP_isDivision_56 h z x0 s0 = some (r', z')) : cG p l e rP_isDivision s m args below meth c g qq ad ea h X rv X z' H locs 0 0 (F0 m 56 ls [.int s0]) := by
  unfold jP_isDivision_56 at hf
  refine lv_istore_n (lv' := [(2, .int s0), (0, .int x0)]) C.1.1 C.1.2.1 dP_isDivision_56 rfl hl (by decide) rfl (fun ls hl => ?_)
  refine lv_iload_n C.1.1 C.1.2.1 dP_isDivision_57 rfl (lv_at hl 0 rfl) ?_
  refine lv_if_eq (tgt := 73) C.1.1 C.1.2.1 dP_isDivision_58 (by decide) (fun c1 => ?_) (fun c1 => ?_)
  · have hf := ts_t hf c1
    refine lv_iconst (v := (0 : Int32)) C.1.1 C.1.2.1 dP_isDivision_73 (by decide) ?_
    exact c_retz C hr hlk hrv hw (Or.inl rfl) hf rfl ⟨Nat.le_of_ble_eq_true rfl, Nat.le_of_ble_eq_true rfl⟩ dP_isDivision_74
  · have hf := ts_f hf c1
    refine lv_iload_n C.1.1 C.1.2.1 dP_isDivision_61 rfl (lv_at hl 1 rfl) ?_
    refine lv_sipush (v := (255 : Int32)) C.1.1 C.1.2.1 dP_isDivision_62 (by decide) ?_
    refine lv_iand C.1.1 C.1.2.1 dP_isDivision_65 ?_
    refine lv_if_le (tgt := 73) C.1.1 C.1.2.1 dP_isDivision_66 (by decide) (fun c2 => ?_) (fun c2 => ?_)
    · have hf := ts_t hf c2
      refine lv_iconst (v := (0 : Int32)) C.1.1 C.1.2.1 dP_isDivision_73 (by decide) ?_
      exact c_retz C hr hlk hrv hw (Or.inl rfl) hf rfl ⟨Nat.le_of_ble_eq_true rfl, Nat.le_of_ble_eq_true rfl⟩ dP_isDivision_74
    · have hf := ts_f hf c2
      refine lv_iconst (v := (1 : Int32)) C.1.1 C.1.2.1 dP_isDivision_69 (by decide) ?_
      refine lv_goto (tgt := 74) C.1.1 C.1.2.1 dP_isDivision_70 (by decide) ?_
      exact c_retz C hr hlk hrv hw (Or.inr rfl) hf rfl ⟨Nat.le_of_ble_eq_true rfl, Nat.le_of_ble_eq_true rfl⟩ dP_isDivision_74
set_option maxHeartbeats 4000000 in
set_option maxRecDepth 100000 in
theorem wP_isDivision_51 {p : Program} {l : Launch} {e : Env} {s : State} {m : MethodId} {args : Array Value} {below : List Frame} {meth : Method} {c : Code} {g : gT} {qq ad ea : Nat → Nat} {h : cH} {X : va_W} {rv : Option Value} {z' : cZ} {r' : Int32} (C : mCx p m c cP_isDivision 3 s args g "MidiDesk$Parser") (hr : meth.sig.returnType = (some .boolean)) (hlk : meth.locks = false) (hrv : rv = some (.int r')) (z : cZ) (x0 : Int32) (H : Heap) (locs : List Loc) (ls : Array Slot) (hl : lv_has ls 3 [(0, .int x0)]) (hw : cWd g (cA g qq ad ea h X s.heap.size) s.heap qq ad ea h X z H locs) (hf : jP_isDivision_51 h z x0 = some (r', z')) : cG p l e rP_isDivision s m args below meth c g qq ad ea h X rv X z' H locs 0 0 (F0 m 51 ls []) := by
  unfold jP_isDivision_51 at hf
  refine lv_iconst (v := (1 : Int32)) C.1.1 C.1.2.1 dP_isDivision_51 (by decide) ?_
  refine lv_goto (tgt := 56) C.1.1 C.1.2.1 dP_isDivision_52 (by decide) ?_
  exact wP_isDivision_56 C hr hlk hrv z x0 (1 : Int32) _ _ ls (lv_sub hl [0] rfl) hw hf
set_option maxHeartbeats 4000000 in
set_option maxRecDepth 100000 in
theorem cP_isDivision_met {l : Launch} {g : gT} {qq ad ea : Nat → Nat} {h : cH} {X : va_W} {z z' : cZ} {x0 : Int32} {r' : Int32} (hf : fP_isDivision h z x0 = some (r', z')) : cMet l yP_isDivision cP_isDivision 3 (some .boolean) rP_isDivision g qq ad ea h X z [.int x0] (some (.int r')) X z' := by
  refine c_entry (by decide) (Nat.le_of_ble_eq_true rfl) ?_
  intro p e s m args below meth c ls C hr hlk hnm hl hw
  have hrv : (some (.int r') : Option Value) = some (.int r') := rfl
  have C : mCx p m c cP_isDivision 3 s args g "MidiDesk$Parser" := C
  have hl : lv_has ls 3 [(0, .int x0)] := hl
  unfold fP_isDivision at hf
  refine lv_iload_n C.1.1 C.1.2.1 dP_isDivision_0 rfl (lv_at hl 0 rfl) ?_
  refine lv_sipush (v := (32767 : Int32)) C.1.1 C.1.2.1 dP_isDivision_1 (by decide) ?_
  refine lv_icmp_gt (tgt := 18) C.1.1 C.1.2.1 dP_isDivision_4 (by decide) (fun c1 => ?_) (fun c1 => ?_)
  · have hf := ts_t hf c1
    refine lv_sipush (v := (256 : Int32)) C.1.1 C.1.2.1 dP_isDivision_18 (by decide) ?_
    refine lv_iload_n C.1.1 C.1.2.1 dP_isDivision_21 rfl (lv_at hl 0 rfl) ?_
    refine lv_bipush (v := (8 : Int32)) C.1.1 C.1.2.1 dP_isDivision_22 (by decide) ?_
    refine lv_ishr C.1.1 C.1.2.1 dP_isDivision_24 ?_
    refine lv_isub C.1.1 C.1.2.1 dP_isDivision_25 ?_
    refine lv_istore_n (lv' := [(1, .int ((256 : Int32) - (x0 >>> ((8 : Int32) &&& 31)))), (0, .int x0)]) C.1.1 C.1.2.1 dP_isDivision_26 rfl hl (by decide) rfl (fun ls hl => ?_)
    refine lv_iload_n C.1.1 C.1.2.1 dP_isDivision_27 rfl (lv_at hl 0 rfl) ?_
    refine lv_bipush (v := (24 : Int32)) C.1.1 C.1.2.1 dP_isDivision_28 (by decide) ?_
    refine lv_icmp_eq (tgt := 51) C.1.1 C.1.2.1 dP_isDivision_30 (by decide) (fun c2 => ?_) (fun c2 => ?_)
    · have hf := ts_t hf c2
      exact wP_isDivision_51 C hr hlk hrv z x0 _ _ ls (lv_sub hl [1] rfl) hw hf
    · have hf := ts_f hf c2
      refine lv_iload_n C.1.1 C.1.2.1 dP_isDivision_33 rfl (lv_at hl 0 rfl) ?_
      refine lv_bipush (v := (25 : Int32)) C.1.1 C.1.2.1 dP_isDivision_34 (by decide) ?_
      refine lv_icmp_eq (tgt := 51) C.1.1 C.1.2.1 dP_isDivision_36 (by decide) (fun c3 => ?_) (fun c3 => ?_)
      · have hf := ts_t hf c3
        exact wP_isDivision_51 C hr hlk hrv z x0 _ _ ls (lv_sub hl [1] rfl) hw hf
      · have hf := ts_f hf c3
        refine lv_iload_n C.1.1 C.1.2.1 dP_isDivision_39 rfl (lv_at hl 0 rfl) ?_
        refine lv_bipush (v := (29 : Int32)) C.1.1 C.1.2.1 dP_isDivision_40 (by decide) ?_
        refine lv_icmp_eq (tgt := 51) C.1.1 C.1.2.1 dP_isDivision_42 (by decide) (fun c4 => ?_) (fun c4 => ?_)
        · have hf := ts_t hf c4
          exact wP_isDivision_51 C hr hlk hrv z x0 _ _ ls (lv_sub hl [1] rfl) hw hf
        · have hf := ts_f hf c4
          refine lv_iload_n C.1.1 C.1.2.1 dP_isDivision_45 rfl (lv_at hl 0 rfl) ?_
          refine lv_bipush (v := (30 : Int32)) C.1.1 C.1.2.1 dP_isDivision_46 (by decide) ?_
          refine lv_icmp_ne (tgt := 55) C.1.1 C.1.2.1 dP_isDivision_48 (by decide) (fun c5 => ?_) (fun c5 => ?_)
          · have hf := ts_f hf c5
            refine lv_iconst (v := (0 : Int32)) C.1.1 C.1.2.1 dP_isDivision_55 (by decide) ?_
            exact wP_isDivision_56 C hr hlk hrv z x0 (0 : Int32) _ _ ls (lv_sub hl [1] rfl) hw hf
          · have hf := ts_t hf c5
            exact wP_isDivision_51 C hr hlk hrv z x0 _ _ ls (lv_sub hl [1] rfl) hw hf
  · have hf := ts_f hf c1
    refine lv_iload_n C.1.1 C.1.2.1 dP_isDivision_7 rfl (lv_at hl 0 rfl) ?_
    refine lv_iconst (v := (1 : Int32)) C.1.1 C.1.2.1 dP_isDivision_8 (by decide) ?_
    refine lv_icmp_lt (tgt := 16) C.1.1 C.1.2.1 dP_isDivision_9 (by decide) (fun c6 => ?_) (fun c6 => ?_)
    · have hf := ts_t hf c6
      refine lv_iconst (v := (0 : Int32)) C.1.1 C.1.2.1 dP_isDivision_16 (by decide) ?_
      exact c_retz C hr hlk hrv hw (Or.inl rfl) hf rfl ⟨Nat.le_of_ble_eq_true rfl, Nat.le_of_ble_eq_true rfl⟩ dP_isDivision_17
    · have hf := ts_f hf c6
      refine lv_iconst (v := (1 : Int32)) C.1.1 C.1.2.1 dP_isDivision_12 (by decide) ?_
      refine lv_goto (tgt := 17) C.1.1 C.1.2.1 dP_isDivision_13 (by decide) ?_
      exact c_retz C hr hlk hrv hw (Or.inr rfl) hf rfl ⟨Nat.le_of_ble_eq_true rfl, Nat.le_of_ble_eq_true rfl⟩ dP_isDivision_17
abbrev cP_head : ByteArray := prog_4_method_7_code
abbrev yP_head : MethodName := ⟨"MidiDesk$Parser", "head", "()V"⟩
theorem kP_head : yP_head.cls ≠ "java/lang/invoke/MethodHandle" ∧ yP_head.cls ≠ "java/lang/invoke/VarHandle" ∧ (parseMethodDescriptor yP_head.desc).map (fun d => d.parameters.length) = some 0 := by decide +kernel
abbrev rP_head : Room := { frames := 2, cells := 0, slots := 0, locals := 47 }
theorem dP_head_0 : decode cP_head 0 = .ok (.aload_n 0, 1) := by decide +kernel
theorem dP_head_1 : decode cP_head 1 = .ok (.aload_n 0, 1) := by decide +kernel
theorem dP_head_2 : decode cP_head 2 = .ok (.iconst 4, 1) := by decide +kernel
theorem dP_head_3 : decode cP_head 3 = .ok (.invokevirtual 73, 3) := by decide +kernel
theorem dP_head_6 : decode cP_head 6 = .ok (.ldc2_w 77, 3) := by decide +kernel
theorem dP_head_9 : decode cP_head 9 = .ok (.lcmp, 1) := by decide +kernel
theorem dP_head_10 : decode cP_head 10 = .ok (.ifCond .ne 7, 3) := by decide +kernel
theorem dP_head_13 : decode cP_head 13 = .ok (.iconst 1, 1) := by decide +kernel
theorem dP_head_14 : decode cP_head 14 = .ok (.goto 4, 3) := by decide +kernel
theorem dP_head_17 : decode cP_head 17 = .ok (.iconst 0, 1) := by decide +kernel
theorem dP_head_18 : decode cP_head 18 = .ok (.iconst 2, 1) := by decide +kernel
theorem dP_head_19 : decode cP_head 19 = .ok (.iconst 0, 1) := by decide +kernel
theorem dP_head_20 : decode cP_head 20 = .ok (.invokevirtual 56, 3) := by decide +kernel
theorem dP_head_23 : decode cP_head 23 = .ok (.aload_n 0, 1) := by decide +kernel
theorem dP_head_24 : decode cP_head 24 = .ok (.aload_n 0, 1) := by decide +kernel
theorem dP_head_25 : decode cP_head 25 = .ok (.iconst 4, 1) := by decide +kernel
theorem dP_head_26 : decode cP_head 26 = .ok (.invokevirtual 73, 3) := by decide +kernel
theorem dP_head_29 : decode cP_head 29 = .ok (.ldc2_w 79, 3) := by decide +kernel
theorem dP_head_32 : decode cP_head 32 = .ok (.lcmp, 1) := by decide +kernel
theorem dP_head_33 : decode cP_head 33 = .ok (.ifCond .ne 7, 3) := by decide +kernel
theorem dP_head_36 : decode cP_head 36 = .ok (.iconst 1, 1) := by decide +kernel
theorem dP_head_37 : decode cP_head 37 = .ok (.goto 4, 3) := by decide +kernel
theorem dP_head_40 : decode cP_head 40 = .ok (.iconst 0, 1) := by decide +kernel
theorem dP_head_41 : decode cP_head 41 = .ok (.iconst 2, 1) := by decide +kernel
theorem dP_head_42 : decode cP_head 42 = .ok (.iconst 4, 1) := by decide +kernel
theorem dP_head_43 : decode cP_head 43 = .ok (.invokevirtual 56, 3) := by decide +kernel
theorem dP_head_46 : decode cP_head 46 = .ok (.aload_n 0, 1) := by decide +kernel
theorem dP_head_47 : decode cP_head 47 = .ok (.iconst 2, 1) := by decide +kernel
theorem dP_head_48 : decode cP_head 48 = .ok (.invokevirtual 73, 3) := by decide +kernel
theorem dP_head_51 : decode cP_head 51 = .ok (.l2i, 1) := by decide +kernel
theorem dP_head_52 : decode cP_head 52 = .ok (.istore_n 1, 1) := by decide +kernel
theorem dP_head_53 : decode cP_head 53 = .ok (.aload_n 0, 1) := by decide +kernel
theorem dP_head_54 : decode cP_head 54 = .ok (.iload_n 1, 1) := by decide +kernel
theorem dP_head_55 : decode cP_head 55 = .ok (.iconst 2, 1) := by decide +kernel
theorem dP_head_56 : decode cP_head 56 = .ok (.if_icmp .gt 7, 3) := by decide +kernel
theorem dP_head_59 : decode cP_head 59 = .ok (.iconst 1, 1) := by decide +kernel
theorem dP_head_60 : decode cP_head 60 = .ok (.goto 4, 3) := by decide +kernel
theorem dP_head_63 : decode cP_head 63 = .ok (.iconst 0, 1) := by decide +kernel
theorem dP_head_64 : decode cP_head 64 = .ok (.iconst 3, 1) := by decide +kernel
theorem dP_head_65 : decode cP_head 65 = .ok (.bipush 8, 2) := by decide +kernel
theorem dP_head_67 : decode cP_head 67 = .ok (.invokevirtual 56, 3) := by decide +kernel
theorem dP_head_70 : decode cP_head 70 = .ok (.aload_n 0, 1) := by decide +kernel
theorem dP_head_71 : decode cP_head 71 = .ok (.iconst 2, 1) := by decide +kernel
theorem dP_head_72 : decode cP_head 72 = .ok (.invokevirtual 73, 3) := by decide +kernel
theorem dP_head_75 : decode cP_head 75 = .ok (.l2i, 1) := by decide +kernel
theorem dP_head_76 : decode cP_head 76 = .ok (.istore_n 2, 1) := by decide +kernel
theorem dP_head_77 : decode cP_head 77 = .ok (.iload_n 1, 1) := by decide +kernel
theorem dP_head_78 : decode cP_head 78 = .ok (.ifCond .ne 7, 3) := by decide +kernel
theorem dP_head_81 : decode cP_head 81 = .ok (.iconst 1, 1) := by decide +kernel
theorem dP_head_82 : decode cP_head 82 = .ok (.goto 5, 3) := by decide +kernel
theorem dP_head_85 : decode cP_head 85 = .ok (.bipush 16, 2) := by decide +kernel
theorem dP_head_87 : decode cP_head 87 = .ok (.istore_n 3, 1) := by decide +kernel
theorem dP_head_88 : decode cP_head 88 = .ok (.aload_n 0, 1) := by decide +kernel
theorem dP_head_89 : decode cP_head 89 = .ok (.iload_n 2, 1) := by decide +kernel
theorem dP_head_90 : decode cP_head 90 = .ok (.iconst 1, 1) := by decide +kernel
theorem dP_head_91 : decode cP_head 91 = .ok (.if_icmp .lt 12, 3) := by decide +kernel
theorem dP_head_94 : decode cP_head 94 = .ok (.iload_n 2, 1) := by decide +kernel
theorem dP_head_95 : decode cP_head 95 = .ok (.iload_n 3, 1) := by decide +kernel
theorem dP_head_96 : decode cP_head 96 = .ok (.if_icmp .gt 7, 3) := by decide +kernel
theorem dP_head_99 : decode cP_head 99 = .ok (.iconst 1, 1) := by decide +kernel
theorem dP_head_100 : decode cP_head 100 = .ok (.goto 4, 3) := by decide +kernel
theorem dP_head_103 : decode cP_head 103 = .ok (.iconst 0, 1) := by decide +kernel
theorem dP_head_104 : decode cP_head 104 = .ok (.iconst 3, 1) := by decide +kernel
theorem dP_head_105 : decode cP_head 105 = .ok (.bipush 10, 2) := by decide +kernel
theorem dP_head_107 : decode cP_head 107 = .ok (.invokevirtual 56, 3) := by decide +kernel
theorem dP_head_110 : decode cP_head 110 = .ok (.aload_n 0, 1) := by decide +kernel
theorem dP_head_111 : decode cP_head 111 = .ok (.iconst 2, 1) := by decide +kernel
theorem dP_head_112 : decode cP_head 112 = .ok (.invokevirtual 73, 3) := by decide +kernel
theorem dP_head_115 : decode cP_head 115 = .ok (.l2i, 1) := by decide +kernel
theorem dP_head_116 : decode cP_head 116 = .ok (.istore 4, 2) := by decide +kernel
theorem dP_head_118 : decode cP_head 118 = .ok (.aload_n 0, 1) := by decide +kernel
theorem dP_head_119 : decode cP_head 119 = .ok (.iload 4, 2) := by decide +kernel
theorem dP_head_121 : decode cP_head 121 = .ok (.invokestatic 81, 3) := by decide +kernel
theorem dP_head_124 : decode cP_head 124 = .ok (.iconst 3, 1) := by decide +kernel
theorem dP_head_125 : decode cP_head 125 = .ok (.bipush 12, 2) := by decide +kernel
theorem dP_head_127 : decode cP_head 127 = .ok (.invokevirtual 56, 3) := by decide +kernel
theorem dP_head_130 : decode cP_head 130 = .ok (.aload_n 0, 1) := by decide +kernel
theorem dP_head_131 : decode cP_head 131 = .ok (.getfield 15, 3) := by decide +kernel
theorem dP_head_134 : decode cP_head 134 = .ok (.iload_n 1, 1) := by decide +kernel
theorem dP_head_135 : decode cP_head 135 = .ok (.putfield 85, 3) := by decide +kernel
theorem dP_head_138 : decode cP_head 138 = .ok (.aload_n 0, 1) := by decide +kernel
theorem dP_head_139 : decode cP_head 139 = .ok (.getfield 15, 3) := by decide +kernel
theorem dP_head_142 : decode cP_head 142 = .ok (.iload_n 2, 1) := by decide +kernel
theorem dP_head_143 : decode cP_head 143 = .ok (.putfield 53, 3) := by decide +kernel
theorem dP_head_146 : decode cP_head 146 = .ok (.aload_n 0, 1) := by decide +kernel
theorem dP_head_147 : decode cP_head 147 = .ok (.getfield 15, 3) := by decide +kernel
theorem dP_head_150 : decode cP_head 150 = .ok (.iload 4, 2) := by decide +kernel
theorem dP_head_152 : decode cP_head 152 = .ok (.putfield 88, 3) := by decide +kernel
theorem dP_head_155 : decode cP_head 155 = .ok (.return_, 1) := by decide +kernel
def jP_head_104 (h : cH) (z : cZ) (pv : Nat → Int32) (x1 : Int32) (x2 : Int32) (s1 : Int32) : Option (cZ × (Nat → Int32)) := (fP_expect h z pv s1 (3 : Int32) (10 : Int32)).bind fun (z1, pv1) => (fP_fixed h z1 pv1 (2 : Int32)).bind fun (r2, z2, pv2) => (fP_isDivision h z2 r2.toInt32).bind fun (r3, z3) => (fP_expect h z3 pv2 r3 (3 : Int32) (12 : Int32)).bind fun (z4, pv4) => some (zU (zU (zU z4 4 x1) 5 x2) 6 r2.toInt32, pv4)
def jP_head_103 (h : cH) (z : cZ) (pv : Nat → Int32) (x1 : Int32) (x2 : Int32) : Option (cZ × (Nat → Int32)) := jP_head_104 h z pv x1 x2 (0 : Int32)
def jP_head_87 (h : cH) (z : cZ) (pv : Nat → Int32) (x1 : Int32) (x2 : Int32) (s0 : Int32) : Option (cZ × (Nat → Int32)) := if x2 < (1 : Int32) then (jP_head_103 h z pv x1 x2) else (if s0 < x2 then (jP_head_103 h z pv x1 x2) else (jP_head_104 h z pv x1 x2 (1 : Int32)))
def jP_head_64 (h : cH) (z : cZ) (pv : Nat → Int32) (x1 : Int32) (s1 : Int32) : Option (cZ × (Nat → Int32)) := (fP_expect h z pv s1 (3 : Int32) (8 : Int32)).bind fun (z1, pv1) => (fP_fixed h z1 pv1 (2 : Int32)).bind fun (r2, z2, pv2) => if x1 = 0 then (jP_head_87 h z2 pv2 x1 r2.toInt32 (1 : Int32)) else (jP_head_87 h z2 pv2 x1 r2.toInt32 (16 : Int32))
def jP_head_41 (h : cH) (z : cZ) (pv : Nat → Int32) (s1 : Int32) : Option (cZ × (Nat → Int32)) := (fP_expect h z pv s1 (2 : Int32) (4 : Int32)).bind fun (z1, pv1) => (fP_fixed h z1 pv1 (2 : Int32)).bind fun (r2, z2, pv2) => if (2 : Int32) < r2.toInt32 then (jP_head_64 h z2 pv2 r2.toInt32 (0 : Int32)) else (jP_head_64 h z2 pv2 r2.toInt32 (1 : Int32))
def jP_head_18 (h : cH) (z : cZ) (pv : Nat → Int32) (s1 : Int32) : Option (cZ × (Nat → Int32)) := (fP_expect h z pv s1 (2 : Int32) (0 : Int32)).bind fun (z1, pv1) => (fP_fixed h z1 pv1 (4 : Int32)).bind fun (r2, z2, pv2) => if (lg_cmp r2 (6 : Int64)) = 0 then (jP_head_41 h z2 pv2 (1 : Int32)) else (jP_head_41 h z2 pv2 (0 : Int32))
def fP_head (h : cH) (z : cZ) (pv : Nat → Int32) : Option (cZ × (Nat → Int32)) := (fP_fixed h z pv (4 : Int32)).bind fun (r1, z1, pv1) => if (lg_cmp r1 (1297377380 : Int64)) = 0 then (jP_head_18 h z1 pv1 (1 : Int32)) else (jP_head_18 h z1 pv1 (0 : Int32))
set_option maxHeartbeats 4000000 in
set_option maxRecDepth 100000 in
theorem wP_head_104 {p : Program} {l : Launch} {e : Env} {s : State} {m : MethodId} {args : Array Value} {below : List Frame} {meth : Method} {c : Code} {g : gT} {qq ad ea : Nat → Nat} {h : cH} {X : va_W} {rv : Option Value} {qp : Nat} {pv0 pv' : Nat → Int32} {z' : cZ} (C : mCx p m c cP_head 5 s args g "MidiDesk$Parser") (hr : meth.sig.returnType = none) (hlk : meth.locks = false) (hrv : rv = none) (z : cZ) (pv : Nat → Int32) (x1 : Int32) (x2 : Int32) (s1 : Int32) (H : Heap) (locs : List Loc) (ls : Array Slot) (hl : lv_has ls 5 [(0, .ref qp), (1, .int x1), (2, .int x2)]) (hw : cWd g (cA g qq ad ea h (pcell qp qq pv0 :: X) s.heap.size) s.heap qq ad ea h (pcell qp qq pv :: X) z H locs) (hf : jP_head_104 h z pv x1 x2 s1 = some (z', pv')) : cG p l e rP_head s m args below meth c g qq ad ea h (pcell qp qq pv0 :: X) rv (pcell qp qq pv' :: X) z' H locs 0 0 (F0 m 104 ls [.int s1, .ref qp]) := by
  unfold jP_head_104 at hf
  refine lv_iconst (v := (3 : Int32)) C.1.1 C.1.2.1 dP_head_104 (by decide) ?_
  refine lv_bipush (v := (10 : Int32)) C.1.1 C.1.2.1 dP_head_105 (by decide) ?_
  obtain ⟨⟨z1, pv1⟩, g1, hf⟩ := ts_b hf
  try dsimp only at hf
  refine c_callV (rest := []) (As := [.int s1, .int (3 : Int32), .int (10 : Int32)]) (rv := none) (b := qp) C hl.1 hw (cP_expect_met g1) rfl (callW_of (rm := rP_expect) (C := "MidiDesk$Parser") 3 C.1.2.2.2.2 gw_250 gw_252 gw_2 gw_59 gw_253 kP_expect ⟨Nat.le_of_ble_eq_true rfl, Nat.le_of_ble_eq_true rfl⟩) (c_recvX (ci := 2) C.2 rfl hw) rfl rfl (Nat.le_of_ble_eq_true rfl) dP_head_107 ⟨Nat.le_of_ble_eq_true rfl, Nat.le_of_ble_eq_true rfl⟩ (fun H locs hw => ?_)
  refine W.eq (g2 := F0 m 110 ls []) rfl ?_
  refine lv_aload_n C.1.1 C.1.2.1 dP_head_110 rfl (lv_at hl 0 rfl) ?_
  refine lv_iconst (v := (2 : Int32)) C.1.1 C.1.2.1 dP_head_111 (by decide) ?_
  obtain ⟨⟨r2, z2, pv2⟩, g2, hf⟩ := ts_b hf
  try dsimp only at hf
  refine c_callV (rest := []) (As := [.int (2 : Int32)]) (rv := (some (.long r2))) (b := qp) C hl.1 hw (cP_fixed_met g2) rfl (callW_of (rm := rP_fixed) (C := "MidiDesk$Parser") 1 C.1.2.2.2.2 gw_246 gw_248 gw_1 gw_59 gw_249 kP_fixed ⟨Nat.le_of_ble_eq_true rfl, Nat.le_of_ble_eq_true rfl⟩) (c_recvX (ci := 2) C.2 rfl hw) rfl rfl (Nat.le_of_ble_eq_true rfl) dP_head_112 ⟨Nat.le_of_ble_eq_true rfl, Nat.le_of_ble_eq_true rfl⟩ (fun H locs hw => ?_)
  refine W.eq (g2 := F0 m 115 ls [.long r2]) rfl ?_
  refine lv_l2i C.1.1 C.1.2.1 dP_head_115 rfl ?_
  refine lv_istore (lv' := [(4, .int r2.toInt32), (0, .ref qp), (1, .int x1), (2, .int x2)]) C.1.1 C.1.2.1 dP_head_116 hl (by decide) rfl (fun ls hl => ?_)
  refine lv_aload_n C.1.1 C.1.2.1 dP_head_118 rfl (lv_at hl 1 rfl) ?_
  refine lv_iload C.1.1 C.1.2.1 dP_head_119 (lv_at hl 0 rfl) ?_
  obtain ⟨⟨r3, z3⟩, g3, hf⟩ := ts_b hf
  try dsimp only at hf
  refine c_callS (rest := [.ref qp]) (As := [.int r2.toInt32]) (rv := (some (.int r3))) C hl.1 hw (cP_isDivision_met g3) (callS_of (rm := rP_isDivision) 1 C.1.2.2.2.2 gw_261 gw_262 gw_59 gw_263 kP_isDivision ⟨Nat.le_of_ble_eq_true rfl, Nat.le_of_ble_eq_true rfl⟩) rfl rfl (Nat.le_of_ble_eq_true rfl) dP_head_121 ⟨Nat.le_of_ble_eq_true rfl, Nat.le_of_ble_eq_true rfl⟩ (fun H locs hw => ?_)
  refine W.eq (g2 := F0 m 124 ls [.int r3, .ref qp]) rfl ?_
  refine lv_iconst (v := (3 : Int32)) C.1.1 C.1.2.1 dP_head_124 (by decide) ?_
  refine lv_bipush (v := (12 : Int32)) C.1.1 C.1.2.1 dP_head_125 (by decide) ?_
  obtain ⟨⟨z4, pv4⟩, g4, hf⟩ := ts_b hf
  try dsimp only at hf
  refine c_callV (rest := []) (As := [.int r3, .int (3 : Int32), .int (12 : Int32)]) (rv := none) (b := qp) C hl.1 hw (cP_expect_met g4) rfl (callW_of (rm := rP_expect) (C := "MidiDesk$Parser") 3 C.1.2.2.2.2 gw_250 gw_252 gw_2 gw_59 gw_253 kP_expect ⟨Nat.le_of_ble_eq_true rfl, Nat.le_of_ble_eq_true rfl⟩) (c_recvX (ci := 2) C.2 rfl hw) rfl rfl (Nat.le_of_ble_eq_true rfl) dP_head_127 ⟨Nat.le_of_ble_eq_true rfl, Nat.le_of_ble_eq_true rfl⟩ (fun H locs hw => ?_)
  refine W.eq (g2 := F0 m 130 ls []) rfl ?_
  refine lv_aload_n C.1.1 C.1.2.1 dP_head_130 rfl (lv_at hl 1 rfl) ?_
  refine cg_Parser_Parser_score C hw dP_head_131 ?_
  refine lv_iload_n C.1.1 C.1.2.1 dP_head_134 rfl (lv_at hl 2 rfl) ?_
  refine cp_Parser_Score_format C hw dP_head_135 (fun H locs hw => ?_)
  refine lv_aload_n C.1.1 C.1.2.1 dP_head_138 rfl (lv_at hl 1 rfl) ?_
  refine cg_Parser_Parser_score C hw dP_head_139 ?_
  refine lv_iload_n C.1.1 C.1.2.1 dP_head_142 rfl (lv_at hl 3 rfl) ?_
  refine cp_Parser_Score_tracks C hw dP_head_143 (fun H locs hw => ?_)
  refine lv_aload_n C.1.1 C.1.2.1 dP_head_146 rfl (lv_at hl 1 rfl) ?_
  refine cg_Parser_Parser_score C hw dP_head_147 ?_
  refine lv_iload C.1.1 C.1.2.1 dP_head_150 (lv_at hl 0 rfl) ?_
  refine cp_Parser_Score_division C hw dP_head_152 (fun H locs hw => ?_)
  obtain ⟨hf, hpv⟩ := pr2 hf
  exact c_retv C hr hlk hrv hw hf (by rw [hpv]) ⟨Nat.le_of_ble_eq_true rfl, Nat.le_of_ble_eq_true rfl⟩ dP_head_155
set_option maxHeartbeats 4000000 in
set_option maxRecDepth 100000 in
theorem wP_head_103 {p : Program} {l : Launch} {e : Env} {s : State} {m : MethodId} {args : Array Value} {below : List Frame} {meth : Method} {c : Code} {g : gT} {qq ad ea : Nat → Nat} {h : cH} {X : va_W} {rv : Option Value} {qp : Nat} {pv0 pv' : Nat → Int32} {z' : cZ} (C : mCx p m c cP_head 5 s args g "MidiDesk$Parser") (hr : meth.sig.returnType = none) (hlk : meth.locks = false) (hrv : rv = none) (z : cZ) (pv : Nat → Int32) (x1 : Int32) (x2 : Int32) (H : Heap) (locs : List Loc) (ls : Array Slot) (hl : lv_has ls 5 [(0, .ref qp), (1, .int x1), (2, .int x2)]) (hw : cWd g (cA g qq ad ea h (pcell qp qq pv0 :: X) s.heap.size) s.heap qq ad ea h (pcell qp qq pv :: X) z H locs) (hf : jP_head_103 h z pv x1 x2 = some (z', pv')) : cG p l e rP_head s m args below meth c g qq ad ea h (pcell qp qq pv0 :: X) rv (pcell qp qq pv' :: X) z' H locs 0 0 (F0 m 103 ls [.ref qp]) := by
  unfold jP_head_103 at hf
  refine lv_iconst (v := (0 : Int32)) C.1.1 C.1.2.1 dP_head_103 (by decide) ?_
  exact wP_head_104 C hr hlk hrv z pv x1 x2 (0 : Int32) _ _ ls (lv_sub hl [0, 1, 2] rfl) hw hf
set_option maxHeartbeats 4000000 in
set_option maxRecDepth 100000 in
theorem wP_head_87 {p : Program} {l : Launch} {e : Env} {s : State} {m : MethodId} {args : Array Value} {below : List Frame} {meth : Method} {c : Code} {g : gT} {qq ad ea : Nat → Nat} {h : cH} {X : va_W} {rv : Option Value} {qp : Nat} {pv0 pv' : Nat → Int32} {z' : cZ} (C : mCx p m c cP_head 5 s args g "MidiDesk$Parser") (hr : meth.sig.returnType = none) (hlk : meth.locks = false) (hrv : rv = none) (z : cZ) (pv : Nat → Int32) (x1 : Int32) (x2 : Int32) (s0 : Int32) (H : Heap) (locs : List Loc) (ls : Array Slot) (hl : lv_has ls 5 [(0, .ref qp), (1, .int x1), (2, .int x2)]) (hw : cWd g (cA g qq ad ea h (pcell qp qq pv0 :: X) s.heap.size) s.heap qq ad ea h (pcell qp qq pv :: X) z H locs) (hf : jP_head_87 h z pv x1 x2 s0 = some (z', pv')) : cG p l e rP_head s m args below meth c g qq ad ea h (pcell qp qq pv0 :: X) rv (pcell qp qq pv' :: X) z' H locs 0 0 (F0 m 87 ls [.int s0]) := by
  unfold jP_head_87 at hf
  refine lv_istore_n (lv' := [(3, .int s0), (0, .ref qp), (1, .int x1), (2, .int x2)]) C.1.1 C.1.2.1 dP_head_87 rfl hl (by decide) rfl (fun ls hl => ?_)
  refine lv_aload_n C.1.1 C.1.2.1 dP_head_88 rfl (lv_at hl 1 rfl) ?_
  refine lv_iload_n C.1.1 C.1.2.1 dP_head_89 rfl (lv_at hl 3 rfl) ?_
  refine lv_iconst (v := (1 : Int32)) C.1.1 C.1.2.1 dP_head_90 (by decide) ?_
  refine lv_icmp_lt (tgt := 103) C.1.1 C.1.2.1 dP_head_91 (by decide) (fun c1 => ?_) (fun c1 => ?_)
  · have hf := ts_t hf c1
    exact wP_head_103 C hr hlk hrv z pv x1 x2 _ _ ls (lv_sub hl [1, 2, 3] rfl) hw hf
  · have hf := ts_f hf c1
    refine lv_iload_n C.1.1 C.1.2.1 dP_head_94 rfl (lv_at hl 3 rfl) ?_
    refine lv_iload_n C.1.1 C.1.2.1 dP_head_95 rfl (lv_at hl 0 rfl) ?_
    refine lv_icmp_gt (tgt := 103) C.1.1 C.1.2.1 dP_head_96 (by decide) (fun c2 => ?_) (fun c2 => ?_)
    · have hf := ts_t hf c2
      exact wP_head_103 C hr hlk hrv z pv x1 x2 _ _ ls (lv_sub hl [1, 2, 3] rfl) hw hf
    · have hf := ts_f hf c2
      refine lv_iconst (v := (1 : Int32)) C.1.1 C.1.2.1 dP_head_99 (by decide) ?_
      refine lv_goto (tgt := 104) C.1.1 C.1.2.1 dP_head_100 (by decide) ?_
      exact wP_head_104 C hr hlk hrv z pv x1 x2 (1 : Int32) _ _ ls (lv_sub hl [1, 2, 3] rfl) hw hf
set_option maxHeartbeats 4000000 in
set_option maxRecDepth 100000 in
theorem wP_head_64 {p : Program} {l : Launch} {e : Env} {s : State} {m : MethodId} {args : Array Value} {below : List Frame} {meth : Method} {c : Code} {g : gT} {qq ad ea : Nat → Nat} {h : cH} {X : va_W} {rv : Option Value} {qp : Nat} {pv0 pv' : Nat → Int32} {z' : cZ} (C : mCx p m c cP_head 5 s args g "MidiDesk$Parser") (hr : meth.sig.returnType = none) (hlk : meth.locks = false) (hrv : rv = none) (z : cZ) (pv : Nat → Int32) (x1 : Int32) (s1 : Int32) (H : Heap) (locs : List Loc) (ls : Array Slot) (hl : lv_has ls 5 [(0, .ref qp), (1, .int x1)]) (hw : cWd g (cA g qq ad ea h (pcell qp qq pv0 :: X) s.heap.size) s.heap qq ad ea h (pcell qp qq pv :: X) z H locs) (hf : jP_head_64 h z pv x1 s1 = some (z', pv')) : cG p l e rP_head s m args below meth c g qq ad ea h (pcell qp qq pv0 :: X) rv (pcell qp qq pv' :: X) z' H locs 0 0 (F0 m 64 ls [.int s1, .ref qp]) := by
  unfold jP_head_64 at hf
  refine lv_iconst (v := (3 : Int32)) C.1.1 C.1.2.1 dP_head_64 (by decide) ?_
  refine lv_bipush (v := (8 : Int32)) C.1.1 C.1.2.1 dP_head_65 (by decide) ?_
  obtain ⟨⟨z1, pv1⟩, g1, hf⟩ := ts_b hf
  try dsimp only at hf
  refine c_callV (rest := []) (As := [.int s1, .int (3 : Int32), .int (8 : Int32)]) (rv := none) (b := qp) C hl.1 hw (cP_expect_met g1) rfl (callW_of (rm := rP_expect) (C := "MidiDesk$Parser") 3 C.1.2.2.2.2 gw_250 gw_252 gw_2 gw_59 gw_253 kP_expect ⟨Nat.le_of_ble_eq_true rfl, Nat.le_of_ble_eq_true rfl⟩) (c_recvX (ci := 2) C.2 rfl hw) rfl rfl (Nat.le_of_ble_eq_true rfl) dP_head_67 ⟨Nat.le_of_ble_eq_true rfl, Nat.le_of_ble_eq_true rfl⟩ (fun H locs hw => ?_)
  refine W.eq (g2 := F0 m 70 ls []) rfl ?_
  refine lv_aload_n C.1.1 C.1.2.1 dP_head_70 rfl (lv_at hl 0 rfl) ?_
  refine lv_iconst (v := (2 : Int32)) C.1.1 C.1.2.1 dP_head_71 (by decide) ?_
  obtain ⟨⟨r2, z2, pv2⟩, g2, hf⟩ := ts_b hf
  try dsimp only at hf
  refine c_callV (rest := []) (As := [.int (2 : Int32)]) (rv := (some (.long r2))) (b := qp) C hl.1 hw (cP_fixed_met g2) rfl (callW_of (rm := rP_fixed) (C := "MidiDesk$Parser") 1 C.1.2.2.2.2 gw_246 gw_248 gw_1 gw_59 gw_249 kP_fixed ⟨Nat.le_of_ble_eq_true rfl, Nat.le_of_ble_eq_true rfl⟩) (c_recvX (ci := 2) C.2 rfl hw) rfl rfl (Nat.le_of_ble_eq_true rfl) dP_head_72 ⟨Nat.le_of_ble_eq_true rfl, Nat.le_of_ble_eq_true rfl⟩ (fun H locs hw => ?_)
  refine W.eq (g2 := F0 m 75 ls [.long r2]) rfl ?_
  refine lv_l2i C.1.1 C.1.2.1 dP_head_75 rfl ?_
  refine lv_istore_n (lv' := [(2, .int r2.toInt32), (0, .ref qp), (1, .int x1)]) C.1.1 C.1.2.1 dP_head_76 rfl hl (by decide) rfl (fun ls hl => ?_)
  refine lv_iload_n C.1.1 C.1.2.1 dP_head_77 rfl (lv_at hl 2 rfl) ?_
  refine lv_if_ne (tgt := 85) C.1.1 C.1.2.1 dP_head_78 (by decide) (fun c3 => ?_) (fun c3 => ?_)
  · have hf := ts_f hf c3
    refine lv_bipush (v := (16 : Int32)) C.1.1 C.1.2.1 dP_head_85 (by decide) ?_
    exact wP_head_87 C hr hlk hrv z2 pv2 x1 r2.toInt32 (16 : Int32) _ _ ls (lv_sub hl [1, 2, 0] rfl) hw hf
  · have hf := ts_t hf c3
    refine lv_iconst (v := (1 : Int32)) C.1.1 C.1.2.1 dP_head_81 (by decide) ?_
    refine lv_goto (tgt := 87) C.1.1 C.1.2.1 dP_head_82 (by decide) ?_
    exact wP_head_87 C hr hlk hrv z2 pv2 x1 r2.toInt32 (1 : Int32) _ _ ls (lv_sub hl [1, 2, 0] rfl) hw hf
set_option maxHeartbeats 4000000 in
set_option maxRecDepth 100000 in
theorem wP_head_41 {p : Program} {l : Launch} {e : Env} {s : State} {m : MethodId} {args : Array Value} {below : List Frame} {meth : Method} {c : Code} {g : gT} {qq ad ea : Nat → Nat} {h : cH} {X : va_W} {rv : Option Value} {qp : Nat} {pv0 pv' : Nat → Int32} {z' : cZ} (C : mCx p m c cP_head 5 s args g "MidiDesk$Parser") (hr : meth.sig.returnType = none) (hlk : meth.locks = false) (hrv : rv = none) (z : cZ) (pv : Nat → Int32) (s1 : Int32) (H : Heap) (locs : List Loc) (ls : Array Slot) (hl : lv_has ls 5 [(0, .ref qp)]) (hw : cWd g (cA g qq ad ea h (pcell qp qq pv0 :: X) s.heap.size) s.heap qq ad ea h (pcell qp qq pv :: X) z H locs) (hf : jP_head_41 h z pv s1 = some (z', pv')) : cG p l e rP_head s m args below meth c g qq ad ea h (pcell qp qq pv0 :: X) rv (pcell qp qq pv' :: X) z' H locs 0 0 (F0 m 41 ls [.int s1, .ref qp]) := by
  unfold jP_head_41 at hf
  refine lv_iconst (v := (2 : Int32)) C.1.1 C.1.2.1 dP_head_41 (by decide) ?_
  refine lv_iconst (v := (4 : Int32)) C.1.1 C.1.2.1 dP_head_42 (by decide) ?_
  obtain ⟨⟨z1, pv1⟩, g1, hf⟩ := ts_b hf
  try dsimp only at hf
  refine c_callV (rest := []) (As := [.int s1, .int (2 : Int32), .int (4 : Int32)]) (rv := none) (b := qp) C hl.1 hw (cP_expect_met g1) rfl (callW_of (rm := rP_expect) (C := "MidiDesk$Parser") 3 C.1.2.2.2.2 gw_250 gw_252 gw_2 gw_59 gw_253 kP_expect ⟨Nat.le_of_ble_eq_true rfl, Nat.le_of_ble_eq_true rfl⟩) (c_recvX (ci := 2) C.2 rfl hw) rfl rfl (Nat.le_of_ble_eq_true rfl) dP_head_43 ⟨Nat.le_of_ble_eq_true rfl, Nat.le_of_ble_eq_true rfl⟩ (fun H locs hw => ?_)
  refine W.eq (g2 := F0 m 46 ls []) rfl ?_
  refine lv_aload_n C.1.1 C.1.2.1 dP_head_46 rfl (lv_at hl 0 rfl) ?_
  refine lv_iconst (v := (2 : Int32)) C.1.1 C.1.2.1 dP_head_47 (by decide) ?_
  obtain ⟨⟨r2, z2, pv2⟩, g2, hf⟩ := ts_b hf
  try dsimp only at hf
  refine c_callV (rest := []) (As := [.int (2 : Int32)]) (rv := (some (.long r2))) (b := qp) C hl.1 hw (cP_fixed_met g2) rfl (callW_of (rm := rP_fixed) (C := "MidiDesk$Parser") 1 C.1.2.2.2.2 gw_246 gw_248 gw_1 gw_59 gw_249 kP_fixed ⟨Nat.le_of_ble_eq_true rfl, Nat.le_of_ble_eq_true rfl⟩) (c_recvX (ci := 2) C.2 rfl hw) rfl rfl (Nat.le_of_ble_eq_true rfl) dP_head_48 ⟨Nat.le_of_ble_eq_true rfl, Nat.le_of_ble_eq_true rfl⟩ (fun H locs hw => ?_)
  refine W.eq (g2 := F0 m 51 ls [.long r2]) rfl ?_
  refine lv_l2i C.1.1 C.1.2.1 dP_head_51 rfl ?_
  refine lv_istore_n (lv' := [(1, .int r2.toInt32), (0, .ref qp)]) C.1.1 C.1.2.1 dP_head_52 rfl hl (by decide) rfl (fun ls hl => ?_)
  refine lv_aload_n C.1.1 C.1.2.1 dP_head_53 rfl (lv_at hl 1 rfl) ?_
  refine lv_iload_n C.1.1 C.1.2.1 dP_head_54 rfl (lv_at hl 0 rfl) ?_
  refine lv_iconst (v := (2 : Int32)) C.1.1 C.1.2.1 dP_head_55 (by decide) ?_
  refine lv_icmp_gt (tgt := 63) C.1.1 C.1.2.1 dP_head_56 (by decide) (fun c3 => ?_) (fun c3 => ?_)
  · have hf := ts_t hf c3
    refine lv_iconst (v := (0 : Int32)) C.1.1 C.1.2.1 dP_head_63 (by decide) ?_
    exact wP_head_64 C hr hlk hrv z2 pv2 r2.toInt32 (0 : Int32) _ _ ls (lv_sub hl [1, 0] rfl) hw hf
  · have hf := ts_f hf c3
    refine lv_iconst (v := (1 : Int32)) C.1.1 C.1.2.1 dP_head_59 (by decide) ?_
    refine lv_goto (tgt := 64) C.1.1 C.1.2.1 dP_head_60 (by decide) ?_
    exact wP_head_64 C hr hlk hrv z2 pv2 r2.toInt32 (1 : Int32) _ _ ls (lv_sub hl [1, 0] rfl) hw hf
set_option maxHeartbeats 4000000 in
set_option maxRecDepth 100000 in
theorem wP_head_18 {p : Program} {l : Launch} {e : Env} {s : State} {m : MethodId} {args : Array Value} {below : List Frame} {meth : Method} {c : Code} {g : gT} {qq ad ea : Nat → Nat} {h : cH} {X : va_W} {rv : Option Value} {qp : Nat} {pv0 pv' : Nat → Int32} {z' : cZ} (C : mCx p m c cP_head 5 s args g "MidiDesk$Parser") (hr : meth.sig.returnType = none) (hlk : meth.locks = false) (hrv : rv = none) (z : cZ) (pv : Nat → Int32) (s1 : Int32) (H : Heap) (locs : List Loc) (ls : Array Slot) (hl : lv_has ls 5 [(0, .ref qp)]) (hw : cWd g (cA g qq ad ea h (pcell qp qq pv0 :: X) s.heap.size) s.heap qq ad ea h (pcell qp qq pv :: X) z H locs) (hf : jP_head_18 h z pv s1 = some (z', pv')) : cG p l e rP_head s m args below meth c g qq ad ea h (pcell qp qq pv0 :: X) rv (pcell qp qq pv' :: X) z' H locs 0 0 (F0 m 18 ls [.int s1, .ref qp]) := by
  unfold jP_head_18 at hf
  refine lv_iconst (v := (2 : Int32)) C.1.1 C.1.2.1 dP_head_18 (by decide) ?_
  refine lv_iconst (v := (0 : Int32)) C.1.1 C.1.2.1 dP_head_19 (by decide) ?_
  obtain ⟨⟨z1, pv1⟩, g1, hf⟩ := ts_b hf
  try dsimp only at hf
  refine c_callV (rest := []) (As := [.int s1, .int (2 : Int32), .int (0 : Int32)]) (rv := none) (b := qp) C hl.1 hw (cP_expect_met g1) rfl (callW_of (rm := rP_expect) (C := "MidiDesk$Parser") 3 C.1.2.2.2.2 gw_250 gw_252 gw_2 gw_59 gw_253 kP_expect ⟨Nat.le_of_ble_eq_true rfl, Nat.le_of_ble_eq_true rfl⟩) (c_recvX (ci := 2) C.2 rfl hw) rfl rfl (Nat.le_of_ble_eq_true rfl) dP_head_20 ⟨Nat.le_of_ble_eq_true rfl, Nat.le_of_ble_eq_true rfl⟩ (fun H locs hw => ?_)
  refine W.eq (g2 := F0 m 23 ls []) rfl ?_
  refine lv_aload_n C.1.1 C.1.2.1 dP_head_23 rfl (lv_at hl 0 rfl) ?_
  refine lv_aload_n C.1.1 C.1.2.1 dP_head_24 rfl (lv_at hl 0 rfl) ?_
  refine lv_iconst (v := (4 : Int32)) C.1.1 C.1.2.1 dP_head_25 (by decide) ?_
  obtain ⟨⟨r2, z2, pv2⟩, g2, hf⟩ := ts_b hf
  try dsimp only at hf
  refine c_callV (rest := [.ref qp]) (As := [.int (4 : Int32)]) (rv := (some (.long r2))) (b := qp) C hl.1 hw (cP_fixed_met g2) rfl (callW_of (rm := rP_fixed) (C := "MidiDesk$Parser") 1 C.1.2.2.2.2 gw_246 gw_248 gw_1 gw_59 gw_249 kP_fixed ⟨Nat.le_of_ble_eq_true rfl, Nat.le_of_ble_eq_true rfl⟩) (c_recvX (ci := 2) C.2 rfl hw) rfl rfl (Nat.le_of_ble_eq_true rfl) dP_head_26 ⟨Nat.le_of_ble_eq_true rfl, Nat.le_of_ble_eq_true rfl⟩ (fun H locs hw => ?_)
  refine W.eq (g2 := F0 m 29 ls [.long r2, .ref qp]) rfl ?_
  refine lv_ldc2 C.1.1 C.1.2.1 C.1.2.2.2.1 (C.1.2.2.2.2 _ gw_260) dP_head_29 ?_
  refine W.lcmp C.1.1 C.1.2.1 dP_head_32 ?_
  refine lv_if_ne (tgt := 40) C.1.1 C.1.2.1 dP_head_33 (by decide) (fun c3 => ?_) (fun c3 => ?_)
  · have hf := ts_f hf c3
    refine lv_iconst (v := (0 : Int32)) C.1.1 C.1.2.1 dP_head_40 (by decide) ?_
    exact wP_head_41 C hr hlk hrv z2 pv2 (0 : Int32) _ _ ls (lv_sub hl [0] rfl) hw hf
  · have hf := ts_t hf c3
    refine lv_iconst (v := (1 : Int32)) C.1.1 C.1.2.1 dP_head_36 (by decide) ?_
    refine lv_goto (tgt := 41) C.1.1 C.1.2.1 dP_head_37 (by decide) ?_
    exact wP_head_41 C hr hlk hrv z2 pv2 (1 : Int32) _ _ ls (lv_sub hl [0] rfl) hw hf
set_option maxHeartbeats 4000000 in
set_option maxRecDepth 100000 in
theorem cP_head_met {l : Launch} {g : gT} {qq ad ea : Nat → Nat} {h : cH} {X : va_W} {qp : Nat} {pv pv' : Nat → Int32} {z z' : cZ} (hf : fP_head h z pv = some (z', pv')) : cMet l yP_head cP_head 5 none rP_head g qq ad ea h (pcell qp qq pv :: X) z [.ref qp] (none) (pcell qp qq pv' :: X) z' := by
  refine c_entry (by decide) (Nat.le_of_ble_eq_true rfl) ?_
  intro p e s m args below meth c ls C hr hlk hnm hl hw
  have hrv : (none : Option Value) = none := rfl
  have C : mCx p m c cP_head 5 s args g "MidiDesk$Parser" := C
  have hl : lv_has ls 5 [(0, .ref qp)] := hl
  unfold fP_head at hf
  refine lv_aload_n C.1.1 C.1.2.1 dP_head_0 rfl (lv_at hl 0 rfl) ?_
  refine lv_aload_n C.1.1 C.1.2.1 dP_head_1 rfl (lv_at hl 0 rfl) ?_
  refine lv_iconst (v := (4 : Int32)) C.1.1 C.1.2.1 dP_head_2 (by decide) ?_
  obtain ⟨⟨r1, z1, pv1⟩, g1, hf⟩ := ts_b hf
  try dsimp only at hf
  refine c_callV (rest := [.ref qp]) (As := [.int (4 : Int32)]) (rv := (some (.long r1))) (b := qp) C hl.1 hw (cP_fixed_met g1) rfl (callW_of (rm := rP_fixed) (C := "MidiDesk$Parser") 1 C.1.2.2.2.2 gw_246 gw_248 gw_1 gw_59 gw_249 kP_fixed ⟨Nat.le_of_ble_eq_true rfl, Nat.le_of_ble_eq_true rfl⟩) (c_recvX (ci := 2) C.2 rfl hw) rfl rfl (Nat.le_of_ble_eq_true rfl) dP_head_3 ⟨Nat.le_of_ble_eq_true rfl, Nat.le_of_ble_eq_true rfl⟩ (fun H locs hw => ?_)
  refine W.eq (g2 := F0 m 6 ls [.long r1, .ref qp]) rfl ?_
  refine lv_ldc2 C.1.1 C.1.2.1 C.1.2.2.2.1 (C.1.2.2.2.2 _ gw_259) dP_head_6 ?_
  refine W.lcmp C.1.1 C.1.2.1 dP_head_9 ?_
  refine lv_if_ne (tgt := 17) C.1.1 C.1.2.1 dP_head_10 (by decide) (fun c2 => ?_) (fun c2 => ?_)
  · have hf := ts_f hf c2
    refine lv_iconst (v := (0 : Int32)) C.1.1 C.1.2.1 dP_head_17 (by decide) ?_
    exact wP_head_18 C hr hlk hrv z1 pv1 (0 : Int32) _ _ ls (lv_sub hl [0] rfl) hw hf
  · have hf := ts_t hf c2
    refine lv_iconst (v := (1 : Int32)) C.1.1 C.1.2.1 dP_head_13 (by decide) ?_
    refine lv_goto (tgt := 18) C.1.1 C.1.2.1 dP_head_14 (by decide) ?_
    exact wP_head_18 C hr hlk hrv z1 pv1 (1 : Int32) _ _ ls (lv_sub hl [0] rfl) hw hf
abbrev cP_beginsTrack : ByteArray := prog_4_method_9_code
abbrev yP_beginsTrack : MethodName := ⟨"MidiDesk$Parser", "beginsTrack", "()Z"⟩
theorem kP_beginsTrack : yP_beginsTrack.cls ≠ "java/lang/invoke/MethodHandle" ∧ yP_beginsTrack.cls ≠ "java/lang/invoke/VarHandle" ∧ (parseMethodDescriptor yP_beginsTrack.desc).map (fun d => d.parameters.length) = some 0 := by decide +kernel
abbrev rP_beginsTrack : Room := { frames := 2, cells := 0, slots := 0, locals := 47 }
theorem dP_beginsTrack_0 : decode cP_beginsTrack 0 = .ok (.aload_n 0, 1) := by decide +kernel
theorem dP_beginsTrack_1 : decode cP_beginsTrack 1 = .ok (.getfield 40, 3) := by decide +kernel
theorem dP_beginsTrack_4 : decode cP_beginsTrack 4 = .ok (.istore_n 1, 1) := by decide +kernel
theorem dP_beginsTrack_5 : decode cP_beginsTrack 5 = .ok (.aload_n 0, 1) := by decide +kernel
theorem dP_beginsTrack_6 : decode cP_beginsTrack 6 = .ok (.iconst 4, 1) := by decide +kernel
theorem dP_beginsTrack_7 : decode cP_beginsTrack 7 = .ok (.invokevirtual 73, 3) := by decide +kernel
theorem dP_beginsTrack_10 : decode cP_beginsTrack 10 = .ok (.ldc2_w 91, 3) := by decide +kernel
theorem dP_beginsTrack_13 : decode cP_beginsTrack 13 = .ok (.lcmp, 1) := by decide +kernel
theorem dP_beginsTrack_14 : decode cP_beginsTrack 14 = .ok (.ifCond .ne 7, 3) := by decide +kernel
theorem dP_beginsTrack_17 : decode cP_beginsTrack 17 = .ok (.iconst 1, 1) := by decide +kernel
theorem dP_beginsTrack_18 : decode cP_beginsTrack 18 = .ok (.goto 4, 3) := by decide +kernel
theorem dP_beginsTrack_21 : decode cP_beginsTrack 21 = .ok (.iconst 0, 1) := by decide +kernel
theorem dP_beginsTrack_22 : decode cP_beginsTrack 22 = .ok (.istore_n 2, 1) := by decide +kernel
theorem dP_beginsTrack_23 : decode cP_beginsTrack 23 = .ok (.aload_n 0, 1) := by decide +kernel
theorem dP_beginsTrack_24 : decode cP_beginsTrack 24 = .ok (.iload_n 2, 1) := by decide +kernel
theorem dP_beginsTrack_25 : decode cP_beginsTrack 25 = .ok (.ifCond .eq 17, 3) := by decide +kernel
theorem dP_beginsTrack_28 : decode cP_beginsTrack 28 = .ok (.aload_n 0, 1) := by decide +kernel
theorem dP_beginsTrack_29 : decode cP_beginsTrack 29 = .ok (.getfield 50, 3) := by decide +kernel
theorem dP_beginsTrack_32 : decode cP_beginsTrack 32 = .ok (.aload_n 0, 1) := by decide +kernel
theorem dP_beginsTrack_33 : decode cP_beginsTrack 33 = .ok (.getfield 15, 3) := by decide +kernel
theorem dP_beginsTrack_36 : decode cP_beginsTrack 36 = .ok (.getfield 53, 3) := by decide +kernel
theorem dP_beginsTrack_39 : decode cP_beginsTrack 39 = .ok (.if_icmp .ge 7, 3) := by decide +kernel
theorem dP_beginsTrack_42 : decode cP_beginsTrack 42 = .ok (.iconst 1, 1) := by decide +kernel
theorem dP_beginsTrack_43 : decode cP_beginsTrack 43 = .ok (.goto 4, 3) := by decide +kernel
theorem dP_beginsTrack_46 : decode cP_beginsTrack 46 = .ok (.iconst 0, 1) := by decide +kernel
theorem dP_beginsTrack_47 : decode cP_beginsTrack 47 = .ok (.bipush 10, 2) := by decide +kernel
theorem dP_beginsTrack_49 : decode cP_beginsTrack 49 = .ok (.iload_n 1, 1) := by decide +kernel
theorem dP_beginsTrack_50 : decode cP_beginsTrack 50 = .ok (.invokevirtual 56, 3) := by decide +kernel
theorem dP_beginsTrack_53 : decode cP_beginsTrack 53 = .ok (.aload_n 0, 1) := by decide +kernel
theorem dP_beginsTrack_54 : decode cP_beginsTrack 54 = .ok (.iconst 4, 1) := by decide +kernel
theorem dP_beginsTrack_55 : decode cP_beginsTrack 55 = .ok (.invokevirtual 73, 3) := by decide +kernel
theorem dP_beginsTrack_58 : decode cP_beginsTrack 58 = .ok (.lstore_n 3, 1) := by decide +kernel
theorem dP_beginsTrack_59 : decode cP_beginsTrack 59 = .ok (.aload_n 0, 1) := by decide +kernel
theorem dP_beginsTrack_60 : decode cP_beginsTrack 60 = .ok (.lload_n 3, 1) := by decide +kernel
theorem dP_beginsTrack_61 : decode cP_beginsTrack 61 = .ok (.aload_n 0, 1) := by decide +kernel
theorem dP_beginsTrack_62 : decode cP_beginsTrack 62 = .ok (.getfield 30, 3) := by decide +kernel
theorem dP_beginsTrack_65 : decode cP_beginsTrack 65 = .ok (.aload_n 0, 1) := by decide +kernel
theorem dP_beginsTrack_66 : decode cP_beginsTrack 66 = .ok (.getfield 40, 3) := by decide +kernel
theorem dP_beginsTrack_69 : decode cP_beginsTrack 69 = .ok (.isub, 1) := by decide +kernel
theorem dP_beginsTrack_70 : decode cP_beginsTrack 70 = .ok (.i2l, 1) := by decide +kernel
theorem dP_beginsTrack_71 : decode cP_beginsTrack 71 = .ok (.lcmp, 1) := by decide +kernel
theorem dP_beginsTrack_72 : decode cP_beginsTrack 72 = .ok (.ifCond .gt 7, 3) := by decide +kernel
theorem dP_beginsTrack_75 : decode cP_beginsTrack 75 = .ok (.iconst 1, 1) := by decide +kernel
theorem dP_beginsTrack_76 : decode cP_beginsTrack 76 = .ok (.goto 4, 3) := by decide +kernel
theorem dP_beginsTrack_79 : decode cP_beginsTrack 79 = .ok (.iconst 0, 1) := by decide +kernel
theorem dP_beginsTrack_80 : decode cP_beginsTrack 80 = .ok (.iconst 1, 1) := by decide +kernel
theorem dP_beginsTrack_81 : decode cP_beginsTrack 81 = .ok (.aload_n 0, 1) := by decide +kernel
theorem dP_beginsTrack_82 : decode cP_beginsTrack 82 = .ok (.getfield 30, 3) := by decide +kernel
theorem dP_beginsTrack_85 : decode cP_beginsTrack 85 = .ok (.invokevirtual 56, 3) := by decide +kernel
theorem dP_beginsTrack_88 : decode cP_beginsTrack 88 = .ok (.aload_n 0, 1) := by decide +kernel
theorem dP_beginsTrack_89 : decode cP_beginsTrack 89 = .ok (.getfield 37, 3) := by decide +kernel
theorem dP_beginsTrack_92 : decode cP_beginsTrack 92 = .ok (.ifCond .eq 5, 3) := by decide +kernel
theorem dP_beginsTrack_95 : decode cP_beginsTrack 95 = .ok (.iconst 0, 1) := by decide +kernel
theorem dP_beginsTrack_96 : decode cP_beginsTrack 96 = .ok (.ireturn, 1) := by decide +kernel
theorem dP_beginsTrack_97 : decode cP_beginsTrack 97 = .ok (.aload_n 0, 1) := by decide +kernel
theorem dP_beginsTrack_98 : decode cP_beginsTrack 98 = .ok (.aload_n 0, 1) := by decide +kernel
theorem dP_beginsTrack_99 : decode cP_beginsTrack 99 = .ok (.getfield 40, 3) := by decide +kernel
theorem dP_beginsTrack_102 : decode cP_beginsTrack 102 = .ok (.lload_n 3, 1) := by decide +kernel
theorem dP_beginsTrack_103 : decode cP_beginsTrack 103 = .ok (.l2i, 1) := by decide +kernel
theorem dP_beginsTrack_104 : decode cP_beginsTrack 104 = .ok (.iadd, 1) := by decide +kernel
theorem dP_beginsTrack_105 : decode cP_beginsTrack 105 = .ok (.putfield 30, 3) := by decide +kernel
theorem dP_beginsTrack_108 : decode cP_beginsTrack 108 = .ok (.iload_n 2, 1) := by decide +kernel
theorem dP_beginsTrack_109 : decode cP_beginsTrack 109 = .ok (.ireturn, 1) := by decide +kernel
def jP_beginsTrack_80 (h : cH) (z : cZ) (pv : Nat → Int32) (x2 : Int32) (y3 : Int64) (s1 : Int32) : Option (Int32 × cZ × (Nat → Int32)) := (fP_expect h z pv s1 (1 : Int32) (pv 1)).bind fun (z1, pv1) => if (pv1 2) = 0 then (if ¬ (x2 = 0 ∨ x2 = 1) then none else some (x2, z1, upd pv1 1 ((pv1 0) + y3.toInt32))) else (some ((0 : Int32), z1, pv1))
def jP_beginsTrack_47 (h : cH) (z : cZ) (pv : Nat → Int32) (x1 : Int32) (x2 : Int32) (s1 : Int32) : Option (Int32 × cZ × (Nat → Int32)) := (fP_expect h z pv s1 (10 : Int32) x1).bind fun (z1, pv1) => (fP_fixed h z1 pv1 (4 : Int32)).bind fun (r2, z2, pv2) => if 0 < (lg_cmp r2 (((pv2 1) - (pv2 0)).toInt64)) then (jP_beginsTrack_80 h z2 pv2 x2 r2 (0 : Int32)) else (jP_beginsTrack_80 h z2 pv2 x2 r2 (1 : Int32))
def jP_beginsTrack_42 (h : cH) (z : cZ) (pv : Nat → Int32) (x1 : Int32) (x2 : Int32) : Option (Int32 × cZ × (Nat → Int32)) := jP_beginsTrack_47 h z pv x1 x2 (1 : Int32)
def jP_beginsTrack_22 (h : cH) (z : cZ) (pv : Nat → Int32) (x1 : Int32) (s0 : Int32) : Option (Int32 × cZ × (Nat → Int32)) := if s0 = 0 then (jP_beginsTrack_42 h z pv x1 s0) else (if (zi z 5) ≤ (pv 3) then (jP_beginsTrack_47 h z pv x1 s0 (0 : Int32)) else (jP_beginsTrack_42 h z pv x1 s0))
def fP_beginsTrack (h : cH) (z : cZ) (pv : Nat → Int32) : Option (Int32 × cZ × (Nat → Int32)) := (fP_fixed h z pv (4 : Int32)).bind fun (r1, z1, pv1) => if (lg_cmp r1 (1297379947 : Int64)) = 0 then (jP_beginsTrack_22 h z1 pv1 (pv 0) (1 : Int32)) else (jP_beginsTrack_22 h z1 pv1 (pv 0) (0 : Int32))
set_option maxHeartbeats 4000000 in
set_option maxRecDepth 100000 in
theorem wP_beginsTrack_80 {p : Program} {l : Launch} {e : Env} {s : State} {m : MethodId} {args : Array Value} {below : List Frame} {meth : Method} {c : Code} {g : gT} {qq ad ea : Nat → Nat} {h : cH} {X : va_W} {rv : Option Value} {qp : Nat} {pv0 pv' : Nat → Int32} {z' : cZ} {r' : Int32} (C : mCx p m c cP_beginsTrack 5 s args g "MidiDesk$Parser") (hr : meth.sig.returnType = (some .boolean)) (hlk : meth.locks = false) (hrv : rv = some (.int r')) (z : cZ) (pv : Nat → Int32) (x2 : Int32) (y3 : Int64) (s1 : Int32) (H : Heap) (locs : List Loc) (ls : Array Slot) (hl : lv_has ls 5 [(0, .ref qp), (2, .int x2), (3, .long y3)]) (hw : cWd g (cA g qq ad ea h (pcell qp qq pv0 :: X) s.heap.size) s.heap qq ad ea h (pcell qp qq pv :: X) z H locs) (hf : jP_beginsTrack_80 h z pv x2 y3 s1 = some (r', z', pv')) : cG p l e rP_beginsTrack s m args below meth c g qq ad ea h (pcell qp qq pv0 :: X) rv (pcell qp qq pv' :: X) z' H locs 0 0 (F0 m 80 ls [.int s1, .ref qp]) := by
  unfold jP_beginsTrack_80 at hf
  refine lv_iconst (v := (1 : Int32)) C.1.1 C.1.2.1 dP_beginsTrack_80 (by decide) ?_
  refine lv_aload_n C.1.1 C.1.2.1 dP_beginsTrack_81 rfl (lv_at hl 0 rfl) ?_
  refine cg_Parser_Parser_end C hw dP_beginsTrack_82 ?_
  obtain ⟨⟨z1, pv1⟩, g1, hf⟩ := ts_b hf
  try dsimp only at hf
  refine c_callV (rest := []) (As := [.int s1, .int (1 : Int32), .int (pv 1)]) (rv := none) (b := qp) C hl.1 hw (cP_expect_met g1) rfl (callW_of (rm := rP_expect) (C := "MidiDesk$Parser") 3 C.1.2.2.2.2 gw_250 gw_252 gw_2 gw_59 gw_253 kP_expect ⟨Nat.le_of_ble_eq_true rfl, Nat.le_of_ble_eq_true rfl⟩) (c_recvX (ci := 2) C.2 rfl hw) rfl rfl (Nat.le_of_ble_eq_true rfl) dP_beginsTrack_85 ⟨Nat.le_of_ble_eq_true rfl, Nat.le_of_ble_eq_true rfl⟩ (fun H locs hw => ?_)
  refine W.eq (g2 := F0 m 88 ls []) rfl ?_
  refine lv_aload_n C.1.1 C.1.2.1 dP_beginsTrack_88 rfl (lv_at hl 0 rfl) ?_
  refine cg_Parser_Parser_fault C hw dP_beginsTrack_89 ?_
  refine lv_if_eq (tgt := 97) C.1.1 C.1.2.1 dP_beginsTrack_92 (by decide) (fun c2 => ?_) (fun c2 => ?_)
  · have hf := ts_t hf c2
    refine lv_aload_n C.1.1 C.1.2.1 dP_beginsTrack_97 rfl (lv_at hl 0 rfl) ?_
    refine lv_aload_n C.1.1 C.1.2.1 dP_beginsTrack_98 rfl (lv_at hl 0 rfl) ?_
    refine cg_Parser_Parser_pos C hw dP_beginsTrack_99 ?_
    refine lv_lload_n C.1.1 C.1.2.1 dP_beginsTrack_102 rfl (lv_at hl 2 rfl) ?_
    refine lv_l2i C.1.1 C.1.2.1 dP_beginsTrack_103 rfl ?_
    refine lv_iadd C.1.1 C.1.2.1 dP_beginsTrack_104 ?_
    refine cp_Parser_Parser_end C hw dP_beginsTrack_105 (fun H locs hw => ?_)
    refine lv_iload_n C.1.1 C.1.2.1 dP_beginsTrack_108 rfl (lv_at hl 1 rfl) ?_
    obtain ⟨h3, hf⟩ := ts_g hf
    obtain ⟨hf, hpv⟩ := pr3 hf
    exact c_retz C hr hlk hrv hw (Decidable.not_not.mp h3) hf (by rw [hpv]) ⟨Nat.le_of_ble_eq_true rfl, Nat.le_of_ble_eq_true rfl⟩ dP_beginsTrack_109
  · have hf := ts_f hf c2
    refine lv_iconst (v := (0 : Int32)) C.1.1 C.1.2.1 dP_beginsTrack_95 (by decide) ?_
    obtain ⟨hf, hpv⟩ := pr3 hf
    exact c_retz C hr hlk hrv hw (Or.inl rfl) hf (by rw [hpv]) ⟨Nat.le_of_ble_eq_true rfl, Nat.le_of_ble_eq_true rfl⟩ dP_beginsTrack_96
set_option maxHeartbeats 4000000 in
set_option maxRecDepth 100000 in
theorem wP_beginsTrack_47 {p : Program} {l : Launch} {e : Env} {s : State} {m : MethodId} {args : Array Value} {below : List Frame} {meth : Method} {c : Code} {g : gT} {qq ad ea : Nat → Nat} {h : cH} {X : va_W} {rv : Option Value} {qp : Nat} {pv0 pv' : Nat → Int32} {z' : cZ} {r' : Int32} (C : mCx p m c cP_beginsTrack 5 s args g "MidiDesk$Parser") (hr : meth.sig.returnType = (some .boolean)) (hlk : meth.locks = false) (hrv : rv = some (.int r')) (z : cZ) (pv : Nat → Int32) (x1 : Int32) (x2 : Int32) (s1 : Int32) (H : Heap) (locs : List Loc) (ls : Array Slot) (hl : lv_has ls 5 [(0, .ref qp), (1, .int x1), (2, .int x2)]) (hw : cWd g (cA g qq ad ea h (pcell qp qq pv0 :: X) s.heap.size) s.heap qq ad ea h (pcell qp qq pv :: X) z H locs) (hf : jP_beginsTrack_47 h z pv x1 x2 s1 = some (r', z', pv')) : cG p l e rP_beginsTrack s m args below meth c g qq ad ea h (pcell qp qq pv0 :: X) rv (pcell qp qq pv' :: X) z' H locs 0 0 (F0 m 47 ls [.int s1, .ref qp]) := by
  unfold jP_beginsTrack_47 at hf
  refine lv_bipush (v := (10 : Int32)) C.1.1 C.1.2.1 dP_beginsTrack_47 (by decide) ?_
  refine lv_iload_n C.1.1 C.1.2.1 dP_beginsTrack_49 rfl (lv_at hl 1 rfl) ?_
  obtain ⟨⟨z1, pv1⟩, g1, hf⟩ := ts_b hf
  try dsimp only at hf
  refine c_callV (rest := []) (As := [.int s1, .int (10 : Int32), .int x1]) (rv := none) (b := qp) C hl.1 hw (cP_expect_met g1) rfl (callW_of (rm := rP_expect) (C := "MidiDesk$Parser") 3 C.1.2.2.2.2 gw_250 gw_252 gw_2 gw_59 gw_253 kP_expect ⟨Nat.le_of_ble_eq_true rfl, Nat.le_of_ble_eq_true rfl⟩) (c_recvX (ci := 2) C.2 rfl hw) rfl rfl (Nat.le_of_ble_eq_true rfl) dP_beginsTrack_50 ⟨Nat.le_of_ble_eq_true rfl, Nat.le_of_ble_eq_true rfl⟩ (fun H locs hw => ?_)
  refine W.eq (g2 := F0 m 53 ls []) rfl ?_
  refine lv_aload_n C.1.1 C.1.2.1 dP_beginsTrack_53 rfl (lv_at hl 0 rfl) ?_
  refine lv_iconst (v := (4 : Int32)) C.1.1 C.1.2.1 dP_beginsTrack_54 (by decide) ?_
  obtain ⟨⟨r2, z2, pv2⟩, g2, hf⟩ := ts_b hf
  try dsimp only at hf
  refine c_callV (rest := []) (As := [.int (4 : Int32)]) (rv := (some (.long r2))) (b := qp) C hl.1 hw (cP_fixed_met g2) rfl (callW_of (rm := rP_fixed) (C := "MidiDesk$Parser") 1 C.1.2.2.2.2 gw_246 gw_248 gw_1 gw_59 gw_249 kP_fixed ⟨Nat.le_of_ble_eq_true rfl, Nat.le_of_ble_eq_true rfl⟩) (c_recvX (ci := 2) C.2 rfl hw) rfl rfl (Nat.le_of_ble_eq_true rfl) dP_beginsTrack_55 ⟨Nat.le_of_ble_eq_true rfl, Nat.le_of_ble_eq_true rfl⟩ (fun H locs hw => ?_)
  refine W.eq (g2 := F0 m 58 ls [.long r2]) rfl ?_
  refine lv_lstore_n (lv' := [(3, .long r2), (0, .ref qp), (1, .int x1), (2, .int x2)]) C.1.1 C.1.2.1 dP_beginsTrack_58 rfl hl (by decide) rfl (fun ls hl => ?_)
  refine lv_aload_n C.1.1 C.1.2.1 dP_beginsTrack_59 rfl (lv_at hl 1 rfl) ?_
  refine lv_lload_n C.1.1 C.1.2.1 dP_beginsTrack_60 rfl (lv_at hl 0 rfl) ?_
  refine lv_aload_n C.1.1 C.1.2.1 dP_beginsTrack_61 rfl (lv_at hl 1 rfl) ?_
  refine cg_Parser_Parser_end C hw dP_beginsTrack_62 ?_
  refine lv_aload_n C.1.1 C.1.2.1 dP_beginsTrack_65 rfl (lv_at hl 1 rfl) ?_
  refine cg_Parser_Parser_pos C hw dP_beginsTrack_66 ?_
  refine lv_isub C.1.1 C.1.2.1 dP_beginsTrack_69 ?_
  refine lv_i2l C.1.1 C.1.2.1 dP_beginsTrack_70 rfl ?_
  refine W.lcmp C.1.1 C.1.2.1 dP_beginsTrack_71 ?_
  refine lv_if_gt (tgt := 79) C.1.1 C.1.2.1 dP_beginsTrack_72 (by decide) (fun c3 => ?_) (fun c3 => ?_)
  · have hf := ts_t hf c3
    refine lv_iconst (v := (0 : Int32)) C.1.1 C.1.2.1 dP_beginsTrack_79 (by decide) ?_
    exact wP_beginsTrack_80 C hr hlk hrv z2 pv2 x2 r2 (0 : Int32) _ _ ls (lv_sub hl [1, 3, 0] rfl) hw hf
  · have hf := ts_f hf c3
    refine lv_iconst (v := (1 : Int32)) C.1.1 C.1.2.1 dP_beginsTrack_75 (by decide) ?_
    refine lv_goto (tgt := 80) C.1.1 C.1.2.1 dP_beginsTrack_76 (by decide) ?_
    exact wP_beginsTrack_80 C hr hlk hrv z2 pv2 x2 r2 (1 : Int32) _ _ ls (lv_sub hl [1, 3, 0] rfl) hw hf
set_option maxHeartbeats 4000000 in
set_option maxRecDepth 100000 in
theorem wP_beginsTrack_42 {p : Program} {l : Launch} {e : Env} {s : State} {m : MethodId} {args : Array Value} {below : List Frame} {meth : Method} {c : Code} {g : gT} {qq ad ea : Nat → Nat} {h : cH} {X : va_W} {rv : Option Value} {qp : Nat} {pv0 pv' : Nat → Int32} {z' : cZ} {r' : Int32} (C : mCx p m c cP_beginsTrack 5 s args g "MidiDesk$Parser") (hr : meth.sig.returnType = (some .boolean)) (hlk : meth.locks = false) (hrv : rv = some (.int r')) (z : cZ) (pv : Nat → Int32) (x1 : Int32) (x2 : Int32) (H : Heap) (locs : List Loc) (ls : Array Slot) (hl : lv_has ls 5 [(0, .ref qp), (1, .int x1), (2, .int x2)]) (hw : cWd g (cA g qq ad ea h (pcell qp qq pv0 :: X) s.heap.size) s.heap qq ad ea h (pcell qp qq pv :: X) z H locs) (hf : jP_beginsTrack_42 h z pv x1 x2 = some (r', z', pv')) : cG p l e rP_beginsTrack s m args below meth c g qq ad ea h (pcell qp qq pv0 :: X) rv (pcell qp qq pv' :: X) z' H locs 0 0 (F0 m 42 ls [.ref qp]) := by
  unfold jP_beginsTrack_42 at hf
  refine lv_iconst (v := (1 : Int32)) C.1.1 C.1.2.1 dP_beginsTrack_42 (by decide) ?_
  refine lv_goto (tgt := 47) C.1.1 C.1.2.1 dP_beginsTrack_43 (by decide) ?_
  exact wP_beginsTrack_47 C hr hlk hrv z pv x1 x2 (1 : Int32) _ _ ls (lv_sub hl [0, 1, 2] rfl) hw hf
set_option maxHeartbeats 4000000 in
set_option maxRecDepth 100000 in
theorem wP_beginsTrack_22 {p : Program} {l : Launch} {e : Env} {s : State} {m : MethodId} {args : Array Value} {below : List Frame} {meth : Method} {c : Code} {g : gT} {qq ad ea : Nat → Nat} {h : cH} {X : va_W} {rv : Option Value} {qp : Nat} {pv0 pv' : Nat → Int32} {z' : cZ} {r' : Int32} (C : mCx p m c cP_beginsTrack 5 s args g "MidiDesk$Parser") (hr : meth.sig.returnType = (some .boolean)) (hlk : meth.locks = false) (hrv : rv = some (.int r')) (z : cZ) (pv : Nat → Int32) (x1 : Int32) (s0 : Int32) (H : Heap) (locs : List Loc) (ls : Array Slot) (hl : lv_has ls 5 [(0, .ref qp), (1, .int x1)]) (hw : cWd g (cA g qq ad ea h (pcell qp qq pv0 :: X) s.heap.size) s.heap qq ad ea h (pcell qp qq pv :: X) z H locs) (hf : jP_beginsTrack_22 h z pv x1 s0 = some (r', z', pv')) : cG p l e rP_beginsTrack s m args below meth c g qq ad ea h (pcell qp qq pv0 :: X) rv (pcell qp qq pv' :: X) z' H locs 0 0 (F0 m 22 ls [.int s0]) := by
  unfold jP_beginsTrack_22 at hf
  refine lv_istore_n (lv' := [(2, .int s0), (0, .ref qp), (1, .int x1)]) C.1.1 C.1.2.1 dP_beginsTrack_22 rfl hl (by decide) rfl (fun ls hl => ?_)
  refine lv_aload_n C.1.1 C.1.2.1 dP_beginsTrack_23 rfl (lv_at hl 1 rfl) ?_
  refine lv_iload_n C.1.1 C.1.2.1 dP_beginsTrack_24 rfl (lv_at hl 0 rfl) ?_
  refine lv_if_eq (tgt := 42) C.1.1 C.1.2.1 dP_beginsTrack_25 (by decide) (fun c1 => ?_) (fun c1 => ?_)
  · have hf := ts_t hf c1
    exact wP_beginsTrack_42 C hr hlk hrv z pv x1 s0 _ _ ls (lv_sub hl [1, 2, 0] rfl) hw hf
  · have hf := ts_f hf c1
    refine lv_aload_n C.1.1 C.1.2.1 dP_beginsTrack_28 rfl (lv_at hl 1 rfl) ?_
    refine cg_Parser_Parser_tracksSeen C hw dP_beginsTrack_29 ?_
    refine lv_aload_n C.1.1 C.1.2.1 dP_beginsTrack_32 rfl (lv_at hl 1 rfl) ?_
    refine cg_Parser_Parser_score C hw dP_beginsTrack_33 ?_
    refine cg_Parser_Score_tracks C hw dP_beginsTrack_36 ?_
    refine lv_icmp_ge (tgt := 46) C.1.1 C.1.2.1 dP_beginsTrack_39 (by decide) (fun c2 => ?_) (fun c2 => ?_)
    · have hf := ts_t hf c2
      refine lv_iconst (v := (0 : Int32)) C.1.1 C.1.2.1 dP_beginsTrack_46 (by decide) ?_
      exact wP_beginsTrack_47 C hr hlk hrv z pv x1 s0 (0 : Int32) _ _ ls (lv_sub hl [1, 2, 0] rfl) hw hf
    · have hf := ts_f hf c2
      exact wP_beginsTrack_42 C hr hlk hrv z pv x1 s0 _ _ ls (lv_sub hl [1, 2, 0] rfl) hw hf
set_option maxHeartbeats 4000000 in
set_option maxRecDepth 100000 in
theorem cP_beginsTrack_met {l : Launch} {g : gT} {qq ad ea : Nat → Nat} {h : cH} {X : va_W} {qp : Nat} {pv pv' : Nat → Int32} {z z' : cZ} {r' : Int32} (hf : fP_beginsTrack h z pv = some (r', z', pv')) : cMet l yP_beginsTrack cP_beginsTrack 5 (some .boolean) rP_beginsTrack g qq ad ea h (pcell qp qq pv :: X) z [.ref qp] (some (.int r')) (pcell qp qq pv' :: X) z' := by
  refine c_entry (by decide) (Nat.le_of_ble_eq_true rfl) ?_
  intro p e s m args below meth c ls C hr hlk hnm hl hw
  have hrv : (some (.int r') : Option Value) = some (.int r') := rfl
  have C : mCx p m c cP_beginsTrack 5 s args g "MidiDesk$Parser" := C
  have hl : lv_has ls 5 [(0, .ref qp)] := hl
  unfold fP_beginsTrack at hf
  refine lv_aload_n C.1.1 C.1.2.1 dP_beginsTrack_0 rfl (lv_at hl 0 rfl) ?_
  refine cg_Parser_Parser_pos C hw dP_beginsTrack_1 ?_
  refine lv_istore_n (lv' := [(1, .int (pv 0)), (0, .ref qp)]) C.1.1 C.1.2.1 dP_beginsTrack_4 rfl hl (by decide) rfl (fun ls hl => ?_)
  refine lv_aload_n C.1.1 C.1.2.1 dP_beginsTrack_5 rfl (lv_at hl 1 rfl) ?_
  refine lv_iconst (v := (4 : Int32)) C.1.1 C.1.2.1 dP_beginsTrack_6 (by decide) ?_
  obtain ⟨⟨r1, z1, pv1⟩, g1, hf⟩ := ts_b hf
  try dsimp only at hf
  refine c_callV (rest := []) (As := [.int (4 : Int32)]) (rv := (some (.long r1))) (b := qp) C hl.1 hw (cP_fixed_met g1) rfl (callW_of (rm := rP_fixed) (C := "MidiDesk$Parser") 1 C.1.2.2.2.2 gw_246 gw_248 gw_1 gw_59 gw_249 kP_fixed ⟨Nat.le_of_ble_eq_true rfl, Nat.le_of_ble_eq_true rfl⟩) (c_recvX (ci := 2) C.2 rfl hw) rfl rfl (Nat.le_of_ble_eq_true rfl) dP_beginsTrack_7 ⟨Nat.le_of_ble_eq_true rfl, Nat.le_of_ble_eq_true rfl⟩ (fun H locs hw => ?_)
  refine W.eq (g2 := F0 m 10 ls [.long r1]) rfl ?_
  refine lv_ldc2 C.1.1 C.1.2.1 C.1.2.2.2.1 (C.1.2.2.2.2 _ gw_268) dP_beginsTrack_10 ?_
  refine W.lcmp C.1.1 C.1.2.1 dP_beginsTrack_13 ?_
  refine lv_if_ne (tgt := 21) C.1.1 C.1.2.1 dP_beginsTrack_14 (by decide) (fun c2 => ?_) (fun c2 => ?_)
  · have hf := ts_f hf c2
    refine lv_iconst (v := (0 : Int32)) C.1.1 C.1.2.1 dP_beginsTrack_21 (by decide) ?_
    exact wP_beginsTrack_22 C hr hlk hrv z1 pv1 (pv 0) (0 : Int32) _ _ ls (lv_sub hl [1, 0] rfl) hw hf
  · have hf := ts_t hf c2
    refine lv_iconst (v := (1 : Int32)) C.1.1 C.1.2.1 dP_beginsTrack_17 (by decide) ?_
    refine lv_goto (tgt := 22) C.1.1 C.1.2.1 dP_beginsTrack_18 (by decide) ?_
    exact wP_beginsTrack_22 C hr hlk hrv z1 pv1 (pv 0) (1 : Int32) _ _ ls (lv_sub hl [1, 0] rfl) hw hf
abbrev cP_status : ByteArray := prog_4_method_12_code
abbrev yP_status : MethodName := ⟨"MidiDesk$Parser", "status", "()I"⟩
theorem kP_status : yP_status.cls ≠ "java/lang/invoke/MethodHandle" ∧ yP_status.cls ≠ "java/lang/invoke/VarHandle" ∧ (parseMethodDescriptor yP_status.desc).map (fun d => d.parameters.length) = some 0 := by decide +kernel
abbrev rP_status : Room := { frames := 2, cells := 0, slots := 0, locals := 47 }
theorem dP_status_0 : decode cP_status 0 = .ok (.aload_n 0, 1) := by decide +kernel
theorem dP_status_1 : decode cP_status 1 = .ok (.getfield 40, 3) := by decide +kernel
theorem dP_status_4 : decode cP_status 4 = .ok (.istore_n 1, 1) := by decide +kernel
theorem dP_status_5 : decode cP_status 5 = .ok (.aload_n 0, 1) := by decide +kernel
theorem dP_status_6 : decode cP_status 6 = .ok (.iconst 1, 1) := by decide +kernel
theorem dP_status_7 : decode cP_status 7 = .ok (.invokevirtual 73, 3) := by decide +kernel
theorem dP_status_10 : decode cP_status 10 = .ok (.l2i, 1) := by decide +kernel
theorem dP_status_11 : decode cP_status 11 = .ok (.istore_n 2, 1) := by decide +kernel
theorem dP_status_12 : decode cP_status 12 = .ok (.aload_n 0, 1) := by decide +kernel
theorem dP_status_13 : decode cP_status 13 = .ok (.getfield 37, 3) := by decide +kernel
theorem dP_status_16 : decode cP_status 16 = .ok (.ifCond .ne 39, 3) := by decide +kernel
theorem dP_status_19 : decode cP_status 19 = .ok (.iload_n 2, 1) := by decide +kernel
theorem dP_status_20 : decode cP_status 20 = .ok (.sipush 128, 3) := by decide +kernel
theorem dP_status_23 : decode cP_status 23 = .ok (.if_icmp .ge 32, 3) := by decide +kernel
theorem dP_status_26 : decode cP_status 26 = .ok (.aload_n 0, 1) := by decide +kernel
theorem dP_status_27 : decode cP_status 27 = .ok (.aload_n 0, 1) := by decide +kernel
theorem dP_status_28 : decode cP_status 28 = .ok (.getfield 96, 3) := by decide +kernel
theorem dP_status_31 : decode cP_status 31 = .ok (.iconst (-1), 1) := by decide +kernel
theorem dP_status_32 : decode cP_status 32 = .ok (.if_icmp .eq 7, 3) := by decide +kernel
theorem dP_status_35 : decode cP_status 35 = .ok (.iconst 1, 1) := by decide +kernel
theorem dP_status_36 : decode cP_status 36 = .ok (.goto 4, 3) := by decide +kernel
theorem dP_status_39 : decode cP_status 39 = .ok (.iconst 0, 1) := by decide +kernel
theorem dP_status_40 : decode cP_status 40 = .ok (.iconst 5, 1) := by decide +kernel
theorem dP_status_41 : decode cP_status 41 = .ok (.iload_n 1, 1) := by decide +kernel
theorem dP_status_42 : decode cP_status 42 = .ok (.invokevirtual 56, 3) := by decide +kernel
theorem dP_status_45 : decode cP_status 45 = .ok (.aload_n 0, 1) := by decide +kernel
theorem dP_status_46 : decode cP_status 46 = .ok (.iload_n 1, 1) := by decide +kernel
theorem dP_status_47 : decode cP_status 47 = .ok (.putfield 40, 3) := by decide +kernel
theorem dP_status_50 : decode cP_status 50 = .ok (.aload_n 0, 1) := by decide +kernel
theorem dP_status_51 : decode cP_status 51 = .ok (.getfield 96, 3) := by decide +kernel
theorem dP_status_54 : decode cP_status 54 = .ok (.ireturn, 1) := by decide +kernel
theorem dP_status_55 : decode cP_status 55 = .ok (.aload_n 0, 1) := by decide +kernel
theorem dP_status_56 : decode cP_status 56 = .ok (.iload_n 2, 1) := by decide +kernel
theorem dP_status_57 : decode cP_status 57 = .ok (.sipush 240, 3) := by decide +kernel
theorem dP_status_60 : decode cP_status 60 = .ok (.if_icmp .le 17, 3) := by decide +kernel
theorem dP_status_63 : decode cP_status 63 = .ok (.iload_n 2, 1) := by decide +kernel
theorem dP_status_64 : decode cP_status 64 = .ok (.sipush 247, 3) := by decide +kernel
theorem dP_status_67 : decode cP_status 67 = .ok (.if_icmp .eq 10, 3) := by decide +kernel
theorem dP_status_70 : decode cP_status 70 = .ok (.iload_n 2, 1) := by decide +kernel
theorem dP_status_71 : decode cP_status 71 = .ok (.sipush 255, 3) := by decide +kernel
theorem dP_status_74 : decode cP_status 74 = .ok (.if_icmp .ne 7, 3) := by decide +kernel
theorem dP_status_77 : decode cP_status 77 = .ok (.iconst 1, 1) := by decide +kernel
theorem dP_status_78 : decode cP_status 78 = .ok (.goto 4, 3) := by decide +kernel
theorem dP_status_81 : decode cP_status 81 = .ok (.iconst 0, 1) := by decide +kernel
theorem dP_status_82 : decode cP_status 82 = .ok (.iconst 5, 1) := by decide +kernel
theorem dP_status_83 : decode cP_status 83 = .ok (.iload_n 1, 1) := by decide +kernel
theorem dP_status_84 : decode cP_status 84 = .ok (.invokevirtual 56, 3) := by decide +kernel
theorem dP_status_87 : decode cP_status 87 = .ok (.iload_n 2, 1) := by decide +kernel
theorem dP_status_88 : decode cP_status 88 = .ok (.ireturn, 1) := by decide +kernel
def jP_status_40 (h : cH) (z : cZ) (pv : Nat → Int32) (x1 : Int32) (s1 : Int32) : Option (Int32 × cZ × (Nat → Int32)) := (fP_expect h z pv s1 (5 : Int32) x1).bind fun (z1, pv1) => some ((upd pv1 0 x1) 5, z1, upd pv1 0 x1)
def jP_status_82 (h : cH) (z : cZ) (pv : Nat → Int32) (x1 : Int32) (x2 : Int32) (s1 : Int32) : Option (Int32 × cZ × (Nat → Int32)) := (fP_expect h z pv s1 (5 : Int32) x1).bind fun (z1, pv1) => some (x2, z1, pv1)
def jP_status_77 (h : cH) (z : cZ) (pv : Nat → Int32) (x1 : Int32) (x2 : Int32) : Option (Int32 × cZ × (Nat → Int32)) := jP_status_82 h z pv x1 x2 (1 : Int32)
def jP_status_55 (h : cH) (z : cZ) (pv : Nat → Int32) (x1 : Int32) (x2 : Int32) : Option (Int32 × cZ × (Nat → Int32)) := if x2 ≤ (240 : Int32) then (jP_status_77 h z pv x1 x2) else (if x2 = (247 : Int32) then (jP_status_77 h z pv x1 x2) else (if x2 = (255 : Int32) then (jP_status_77 h z pv x1 x2) else (jP_status_82 h z pv x1 x2 (0 : Int32))))
def fP_status (h : cH) (z : cZ) (pv : Nat → Int32) : Option (Int32 × cZ × (Nat → Int32)) := (fP_fixed h z pv (1 : Int32)).bind fun (r1, z1, pv1) => if (pv1 2) = 0 then (if (128 : Int32) ≤ r1.toInt32 then (jP_status_55 h z1 pv1 (pv 0) r1.toInt32) else (if (pv1 5) = (-1 : Int32) then (jP_status_40 h z1 pv1 (pv 0) (0 : Int32)) else (jP_status_40 h z1 pv1 (pv 0) (1 : Int32)))) else (jP_status_55 h z1 pv1 (pv 0) r1.toInt32)
set_option maxHeartbeats 4000000 in
set_option maxRecDepth 100000 in
theorem wP_status_40 {p : Program} {l : Launch} {e : Env} {s : State} {m : MethodId} {args : Array Value} {below : List Frame} {meth : Method} {c : Code} {g : gT} {qq ad ea : Nat → Nat} {h : cH} {X : va_W} {rv : Option Value} {qp : Nat} {pv0 pv' : Nat → Int32} {z' : cZ} {r' : Int32} (C : mCx p m c cP_status 3 s args g "MidiDesk$Parser") (hr : meth.sig.returnType = (some .int)) (hlk : meth.locks = false) (hrv : rv = some (.int r')) (z : cZ) (pv : Nat → Int32) (x1 : Int32) (s1 : Int32) (H : Heap) (locs : List Loc) (ls : Array Slot) (hl : lv_has ls 3 [(0, .ref qp), (1, .int x1)]) (hw : cWd g (cA g qq ad ea h (pcell qp qq pv0 :: X) s.heap.size) s.heap qq ad ea h (pcell qp qq pv :: X) z H locs) (hf : jP_status_40 h z pv x1 s1 = some (r', z', pv')) : cG p l e rP_status s m args below meth c g qq ad ea h (pcell qp qq pv0 :: X) rv (pcell qp qq pv' :: X) z' H locs 0 0 (F0 m 40 ls [.int s1, .ref qp]) := by
  unfold jP_status_40 at hf
  refine lv_iconst (v := (5 : Int32)) C.1.1 C.1.2.1 dP_status_40 (by decide) ?_
  refine lv_iload_n C.1.1 C.1.2.1 dP_status_41 rfl (lv_at hl 1 rfl) ?_
  obtain ⟨⟨z1, pv1⟩, g1, hf⟩ := ts_b hf
  try dsimp only at hf
  refine c_callV (rest := []) (As := [.int s1, .int (5 : Int32), .int x1]) (rv := none) (b := qp) C hl.1 hw (cP_expect_met g1) rfl (callW_of (rm := rP_expect) (C := "MidiDesk$Parser") 3 C.1.2.2.2.2 gw_250 gw_252 gw_2 gw_59 gw_253 kP_expect ⟨Nat.le_of_ble_eq_true rfl, Nat.le_of_ble_eq_true rfl⟩) (c_recvX (ci := 2) C.2 rfl hw) rfl rfl (Nat.le_of_ble_eq_true rfl) dP_status_42 ⟨Nat.le_of_ble_eq_true rfl, Nat.le_of_ble_eq_true rfl⟩ (fun H locs hw => ?_)
  refine W.eq (g2 := F0 m 45 ls []) rfl ?_
  refine lv_aload_n C.1.1 C.1.2.1 dP_status_45 rfl (lv_at hl 0 rfl) ?_
  refine lv_iload_n C.1.1 C.1.2.1 dP_status_46 rfl (lv_at hl 1 rfl) ?_
  refine cp_Parser_Parser_pos C hw dP_status_47 (fun H locs hw => ?_)
  refine lv_aload_n C.1.1 C.1.2.1 dP_status_50 rfl (lv_at hl 0 rfl) ?_
  refine cg_Parser_Parser_running C hw dP_status_51 ?_
  obtain ⟨hf, hpv⟩ := pr3 hf
  exact c_reti C hr hlk hrv hw hf (by rw [hpv]) ⟨Nat.le_of_ble_eq_true rfl, Nat.le_of_ble_eq_true rfl⟩ dP_status_54
set_option maxHeartbeats 4000000 in
set_option maxRecDepth 100000 in
theorem wP_status_82 {p : Program} {l : Launch} {e : Env} {s : State} {m : MethodId} {args : Array Value} {below : List Frame} {meth : Method} {c : Code} {g : gT} {qq ad ea : Nat → Nat} {h : cH} {X : va_W} {rv : Option Value} {qp : Nat} {pv0 pv' : Nat → Int32} {z' : cZ} {r' : Int32} (C : mCx p m c cP_status 3 s args g "MidiDesk$Parser") (hr : meth.sig.returnType = (some .int)) (hlk : meth.locks = false) (hrv : rv = some (.int r')) (z : cZ) (pv : Nat → Int32) (x1 : Int32) (x2 : Int32) (s1 : Int32) (H : Heap) (locs : List Loc) (ls : Array Slot) (hl : lv_has ls 3 [(0, .ref qp), (1, .int x1), (2, .int x2)]) (hw : cWd g (cA g qq ad ea h (pcell qp qq pv0 :: X) s.heap.size) s.heap qq ad ea h (pcell qp qq pv :: X) z H locs) (hf : jP_status_82 h z pv x1 x2 s1 = some (r', z', pv')) : cG p l e rP_status s m args below meth c g qq ad ea h (pcell qp qq pv0 :: X) rv (pcell qp qq pv' :: X) z' H locs 0 0 (F0 m 82 ls [.int s1, .ref qp]) := by
  unfold jP_status_82 at hf
  refine lv_iconst (v := (5 : Int32)) C.1.1 C.1.2.1 dP_status_82 (by decide) ?_
  refine lv_iload_n C.1.1 C.1.2.1 dP_status_83 rfl (lv_at hl 1 rfl) ?_
  obtain ⟨⟨z1, pv1⟩, g1, hf⟩ := ts_b hf
  try dsimp only at hf
  refine c_callV (rest := []) (As := [.int s1, .int (5 : Int32), .int x1]) (rv := none) (b := qp) C hl.1 hw (cP_expect_met g1) rfl (callW_of (rm := rP_expect) (C := "MidiDesk$Parser") 3 C.1.2.2.2.2 gw_250 gw_252 gw_2 gw_59 gw_253 kP_expect ⟨Nat.le_of_ble_eq_true rfl, Nat.le_of_ble_eq_true rfl⟩) (c_recvX (ci := 2) C.2 rfl hw) rfl rfl (Nat.le_of_ble_eq_true rfl) dP_status_84 ⟨Nat.le_of_ble_eq_true rfl, Nat.le_of_ble_eq_true rfl⟩ (fun H locs hw => ?_)
  refine W.eq (g2 := F0 m 87 ls []) rfl ?_
  refine lv_iload_n C.1.1 C.1.2.1 dP_status_87 rfl (lv_at hl 2 rfl) ?_
  obtain ⟨hf, hpv⟩ := pr3 hf
  exact c_reti C hr hlk hrv hw hf (by rw [hpv]) ⟨Nat.le_of_ble_eq_true rfl, Nat.le_of_ble_eq_true rfl⟩ dP_status_88
set_option maxHeartbeats 4000000 in
set_option maxRecDepth 100000 in
theorem wP_status_77 {p : Program} {l : Launch} {e : Env} {s : State} {m : MethodId} {args : Array Value} {below : List Frame} {meth : Method} {c : Code} {g : gT} {qq ad ea : Nat → Nat} {h : cH} {X : va_W} {rv : Option Value} {qp : Nat} {pv0 pv' : Nat → Int32} {z' : cZ} {r' : Int32} (C : mCx p m c cP_status 3 s args g "MidiDesk$Parser") (hr : meth.sig.returnType = (some .int)) (hlk : meth.locks = false) (hrv : rv = some (.int r')) (z : cZ) (pv : Nat → Int32) (x1 : Int32) (x2 : Int32) (H : Heap) (locs : List Loc) (ls : Array Slot) (hl : lv_has ls 3 [(0, .ref qp), (1, .int x1), (2, .int x2)]) (hw : cWd g (cA g qq ad ea h (pcell qp qq pv0 :: X) s.heap.size) s.heap qq ad ea h (pcell qp qq pv :: X) z H locs) (hf : jP_status_77 h z pv x1 x2 = some (r', z', pv')) : cG p l e rP_status s m args below meth c g qq ad ea h (pcell qp qq pv0 :: X) rv (pcell qp qq pv' :: X) z' H locs 0 0 (F0 m 77 ls [.ref qp]) := by
  unfold jP_status_77 at hf
  refine lv_iconst (v := (1 : Int32)) C.1.1 C.1.2.1 dP_status_77 (by decide) ?_
  refine lv_goto (tgt := 82) C.1.1 C.1.2.1 dP_status_78 (by decide) ?_
  exact wP_status_82 C hr hlk hrv z pv x1 x2 (1 : Int32) _ _ ls (lv_sub hl [0, 1, 2] rfl) hw hf
set_option maxHeartbeats 4000000 in
set_option maxRecDepth 100000 in
theorem wP_status_55 {p : Program} {l : Launch} {e : Env} {s : State} {m : MethodId} {args : Array Value} {below : List Frame} {meth : Method} {c : Code} {g : gT} {qq ad ea : Nat → Nat} {h : cH} {X : va_W} {rv : Option Value} {qp : Nat} {pv0 pv' : Nat → Int32} {z' : cZ} {r' : Int32} (C : mCx p m c cP_status 3 s args g "MidiDesk$Parser") (hr : meth.sig.returnType = (some .int)) (hlk : meth.locks = false) (hrv : rv = some (.int r')) (z : cZ) (pv : Nat → Int32) (x1 : Int32) (x2 : Int32) (H : Heap) (locs : List Loc) (ls : Array Slot) (hl : lv_has ls 3 [(0, .ref qp), (1, .int x1), (2, .int x2)]) (hw : cWd g (cA g qq ad ea h (pcell qp qq pv0 :: X) s.heap.size) s.heap qq ad ea h (pcell qp qq pv :: X) z H locs) (hf : jP_status_55 h z pv x1 x2 = some (r', z', pv')) : cG p l e rP_status s m args below meth c g qq ad ea h (pcell qp qq pv0 :: X) rv (pcell qp qq pv' :: X) z' H locs 0 0 (F0 m 55 ls []) := by
  unfold jP_status_55 at hf
  refine lv_aload_n C.1.1 C.1.2.1 dP_status_55 rfl (lv_at hl 0 rfl) ?_
  refine lv_iload_n C.1.1 C.1.2.1 dP_status_56 rfl (lv_at hl 2 rfl) ?_
  refine lv_sipush (v := (240 : Int32)) C.1.1 C.1.2.1 dP_status_57 (by decide) ?_
  refine lv_icmp_le (tgt := 77) C.1.1 C.1.2.1 dP_status_60 (by decide) (fun c1 => ?_) (fun c1 => ?_)
  · have hf := ts_t hf c1
    exact wP_status_77 C hr hlk hrv z pv x1 x2 _ _ ls (lv_sub hl [0, 1, 2] rfl) hw hf
  · have hf := ts_f hf c1
    refine lv_iload_n C.1.1 C.1.2.1 dP_status_63 rfl (lv_at hl 2 rfl) ?_
    refine lv_sipush (v := (247 : Int32)) C.1.1 C.1.2.1 dP_status_64 (by decide) ?_
    refine lv_icmp_eq (tgt := 77) C.1.1 C.1.2.1 dP_status_67 (by decide) (fun c2 => ?_) (fun c2 => ?_)
    · have hf := ts_t hf c2
      exact wP_status_77 C hr hlk hrv z pv x1 x2 _ _ ls (lv_sub hl [0, 1, 2] rfl) hw hf
    · have hf := ts_f hf c2
      refine lv_iload_n C.1.1 C.1.2.1 dP_status_70 rfl (lv_at hl 2 rfl) ?_
      refine lv_sipush (v := (255 : Int32)) C.1.1 C.1.2.1 dP_status_71 (by decide) ?_
      refine lv_icmp_ne (tgt := 81) C.1.1 C.1.2.1 dP_status_74 (by decide) (fun c3 => ?_) (fun c3 => ?_)
      · have hf := ts_f hf c3
        refine lv_iconst (v := (0 : Int32)) C.1.1 C.1.2.1 dP_status_81 (by decide) ?_
        exact wP_status_82 C hr hlk hrv z pv x1 x2 (0 : Int32) _ _ ls (lv_sub hl [0, 1, 2] rfl) hw hf
      · have hf := ts_t hf c3
        exact wP_status_77 C hr hlk hrv z pv x1 x2 _ _ ls (lv_sub hl [0, 1, 2] rfl) hw hf
set_option maxHeartbeats 4000000 in
set_option maxRecDepth 100000 in
theorem cP_status_met {l : Launch} {g : gT} {qq ad ea : Nat → Nat} {h : cH} {X : va_W} {qp : Nat} {pv pv' : Nat → Int32} {z z' : cZ} {r' : Int32} (hf : fP_status h z pv = some (r', z', pv')) : cMet l yP_status cP_status 3 (some .int) rP_status g qq ad ea h (pcell qp qq pv :: X) z [.ref qp] (some (.int r')) (pcell qp qq pv' :: X) z' := by
  refine c_entry (by decide) (Nat.le_of_ble_eq_true rfl) ?_
  intro p e s m args below meth c ls C hr hlk hnm hl hw
  have hrv : (some (.int r') : Option Value) = some (.int r') := rfl
  have C : mCx p m c cP_status 3 s args g "MidiDesk$Parser" := C
  have hl : lv_has ls 3 [(0, .ref qp)] := hl
  unfold fP_status at hf
  refine lv_aload_n C.1.1 C.1.2.1 dP_status_0 rfl (lv_at hl 0 rfl) ?_
  refine cg_Parser_Parser_pos C hw dP_status_1 ?_
  refine lv_istore_n (lv' := [(1, .int (pv 0)), (0, .ref qp)]) C.1.1 C.1.2.1 dP_status_4 rfl hl (by decide) rfl (fun ls hl => ?_)
  refine lv_aload_n C.1.1 C.1.2.1 dP_status_5 rfl (lv_at hl 1 rfl) ?_
  refine lv_iconst (v := (1 : Int32)) C.1.1 C.1.2.1 dP_status_6 (by decide) ?_
  obtain ⟨⟨r1, z1, pv1⟩, g1, hf⟩ := ts_b hf
  try dsimp only at hf
  refine c_callV (rest := []) (As := [.int (1 : Int32)]) (rv := (some (.long r1))) (b := qp) C hl.1 hw (cP_fixed_met g1) rfl (callW_of (rm := rP_fixed) (C := "MidiDesk$Parser") 1 C.1.2.2.2.2 gw_246 gw_248 gw_1 gw_59 gw_249 kP_fixed ⟨Nat.le_of_ble_eq_true rfl, Nat.le_of_ble_eq_true rfl⟩) (c_recvX (ci := 2) C.2 rfl hw) rfl rfl (Nat.le_of_ble_eq_true rfl) dP_status_7 ⟨Nat.le_of_ble_eq_true rfl, Nat.le_of_ble_eq_true rfl⟩ (fun H locs hw => ?_)
  refine W.eq (g2 := F0 m 10 ls [.long r1]) rfl ?_
  refine lv_l2i C.1.1 C.1.2.1 dP_status_10 rfl ?_
  refine lv_istore_n (lv' := [(2, .int r1.toInt32), (1, .int (pv 0)), (0, .ref qp)]) C.1.1 C.1.2.1 dP_status_11 rfl hl (by decide) rfl (fun ls hl => ?_)
  refine lv_aload_n C.1.1 C.1.2.1 dP_status_12 rfl (lv_at hl 2 rfl) ?_
  refine cg_Parser_Parser_fault C hw dP_status_13 ?_
  refine lv_if_ne (tgt := 55) C.1.1 C.1.2.1 dP_status_16 (by decide) (fun c2 => ?_) (fun c2 => ?_)
  · have hf := ts_f hf c2
    exact wP_status_55 C hr hlk hrv z1 pv1 (pv 0) r1.toInt32 _ _ ls (lv_sub hl [2, 1, 0] rfl) hw hf
  · have hf := ts_t hf c2
    refine lv_iload_n C.1.1 C.1.2.1 dP_status_19 rfl (lv_at hl 0 rfl) ?_
    refine lv_sipush (v := (128 : Int32)) C.1.1 C.1.2.1 dP_status_20 (by decide) ?_
    refine lv_icmp_ge (tgt := 55) C.1.1 C.1.2.1 dP_status_23 (by decide) (fun c3 => ?_) (fun c3 => ?_)
    · have hf := ts_t hf c3
      exact wP_status_55 C hr hlk hrv z1 pv1 (pv 0) r1.toInt32 _ _ ls (lv_sub hl [2, 1, 0] rfl) hw hf
    · have hf := ts_f hf c3
      refine lv_aload_n C.1.1 C.1.2.1 dP_status_26 rfl (lv_at hl 2 rfl) ?_
      refine lv_aload_n C.1.1 C.1.2.1 dP_status_27 rfl (lv_at hl 2 rfl) ?_
      refine cg_Parser_Parser_running C hw dP_status_28 ?_
      refine lv_iconst (v := (-1 : Int32)) C.1.1 C.1.2.1 dP_status_31 (by decide) ?_
      refine lv_icmp_eq (tgt := 39) C.1.1 C.1.2.1 dP_status_32 (by decide) (fun c4 => ?_) (fun c4 => ?_)
      · have hf := ts_t hf c4
        refine lv_iconst (v := (0 : Int32)) C.1.1 C.1.2.1 dP_status_39 (by decide) ?_
        exact wP_status_40 C hr hlk hrv z1 pv1 (pv 0) (0 : Int32) _ _ ls (lv_sub hl [2, 1] rfl) hw hf
      · have hf := ts_f hf c4
        refine lv_iconst (v := (1 : Int32)) C.1.1 C.1.2.1 dP_status_35 (by decide) ?_
        refine lv_goto (tgt := 40) C.1.1 C.1.2.1 dP_status_36 (by decide) ?_
        exact wP_status_40 C hr hlk hrv z1 pv1 (pv 0) (1 : Int32) _ _ ls (lv_sub hl [2, 1] rfl) hw hf
end
section
abbrev cP_channelEvent : ByteArray := prog_4_method_13_code
abbrev yP_channelEvent : MethodName := ⟨"MidiDesk$Parser", "channelEvent", "(I)V"⟩
theorem kP_channelEvent : yP_channelEvent.cls ≠ "java/lang/invoke/MethodHandle" ∧ yP_channelEvent.cls ≠ "java/lang/invoke/VarHandle" ∧ (parseMethodDescriptor yP_channelEvent.desc).map (fun d => d.parameters.length) = some 1 := by decide +kernel
abbrev rP_channelEvent : Room := { frames := 3, cells := 0, slots := 0, locals := 69 }
theorem dP_channelEvent_0 : decode cP_channelEvent 0 = .ok (.aload_n 0, 1) := by decide +kernel
theorem dP_channelEvent_1 : decode cP_channelEvent 1 = .ok (.iload_n 1, 1) := by decide +kernel
theorem dP_channelEvent_2 : decode cP_channelEvent 2 = .ok (.putfield 96, 3) := by decide +kernel
theorem dP_channelEvent_5 : decode cP_channelEvent 5 = .ok (.aload_n 0, 1) := by decide +kernel
theorem dP_channelEvent_6 : decode cP_channelEvent 6 = .ok (.aload_n 0, 1) := by decide +kernel
theorem dP_channelEvent_7 : decode cP_channelEvent 7 = .ok (.invokevirtual 130, 3) := by decide +kernel
theorem dP_channelEvent_10 : decode cP_channelEvent 10 = .ok (.putfield 133, 3) := by decide +kernel
theorem dP_channelEvent_13 : decode cP_channelEvent 13 = .ok (.aload_n 0, 1) := by decide +kernel
theorem dP_channelEvent_14 : decode cP_channelEvent 14 = .ok (.iload_n 1, 1) := by decide +kernel
theorem dP_channelEvent_15 : decode cP_channelEvent 15 = .ok (.invokestatic 136, 3) := by decide +kernel
theorem dP_channelEvent_18 : decode cP_channelEvent 18 = .ok (.ifCond .eq 7, 3) := by decide +kernel
theorem dP_channelEvent_21 : decode cP_channelEvent 21 = .ok (.iconst (-1), 1) := by decide +kernel
theorem dP_channelEvent_22 : decode cP_channelEvent 22 = .ok (.goto 7, 3) := by decide +kernel
theorem dP_channelEvent_25 : decode cP_channelEvent 25 = .ok (.aload_n 0, 1) := by decide +kernel
theorem dP_channelEvent_26 : decode cP_channelEvent 26 = .ok (.invokevirtual 130, 3) := by decide +kernel
theorem dP_channelEvent_29 : decode cP_channelEvent 29 = .ok (.putfield 139, 3) := by decide +kernel
theorem dP_channelEvent_32 : decode cP_channelEvent 32 = .ok (.aload_n 0, 1) := by decide +kernel
theorem dP_channelEvent_33 : decode cP_channelEvent 33 = .ok (.iconst (-1), 1) := by decide +kernel
theorem dP_channelEvent_34 : decode cP_channelEvent 34 = .ok (.putfield 122, 3) := by decide +kernel
theorem dP_channelEvent_37 : decode cP_channelEvent 37 = .ok (.return_, 1) := by decide +kernel
def jP_channelEvent_29 (h : cH) (z : cZ) (pv : Nat → Int32) (s1 : Int32) : Option (cZ × (Nat → Int32)) := some (z, upd (upd pv 8 s1) 10 (-1 : Int32))
def fP_channelEvent (h : cH) (z : cZ) (pv : Nat → Int32) (x1 : Int32) : Option (cZ × (Nat → Int32)) := (fP_lowByte h z (upd pv 5 x1)).bind fun (r1, z1, pv1) => (fD_hasOneByte h z1 x1).bind fun (r2, z2) => if r2 = 0 then ((fP_lowByte h z2 (upd pv1 7 r1)).bind fun (r4, z4, pv4) => jP_channelEvent_29 h z4 pv4 r4) else (jP_channelEvent_29 h z2 (upd pv1 7 r1) (-1 : Int32))
set_option maxHeartbeats 4000000 in
set_option maxRecDepth 100000 in
theorem wP_channelEvent_29 {p : Program} {l : Launch} {e : Env} {s : State} {m : MethodId} {args : Array Value} {below : List Frame} {meth : Method} {c : Code} {g : gT} {qq ad ea : Nat → Nat} {h : cH} {X : va_W} {rv : Option Value} {qp : Nat} {pv0 pv' : Nat → Int32} {z' : cZ} (C : mCx p m c cP_channelEvent 2 s args g "MidiDesk$Parser") (hr : meth.sig.returnType = none) (hlk : meth.locks = false) (hrv : rv = none) (z : cZ) (pv : Nat → Int32) (s1 : Int32) (H : Heap) (locs : List Loc) (ls : Array Slot) (hl : lv_has ls 2 [(0, .ref qp)]) (hw : cWd g (cA g qq ad ea h (pcell qp qq pv0 :: X) s.heap.size) s.heap qq ad ea h (pcell qp qq pv :: X) z H locs) (hf : jP_channelEvent_29 h z pv s1 = some (z', pv')) : cG p l e rP_channelEvent s m args below meth c g qq ad ea h (pcell qp qq pv0 :: X) rv (pcell qp qq pv' :: X) z' H locs 0 0 (F0 m 29 ls [.int s1, .ref qp]) := by
  unfold jP_channelEvent_29 at hf
  refine cp_Parser_Parser_second C hw dP_channelEvent_29 (fun H locs hw => ?_)
  refine lv_aload_n C.1.1 C.1.2.1 dP_channelEvent_32 rfl (lv_at hl 0 rfl) ?_
  refine lv_iconst (v := (-1 : Int32)) C.1.1 C.1.2.1 dP_channelEvent_33 (by decide) ?_
  refine cp_Parser_Parser_size C hw dP_channelEvent_34 (fun H locs hw => ?_)
  obtain ⟨hf, hpv⟩ := pr2 hf
  exact c_retv C hr hlk hrv hw hf (by rw [hpv]) ⟨Nat.le_of_ble_eq_true rfl, Nat.le_of_ble_eq_true rfl⟩ dP_channelEvent_37
set_option maxHeartbeats 4000000 in
set_option maxRecDepth 100000 in
theorem cP_channelEvent_met {l : Launch} {g : gT} {qq ad ea : Nat → Nat} {h : cH} {X : va_W} {qp : Nat} {pv pv' : Nat → Int32} {z z' : cZ} {x1 : Int32} (hf : fP_channelEvent h z pv x1 = some (z', pv')) : cMet l yP_channelEvent cP_channelEvent 2 none rP_channelEvent g qq ad ea h (pcell qp qq pv :: X) z [.ref qp, .int x1] (none) (pcell qp qq pv' :: X) z' := by
  refine c_entry (by decide) (Nat.le_of_ble_eq_true rfl) ?_
  intro p e s m args below meth c ls C hr hlk hnm hl hw
  have hrv : (none : Option Value) = none := rfl
  have C : mCx p m c cP_channelEvent 2 s args g "MidiDesk$Parser" := C
  have hl : lv_has ls 2 [(0, .ref qp), (1, .int x1)] := hl
  unfold fP_channelEvent at hf
  refine lv_aload_n C.1.1 C.1.2.1 dP_channelEvent_0 rfl (lv_at hl 0 rfl) ?_
  refine lv_iload_n C.1.1 C.1.2.1 dP_channelEvent_1 rfl (lv_at hl 1 rfl) ?_
  refine cp_Parser_Parser_running C hw dP_channelEvent_2 (fun H locs hw => ?_)
  refine lv_aload_n C.1.1 C.1.2.1 dP_channelEvent_5 rfl (lv_at hl 0 rfl) ?_
  refine lv_aload_n C.1.1 C.1.2.1 dP_channelEvent_6 rfl (lv_at hl 0 rfl) ?_
  obtain ⟨⟨r1, z1, pv1⟩, g1, hf⟩ := ts_b hf
  try dsimp only at hf
  refine c_callV (rest := [.ref qp]) (As := []) (rv := (some (.int r1))) (b := qp) C hl.1 hw (cP_lowByte_met g1) rfl (callW_of (rm := rP_lowByte) (C := "MidiDesk$Parser") 0 C.1.2.2.2.2 gw_290 gw_292 gw_9 gw_59 gw_293 kP_lowByte ⟨Nat.le_of_ble_eq_true rfl, Nat.le_of_ble_eq_true rfl⟩) (c_recvX (ci := 2) C.2 rfl hw) rfl rfl (Nat.le_of_ble_eq_true rfl) dP_channelEvent_7 ⟨Nat.le_of_ble_eq_true rfl, Nat.le_of_ble_eq_true rfl⟩ (fun H locs hw => ?_)
  refine W.eq (g2 := F0 m 10 ls [.int r1, .ref qp]) rfl ?_
  refine cp_Parser_Parser_first C hw dP_channelEvent_10 (fun H locs hw => ?_)
  refine lv_aload_n C.1.1 C.1.2.1 dP_channelEvent_13 rfl (lv_at hl 0 rfl) ?_
  refine lv_iload_n C.1.1 C.1.2.1 dP_channelEvent_14 rfl (lv_at hl 1 rfl) ?_
  obtain ⟨⟨r2, z2⟩, g2, hf⟩ := ts_b hf
  try dsimp only at hf
  refine c_callSN (rest := [.ref qp]) (As := [.int x1]) (rv := (some (.int r2))) (rm := rD_hasOneByte) C hl.1 hw (cD_hasOneByte_met g2) gw_296 nw_243 gw_295 gw_52 kD_hasOneByte ⟨Nat.le_of_ble_eq_true rfl, Nat.le_of_ble_eq_true rfl⟩ rfl rfl (Nat.le_of_ble_eq_true rfl) dP_channelEvent_15 ⟨Nat.le_of_ble_eq_true rfl, Nat.le_of_ble_eq_true rfl⟩ (fun H locs hw => ?_)
  refine W.eq (g2 := F0 m 18 ls [.int r2, .ref qp]) rfl ?_
  refine lv_if_eq (tgt := 25) C.1.1 C.1.2.1 dP_channelEvent_18 (by decide) (fun c3 => ?_) (fun c3 => ?_)
  · have hf := ts_t hf c3
    refine lv_aload_n C.1.1 C.1.2.1 dP_channelEvent_25 rfl (lv_at hl 0 rfl) ?_
    obtain ⟨⟨r4, z4, pv4⟩, g4, hf⟩ := ts_b hf
    try dsimp only at hf
    refine c_callV (rest := [.ref qp]) (As := []) (rv := (some (.int r4))) (b := qp) C hl.1 hw (cP_lowByte_met g4) rfl (callW_of (rm := rP_lowByte) (C := "MidiDesk$Parser") 0 C.1.2.2.2.2 gw_290 gw_292 gw_9 gw_59 gw_293 kP_lowByte ⟨Nat.le_of_ble_eq_true rfl, Nat.le_of_ble_eq_true rfl⟩) (c_recvX (ci := 2) C.2 rfl hw) rfl rfl (Nat.le_of_ble_eq_true rfl) dP_channelEvent_26 ⟨Nat.le_of_ble_eq_true rfl, Nat.le_of_ble_eq_true rfl⟩ (fun H locs hw => ?_)
    refine W.eq (g2 := F0 m 29 ls [.int r4, .ref qp]) rfl ?_
    exact wP_channelEvent_29 C hr hlk hrv z4 pv4 r4 _ _ ls (lv_sub hl [0] rfl) hw hf
  · have hf := ts_f hf c3
    refine lv_iconst (v := (-1 : Int32)) C.1.1 C.1.2.1 dP_channelEvent_21 (by decide) ?_
    refine lv_goto (tgt := 29) C.1.1 C.1.2.1 dP_channelEvent_22 (by decide) ?_
    exact wP_channelEvent_29 C hr hlk hrv z2 (upd pv1 7 r1) (-1 : Int32) _ _ ls (lv_sub hl [0] rfl) hw hf
abbrev cP_passData : ByteArray := prog_4_method_16_code
abbrev yP_passData : MethodName := ⟨"MidiDesk$Parser", "passData", "()V"⟩
theorem kP_passData : yP_passData.cls ≠ "java/lang/invoke/MethodHandle" ∧ yP_passData.cls ≠ "java/lang/invoke/VarHandle" ∧ (parseMethodDescriptor yP_passData.desc).map (fun d => d.parameters.length) = some 0 := by decide +kernel
abbrev rP_passData : Room := { frames := 1, cells := 0, slots := 0, locals := 23 }
theorem dP_passData_0 : decode cP_passData 0 = .ok (.aload_n 0, 1) := by decide +kernel
theorem dP_passData_1 : decode cP_passData 1 = .ok (.aload_n 0, 1) := by decide +kernel
theorem dP_passData_2 : decode cP_passData 2 = .ok (.getfield 122, 3) := by decide +kernel
theorem dP_passData_5 : decode cP_passData 5 = .ok (.aload_n 0, 1) := by decide +kernel
theorem dP_passData_6 : decode cP_passData 6 = .ok (.getfield 30, 3) := by decide +kernel
theorem dP_passData_9 : decode cP_passData 9 = .ok (.aload_n 0, 1) := by decide +kernel
theorem dP_passData_10 : decode cP_passData 10 = .ok (.getfield 40, 3) := by decide +kernel
theorem dP_passData_13 : decode cP_passData 13 = .ok (.isub, 1) := by decide +kernel
theorem dP_passData_14 : decode cP_passData 14 = .ok (.if_icmp .gt 7, 3) := by decide +kernel
theorem dP_passData_17 : decode cP_passData 17 = .ok (.iconst 1, 1) := by decide +kernel
theorem dP_passData_18 : decode cP_passData 18 = .ok (.goto 4, 3) := by decide +kernel
theorem dP_passData_21 : decode cP_passData 21 = .ok (.iconst 0, 1) := by decide +kernel
theorem dP_passData_22 : decode cP_passData 22 = .ok (.iconst 1, 1) := by decide +kernel
theorem dP_passData_23 : decode cP_passData 23 = .ok (.aload_n 0, 1) := by decide +kernel
theorem dP_passData_24 : decode cP_passData 24 = .ok (.getfield 30, 3) := by decide +kernel
theorem dP_passData_27 : decode cP_passData 27 = .ok (.invokevirtual 56, 3) := by decide +kernel
theorem dP_passData_30 : decode cP_passData 30 = .ok (.aload_n 0, 1) := by decide +kernel
theorem dP_passData_31 : decode cP_passData 31 = .ok (.aload_n 0, 1) := by decide +kernel
theorem dP_passData_32 : decode cP_passData 32 = .ok (.getfield 40, 3) := by decide +kernel
theorem dP_passData_35 : decode cP_passData 35 = .ok (.putfield 145, 3) := by decide +kernel
theorem dP_passData_38 : decode cP_passData 38 = .ok (.aload_n 0, 1) := by decide +kernel
theorem dP_passData_39 : decode cP_passData 39 = .ok (.getfield 37, 3) := by decide +kernel
theorem dP_passData_42 : decode cP_passData 42 = .ok (.ifCond .ne 16, 3) := by decide +kernel
theorem dP_passData_45 : decode cP_passData 45 = .ok (.aload_n 0, 1) := by decide +kernel
theorem dP_passData_46 : decode cP_passData 46 = .ok (.dup, 1) := by decide +kernel
theorem dP_passData_47 : decode cP_passData 47 = .ok (.getfield 40, 3) := by decide +kernel
theorem dP_passData_50 : decode cP_passData 50 = .ok (.aload_n 0, 1) := by decide +kernel
theorem dP_passData_51 : decode cP_passData 51 = .ok (.getfield 122, 3) := by decide +kernel
theorem dP_passData_54 : decode cP_passData 54 = .ok (.iadd, 1) := by decide +kernel
theorem dP_passData_55 : decode cP_passData 55 = .ok (.putfield 40, 3) := by decide +kernel
theorem dP_passData_58 : decode cP_passData 58 = .ok (.return_, 1) := by decide +kernel
def jP_passData_22 (h : cH) (z : cZ) (pv : Nat → Int32) (s1 : Int32) : Option (cZ × (Nat → Int32)) := (fP_expect h z pv s1 (1 : Int32) (pv 1)).bind fun (z1, pv1) => if ((upd pv1 9 (pv1 0)) 2) = 0 then (some (z1, upd (upd pv1 9 (pv1 0)) 0 (((upd pv1 9 (pv1 0)) 0) + ((upd pv1 9 (pv1 0)) 10)))) else (some (z1, upd pv1 9 (pv1 0)))
def fP_passData (h : cH) (z : cZ) (pv : Nat → Int32) : Option (cZ × (Nat → Int32)) := if ((pv 1) - (pv 0)) < (pv 10) then (jP_passData_22 h z pv (0 : Int32)) else (jP_passData_22 h z pv (1 : Int32))
set_option maxHeartbeats 4000000 in
set_option maxRecDepth 100000 in
theorem wP_passData_22 {p : Program} {l : Launch} {e : Env} {s : State} {m : MethodId} {args : Array Value} {below : List Frame} {meth : Method} {c : Code} {g : gT} {qq ad ea : Nat → Nat} {h : cH} {X : va_W} {rv : Option Value} {qp : Nat} {pv0 pv' : Nat → Int32} {z' : cZ} (C : mCx p m c cP_passData 1 s args g "MidiDesk$Parser") (hr : meth.sig.returnType = none) (hlk : meth.locks = false) (hrv : rv = none) (z : cZ) (pv : Nat → Int32) (s1 : Int32) (H : Heap) (locs : List Loc) (ls : Array Slot) (hl : lv_has ls 1 [(0, .ref qp)]) (hw : cWd g (cA g qq ad ea h (pcell qp qq pv0 :: X) s.heap.size) s.heap qq ad ea h (pcell qp qq pv :: X) z H locs) (hf : jP_passData_22 h z pv s1 = some (z', pv')) : cG p l e rP_passData s m args below meth c g qq ad ea h (pcell qp qq pv0 :: X) rv (pcell qp qq pv' :: X) z' H locs 0 0 (F0 m 22 ls [.int s1, .ref qp]) := by
  unfold jP_passData_22 at hf
  refine lv_iconst (v := (1 : Int32)) C.1.1 C.1.2.1 dP_passData_22 (by decide) ?_
  refine lv_aload_n C.1.1 C.1.2.1 dP_passData_23 rfl (lv_at hl 0 rfl) ?_
  refine cg_Parser_Parser_end C hw dP_passData_24 ?_
  obtain ⟨⟨z1, pv1⟩, g1, hf⟩ := ts_b hf
  try dsimp only at hf
  refine c_callV (rest := []) (As := [.int s1, .int (1 : Int32), .int (pv 1)]) (rv := none) (b := qp) C hl.1 hw (cP_expect_met g1) rfl (callW_of (rm := rP_expect) (C := "MidiDesk$Parser") 3 C.1.2.2.2.2 gw_250 gw_252 gw_2 gw_59 gw_253 kP_expect ⟨Nat.le_of_ble_eq_true rfl, Nat.le_of_ble_eq_true rfl⟩) (c_recvX (ci := 2) C.2 rfl hw) rfl rfl (Nat.le_of_ble_eq_true rfl) dP_passData_27 ⟨Nat.le_of_ble_eq_true rfl, Nat.le_of_ble_eq_true rfl⟩ (fun H locs hw => ?_)
  refine W.eq (g2 := F0 m 30 ls []) rfl ?_
  refine lv_aload_n C.1.1 C.1.2.1 dP_passData_30 rfl (lv_at hl 0 rfl) ?_
  refine lv_aload_n C.1.1 C.1.2.1 dP_passData_31 rfl (lv_at hl 0 rfl) ?_
  refine cg_Parser_Parser_pos C hw dP_passData_32 ?_
  refine cp_Parser_Parser_start C hw dP_passData_35 (fun H locs hw => ?_)
  refine lv_aload_n C.1.1 C.1.2.1 dP_passData_38 rfl (lv_at hl 0 rfl) ?_
  refine cg_Parser_Parser_fault C hw dP_passData_39 ?_
  refine lv_if_ne (tgt := 58) C.1.1 C.1.2.1 dP_passData_42 (by decide) (fun c2 => ?_) (fun c2 => ?_)
  · have hf := ts_f hf c2
    obtain ⟨hf, hpv⟩ := pr2 hf
    exact c_retv C hr hlk hrv hw hf (by rw [hpv]) ⟨Nat.le_of_ble_eq_true rfl, Nat.le_of_ble_eq_true rfl⟩ dP_passData_58
  · have hf := ts_t hf c2
    refine lv_aload_n C.1.1 C.1.2.1 dP_passData_45 rfl (lv_at hl 0 rfl) ?_
    refine lv_dup C.1.1 C.1.2.1 dP_passData_46 rfl ?_
    refine cg_Parser_Parser_pos C hw dP_passData_47 ?_
    refine lv_aload_n C.1.1 C.1.2.1 dP_passData_50 rfl (lv_at hl 0 rfl) ?_
    refine cg_Parser_Parser_size C hw dP_passData_51 ?_
    refine lv_iadd C.1.1 C.1.2.1 dP_passData_54 ?_
    refine cp_Parser_Parser_pos C hw dP_passData_55 (fun H locs hw => ?_)
    obtain ⟨hf, hpv⟩ := pr2 hf
    exact c_retv C hr hlk hrv hw hf (by rw [hpv]) ⟨Nat.le_of_ble_eq_true rfl, Nat.le_of_ble_eq_true rfl⟩ dP_passData_58
set_option maxHeartbeats 4000000 in
set_option maxRecDepth 100000 in
theorem cP_passData_met {l : Launch} {g : gT} {qq ad ea : Nat → Nat} {h : cH} {X : va_W} {qp : Nat} {pv pv' : Nat → Int32} {z z' : cZ} (hf : fP_passData h z pv = some (z', pv')) : cMet l yP_passData cP_passData 1 none rP_passData g qq ad ea h (pcell qp qq pv :: X) z [.ref qp] (none) (pcell qp qq pv' :: X) z' := by
  refine c_entry (by decide) (Nat.le_of_ble_eq_true rfl) ?_
  intro p e s m args below meth c ls C hr hlk hnm hl hw
  have hrv : (none : Option Value) = none := rfl
  have C : mCx p m c cP_passData 1 s args g "MidiDesk$Parser" := C
  have hl : lv_has ls 1 [(0, .ref qp)] := hl
  unfold fP_passData at hf
  refine lv_aload_n C.1.1 C.1.2.1 dP_passData_0 rfl (lv_at hl 0 rfl) ?_
  refine lv_aload_n C.1.1 C.1.2.1 dP_passData_1 rfl (lv_at hl 0 rfl) ?_
  refine cg_Parser_Parser_size C hw dP_passData_2 ?_
  refine lv_aload_n C.1.1 C.1.2.1 dP_passData_5 rfl (lv_at hl 0 rfl) ?_
  refine cg_Parser_Parser_end C hw dP_passData_6 ?_
  refine lv_aload_n C.1.1 C.1.2.1 dP_passData_9 rfl (lv_at hl 0 rfl) ?_
  refine cg_Parser_Parser_pos C hw dP_passData_10 ?_
  refine lv_isub C.1.1 C.1.2.1 dP_passData_13 ?_
  refine lv_icmp_gt (tgt := 21) C.1.1 C.1.2.1 dP_passData_14 (by decide) (fun c1 => ?_) (fun c1 => ?_)
  · have hf := ts_t hf c1
    refine lv_iconst (v := (0 : Int32)) C.1.1 C.1.2.1 dP_passData_21 (by decide) ?_
    exact wP_passData_22 C hr hlk hrv z pv (0 : Int32) _ _ ls (lv_sub hl [0] rfl) hw hf
  · have hf := ts_f hf c1
    refine lv_iconst (v := (1 : Int32)) C.1.1 C.1.2.1 dP_passData_17 (by decide) ?_
    refine lv_goto (tgt := 22) C.1.1 C.1.2.1 dP_passData_18 (by decide) ?_
    exact wP_passData_22 C hr hlk hrv z pv (1 : Int32) _ _ ls (lv_sub hl [0] rfl) hw hf
abbrev cP_exclusiveEvent : ByteArray := prog_4_method_14_code
abbrev yP_exclusiveEvent : MethodName := ⟨"MidiDesk$Parser", "exclusiveEvent", "()V"⟩
theorem kP_exclusiveEvent : yP_exclusiveEvent.cls ≠ "java/lang/invoke/MethodHandle" ∧ yP_exclusiveEvent.cls ≠ "java/lang/invoke/VarHandle" ∧ (parseMethodDescriptor yP_exclusiveEvent.desc).map (fun d => d.parameters.length) = some 0 := by decide +kernel
abbrev rP_exclusiveEvent : Room := { frames := 3, cells := 0, slots := 0, locals := 71 }
theorem dP_exclusiveEvent_0 : decode cP_exclusiveEvent 0 = .ok (.aload_n 0, 1) := by decide +kernel
theorem dP_exclusiveEvent_1 : decode cP_exclusiveEvent 1 = .ok (.iconst (-1), 1) := by decide +kernel
theorem dP_exclusiveEvent_2 : decode cP_exclusiveEvent 2 = .ok (.putfield 96, 3) := by decide +kernel
theorem dP_exclusiveEvent_5 : decode cP_exclusiveEvent 5 = .ok (.aload_n 0, 1) := by decide +kernel
theorem dP_exclusiveEvent_6 : decode cP_exclusiveEvent 6 = .ok (.iconst (-1), 1) := by decide +kernel
theorem dP_exclusiveEvent_7 : decode cP_exclusiveEvent 7 = .ok (.putfield 133, 3) := by decide +kernel
theorem dP_exclusiveEvent_10 : decode cP_exclusiveEvent 10 = .ok (.aload_n 0, 1) := by decide +kernel
theorem dP_exclusiveEvent_11 : decode cP_exclusiveEvent 11 = .ok (.iconst (-1), 1) := by decide +kernel
theorem dP_exclusiveEvent_12 : decode cP_exclusiveEvent 12 = .ok (.putfield 139, 3) := by decide +kernel
theorem dP_exclusiveEvent_15 : decode cP_exclusiveEvent 15 = .ok (.aload_n 0, 1) := by decide +kernel
theorem dP_exclusiveEvent_16 : decode cP_exclusiveEvent 16 = .ok (.aload_n 0, 1) := by decide +kernel
theorem dP_exclusiveEvent_17 : decode cP_exclusiveEvent 17 = .ok (.invokevirtual 105, 3) := by decide +kernel
theorem dP_exclusiveEvent_20 : decode cP_exclusiveEvent 20 = .ok (.putfield 122, 3) := by decide +kernel
theorem dP_exclusiveEvent_23 : decode cP_exclusiveEvent 23 = .ok (.aload_n 0, 1) := by decide +kernel
theorem dP_exclusiveEvent_24 : decode cP_exclusiveEvent 24 = .ok (.invokevirtual 142, 3) := by decide +kernel
theorem dP_exclusiveEvent_27 : decode cP_exclusiveEvent 27 = .ok (.return_, 1) := by decide +kernel
def fP_exclusiveEvent (h : cH) (z : cZ) (pv : Nat → Int32) : Option (cZ × (Nat → Int32)) := (fP_number h z (upd (upd (upd pv 5 (-1 : Int32)) 7 (-1 : Int32)) 8 (-1 : Int32))).bind fun (r1, z1, pv1) => (fP_passData h z1 (upd pv1 10 r1)).bind fun (z2, pv2) => some (z2, pv2)
set_option maxHeartbeats 4000000 in
set_option maxRecDepth 100000 in
theorem cP_exclusiveEvent_met {l : Launch} {g : gT} {qq ad ea : Nat → Nat} {h : cH} {X : va_W} {qp : Nat} {pv pv' : Nat → Int32} {z z' : cZ} (hf : fP_exclusiveEvent h z pv = some (z', pv')) : cMet l yP_exclusiveEvent cP_exclusiveEvent 1 none rP_exclusiveEvent g qq ad ea h (pcell qp qq pv :: X) z [.ref qp] (none) (pcell qp qq pv' :: X) z' := by
  refine c_entry (by decide) (Nat.le_of_ble_eq_true rfl) ?_
  intro p e s m args below meth c ls C hr hlk hnm hl hw
  have hrv : (none : Option Value) = none := rfl
  have C : mCx p m c cP_exclusiveEvent 1 s args g "MidiDesk$Parser" := C
  have hl : lv_has ls 1 [(0, .ref qp)] := hl
  unfold fP_exclusiveEvent at hf
  refine lv_aload_n C.1.1 C.1.2.1 dP_exclusiveEvent_0 rfl (lv_at hl 0 rfl) ?_
  refine lv_iconst (v := (-1 : Int32)) C.1.1 C.1.2.1 dP_exclusiveEvent_1 (by decide) ?_
  refine cp_Parser_Parser_running C hw dP_exclusiveEvent_2 (fun H locs hw => ?_)
  refine lv_aload_n C.1.1 C.1.2.1 dP_exclusiveEvent_5 rfl (lv_at hl 0 rfl) ?_
  refine lv_iconst (v := (-1 : Int32)) C.1.1 C.1.2.1 dP_exclusiveEvent_6 (by decide) ?_
  refine cp_Parser_Parser_first C hw dP_exclusiveEvent_7 (fun H locs hw => ?_)
  refine lv_aload_n C.1.1 C.1.2.1 dP_exclusiveEvent_10 rfl (lv_at hl 0 rfl) ?_
  refine lv_iconst (v := (-1 : Int32)) C.1.1 C.1.2.1 dP_exclusiveEvent_11 (by decide) ?_
  refine cp_Parser_Parser_second C hw dP_exclusiveEvent_12 (fun H locs hw => ?_)
  refine lv_aload_n C.1.1 C.1.2.1 dP_exclusiveEvent_15 rfl (lv_at hl 0 rfl) ?_
  refine lv_aload_n C.1.1 C.1.2.1 dP_exclusiveEvent_16 rfl (lv_at hl 0 rfl) ?_
  obtain ⟨⟨r1, z1, pv1⟩, g1, hf⟩ := ts_b hf
  try dsimp only at hf
  refine c_callV (rest := [.ref qp]) (As := []) (rv := (some (.int r1))) (b := qp) C hl.1 hw (cP_number_met g1) rfl (callW_of (rm := rP_number) (C := "MidiDesk$Parser") 0 C.1.2.2.2.2 gw_277 gw_279 gw_6 gw_59 gw_280 kP_number ⟨Nat.le_of_ble_eq_true rfl, Nat.le_of_ble_eq_true rfl⟩) (c_recvX (ci := 2) C.2 rfl hw) rfl rfl (Nat.le_of_ble_eq_true rfl) dP_exclusiveEvent_17 ⟨Nat.le_of_ble_eq_true rfl, Nat.le_of_ble_eq_true rfl⟩ (fun H locs hw => ?_)
  refine W.eq (g2 := F0 m 20 ls [.int r1, .ref qp]) rfl ?_
  refine cp_Parser_Parser_size C hw dP_exclusiveEvent_20 (fun H locs hw => ?_)
  refine lv_aload_n C.1.1 C.1.2.1 dP_exclusiveEvent_23 rfl (lv_at hl 0 rfl) ?_
  obtain ⟨⟨z2, pv2⟩, g2, hf⟩ := ts_b hf
  try dsimp only at hf
  refine c_callV (rest := []) (As := []) (rv := none) (b := qp) C hl.1 hw (cP_passData_met g2) rfl (callW_of (rm := rP_passData) (C := "MidiDesk$Parser") 0 C.1.2.2.2.2 gw_301 gw_303 gw_11 gw_59 gw_304 kP_passData ⟨Nat.le_of_ble_eq_true rfl, Nat.le_of_ble_eq_true rfl⟩) (c_recvX (ci := 2) C.2 rfl hw) rfl rfl (Nat.le_of_ble_eq_true rfl) dP_exclusiveEvent_24 ⟨Nat.le_of_ble_eq_true rfl, Nat.le_of_ble_eq_true rfl⟩ (fun H locs hw => ?_)
  refine W.eq (g2 := F0 m 27 ls []) rfl ?_
  obtain ⟨hf, hpv⟩ := pr2 hf
  exact c_retv C hr hlk hrv hw hf (by rw [hpv]) ⟨Nat.le_of_ble_eq_true rfl, Nat.le_of_ble_eq_true rfl⟩ dP_exclusiveEvent_27
abbrev cP_metaEvent : ByteArray := prog_4_method_15_code
abbrev yP_metaEvent : MethodName := ⟨"MidiDesk$Parser", "metaEvent", "()V"⟩
theorem kP_metaEvent : yP_metaEvent.cls ≠ "java/lang/invoke/MethodHandle" ∧ yP_metaEvent.cls ≠ "java/lang/invoke/VarHandle" ∧ (parseMethodDescriptor yP_metaEvent.desc).map (fun d => d.parameters.length) = some 0 := by decide +kernel
abbrev rP_metaEvent : Room := { frames := 3, cells := 0, slots := 0, locals := 71 }
theorem dP_metaEvent_0 : decode cP_metaEvent 0 = .ok (.aload_n 0, 1) := by decide +kernel
theorem dP_metaEvent_1 : decode cP_metaEvent 1 = .ok (.iconst (-1), 1) := by decide +kernel
theorem dP_metaEvent_2 : decode cP_metaEvent 2 = .ok (.putfield 96, 3) := by decide +kernel
theorem dP_metaEvent_5 : decode cP_metaEvent 5 = .ok (.aload_n 0, 1) := by decide +kernel
theorem dP_metaEvent_6 : decode cP_metaEvent 6 = .ok (.aload_n 0, 1) := by decide +kernel
theorem dP_metaEvent_7 : decode cP_metaEvent 7 = .ok (.invokevirtual 130, 3) := by decide +kernel
theorem dP_metaEvent_10 : decode cP_metaEvent 10 = .ok (.putfield 133, 3) := by decide +kernel
theorem dP_metaEvent_13 : decode cP_metaEvent 13 = .ok (.aload_n 0, 1) := by decide +kernel
theorem dP_metaEvent_14 : decode cP_metaEvent 14 = .ok (.iconst (-1), 1) := by decide +kernel
theorem dP_metaEvent_15 : decode cP_metaEvent 15 = .ok (.putfield 139, 3) := by decide +kernel
theorem dP_metaEvent_18 : decode cP_metaEvent 18 = .ok (.aload_n 0, 1) := by decide +kernel
theorem dP_metaEvent_19 : decode cP_metaEvent 19 = .ok (.getfield 40, 3) := by decide +kernel
theorem dP_metaEvent_22 : decode cP_metaEvent 22 = .ok (.istore_n 1, 1) := by decide +kernel
theorem dP_metaEvent_23 : decode cP_metaEvent 23 = .ok (.aload_n 0, 1) := by decide +kernel
theorem dP_metaEvent_24 : decode cP_metaEvent 24 = .ok (.aload_n 0, 1) := by decide +kernel
theorem dP_metaEvent_25 : decode cP_metaEvent 25 = .ok (.invokevirtual 105, 3) := by decide +kernel
theorem dP_metaEvent_28 : decode cP_metaEvent 28 = .ok (.putfield 122, 3) := by decide +kernel
theorem dP_metaEvent_31 : decode cP_metaEvent 31 = .ok (.aload_n 0, 1) := by decide +kernel
theorem dP_metaEvent_32 : decode cP_metaEvent 32 = .ok (.aload_n 0, 1) := by decide +kernel
theorem dP_metaEvent_33 : decode cP_metaEvent 33 = .ok (.getfield 133, 3) := by decide +kernel
theorem dP_metaEvent_36 : decode cP_metaEvent 36 = .ok (.bipush 47, 2) := by decide +kernel
theorem dP_metaEvent_38 : decode cP_metaEvent 38 = .ok (.if_icmp .ne 7, 3) := by decide +kernel
theorem dP_metaEvent_41 : decode cP_metaEvent 41 = .ok (.iconst 1, 1) := by decide +kernel
theorem dP_metaEvent_42 : decode cP_metaEvent 42 = .ok (.goto 4, 3) := by decide +kernel
theorem dP_metaEvent_45 : decode cP_metaEvent 45 = .ok (.iconst 0, 1) := by decide +kernel
theorem dP_metaEvent_46 : decode cP_metaEvent 46 = .ok (.putfield 99, 3) := by decide +kernel
theorem dP_metaEvent_49 : decode cP_metaEvent 49 = .ok (.aload_n 0, 1) := by decide +kernel
theorem dP_metaEvent_50 : decode cP_metaEvent 50 = .ok (.aload_n 0, 1) := by decide +kernel
theorem dP_metaEvent_51 : decode cP_metaEvent 51 = .ok (.getfield 99, 3) := by decide +kernel
theorem dP_metaEvent_54 : decode cP_metaEvent 54 = .ok (.ifCond .eq 10, 3) := by decide +kernel
theorem dP_metaEvent_57 : decode cP_metaEvent 57 = .ok (.aload_n 0, 1) := by decide +kernel
theorem dP_metaEvent_58 : decode cP_metaEvent 58 = .ok (.getfield 122, 3) := by decide +kernel
theorem dP_metaEvent_61 : decode cP_metaEvent 61 = .ok (.ifCond .ne 7, 3) := by decide +kernel
theorem dP_metaEvent_64 : decode cP_metaEvent 64 = .ok (.iconst 1, 1) := by decide +kernel
theorem dP_metaEvent_65 : decode cP_metaEvent 65 = .ok (.goto 4, 3) := by decide +kernel
theorem dP_metaEvent_68 : decode cP_metaEvent 68 = .ok (.iconst 0, 1) := by decide +kernel
theorem dP_metaEvent_69 : decode cP_metaEvent 69 = .ok (.bipush 7, 2) := by decide +kernel
theorem dP_metaEvent_71 : decode cP_metaEvent 71 = .ok (.iload_n 1, 1) := by decide +kernel
theorem dP_metaEvent_72 : decode cP_metaEvent 72 = .ok (.invokevirtual 56, 3) := by decide +kernel
theorem dP_metaEvent_75 : decode cP_metaEvent 75 = .ok (.aload_n 0, 1) := by decide +kernel
theorem dP_metaEvent_76 : decode cP_metaEvent 76 = .ok (.aload_n 0, 1) := by decide +kernel
theorem dP_metaEvent_77 : decode cP_metaEvent 77 = .ok (.getfield 133, 3) := by decide +kernel
theorem dP_metaEvent_80 : decode cP_metaEvent 80 = .ok (.bipush 81, 2) := by decide +kernel
theorem dP_metaEvent_82 : decode cP_metaEvent 82 = .ok (.if_icmp .ne 11, 3) := by decide +kernel
theorem dP_metaEvent_85 : decode cP_metaEvent 85 = .ok (.aload_n 0, 1) := by decide +kernel
theorem dP_metaEvent_86 : decode cP_metaEvent 86 = .ok (.getfield 122, 3) := by decide +kernel
theorem dP_metaEvent_89 : decode cP_metaEvent 89 = .ok (.iconst 3, 1) := by decide +kernel
theorem dP_metaEvent_90 : decode cP_metaEvent 90 = .ok (.if_icmp .ne 7, 3) := by decide +kernel
theorem dP_metaEvent_93 : decode cP_metaEvent 93 = .ok (.iconst 1, 1) := by decide +kernel
theorem dP_metaEvent_94 : decode cP_metaEvent 94 = .ok (.goto 4, 3) := by decide +kernel
theorem dP_metaEvent_97 : decode cP_metaEvent 97 = .ok (.iconst 0, 1) := by decide +kernel
theorem dP_metaEvent_98 : decode cP_metaEvent 98 = .ok (.bipush 8, 2) := by decide +kernel
theorem dP_metaEvent_100 : decode cP_metaEvent 100 = .ok (.iload_n 1, 1) := by decide +kernel
theorem dP_metaEvent_101 : decode cP_metaEvent 101 = .ok (.invokevirtual 56, 3) := by decide +kernel
theorem dP_metaEvent_104 : decode cP_metaEvent 104 = .ok (.aload_n 0, 1) := by decide +kernel
theorem dP_metaEvent_105 : decode cP_metaEvent 105 = .ok (.invokevirtual 142, 3) := by decide +kernel
theorem dP_metaEvent_108 : decode cP_metaEvent 108 = .ok (.aload_n 0, 1) := by decide +kernel
theorem dP_metaEvent_109 : decode cP_metaEvent 109 = .ok (.getfield 37, 3) := by decide +kernel
theorem dP_metaEvent_112 : decode cP_metaEvent 112 = .ok (.ifCond .ne 71, 3) := by decide +kernel
theorem dP_metaEvent_115 : decode cP_metaEvent 115 = .ok (.aload_n 0, 1) := by decide +kernel
theorem dP_metaEvent_116 : decode cP_metaEvent 116 = .ok (.getfield 133, 3) := by decide +kernel
theorem dP_metaEvent_119 : decode cP_metaEvent 119 = .ok (.bipush 81, 2) := by decide +kernel
theorem dP_metaEvent_121 : decode cP_metaEvent 121 = .ok (.if_icmp .ne 62, 3) := by decide +kernel
theorem dP_metaEvent_124 : decode cP_metaEvent 124 = .ok (.aload_n 0, 1) := by decide +kernel
theorem dP_metaEvent_125 : decode cP_metaEvent 125 = .ok (.getfield 9, 3) := by decide +kernel
theorem dP_metaEvent_128 : decode cP_metaEvent 128 = .ok (.aload_n 0, 1) := by decide +kernel
theorem dP_metaEvent_129 : decode cP_metaEvent 129 = .ok (.getfield 145, 3) := by decide +kernel
theorem dP_metaEvent_132 : decode cP_metaEvent 132 = .ok (.invokevirtual 69, 3) := by decide +kernel
theorem dP_metaEvent_135 : decode cP_metaEvent 135 = .ok (.aload_n 0, 1) := by decide +kernel
theorem dP_metaEvent_136 : decode cP_metaEvent 136 = .ok (.getfield 9, 3) := by decide +kernel
theorem dP_metaEvent_139 : decode cP_metaEvent 139 = .ok (.aload_n 0, 1) := by decide +kernel
theorem dP_metaEvent_140 : decode cP_metaEvent 140 = .ok (.getfield 145, 3) := by decide +kernel
theorem dP_metaEvent_143 : decode cP_metaEvent 143 = .ok (.iconst 1, 1) := by decide +kernel
theorem dP_metaEvent_144 : decode cP_metaEvent 144 = .ok (.iadd, 1) := by decide +kernel
theorem dP_metaEvent_145 : decode cP_metaEvent 145 = .ok (.invokevirtual 69, 3) := by decide +kernel
theorem dP_metaEvent_148 : decode cP_metaEvent 148 = .ok (.iadd, 1) := by decide +kernel
theorem dP_metaEvent_149 : decode cP_metaEvent 149 = .ok (.aload_n 0, 1) := by decide +kernel
theorem dP_metaEvent_150 : decode cP_metaEvent 150 = .ok (.getfield 9, 3) := by decide +kernel
theorem dP_metaEvent_153 : decode cP_metaEvent 153 = .ok (.aload_n 0, 1) := by decide +kernel
theorem dP_metaEvent_154 : decode cP_metaEvent 154 = .ok (.getfield 145, 3) := by decide +kernel
theorem dP_metaEvent_157 : decode cP_metaEvent 157 = .ok (.iconst 2, 1) := by decide +kernel
theorem dP_metaEvent_158 : decode cP_metaEvent 158 = .ok (.iadd, 1) := by decide +kernel
theorem dP_metaEvent_159 : decode cP_metaEvent 159 = .ok (.invokevirtual 69, 3) := by decide +kernel
theorem dP_metaEvent_162 : decode cP_metaEvent 162 = .ok (.iadd, 1) := by decide +kernel
theorem dP_metaEvent_163 : decode cP_metaEvent 163 = .ok (.istore_n 2, 1) := by decide +kernel
theorem dP_metaEvent_164 : decode cP_metaEvent 164 = .ok (.aload_n 0, 1) := by decide +kernel
theorem dP_metaEvent_165 : decode cP_metaEvent 165 = .ok (.iload_n 2, 1) := by decide +kernel
theorem dP_metaEvent_166 : decode cP_metaEvent 166 = .ok (.ifCond .le 7, 3) := by decide +kernel
theorem dP_metaEvent_169 : decode cP_metaEvent 169 = .ok (.iconst 1, 1) := by decide +kernel
theorem dP_metaEvent_170 : decode cP_metaEvent 170 = .ok (.goto 4, 3) := by decide +kernel
theorem dP_metaEvent_173 : decode cP_metaEvent 173 = .ok (.iconst 0, 1) := by decide +kernel
theorem dP_metaEvent_174 : decode cP_metaEvent 174 = .ok (.bipush 8, 2) := by decide +kernel
theorem dP_metaEvent_176 : decode cP_metaEvent 176 = .ok (.aload_n 0, 1) := by decide +kernel
theorem dP_metaEvent_177 : decode cP_metaEvent 177 = .ok (.getfield 145, 3) := by decide +kernel
theorem dP_metaEvent_180 : decode cP_metaEvent 180 = .ok (.invokevirtual 56, 3) := by decide +kernel
theorem dP_metaEvent_183 : decode cP_metaEvent 183 = .ok (.return_, 1) := by decide +kernel
def jP_metaEvent_174 (h : cH) (z : cZ) (pv : Nat → Int32) (s1 : Int32) : Option (cZ × (Nat → Int32)) := (fP_expect h z pv s1 (8 : Int32) (pv 9)).bind fun (z1, pv1) => some (z1, pv1)
def jP_metaEvent_98 (h : cH) (z : cZ) (pv : Nat → Int32) (x1 : Int32) (s1 : Int32) : Option (cZ × (Nat → Int32)) := (fP_expect h z pv s1 (8 : Int32) x1).bind fun (z1, pv1) => (fP_passData h z1 pv1).bind fun (z2, pv2) => if (pv2 2) = 0 then (if (pv2 7) = (81 : Int32) then ((fB0_at h z2 (pv2 9)).bind fun (r5, z5) => (fB0_at h z5 ((pv2 9) + (1 : Int32))).bind fun (r6, z6) => (fB0_at h z6 ((pv2 9) + (2 : Int32))).bind fun (r7, z7) => if ((r5 + r6) + r7) ≤ 0 then (jP_metaEvent_174 h z7 pv2 (0 : Int32)) else (jP_metaEvent_174 h z7 pv2 (1 : Int32))) else (some (z2, pv2))) else (some (z2, pv2))
def jP_metaEvent_93 (h : cH) (z : cZ) (pv : Nat → Int32) (x1 : Int32) : Option (cZ × (Nat → Int32)) := jP_metaEvent_98 h z pv x1 (1 : Int32)
def jP_metaEvent_69 (h : cH) (z : cZ) (pv : Nat → Int32) (x1 : Int32) (s1 : Int32) : Option (cZ × (Nat → Int32)) := (fP_expect h z pv s1 (7 : Int32) x1).bind fun (z1, pv1) => if (pv1 7) = (81 : Int32) then (if (pv1 10) = (3 : Int32) then (jP_metaEvent_93 h z1 pv1 x1) else (jP_metaEvent_98 h z1 pv1 x1 (0 : Int32))) else (jP_metaEvent_93 h z1 pv1 x1)
def jP_metaEvent_64 (h : cH) (z : cZ) (pv : Nat → Int32) (x1 : Int32) : Option (cZ × (Nat → Int32)) := jP_metaEvent_69 h z pv x1 (1 : Int32)
def jP_metaEvent_46 (h : cH) (z : cZ) (pv : Nat → Int32) (x1 : Int32) (s1 : Int32) : Option (cZ × (Nat → Int32)) := if ¬ (s1 = 0 ∨ s1 = 1) then none else (if ((upd pv 6 s1) 6) = 0 then (jP_metaEvent_64 h z (upd pv 6 s1) x1) else (if ((upd pv 6 s1) 10) = 0 then (jP_metaEvent_64 h z (upd pv 6 s1) x1) else (jP_metaEvent_69 h z (upd pv 6 s1) x1 (0 : Int32))))
def fP_metaEvent (h : cH) (z : cZ) (pv : Nat → Int32) : Option (cZ × (Nat → Int32)) := (fP_lowByte h z (upd pv 5 (-1 : Int32))).bind fun (r1, z1, pv1) => (fP_number h z1 (upd (upd pv1 7 r1) 8 (-1 : Int32))).bind fun (r2, z2, pv2) => if ((upd pv2 10 r2) 7) = (47 : Int32) then (jP_metaEvent_46 h z2 (upd pv2 10 r2) ((upd (upd pv1 7 r1) 8 (-1 : Int32)) 0) (1 : Int32)) else (jP_metaEvent_46 h z2 (upd pv2 10 r2) ((upd (upd pv1 7 r1) 8 (-1 : Int32)) 0) (0 : Int32))
set_option maxHeartbeats 4000000 in
set_option maxRecDepth 100000 in
theorem wP_metaEvent_174 {p : Program} {l : Launch} {e : Env} {s : State} {m : MethodId} {args : Array Value} {below : List Frame} {meth : Method} {c : Code} {g : gT} {qq ad ea : Nat → Nat} {h : cH} {X : va_W} {rv : Option Value} {qp : Nat} {pv0 pv' : Nat → Int32} {z' : cZ} (C : mCx p m c cP_metaEvent 3 s args g "MidiDesk$Parser") (hr : meth.sig.returnType = none) (hlk : meth.locks = false) (hrv : rv = none) (z : cZ) (pv : Nat → Int32) (s1 : Int32) (H : Heap) (locs : List Loc) (ls : Array Slot) (hl : lv_has ls 3 [(0, .ref qp)]) (hw : cWd g (cA g qq ad ea h (pcell qp qq pv0 :: X) s.heap.size) s.heap qq ad ea h (pcell qp qq pv :: X) z H locs) (hf : jP_metaEvent_174 h z pv s1 = some (z', pv')) : cG p l e rP_metaEvent s m args below meth c g qq ad ea h (pcell qp qq pv0 :: X) rv (pcell qp qq pv' :: X) z' H locs 0 0 (F0 m 174 ls [.int s1, .ref qp]) := by
  unfold jP_metaEvent_174 at hf
  refine lv_bipush (v := (8 : Int32)) C.1.1 C.1.2.1 dP_metaEvent_174 (by decide) ?_
  refine lv_aload_n C.1.1 C.1.2.1 dP_metaEvent_176 rfl (lv_at hl 0 rfl) ?_
  refine cg_Parser_Parser_start C hw dP_metaEvent_177 ?_
  obtain ⟨⟨z1, pv1⟩, g1, hf⟩ := ts_b hf
  try dsimp only at hf
  refine c_callV (rest := []) (As := [.int s1, .int (8 : Int32), .int (pv 9)]) (rv := none) (b := qp) C hl.1 hw (cP_expect_met g1) rfl (callW_of (rm := rP_expect) (C := "MidiDesk$Parser") 3 C.1.2.2.2.2 gw_250 gw_252 gw_2 gw_59 gw_253 kP_expect ⟨Nat.le_of_ble_eq_true rfl, Nat.le_of_ble_eq_true rfl⟩) (c_recvX (ci := 2) C.2 rfl hw) rfl rfl (Nat.le_of_ble_eq_true rfl) dP_metaEvent_180 ⟨Nat.le_of_ble_eq_true rfl, Nat.le_of_ble_eq_true rfl⟩ (fun H locs hw => ?_)
  refine W.eq (g2 := F0 m 183 ls []) rfl ?_
  obtain ⟨hf, hpv⟩ := pr2 hf
  exact c_retv C hr hlk hrv hw hf (by rw [hpv]) ⟨Nat.le_of_ble_eq_true rfl, Nat.le_of_ble_eq_true rfl⟩ dP_metaEvent_183
set_option maxHeartbeats 4000000 in
set_option maxRecDepth 100000 in
theorem wP_metaEvent_98 {p : Program} {l : Launch} {e : Env} {s : State} {m : MethodId} {args : Array Value} {below : List Frame} {meth : Method} {c : Code} {g : gT} {qq ad ea : Nat → Nat} {h : cH} {X : va_W} {rv : Option Value} {qp : Nat} {pv0 pv' : Nat → Int32} {z' : cZ} (C : mCx p m c cP_metaEvent 3 s args g "MidiDesk$Parser") (hr : meth.sig.returnType = none) (hlk : meth.locks = false) (hrv : rv = none) (z : cZ) (pv : Nat → Int32) (x1 : Int32) (s1 : Int32) (H : Heap) (locs : List Loc) (ls : Array Slot) (hl : lv_has ls 3 [(0, .ref qp), (1, .int x1)]) (hw : cWd g (cA g qq ad ea h (pcell qp qq pv0 :: X) s.heap.size) s.heap qq ad ea h (pcell qp qq pv :: X) z H locs) (hf : jP_metaEvent_98 h z pv x1 s1 = some (z', pv')) : cG p l e rP_metaEvent s m args below meth c g qq ad ea h (pcell qp qq pv0 :: X) rv (pcell qp qq pv' :: X) z' H locs 0 0 (F0 m 98 ls [.int s1, .ref qp]) := by
  unfold jP_metaEvent_98 at hf
  refine lv_bipush (v := (8 : Int32)) C.1.1 C.1.2.1 dP_metaEvent_98 (by decide) ?_
  refine lv_iload_n C.1.1 C.1.2.1 dP_metaEvent_100 rfl (lv_at hl 1 rfl) ?_
  obtain ⟨⟨z1, pv1⟩, g1, hf⟩ := ts_b hf
  try dsimp only at hf
  refine c_callV (rest := []) (As := [.int s1, .int (8 : Int32), .int x1]) (rv := none) (b := qp) C hl.1 hw (cP_expect_met g1) rfl (callW_of (rm := rP_expect) (C := "MidiDesk$Parser") 3 C.1.2.2.2.2 gw_250 gw_252 gw_2 gw_59 gw_253 kP_expect ⟨Nat.le_of_ble_eq_true rfl, Nat.le_of_ble_eq_true rfl⟩) (c_recvX (ci := 2) C.2 rfl hw) rfl rfl (Nat.le_of_ble_eq_true rfl) dP_metaEvent_101 ⟨Nat.le_of_ble_eq_true rfl, Nat.le_of_ble_eq_true rfl⟩ (fun H locs hw => ?_)
  refine W.eq (g2 := F0 m 104 ls []) rfl ?_
  refine lv_aload_n C.1.1 C.1.2.1 dP_metaEvent_104 rfl (lv_at hl 0 rfl) ?_
  obtain ⟨⟨z2, pv2⟩, g2, hf⟩ := ts_b hf
  try dsimp only at hf
  refine c_callV (rest := []) (As := []) (rv := none) (b := qp) C hl.1 hw (cP_passData_met g2) rfl (callW_of (rm := rP_passData) (C := "MidiDesk$Parser") 0 C.1.2.2.2.2 gw_301 gw_303 gw_11 gw_59 gw_304 kP_passData ⟨Nat.le_of_ble_eq_true rfl, Nat.le_of_ble_eq_true rfl⟩) (c_recvX (ci := 2) C.2 rfl hw) rfl rfl (Nat.le_of_ble_eq_true rfl) dP_metaEvent_105 ⟨Nat.le_of_ble_eq_true rfl, Nat.le_of_ble_eq_true rfl⟩ (fun H locs hw => ?_)
  refine W.eq (g2 := F0 m 108 ls []) rfl ?_
  refine lv_aload_n C.1.1 C.1.2.1 dP_metaEvent_108 rfl (lv_at hl 0 rfl) ?_
  refine cg_Parser_Parser_fault C hw dP_metaEvent_109 ?_
  refine lv_if_ne (tgt := 183) C.1.1 C.1.2.1 dP_metaEvent_112 (by decide) (fun c3 => ?_) (fun c3 => ?_)
  · have hf := ts_f hf c3
    obtain ⟨hf, hpv⟩ := pr2 hf
    exact c_retv C hr hlk hrv hw hf (by rw [hpv]) ⟨Nat.le_of_ble_eq_true rfl, Nat.le_of_ble_eq_true rfl⟩ dP_metaEvent_183
  · have hf := ts_t hf c3
    refine lv_aload_n C.1.1 C.1.2.1 dP_metaEvent_115 rfl (lv_at hl 0 rfl) ?_
    refine cg_Parser_Parser_first C hw dP_metaEvent_116 ?_
    refine lv_bipush (v := (81 : Int32)) C.1.1 C.1.2.1 dP_metaEvent_119 (by decide) ?_
    refine lv_icmp_ne (tgt := 183) C.1.1 C.1.2.1 dP_metaEvent_121 (by decide) (fun c4 => ?_) (fun c4 => ?_)
    · have hf := ts_f hf c4
      obtain ⟨hf, hpv⟩ := pr2 hf
      exact c_retv C hr hlk hrv hw hf (by rw [hpv]) ⟨Nat.le_of_ble_eq_true rfl, Nat.le_of_ble_eq_true rfl⟩ dP_metaEvent_183
    · have hf := ts_t hf c4
      refine lv_aload_n C.1.1 C.1.2.1 dP_metaEvent_124 rfl (lv_at hl 0 rfl) ?_
      refine cg_Parser_Parser_input C hw dP_metaEvent_125 ?_
      refine lv_aload_n C.1.1 C.1.2.1 dP_metaEvent_128 rfl (lv_at hl 0 rfl) ?_
      refine cg_Parser_Parser_start C hw dP_metaEvent_129 ?_
      obtain ⟨⟨r5, z5⟩, g5, hf⟩ := ts_b hf
      try dsimp only at hf
      refine c_callV (rest := []) (As := [.int (pv2 9)]) (rv := (some (.int r5))) (b := (qq 1)) C hl.1 hw (cB0_at_met g5) rfl (callW_of (rm := rB0_at) (C := "MidiDesk$Bytes") 1 C.1.2.2.2.2 gw_255 gw_256 gw_257 gw_53 gw_258 kB0_at ⟨Nat.le_of_ble_eq_true rfl, Nat.le_of_ble_eq_true rfl⟩) (c_recv_B0 C.2 hw) rfl rfl (Nat.le_of_ble_eq_true rfl) dP_metaEvent_132 ⟨Nat.le_of_ble_eq_true rfl, Nat.le_of_ble_eq_true rfl⟩ (fun H locs hw => ?_)
      refine W.eq (g2 := F0 m 135 ls [.int r5]) rfl ?_
      refine lv_aload_n C.1.1 C.1.2.1 dP_metaEvent_135 rfl (lv_at hl 0 rfl) ?_
      refine cg_Parser_Parser_input C hw dP_metaEvent_136 ?_
      refine lv_aload_n C.1.1 C.1.2.1 dP_metaEvent_139 rfl (lv_at hl 0 rfl) ?_
      refine cg_Parser_Parser_start C hw dP_metaEvent_140 ?_
      refine lv_iconst (v := (1 : Int32)) C.1.1 C.1.2.1 dP_metaEvent_143 (by decide) ?_
      refine lv_iadd C.1.1 C.1.2.1 dP_metaEvent_144 ?_
      obtain ⟨⟨r6, z6⟩, g6, hf⟩ := ts_b hf
      try dsimp only at hf
      refine c_callV (rest := [.int r5]) (As := [.int ((pv2 9) + (1 : Int32))]) (rv := (some (.int r6))) (b := (qq 1)) C hl.1 hw (cB0_at_met g6) rfl (callW_of (rm := rB0_at) (C := "MidiDesk$Bytes") 1 C.1.2.2.2.2 gw_255 gw_256 gw_257 gw_53 gw_258 kB0_at ⟨Nat.le_of_ble_eq_true rfl, Nat.le_of_ble_eq_true rfl⟩) (c_recv_B0 C.2 hw) rfl rfl (Nat.le_of_ble_eq_true rfl) dP_metaEvent_145 ⟨Nat.le_of_ble_eq_true rfl, Nat.le_of_ble_eq_true rfl⟩ (fun H locs hw => ?_)
      refine W.eq (g2 := F0 m 148 ls [.int r6, .int r5]) rfl ?_
      refine lv_iadd C.1.1 C.1.2.1 dP_metaEvent_148 ?_
      refine lv_aload_n C.1.1 C.1.2.1 dP_metaEvent_149 rfl (lv_at hl 0 rfl) ?_
      refine cg_Parser_Parser_input C hw dP_metaEvent_150 ?_
      refine lv_aload_n C.1.1 C.1.2.1 dP_metaEvent_153 rfl (lv_at hl 0 rfl) ?_
      refine cg_Parser_Parser_start C hw dP_metaEvent_154 ?_
      refine lv_iconst (v := (2 : Int32)) C.1.1 C.1.2.1 dP_metaEvent_157 (by decide) ?_
      refine lv_iadd C.1.1 C.1.2.1 dP_metaEvent_158 ?_
      obtain ⟨⟨r7, z7⟩, g7, hf⟩ := ts_b hf
      try dsimp only at hf
      refine c_callV (rest := [.int (r5 + r6)]) (As := [.int ((pv2 9) + (2 : Int32))]) (rv := (some (.int r7))) (b := (qq 1)) C hl.1 hw (cB0_at_met g7) rfl (callW_of (rm := rB0_at) (C := "MidiDesk$Bytes") 1 C.1.2.2.2.2 gw_255 gw_256 gw_257 gw_53 gw_258 kB0_at ⟨Nat.le_of_ble_eq_true rfl, Nat.le_of_ble_eq_true rfl⟩) (c_recv_B0 C.2 hw) rfl rfl (Nat.le_of_ble_eq_true rfl) dP_metaEvent_159 ⟨Nat.le_of_ble_eq_true rfl, Nat.le_of_ble_eq_true rfl⟩ (fun H locs hw => ?_)
      refine W.eq (g2 := F0 m 162 ls [.int r7, .int (r5 + r6)]) rfl ?_
      refine lv_iadd C.1.1 C.1.2.1 dP_metaEvent_162 ?_
      refine lv_istore_n (lv' := [(2, .int ((r5 + r6) + r7)), (0, .ref qp), (1, .int x1)]) C.1.1 C.1.2.1 dP_metaEvent_163 rfl hl (by decide) rfl (fun ls hl => ?_)
      refine lv_aload_n C.1.1 C.1.2.1 dP_metaEvent_164 rfl (lv_at hl 1 rfl) ?_
      refine lv_iload_n C.1.1 C.1.2.1 dP_metaEvent_165 rfl (lv_at hl 0 rfl) ?_
      refine lv_if_le (tgt := 173) C.1.1 C.1.2.1 dP_metaEvent_166 (by decide) (fun c8 => ?_) (fun c8 => ?_)
      · have hf := ts_t hf c8
        refine lv_iconst (v := (0 : Int32)) C.1.1 C.1.2.1 dP_metaEvent_173 (by decide) ?_
        exact wP_metaEvent_174 C hr hlk hrv z7 pv2 (0 : Int32) _ _ ls (lv_sub hl [1] rfl) hw hf
      · have hf := ts_f hf c8
        refine lv_iconst (v := (1 : Int32)) C.1.1 C.1.2.1 dP_metaEvent_169 (by decide) ?_
        refine lv_goto (tgt := 174) C.1.1 C.1.2.1 dP_metaEvent_170 (by decide) ?_
        exact wP_metaEvent_174 C hr hlk hrv z7 pv2 (1 : Int32) _ _ ls (lv_sub hl [1] rfl) hw hf
set_option maxHeartbeats 4000000 in
set_option maxRecDepth 100000 in
theorem wP_metaEvent_93 {p : Program} {l : Launch} {e : Env} {s : State} {m : MethodId} {args : Array Value} {below : List Frame} {meth : Method} {c : Code} {g : gT} {qq ad ea : Nat → Nat} {h : cH} {X : va_W} {rv : Option Value} {qp : Nat} {pv0 pv' : Nat → Int32} {z' : cZ} (C : mCx p m c cP_metaEvent 3 s args g "MidiDesk$Parser") (hr : meth.sig.returnType = none) (hlk : meth.locks = false) (hrv : rv = none) (z : cZ) (pv : Nat → Int32) (x1 : Int32) (H : Heap) (locs : List Loc) (ls : Array Slot) (hl : lv_has ls 3 [(0, .ref qp), (1, .int x1)]) (hw : cWd g (cA g qq ad ea h (pcell qp qq pv0 :: X) s.heap.size) s.heap qq ad ea h (pcell qp qq pv :: X) z H locs) (hf : jP_metaEvent_93 h z pv x1 = some (z', pv')) : cG p l e rP_metaEvent s m args below meth c g qq ad ea h (pcell qp qq pv0 :: X) rv (pcell qp qq pv' :: X) z' H locs 0 0 (F0 m 93 ls [.ref qp]) := by
  unfold jP_metaEvent_93 at hf
  refine lv_iconst (v := (1 : Int32)) C.1.1 C.1.2.1 dP_metaEvent_93 (by decide) ?_
  refine lv_goto (tgt := 98) C.1.1 C.1.2.1 dP_metaEvent_94 (by decide) ?_
  exact wP_metaEvent_98 C hr hlk hrv z pv x1 (1 : Int32) _ _ ls (lv_sub hl [0, 1] rfl) hw hf
set_option maxHeartbeats 4000000 in
set_option maxRecDepth 100000 in
theorem wP_metaEvent_69 {p : Program} {l : Launch} {e : Env} {s : State} {m : MethodId} {args : Array Value} {below : List Frame} {meth : Method} {c : Code} {g : gT} {qq ad ea : Nat → Nat} {h : cH} {X : va_W} {rv : Option Value} {qp : Nat} {pv0 pv' : Nat → Int32} {z' : cZ} (C : mCx p m c cP_metaEvent 3 s args g "MidiDesk$Parser") (hr : meth.sig.returnType = none) (hlk : meth.locks = false) (hrv : rv = none) (z : cZ) (pv : Nat → Int32) (x1 : Int32) (s1 : Int32) (H : Heap) (locs : List Loc) (ls : Array Slot) (hl : lv_has ls 3 [(0, .ref qp), (1, .int x1)]) (hw : cWd g (cA g qq ad ea h (pcell qp qq pv0 :: X) s.heap.size) s.heap qq ad ea h (pcell qp qq pv :: X) z H locs) (hf : jP_metaEvent_69 h z pv x1 s1 = some (z', pv')) : cG p l e rP_metaEvent s m args below meth c g qq ad ea h (pcell qp qq pv0 :: X) rv (pcell qp qq pv' :: X) z' H locs 0 0 (F0 m 69 ls [.int s1, .ref qp]) := by
  unfold jP_metaEvent_69 at hf
  refine lv_bipush (v := (7 : Int32)) C.1.1 C.1.2.1 dP_metaEvent_69 (by decide) ?_
  refine lv_iload_n C.1.1 C.1.2.1 dP_metaEvent_71 rfl (lv_at hl 1 rfl) ?_
  obtain ⟨⟨z1, pv1⟩, g1, hf⟩ := ts_b hf
  try dsimp only at hf
  refine c_callV (rest := []) (As := [.int s1, .int (7 : Int32), .int x1]) (rv := none) (b := qp) C hl.1 hw (cP_expect_met g1) rfl (callW_of (rm := rP_expect) (C := "MidiDesk$Parser") 3 C.1.2.2.2.2 gw_250 gw_252 gw_2 gw_59 gw_253 kP_expect ⟨Nat.le_of_ble_eq_true rfl, Nat.le_of_ble_eq_true rfl⟩) (c_recvX (ci := 2) C.2 rfl hw) rfl rfl (Nat.le_of_ble_eq_true rfl) dP_metaEvent_72 ⟨Nat.le_of_ble_eq_true rfl, Nat.le_of_ble_eq_true rfl⟩ (fun H locs hw => ?_)
  refine W.eq (g2 := F0 m 75 ls []) rfl ?_
  refine lv_aload_n C.1.1 C.1.2.1 dP_metaEvent_75 rfl (lv_at hl 0 rfl) ?_
  refine lv_aload_n C.1.1 C.1.2.1 dP_metaEvent_76 rfl (lv_at hl 0 rfl) ?_
  refine cg_Parser_Parser_first C hw dP_metaEvent_77 ?_
  refine lv_bipush (v := (81 : Int32)) C.1.1 C.1.2.1 dP_metaEvent_80 (by decide) ?_
  refine lv_icmp_ne (tgt := 93) C.1.1 C.1.2.1 dP_metaEvent_82 (by decide) (fun c2 => ?_) (fun c2 => ?_)
  · have hf := ts_f hf c2
    exact wP_metaEvent_93 C hr hlk hrv z1 pv1 x1 _ _ ls (lv_sub hl [0, 1] rfl) hw hf
  · have hf := ts_t hf c2
    refine lv_aload_n C.1.1 C.1.2.1 dP_metaEvent_85 rfl (lv_at hl 0 rfl) ?_
    refine cg_Parser_Parser_size C hw dP_metaEvent_86 ?_
    refine lv_iconst (v := (3 : Int32)) C.1.1 C.1.2.1 dP_metaEvent_89 (by decide) ?_
    refine lv_icmp_ne (tgt := 97) C.1.1 C.1.2.1 dP_metaEvent_90 (by decide) (fun c3 => ?_) (fun c3 => ?_)
    · have hf := ts_f hf c3
      refine lv_iconst (v := (0 : Int32)) C.1.1 C.1.2.1 dP_metaEvent_97 (by decide) ?_
      exact wP_metaEvent_98 C hr hlk hrv z1 pv1 x1 (0 : Int32) _ _ ls (lv_sub hl [0, 1] rfl) hw hf
    · have hf := ts_t hf c3
      exact wP_metaEvent_93 C hr hlk hrv z1 pv1 x1 _ _ ls (lv_sub hl [0, 1] rfl) hw hf
set_option maxHeartbeats 4000000 in
set_option maxRecDepth 100000 in
theorem wP_metaEvent_64 {p : Program} {l : Launch} {e : Env} {s : State} {m : MethodId} {args : Array Value} {below : List Frame} {meth : Method} {c : Code} {g : gT} {qq ad ea : Nat → Nat} {h : cH} {X : va_W} {rv : Option Value} {qp : Nat} {pv0 pv' : Nat → Int32} {z' : cZ} (C : mCx p m c cP_metaEvent 3 s args g "MidiDesk$Parser") (hr : meth.sig.returnType = none) (hlk : meth.locks = false) (hrv : rv = none) (z : cZ) (pv : Nat → Int32) (x1 : Int32) (H : Heap) (locs : List Loc) (ls : Array Slot) (hl : lv_has ls 3 [(0, .ref qp), (1, .int x1)]) (hw : cWd g (cA g qq ad ea h (pcell qp qq pv0 :: X) s.heap.size) s.heap qq ad ea h (pcell qp qq pv :: X) z H locs) (hf : jP_metaEvent_64 h z pv x1 = some (z', pv')) : cG p l e rP_metaEvent s m args below meth c g qq ad ea h (pcell qp qq pv0 :: X) rv (pcell qp qq pv' :: X) z' H locs 0 0 (F0 m 64 ls [.ref qp]) := by
  unfold jP_metaEvent_64 at hf
  refine lv_iconst (v := (1 : Int32)) C.1.1 C.1.2.1 dP_metaEvent_64 (by decide) ?_
  refine lv_goto (tgt := 69) C.1.1 C.1.2.1 dP_metaEvent_65 (by decide) ?_
  exact wP_metaEvent_69 C hr hlk hrv z pv x1 (1 : Int32) _ _ ls (lv_sub hl [0, 1] rfl) hw hf
set_option maxHeartbeats 4000000 in
set_option maxRecDepth 100000 in
theorem wP_metaEvent_46 {p : Program} {l : Launch} {e : Env} {s : State} {m : MethodId} {args : Array Value} {below : List Frame} {meth : Method} {c : Code} {g : gT} {qq ad ea : Nat → Nat} {h : cH} {X : va_W} {rv : Option Value} {qp : Nat} {pv0 pv' : Nat → Int32} {z' : cZ} (C : mCx p m c cP_metaEvent 3 s args g "MidiDesk$Parser") (hr : meth.sig.returnType = none) (hlk : meth.locks = false) (hrv : rv = none) (z : cZ) (pv : Nat → Int32) (x1 : Int32) (s1 : Int32) (H : Heap) (locs : List Loc) (ls : Array Slot) (hl : lv_has ls 3 [(0, .ref qp), (1, .int x1)]) (hw : cWd g (cA g qq ad ea h (pcell qp qq pv0 :: X) s.heap.size) s.heap qq ad ea h (pcell qp qq pv :: X) z H locs) (hf : jP_metaEvent_46 h z pv x1 s1 = some (z', pv')) : cG p l e rP_metaEvent s m args below meth c g qq ad ea h (pcell qp qq pv0 :: X) rv (pcell qp qq pv' :: X) z' H locs 0 0 (F0 m 46 ls [.int s1, .ref qp]) := by
  unfold jP_metaEvent_46 at hf
  obtain ⟨h1, hf⟩ := ts_g hf
  refine cp_Parser_Parser_ended C hw (Decidable.not_not.mp h1) dP_metaEvent_46 (fun H locs hw => ?_)
  refine lv_aload_n C.1.1 C.1.2.1 dP_metaEvent_49 rfl (lv_at hl 0 rfl) ?_
  refine lv_aload_n C.1.1 C.1.2.1 dP_metaEvent_50 rfl (lv_at hl 0 rfl) ?_
  refine cg_Parser_Parser_ended C hw dP_metaEvent_51 ?_
  refine lv_if_eq (tgt := 64) C.1.1 C.1.2.1 dP_metaEvent_54 (by decide) (fun c2 => ?_) (fun c2 => ?_)
  · have hf := ts_t hf c2
    exact wP_metaEvent_64 C hr hlk hrv z (upd pv 6 s1) x1 _ _ ls (lv_sub hl [0, 1] rfl) hw hf
  · have hf := ts_f hf c2
    refine lv_aload_n C.1.1 C.1.2.1 dP_metaEvent_57 rfl (lv_at hl 0 rfl) ?_
    refine cg_Parser_Parser_size C hw dP_metaEvent_58 ?_
    refine lv_if_ne (tgt := 68) C.1.1 C.1.2.1 dP_metaEvent_61 (by decide) (fun c3 => ?_) (fun c3 => ?_)
    · have hf := ts_f hf c3
      refine lv_iconst (v := (0 : Int32)) C.1.1 C.1.2.1 dP_metaEvent_68 (by decide) ?_
      exact wP_metaEvent_69 C hr hlk hrv z (upd pv 6 s1) x1 (0 : Int32) _ _ ls (lv_sub hl [0, 1] rfl) hw hf
    · have hf := ts_t hf c3
      exact wP_metaEvent_64 C hr hlk hrv z (upd pv 6 s1) x1 _ _ ls (lv_sub hl [0, 1] rfl) hw hf
set_option maxHeartbeats 4000000 in
set_option maxRecDepth 100000 in
theorem cP_metaEvent_met {l : Launch} {g : gT} {qq ad ea : Nat → Nat} {h : cH} {X : va_W} {qp : Nat} {pv pv' : Nat → Int32} {z z' : cZ} (hf : fP_metaEvent h z pv = some (z', pv')) : cMet l yP_metaEvent cP_metaEvent 3 none rP_metaEvent g qq ad ea h (pcell qp qq pv :: X) z [.ref qp] (none) (pcell qp qq pv' :: X) z' := by
  refine c_entry (by decide) (Nat.le_of_ble_eq_true rfl) ?_
  intro p e s m args below meth c ls C hr hlk hnm hl hw
  have hrv : (none : Option Value) = none := rfl
  have C : mCx p m c cP_metaEvent 3 s args g "MidiDesk$Parser" := C
  have hl : lv_has ls 3 [(0, .ref qp)] := hl
  unfold fP_metaEvent at hf
  refine lv_aload_n C.1.1 C.1.2.1 dP_metaEvent_0 rfl (lv_at hl 0 rfl) ?_
  refine lv_iconst (v := (-1 : Int32)) C.1.1 C.1.2.1 dP_metaEvent_1 (by decide) ?_
  refine cp_Parser_Parser_running C hw dP_metaEvent_2 (fun H locs hw => ?_)
  refine lv_aload_n C.1.1 C.1.2.1 dP_metaEvent_5 rfl (lv_at hl 0 rfl) ?_
  refine lv_aload_n C.1.1 C.1.2.1 dP_metaEvent_6 rfl (lv_at hl 0 rfl) ?_
  obtain ⟨⟨r1, z1, pv1⟩, g1, hf⟩ := ts_b hf
  try dsimp only at hf
  refine c_callV (rest := [.ref qp]) (As := []) (rv := (some (.int r1))) (b := qp) C hl.1 hw (cP_lowByte_met g1) rfl (callW_of (rm := rP_lowByte) (C := "MidiDesk$Parser") 0 C.1.2.2.2.2 gw_290 gw_292 gw_9 gw_59 gw_293 kP_lowByte ⟨Nat.le_of_ble_eq_true rfl, Nat.le_of_ble_eq_true rfl⟩) (c_recvX (ci := 2) C.2 rfl hw) rfl rfl (Nat.le_of_ble_eq_true rfl) dP_metaEvent_7 ⟨Nat.le_of_ble_eq_true rfl, Nat.le_of_ble_eq_true rfl⟩ (fun H locs hw => ?_)
  refine W.eq (g2 := F0 m 10 ls [.int r1, .ref qp]) rfl ?_
  refine cp_Parser_Parser_first C hw dP_metaEvent_10 (fun H locs hw => ?_)
  refine lv_aload_n C.1.1 C.1.2.1 dP_metaEvent_13 rfl (lv_at hl 0 rfl) ?_
  refine lv_iconst (v := (-1 : Int32)) C.1.1 C.1.2.1 dP_metaEvent_14 (by decide) ?_
  refine cp_Parser_Parser_second C hw dP_metaEvent_15 (fun H locs hw => ?_)
  refine lv_aload_n C.1.1 C.1.2.1 dP_metaEvent_18 rfl (lv_at hl 0 rfl) ?_
  refine cg_Parser_Parser_pos C hw dP_metaEvent_19 ?_
  refine lv_istore_n (lv' := [(1, .int ((upd (upd pv1 7 r1) 8 (-1 : Int32)) 0)), (0, .ref qp)]) C.1.1 C.1.2.1 dP_metaEvent_22 rfl hl (by decide) rfl (fun ls hl => ?_)
  refine lv_aload_n C.1.1 C.1.2.1 dP_metaEvent_23 rfl (lv_at hl 1 rfl) ?_
  refine lv_aload_n C.1.1 C.1.2.1 dP_metaEvent_24 rfl (lv_at hl 1 rfl) ?_
  obtain ⟨⟨r2, z2, pv2⟩, g2, hf⟩ := ts_b hf
  try dsimp only at hf
  refine c_callV (rest := [.ref qp]) (As := []) (rv := (some (.int r2))) (b := qp) C hl.1 hw (cP_number_met g2) rfl (callW_of (rm := rP_number) (C := "MidiDesk$Parser") 0 C.1.2.2.2.2 gw_277 gw_279 gw_6 gw_59 gw_280 kP_number ⟨Nat.le_of_ble_eq_true rfl, Nat.le_of_ble_eq_true rfl⟩) (c_recvX (ci := 2) C.2 rfl hw) rfl rfl (Nat.le_of_ble_eq_true rfl) dP_metaEvent_25 ⟨Nat.le_of_ble_eq_true rfl, Nat.le_of_ble_eq_true rfl⟩ (fun H locs hw => ?_)
  refine W.eq (g2 := F0 m 28 ls [.int r2, .ref qp]) rfl ?_
  refine cp_Parser_Parser_size C hw dP_metaEvent_28 (fun H locs hw => ?_)
  refine lv_aload_n C.1.1 C.1.2.1 dP_metaEvent_31 rfl (lv_at hl 1 rfl) ?_
  refine lv_aload_n C.1.1 C.1.2.1 dP_metaEvent_32 rfl (lv_at hl 1 rfl) ?_
  refine cg_Parser_Parser_first C hw dP_metaEvent_33 ?_
  refine lv_bipush (v := (47 : Int32)) C.1.1 C.1.2.1 dP_metaEvent_36 (by decide) ?_
  refine lv_icmp_ne (tgt := 45) C.1.1 C.1.2.1 dP_metaEvent_38 (by decide) (fun c3 => ?_) (fun c3 => ?_)
  · have hf := ts_f hf c3
    refine lv_iconst (v := (0 : Int32)) C.1.1 C.1.2.1 dP_metaEvent_45 (by decide) ?_
    exact wP_metaEvent_46 C hr hlk hrv z2 (upd pv2 10 r2) ((upd (upd pv1 7 r1) 8 (-1 : Int32)) 0) (0 : Int32) _ _ ls (lv_sub hl [1, 0] rfl) hw hf
  · have hf := ts_t hf c3
    refine lv_iconst (v := (1 : Int32)) C.1.1 C.1.2.1 dP_metaEvent_41 (by decide) ?_
    refine lv_goto (tgt := 46) C.1.1 C.1.2.1 dP_metaEvent_42 (by decide) ?_
    exact wP_metaEvent_46 C hr hlk hrv z2 (upd pv2 10 r2) ((upd (upd pv1 7 r1) 8 (-1 : Int32)) 0) (1 : Int32) _ _ ls (lv_sub hl [1, 0] rfl) hw hf
abbrev cD_event : ByteArray := prog_1_method_4_code
abbrev yD_event : MethodName := ⟨"MidiDesk", "event", "(II)I"⟩
theorem kD_event : yD_event.cls ≠ "java/lang/invoke/MethodHandle" ∧ yD_event.cls ≠ "java/lang/invoke/VarHandle" ∧ (parseMethodDescriptor yD_event.desc).map (fun d => d.parameters.length) = some 2 := by decide +kernel
abbrev rD_event : Room := { frames := 1, cells := 0, slots := 0, locals := 21 }
theorem dD_event_0 : decode cD_event 0 = .ok (.aload_n 0, 1) := by decide +kernel
theorem dD_event_1 : decode cD_event 1 = .ok (.getfield 24, 3) := by decide +kernel
theorem dD_event_4 : decode cD_event 4 = .ok (.iload_n 1, 1) := by decide +kernel
theorem dD_event_5 : decode cD_event 5 = .ok (.invokevirtual 46, 3) := by decide +kernel
theorem dD_event_8 : decode cD_event 8 = .ok (.astore_n 3, 1) := by decide +kernel
theorem dD_event_9 : decode cD_event 9 = .ok (.aload_n 3, 1) := by decide +kernel
theorem dD_event_10 : decode cD_event 10 = .ok (.ifnonnull 5, 3) := by decide +kernel
theorem dD_event_13 : decode cD_event 13 = .ok (.iconst (-1), 1) := by decide +kernel
theorem dD_event_14 : decode cD_event 14 = .ok (.ireturn, 1) := by decide +kernel
theorem dD_event_15 : decode cD_event 15 = .ok (.iload_n 2, 1) := by decide +kernel
theorem dD_event_16 : decode cD_event 16 = .ok (.tableswitch 70 0 5 #[40, 45, 50, 55, 60, 65], 40) := by decide +kernel
theorem dD_event_56 : decode cD_event 56 = .ok (.aload_n 3, 1) := by decide +kernel
theorem dD_event_57 : decode cD_event 57 = .ok (.getfield 50, 3) := by decide +kernel
theorem dD_event_60 : decode cD_event 60 = .ok (.ireturn, 1) := by decide +kernel
theorem dD_event_61 : decode cD_event 61 = .ok (.aload_n 3, 1) := by decide +kernel
theorem dD_event_62 : decode cD_event 62 = .ok (.getfield 56, 3) := by decide +kernel
theorem dD_event_65 : decode cD_event 65 = .ok (.ireturn, 1) := by decide +kernel
theorem dD_event_66 : decode cD_event 66 = .ok (.aload_n 3, 1) := by decide +kernel
theorem dD_event_67 : decode cD_event 67 = .ok (.getfield 59, 3) := by decide +kernel
theorem dD_event_70 : decode cD_event 70 = .ok (.ireturn, 1) := by decide +kernel
theorem dD_event_71 : decode cD_event 71 = .ok (.aload_n 3, 1) := by decide +kernel
theorem dD_event_72 : decode cD_event 72 = .ok (.getfield 62, 3) := by decide +kernel
theorem dD_event_75 : decode cD_event 75 = .ok (.ireturn, 1) := by decide +kernel
theorem dD_event_76 : decode cD_event 76 = .ok (.aload_n 3, 1) := by decide +kernel
theorem dD_event_77 : decode cD_event 77 = .ok (.getfield 65, 3) := by decide +kernel
theorem dD_event_80 : decode cD_event 80 = .ok (.ireturn, 1) := by decide +kernel
theorem dD_event_81 : decode cD_event 81 = .ok (.aload_n 3, 1) := by decide +kernel
theorem dD_event_82 : decode cD_event 82 = .ok (.getfield 68, 3) := by decide +kernel
theorem dD_event_85 : decode cD_event 85 = .ok (.ireturn, 1) := by decide +kernel
theorem dD_event_86 : decode cD_event 86 = .ok (.iconst (-1), 1) := by decide +kernel
theorem dD_event_87 : decode cD_event 87 = .ok (.ireturn, 1) := by decide +kernel
def fD_event (h : cH) (z : cZ) (x1 : Int32) (x2 : Int32) : Option (Int32 × cZ) := (fS_at h z x1).bind fun (r1, z1) => if r1 = none then (some ((-1 : Int32), z1)) else (if x2 = 0 then ((r1).bind fun j4 => if h.2.1 ≤ j4 then none else (some (ze z1 j4 0, z1))) else (if x2 = 1 then ((r1).bind fun j6 => if h.2.1 ≤ j6 then none else (some (ze z1 j6 1, z1))) else (if x2 = 2 then ((r1).bind fun j8 => if h.2.1 ≤ j8 then none else (some (ze z1 j8 2, z1))) else (if x2 = 3 then ((r1).bind fun j10 => if h.2.1 ≤ j10 then none else (some (ze z1 j10 3, z1))) else (if x2 = 4 then ((r1).bind fun j12 => if h.2.1 ≤ j12 then none else (some (ze z1 j12 4, z1))) else (if x2 = 5 then ((r1).bind fun j14 => if h.2.1 ≤ j14 then none else (some (ze z1 j14 6, z1))) else (some ((-1 : Int32), z1))))))))
set_option maxHeartbeats 4000000 in
set_option maxRecDepth 100000 in
theorem cD_event_met {l : Launch} {g : gT} {qq ad ea : Nat → Nat} {h : cH} {X : va_W} {z z' : cZ} {x1 : Int32} {x2 : Int32} {r' : Int32} (hf : fD_event h z x1 x2 = some (r', z')) : cMet l yD_event cD_event 4 (some .int) rD_event g qq ad ea h X z [.ref (qq 0), .int x1, .int x2] (some (.int r')) X z' := by
  refine c_entry (by decide) (Nat.le_of_ble_eq_true rfl) ?_
  intro p e s m args below meth c ls C hr hlk hnm hl hw
  have hrv : (some (.int r') : Option Value) = some (.int r') := rfl
  have C : mCx p m c cD_event 4 s args g "MidiDesk" := C
  have hl : lv_has ls 4 [(0, .ref (qq 0)), (1, .int x1), (2, .int x2)] := hl
  unfold fD_event at hf
  refine lv_aload_n C.1.1 C.1.2.1 dD_event_0 rfl (lv_at hl 0 rfl) ?_
  refine cg_Desk_Desk_score C hw dD_event_1 ?_
  refine lv_iload_n C.1.1 C.1.2.1 dD_event_4 rfl (lv_at hl 1 rfl) ?_
  obtain ⟨⟨r1, z1⟩, g1, hf⟩ := ts_b hf
  try dsimp only at hf
  refine c_callV (rest := []) (As := [.int x1]) (rv := (some (va_rf (Option.map ea r1)))) (b := (qq 4)) C hl.1 hw (cS_at_met g1) rfl (callW_of (rm := rS_at) (C := "MidiDesk$Score") 1 C.1.2.2.2.2 gw_397 gw_398 gw_399 gw_54 gw_400 kS_at ⟨Nat.le_of_ble_eq_true rfl, Nat.le_of_ble_eq_true rfl⟩) (c_recv_score C.2 hw) rfl rfl (Nat.le_of_ble_eq_true rfl) dD_event_5 ⟨Nat.le_of_ble_eq_true rfl, Nat.le_of_ble_eq_true rfl⟩ (fun H locs hw => ?_)
  refine W.eq (g2 := F0 m 8 ls [va_rf (Option.map ea r1)]) rfl ?_
  refine c_astore_n (lv' := [(3, va_rf (Option.map ea r1)), (0, .ref (qq 0)), (1, .int x1), (2, .int x2)]) C.1.1 C.1.2.1 dD_event_8 rfl hl (by decide) rfl (fun ls hl => ?_)
  refine c_aload_n C.1.1 C.1.2.1 dD_event_9 rfl (lv_at hl 0 rfl) ?_
  refine c_ifnonnull (x := r1) (tgt := 15) C.1.1 C.1.2.1 dD_event_10 (by decide) (fun c2 => ?_) (fun c2 => ?_)
  · have hf := ts_f hf c2
    refine lv_iload_n C.1.1 C.1.2.1 dD_event_15 rfl (lv_at hl 3 rfl) ?_
    rcases Decidable.em (x2 = 0) with c3 | c3
    · have hf := ts_t hf c3
      refine lv_tableIn (off := 40) (tgt := 56) C.1.1 C.1.2.1 dD_event_16 (by rw [c3]; decide) (by rw [c3]; decide) (by rw [c3]; decide) (by decide) ?_
      refine c_aload_n C.1.1 C.1.2.1 dD_event_56 rfl (lv_at hl 0 rfl) ?_
      obtain ⟨j4, ho4, hf⟩ := ts_b hf
      try dsimp only at hf
      obtain ⟨hb4, hf⟩ := ts_g hf
      have hb4 := Nat.lt_of_not_le hb4
      refine cg_Desk_Event_tick C hw ho4 hb4 dD_event_57 ?_
      exact c_reti C hr hlk hrv hw hf rfl ⟨Nat.le_of_ble_eq_true rfl, Nat.le_of_ble_eq_true rfl⟩ dD_event_60
    have hf := ts_f hf c3
    rcases Decidable.em (x2 = 1) with c5 | c5
    · have hf := ts_t hf c5
      refine lv_tableIn (off := 45) (tgt := 61) C.1.1 C.1.2.1 dD_event_16 (by rw [c5]; decide) (by rw [c5]; decide) (by rw [c5]; decide) (by decide) ?_
      refine c_aload_n C.1.1 C.1.2.1 dD_event_61 rfl (lv_at hl 0 rfl) ?_
      obtain ⟨j6, ho6, hf⟩ := ts_b hf
      try dsimp only at hf
      obtain ⟨hb6, hf⟩ := ts_g hf
      have hb6 := Nat.lt_of_not_le hb6
      refine cg_Desk_Event_track C hw ho6 hb6 dD_event_62 ?_
      exact c_reti C hr hlk hrv hw hf rfl ⟨Nat.le_of_ble_eq_true rfl, Nat.le_of_ble_eq_true rfl⟩ dD_event_65
    have hf := ts_f hf c5
    rcases Decidable.em (x2 = 2) with c7 | c7
    · have hf := ts_t hf c7
      refine lv_tableIn (off := 50) (tgt := 66) C.1.1 C.1.2.1 dD_event_16 (by rw [c7]; decide) (by rw [c7]; decide) (by rw [c7]; decide) (by decide) ?_
      refine c_aload_n C.1.1 C.1.2.1 dD_event_66 rfl (lv_at hl 0 rfl) ?_
      obtain ⟨j8, ho8, hf⟩ := ts_b hf
      try dsimp only at hf
      obtain ⟨hb8, hf⟩ := ts_g hf
      have hb8 := Nat.lt_of_not_le hb8
      refine cg_Desk_Event_status C hw ho8 hb8 dD_event_67 ?_
      exact c_reti C hr hlk hrv hw hf rfl ⟨Nat.le_of_ble_eq_true rfl, Nat.le_of_ble_eq_true rfl⟩ dD_event_70
    have hf := ts_f hf c7
    rcases Decidable.em (x2 = 3) with c9 | c9
    · have hf := ts_t hf c9
      refine lv_tableIn (off := 55) (tgt := 71) C.1.1 C.1.2.1 dD_event_16 (by rw [c9]; decide) (by rw [c9]; decide) (by rw [c9]; decide) (by decide) ?_
      refine c_aload_n C.1.1 C.1.2.1 dD_event_71 rfl (lv_at hl 0 rfl) ?_
      obtain ⟨j10, ho10, hf⟩ := ts_b hf
      try dsimp only at hf
      obtain ⟨hb10, hf⟩ := ts_g hf
      have hb10 := Nat.lt_of_not_le hb10
      refine cg_Desk_Event_first C hw ho10 hb10 dD_event_72 ?_
      exact c_reti C hr hlk hrv hw hf rfl ⟨Nat.le_of_ble_eq_true rfl, Nat.le_of_ble_eq_true rfl⟩ dD_event_75
    have hf := ts_f hf c9
    rcases Decidable.em (x2 = 4) with c11 | c11
    · have hf := ts_t hf c11
      refine lv_tableIn (off := 60) (tgt := 76) C.1.1 C.1.2.1 dD_event_16 (by rw [c11]; decide) (by rw [c11]; decide) (by rw [c11]; decide) (by decide) ?_
      refine c_aload_n C.1.1 C.1.2.1 dD_event_76 rfl (lv_at hl 0 rfl) ?_
      obtain ⟨j12, ho12, hf⟩ := ts_b hf
      try dsimp only at hf
      obtain ⟨hb12, hf⟩ := ts_g hf
      have hb12 := Nat.lt_of_not_le hb12
      refine cg_Desk_Event_second C hw ho12 hb12 dD_event_77 ?_
      exact c_reti C hr hlk hrv hw hf rfl ⟨Nat.le_of_ble_eq_true rfl, Nat.le_of_ble_eq_true rfl⟩ dD_event_80
    have hf := ts_f hf c11
    rcases Decidable.em (x2 = 5) with c13 | c13
    · have hf := ts_t hf c13
      refine lv_tableIn (off := 65) (tgt := 81) C.1.1 C.1.2.1 dD_event_16 (by rw [c13]; decide) (by rw [c13]; decide) (by rw [c13]; decide) (by decide) ?_
      refine c_aload_n C.1.1 C.1.2.1 dD_event_81 rfl (lv_at hl 0 rfl) ?_
      obtain ⟨j14, ho14, hf⟩ := ts_b hf
      try dsimp only at hf
      obtain ⟨hb14, hf⟩ := ts_g hf
      have hb14 := Nat.lt_of_not_le hb14
      refine cg_Desk_Event_size C hw ho14 hb14 dD_event_82 ?_
      exact c_reti C hr hlk hrv hw hf rfl ⟨Nat.le_of_ble_eq_true rfl, Nat.le_of_ble_eq_true rfl⟩ dD_event_85
    have hf := ts_f hf c13
    refine lv_tableOut (tgt := 86) C.1.1 C.1.2.1 dD_event_16 (by have c3n := lv_neT (a := 0) c3 (by decide); have c5n := lv_neT (a := 1) c5 (by decide); have c7n := lv_neT (a := 2) c7 (by decide); have c9n := lv_neT (a := 3) c9 (by decide); have c11n := lv_neT (a := 4) c11 (by decide); have c13n := lv_neT (a := 5) c13 (by decide); omega) (by decide) ?_
    refine lv_iconst (v := (-1 : Int32)) C.1.1 C.1.2.1 dD_event_86 (by decide) ?_
    exact c_reti C hr hlk hrv hw hf rfl ⟨Nat.le_of_ble_eq_true rfl, Nat.le_of_ble_eq_true rfl⟩ dD_event_87
  · have hf := ts_t hf c2
    refine lv_iconst (v := (-1 : Int32)) C.1.1 C.1.2.1 dD_event_13 (by decide) ?_
    exact c_reti C hr hlk hrv hw hf rfl ⟨Nat.le_of_ble_eq_true rfl, Nat.le_of_ble_eq_true rfl⟩ dD_event_14
abbrev cD_byteOf : ByteArray := prog_1_method_5_code
abbrev yD_byteOf : MethodName := ⟨"MidiDesk", "byteOf", "(II)I"⟩
theorem kD_byteOf : yD_byteOf.cls ≠ "java/lang/invoke/MethodHandle" ∧ yD_byteOf.cls ≠ "java/lang/invoke/VarHandle" ∧ (parseMethodDescriptor yD_byteOf.desc).map (fun d => d.parameters.length) = some 2 := by decide +kernel
abbrev rD_byteOf : Room := { frames := 1, cells := 0, slots := 0, locals := 21 }
theorem dD_byteOf_0 : decode cD_byteOf 0 = .ok (.aload_n 0, 1) := by decide +kernel
theorem dD_byteOf_1 : decode cD_byteOf 1 = .ok (.getfield 24, 3) := by decide +kernel
theorem dD_byteOf_4 : decode cD_byteOf 4 = .ok (.iload_n 1, 1) := by decide +kernel
theorem dD_byteOf_5 : decode cD_byteOf 5 = .ok (.invokevirtual 46, 3) := by decide +kernel
theorem dD_byteOf_8 : decode cD_byteOf 8 = .ok (.astore_n 3, 1) := by decide +kernel
theorem dD_byteOf_9 : decode cD_byteOf 9 = .ok (.aload_n 3, 1) := by decide +kernel
theorem dD_byteOf_10 : decode cD_byteOf 10 = .ok (.ifnull 15, 3) := by decide +kernel
theorem dD_byteOf_13 : decode cD_byteOf 13 = .ok (.iload_n 2, 1) := by decide +kernel
theorem dD_byteOf_14 : decode cD_byteOf 14 = .ok (.ifCond .lt 11, 3) := by decide +kernel
theorem dD_byteOf_17 : decode cD_byteOf 17 = .ok (.iload_n 2, 1) := by decide +kernel
theorem dD_byteOf_18 : decode cD_byteOf 18 = .ok (.aload_n 3, 1) := by decide +kernel
theorem dD_byteOf_19 : decode cD_byteOf 19 = .ok (.getfield 68, 3) := by decide +kernel
theorem dD_byteOf_22 : decode cD_byteOf 22 = .ok (.if_icmp .lt 5, 3) := by decide +kernel
theorem dD_byteOf_25 : decode cD_byteOf 25 = .ok (.iconst (-1), 1) := by decide +kernel
theorem dD_byteOf_26 : decode cD_byteOf 26 = .ok (.ireturn, 1) := by decide +kernel
theorem dD_byteOf_27 : decode cD_byteOf 27 = .ok (.aload_n 0, 1) := by decide +kernel
theorem dD_byteOf_28 : decode cD_byteOf 28 = .ok (.getfield 24, 3) := by decide +kernel
theorem dD_byteOf_31 : decode cD_byteOf 31 = .ok (.getfield 70, 3) := by decide +kernel
theorem dD_byteOf_34 : decode cD_byteOf 34 = .ok (.aload_n 3, 1) := by decide +kernel
theorem dD_byteOf_35 : decode cD_byteOf 35 = .ok (.getfield 73, 3) := by decide +kernel
theorem dD_byteOf_38 : decode cD_byteOf 38 = .ok (.iload_n 2, 1) := by decide +kernel
theorem dD_byteOf_39 : decode cD_byteOf 39 = .ok (.iadd, 1) := by decide +kernel
theorem dD_byteOf_40 : decode cD_byteOf 40 = .ok (.invokevirtual 76, 3) := by decide +kernel
theorem dD_byteOf_43 : decode cD_byteOf 43 = .ok (.ireturn, 1) := by decide +kernel
def fD_byteOf (h : cH) (z : cZ) (x1 : Int32) (x2 : Int32) : Option (Int32 × cZ) := (fS_at h z x1).bind fun (r1, z1) => if r1 = none then (some ((-1 : Int32), z1)) else (if x2 < 0 then (some ((-1 : Int32), z1)) else ((r1).bind fun j4 => if h.2.1 ≤ j4 then none else (if x2 < (ze z1 j4 6) then ((fB2_at h z1 ((ze z1 j4 5) + x2)).bind fun (r6, z6) => some (r6, z6)) else (some ((-1 : Int32), z1)))))
set_option maxHeartbeats 4000000 in
set_option maxRecDepth 100000 in
theorem cD_byteOf_met {l : Launch} {g : gT} {qq ad ea : Nat → Nat} {h : cH} {X : va_W} {z z' : cZ} {x1 : Int32} {x2 : Int32} {r' : Int32} (hf : fD_byteOf h z x1 x2 = some (r', z')) : cMet l yD_byteOf cD_byteOf 4 (some .int) rD_byteOf g qq ad ea h X z [.ref (qq 0), .int x1, .int x2] (some (.int r')) X z' := by
  refine c_entry (by decide) (Nat.le_of_ble_eq_true rfl) ?_
  intro p e s m args below meth c ls C hr hlk hnm hl hw
  have hrv : (some (.int r') : Option Value) = some (.int r') := rfl
  have C : mCx p m c cD_byteOf 4 s args g "MidiDesk" := C
  have hl : lv_has ls 4 [(0, .ref (qq 0)), (1, .int x1), (2, .int x2)] := hl
  unfold fD_byteOf at hf
  refine lv_aload_n C.1.1 C.1.2.1 dD_byteOf_0 rfl (lv_at hl 0 rfl) ?_
  refine cg_Desk_Desk_score C hw dD_byteOf_1 ?_
  refine lv_iload_n C.1.1 C.1.2.1 dD_byteOf_4 rfl (lv_at hl 1 rfl) ?_
  obtain ⟨⟨r1, z1⟩, g1, hf⟩ := ts_b hf
  try dsimp only at hf
  refine c_callV (rest := []) (As := [.int x1]) (rv := (some (va_rf (Option.map ea r1)))) (b := (qq 4)) C hl.1 hw (cS_at_met g1) rfl (callW_of (rm := rS_at) (C := "MidiDesk$Score") 1 C.1.2.2.2.2 gw_397 gw_398 gw_399 gw_54 gw_400 kS_at ⟨Nat.le_of_ble_eq_true rfl, Nat.le_of_ble_eq_true rfl⟩) (c_recv_score C.2 hw) rfl rfl (Nat.le_of_ble_eq_true rfl) dD_byteOf_5 ⟨Nat.le_of_ble_eq_true rfl, Nat.le_of_ble_eq_true rfl⟩ (fun H locs hw => ?_)
  refine W.eq (g2 := F0 m 8 ls [va_rf (Option.map ea r1)]) rfl ?_
  refine c_astore_n (lv' := [(3, va_rf (Option.map ea r1)), (0, .ref (qq 0)), (1, .int x1), (2, .int x2)]) C.1.1 C.1.2.1 dD_byteOf_8 rfl hl (by decide) rfl (fun ls hl => ?_)
  refine c_aload_n C.1.1 C.1.2.1 dD_byteOf_9 rfl (lv_at hl 0 rfl) ?_
  refine c_ifnull (x := r1) (tgt := 25) C.1.1 C.1.2.1 dD_byteOf_10 (by decide) (fun c2 => ?_) (fun c2 => ?_)
  · have hf := ts_t hf c2
    refine lv_iconst (v := (-1 : Int32)) C.1.1 C.1.2.1 dD_byteOf_25 (by decide) ?_
    exact c_reti C hr hlk hrv hw hf rfl ⟨Nat.le_of_ble_eq_true rfl, Nat.le_of_ble_eq_true rfl⟩ dD_byteOf_26
  · have hf := ts_f hf c2
    refine lv_iload_n C.1.1 C.1.2.1 dD_byteOf_13 rfl (lv_at hl 3 rfl) ?_
    refine lv_if_lt (tgt := 25) C.1.1 C.1.2.1 dD_byteOf_14 (by decide) (fun c3 => ?_) (fun c3 => ?_)
    · have hf := ts_t hf c3
      refine lv_iconst (v := (-1 : Int32)) C.1.1 C.1.2.1 dD_byteOf_25 (by decide) ?_
      exact c_reti C hr hlk hrv hw hf rfl ⟨Nat.le_of_ble_eq_true rfl, Nat.le_of_ble_eq_true rfl⟩ dD_byteOf_26
    · have hf := ts_f hf c3
      refine lv_iload_n C.1.1 C.1.2.1 dD_byteOf_17 rfl (lv_at hl 3 rfl) ?_
      refine c_aload_n C.1.1 C.1.2.1 dD_byteOf_18 rfl (lv_at hl 0 rfl) ?_
      obtain ⟨j4, ho4, hf⟩ := ts_b hf
      try dsimp only at hf
      obtain ⟨hb4, hf⟩ := ts_g hf
      have hb4 := Nat.lt_of_not_le hb4
      refine cg_Desk_Event_size C hw ho4 hb4 dD_byteOf_19 ?_
      refine lv_icmp_lt (tgt := 27) C.1.1 C.1.2.1 dD_byteOf_22 (by decide) (fun c5 => ?_) (fun c5 => ?_)
      · have hf := ts_t hf c5
        refine lv_aload_n C.1.1 C.1.2.1 dD_byteOf_27 rfl (lv_at hl 1 rfl) ?_
        refine cg_Desk_Desk_score C hw dD_byteOf_28 ?_
        refine cg_Desk_Score_data C hw dD_byteOf_31 ?_
        refine c_aload_n C.1.1 C.1.2.1 dD_byteOf_34 rfl (lv_at hl 0 rfl) ?_
        refine cg_Desk_Event_start C hw ho4 hb4 dD_byteOf_35 ?_
        refine lv_iload_n C.1.1 C.1.2.1 dD_byteOf_38 rfl (lv_at hl 3 rfl) ?_
        refine lv_iadd C.1.1 C.1.2.1 dD_byteOf_39 ?_
        obtain ⟨⟨r6, z6⟩, g6, hf⟩ := ts_b hf
        try dsimp only at hf
        refine c_callV (rest := []) (As := [.int ((ze z1 j4 5) + x2)]) (rv := (some (.int r6))) (b := (qq 3)) C hl.1 hw (cB2_at_met g6) rfl (callW_of (rm := rB2_at) (C := "MidiDesk$Bytes") 1 C.1.2.2.2.2 gw_405 gw_256 gw_257 gw_53 gw_258 kB2_at ⟨Nat.le_of_ble_eq_true rfl, Nat.le_of_ble_eq_true rfl⟩) (c_recv_B2 C.2 hw) rfl rfl (Nat.le_of_ble_eq_true rfl) dD_byteOf_40 ⟨Nat.le_of_ble_eq_true rfl, Nat.le_of_ble_eq_true rfl⟩ (fun H locs hw => ?_)
        refine W.eq (g2 := F0 m 43 ls [.int r6]) rfl ?_
        exact c_reti C hr hlk hrv hw hf rfl ⟨Nat.le_of_ble_eq_true rfl, Nat.le_of_ble_eq_true rfl⟩ dD_byteOf_43
      · have hf := ts_f hf c5
        refine lv_iconst (v := (-1 : Int32)) C.1.1 C.1.2.1 dD_byteOf_25 (by decide) ?_
        exact c_reti C hr hlk hrv hw hf rfl ⟨Nat.le_of_ble_eq_true rfl, Nat.le_of_ble_eq_true rfl⟩ dD_byteOf_26
abbrev cD_length : ByteArray := prog_1_method_8_code
abbrev yD_length : MethodName := ⟨"MidiDesk", "length", "(I)I"⟩
theorem kD_length : yD_length.cls ≠ "java/lang/invoke/MethodHandle" ∧ yD_length.cls ≠ "java/lang/invoke/VarHandle" ∧ (parseMethodDescriptor yD_length.desc).map (fun d => d.parameters.length) = some 1 := by decide +kernel
abbrev rD_length : Room := { frames := 3, cells := 0, slots := 0, locals := 65 }
theorem dD_length_0 : decode cD_length 0 = .ok (.aload_n 0, 1) := by decide +kernel
theorem dD_length_1 : decode cD_length 1 = .ok (.getfield 24, 3) := by decide +kernel
theorem dD_length_4 : decode cD_length 4 = .ok (.iload_n 1, 1) := by decide +kernel
theorem dD_length_5 : decode cD_length 5 = .ok (.invokevirtual 92, 3) := by decide +kernel
theorem dD_length_8 : decode cD_length 8 = .ok (.ireturn, 1) := by decide +kernel
def fD_length (h : cH) (z : cZ) (x1 : Int32) : Option (Int32 × cZ) := (fS_noteTicks h z x1).bind fun (r1, z1) => some (r1, z1)
set_option maxHeartbeats 4000000 in
set_option maxRecDepth 100000 in
theorem cD_length_met {l : Launch} {g : gT} {qq ad ea : Nat → Nat} {h : cH} {X : va_W} {z z' : cZ} {x1 : Int32} {r' : Int32} (hf : fD_length h z x1 = some (r', z')) : cMet l yD_length cD_length 2 (some .int) rD_length g qq ad ea h X z [.ref (qq 0), .int x1] (some (.int r')) X z' := by
  refine c_entry (by decide) (Nat.le_of_ble_eq_true rfl) ?_
  intro p e s m args below meth c ls C hr hlk hnm hl hw
  have hrv : (some (.int r') : Option Value) = some (.int r') := rfl
  have C : mCx p m c cD_length 2 s args g "MidiDesk" := C
  have hl : lv_has ls 2 [(0, .ref (qq 0)), (1, .int x1)] := hl
  unfold fD_length at hf
  refine lv_aload_n C.1.1 C.1.2.1 dD_length_0 rfl (lv_at hl 0 rfl) ?_
  refine cg_Desk_Desk_score C hw dD_length_1 ?_
  refine lv_iload_n C.1.1 C.1.2.1 dD_length_4 rfl (lv_at hl 1 rfl) ?_
  obtain ⟨⟨r1, z1⟩, g1, hf⟩ := ts_b hf
  try dsimp only at hf
  refine c_callV (rest := []) (As := [.int x1]) (rv := (some (.int r1))) (b := (qq 4)) C hl.1 hw (cS_noteTicks_met g1) rfl (callW_of (rm := rS_noteTicks) (C := "MidiDesk$Score") 1 C.1.2.2.2.2 gw_410 gw_411 gw_412 gw_54 gw_413 kS_noteTicks ⟨Nat.le_of_ble_eq_true rfl, Nat.le_of_ble_eq_true rfl⟩) (c_recv_score C.2 hw) rfl rfl (Nat.le_of_ble_eq_true rfl) dD_length_5 ⟨Nat.le_of_ble_eq_true rfl, Nat.le_of_ble_eq_true rfl⟩ (fun H locs hw => ?_)
  refine W.eq (g2 := F0 m 8 ls [.int r1]) rfl ?_
  exact c_reti C hr hlk hrv hw hf rfl ⟨Nat.le_of_ble_eq_true rfl, Nat.le_of_ble_eq_true rfl⟩ dD_length_8
abbrev cD_written : ByteArray := prog_1_method_13_code
abbrev yD_written : MethodName := ⟨"MidiDesk", "written", "(I)I"⟩
theorem kD_written : yD_written.cls ≠ "java/lang/invoke/MethodHandle" ∧ yD_written.cls ≠ "java/lang/invoke/VarHandle" ∧ (parseMethodDescriptor yD_written.desc).map (fun d => d.parameters.length) = some 1 := by decide +kernel
abbrev rD_written : Room := { frames := 1, cells := 0, slots := 0, locals := 21 }
theorem dD_written_0 : decode cD_written 0 = .ok (.aload_n 0, 1) := by decide +kernel
theorem dD_written_1 : decode cD_written 1 = .ok (.getfield 18, 3) := by decide +kernel
theorem dD_written_4 : decode cD_written 4 = .ok (.iload_n 1, 1) := by decide +kernel
theorem dD_written_5 : decode cD_written 5 = .ok (.invokevirtual 76, 3) := by decide +kernel
theorem dD_written_8 : decode cD_written 8 = .ok (.ireturn, 1) := by decide +kernel
def fD_written (h : cH) (z : cZ) (x1 : Int32) : Option (Int32 × cZ) := (fB1_at h z x1).bind fun (r1, z1) => some (r1, z1)
set_option maxHeartbeats 4000000 in
set_option maxRecDepth 100000 in
theorem cD_written_met {l : Launch} {g : gT} {qq ad ea : Nat → Nat} {h : cH} {X : va_W} {z z' : cZ} {x1 : Int32} {r' : Int32} (hf : fD_written h z x1 = some (r', z')) : cMet l yD_written cD_written 2 (some .int) rD_written g qq ad ea h X z [.ref (qq 0), .int x1] (some (.int r')) X z' := by
  refine c_entry (by decide) (Nat.le_of_ble_eq_true rfl) ?_
  intro p e s m args below meth c ls C hr hlk hnm hl hw
  have hrv : (some (.int r') : Option Value) = some (.int r') := rfl
  have C : mCx p m c cD_written 2 s args g "MidiDesk" := C
  have hl : lv_has ls 2 [(0, .ref (qq 0)), (1, .int x1)] := hl
  unfold fD_written at hf
  refine lv_aload_n C.1.1 C.1.2.1 dD_written_0 rfl (lv_at hl 0 rfl) ?_
  refine cg_Desk_Desk_output C hw dD_written_1 ?_
  refine lv_iload_n C.1.1 C.1.2.1 dD_written_4 rfl (lv_at hl 1 rfl) ?_
  obtain ⟨⟨r1, z1⟩, g1, hf⟩ := ts_b hf
  try dsimp only at hf
  refine c_callV (rest := []) (As := [.int x1]) (rv := (some (.int r1))) (b := (qq 2)) C hl.1 hw (cB1_at_met g1) rfl (callW_of (rm := rB1_at) (C := "MidiDesk$Bytes") 1 C.1.2.2.2.2 gw_405 gw_256 gw_257 gw_53 gw_258 kB1_at ⟨Nat.le_of_ble_eq_true rfl, Nat.le_of_ble_eq_true rfl⟩) (c_recv_B1 C.2 hw) rfl rfl (Nat.le_of_ble_eq_true rfl) dD_written_5 ⟨Nat.le_of_ble_eq_true rfl, Nat.le_of_ble_eq_true rfl⟩ (fun H locs hw => ?_)
  refine W.eq (g2 := F0 m 8 ls [.int r1]) rfl ?_
  exact c_reti C hr hlk hrv hw hf rfl ⟨Nat.le_of_ble_eq_true rfl, Nat.le_of_ble_eq_true rfl⟩ dD_written_8
abbrev cD_headValue : ByteArray := prog_1_method_16_code
abbrev yD_headValue : MethodName := ⟨"MidiDesk", "headValue", "(I)I"⟩
theorem kD_headValue : yD_headValue.cls ≠ "java/lang/invoke/MethodHandle" ∧ yD_headValue.cls ≠ "java/lang/invoke/VarHandle" ∧ (parseMethodDescriptor yD_headValue.desc).map (fun d => d.parameters.length) = some 1 := by decide +kernel
abbrev rD_headValue : Room := { frames := 2, cells := 0, slots := 0, locals := 42 }
theorem dD_headValue_0 : decode cD_headValue 0 = .ok (.iload_n 1, 1) := by decide +kernel
theorem dD_headValue_1 : decode cD_headValue 1 = .ok (.tableswitch 79 2 9 #[47, 55, 63, 79, 79, 79, 79, 71], 47) := by decide +kernel
theorem dD_headValue_48 : decode cD_headValue 48 = .ok (.aload_n 0, 1) := by decide +kernel
theorem dD_headValue_49 : decode cD_headValue 49 = .ok (.getfield 24, 3) := by decide +kernel
theorem dD_headValue_52 : decode cD_headValue 52 = .ok (.getfield 153, 3) := by decide +kernel
theorem dD_headValue_55 : decode cD_headValue 55 = .ok (.ireturn, 1) := by decide +kernel
theorem dD_headValue_56 : decode cD_headValue 56 = .ok (.aload_n 0, 1) := by decide +kernel
theorem dD_headValue_57 : decode cD_headValue 57 = .ok (.getfield 24, 3) := by decide +kernel
theorem dD_headValue_60 : decode cD_headValue 60 = .ok (.getfield 121, 3) := by decide +kernel
theorem dD_headValue_63 : decode cD_headValue 63 = .ok (.ireturn, 1) := by decide +kernel
theorem dD_headValue_64 : decode cD_headValue 64 = .ok (.aload_n 0, 1) := by decide +kernel
theorem dD_headValue_65 : decode cD_headValue 65 = .ok (.getfield 24, 3) := by decide +kernel
theorem dD_headValue_68 : decode cD_headValue 68 = .ok (.getfield 156, 3) := by decide +kernel
theorem dD_headValue_71 : decode cD_headValue 71 = .ok (.ireturn, 1) := by decide +kernel
theorem dD_headValue_72 : decode cD_headValue 72 = .ok (.aload_n 0, 1) := by decide +kernel
theorem dD_headValue_73 : decode cD_headValue 73 = .ok (.getfield 24, 3) := by decide +kernel
theorem dD_headValue_76 : decode cD_headValue 76 = .ok (.invokevirtual 89, 3) := by decide +kernel
theorem dD_headValue_79 : decode cD_headValue 79 = .ok (.ireturn, 1) := by decide +kernel
theorem dD_headValue_80 : decode cD_headValue 80 = .ok (.iconst (-1), 1) := by decide +kernel
theorem dD_headValue_81 : decode cD_headValue 81 = .ok (.ireturn, 1) := by decide +kernel
def fD_headValue (h : cH) (z : cZ) (x1 : Int32) : Option (Int32 × cZ) := if x1 = 2 then (some (zi z 4, z)) else (if x1 = 3 then (some (zi z 5, z)) else (if x1 = 4 then (some (zi z 6, z)) else (if x1 = 9 then ((fS_partsOfMicrosecond h z).bind fun (r5, z5) => some (r5, z5)) else (some ((-1 : Int32), z)))))
set_option maxHeartbeats 4000000 in
set_option maxRecDepth 100000 in
theorem cD_headValue_met {l : Launch} {g : gT} {qq ad ea : Nat → Nat} {h : cH} {X : va_W} {z z' : cZ} {x1 : Int32} {r' : Int32} (hf : fD_headValue h z x1 = some (r', z')) : cMet l yD_headValue cD_headValue 2 (some .int) rD_headValue g qq ad ea h X z [.ref (qq 0), .int x1] (some (.int r')) X z' := by
  refine c_entry (by decide) (Nat.le_of_ble_eq_true rfl) ?_
  intro p e s m args below meth c ls C hr hlk hnm hl hw
  have hrv : (some (.int r') : Option Value) = some (.int r') := rfl
  have C : mCx p m c cD_headValue 2 s args g "MidiDesk" := C
  have hl : lv_has ls 2 [(0, .ref (qq 0)), (1, .int x1)] := hl
  unfold fD_headValue at hf
  refine lv_iload_n C.1.1 C.1.2.1 dD_headValue_0 rfl (lv_at hl 1 rfl) ?_
  rcases Decidable.em (x1 = 2) with c1 | c1
  · have hf := ts_t hf c1
    refine lv_tableIn (off := 47) (tgt := 48) C.1.1 C.1.2.1 dD_headValue_1 (by rw [c1]; decide) (by rw [c1]; decide) (by rw [c1]; decide) (by decide) ?_
    refine lv_aload_n C.1.1 C.1.2.1 dD_headValue_48 rfl (lv_at hl 0 rfl) ?_
    refine cg_Desk_Desk_score C hw dD_headValue_49 ?_
    refine cg_Desk_Score_format C hw dD_headValue_52 ?_
    exact c_reti C hr hlk hrv hw hf rfl ⟨Nat.le_of_ble_eq_true rfl, Nat.le_of_ble_eq_true rfl⟩ dD_headValue_55
  have hf := ts_f hf c1
  rcases Decidable.em (x1 = 3) with c2 | c2
  · have hf := ts_t hf c2
    refine lv_tableIn (off := 55) (tgt := 56) C.1.1 C.1.2.1 dD_headValue_1 (by rw [c2]; decide) (by rw [c2]; decide) (by rw [c2]; decide) (by decide) ?_
    refine lv_aload_n C.1.1 C.1.2.1 dD_headValue_56 rfl (lv_at hl 0 rfl) ?_
    refine cg_Desk_Desk_score C hw dD_headValue_57 ?_
    refine cg_Desk_Score_tracks C hw dD_headValue_60 ?_
    exact c_reti C hr hlk hrv hw hf rfl ⟨Nat.le_of_ble_eq_true rfl, Nat.le_of_ble_eq_true rfl⟩ dD_headValue_63
  have hf := ts_f hf c2
  rcases Decidable.em (x1 = 4) with c3 | c3
  · have hf := ts_t hf c3
    refine lv_tableIn (off := 63) (tgt := 64) C.1.1 C.1.2.1 dD_headValue_1 (by rw [c3]; decide) (by rw [c3]; decide) (by rw [c3]; decide) (by decide) ?_
    refine lv_aload_n C.1.1 C.1.2.1 dD_headValue_64 rfl (lv_at hl 0 rfl) ?_
    refine cg_Desk_Desk_score C hw dD_headValue_65 ?_
    refine cg_Desk_Score_division C hw dD_headValue_68 ?_
    exact c_reti C hr hlk hrv hw hf rfl ⟨Nat.le_of_ble_eq_true rfl, Nat.le_of_ble_eq_true rfl⟩ dD_headValue_71
  have hf := ts_f hf c3
  rcases Decidable.em (x1 = 9) with c4 | c4
  · have hf := ts_t hf c4
    refine lv_tableIn (off := 71) (tgt := 72) C.1.1 C.1.2.1 dD_headValue_1 (by rw [c4]; decide) (by rw [c4]; decide) (by rw [c4]; decide) (by decide) ?_
    refine lv_aload_n C.1.1 C.1.2.1 dD_headValue_72 rfl (lv_at hl 0 rfl) ?_
    refine cg_Desk_Desk_score C hw dD_headValue_73 ?_
    obtain ⟨⟨r5, z5⟩, g5, hf⟩ := ts_b hf
    try dsimp only at hf
    refine c_callV (rest := []) (As := []) (rv := (some (.int r5))) (b := (qq 4)) C hl.1 hw (cS_partsOfMicrosecond_met g5) rfl (callW_of (rm := rS_partsOfMicrosecond) (C := "MidiDesk$Score") 0 C.1.2.2.2.2 gw_459 gw_460 gw_461 gw_54 gw_462 kS_partsOfMicrosecond ⟨Nat.le_of_ble_eq_true rfl, Nat.le_of_ble_eq_true rfl⟩) (c_recv_score C.2 hw) rfl rfl (Nat.le_of_ble_eq_true rfl) dD_headValue_76 ⟨Nat.le_of_ble_eq_true rfl, Nat.le_of_ble_eq_true rfl⟩ (fun H locs hw => ?_)
    refine W.eq (g2 := F0 m 79 ls [.int r5]) rfl ?_
    exact c_reti C hr hlk hrv hw hf rfl ⟨Nat.le_of_ble_eq_true rfl, Nat.le_of_ble_eq_true rfl⟩ dD_headValue_79
  have hf := ts_f hf c4
  rcases Decidable.em (x1 = 5) with c6 | c6
  · refine lv_tableIn (off := 79) (tgt := 80) C.1.1 C.1.2.1 dD_headValue_1 (by rw [c6]; decide) (by rw [c6]; decide) (by rw [c6]; decide) (by decide) ?_
    refine lv_iconst (v := (-1 : Int32)) C.1.1 C.1.2.1 dD_headValue_80 (by decide) ?_
    exact c_reti C hr hlk hrv hw hf rfl ⟨Nat.le_of_ble_eq_true rfl, Nat.le_of_ble_eq_true rfl⟩ dD_headValue_81
  rcases Decidable.em (x1 = 6) with c7 | c7
  · refine lv_tableIn (off := 79) (tgt := 80) C.1.1 C.1.2.1 dD_headValue_1 (by rw [c7]; decide) (by rw [c7]; decide) (by rw [c7]; decide) (by decide) ?_
    refine lv_iconst (v := (-1 : Int32)) C.1.1 C.1.2.1 dD_headValue_80 (by decide) ?_
    exact c_reti C hr hlk hrv hw hf rfl ⟨Nat.le_of_ble_eq_true rfl, Nat.le_of_ble_eq_true rfl⟩ dD_headValue_81
  rcases Decidable.em (x1 = 7) with c8 | c8
  · refine lv_tableIn (off := 79) (tgt := 80) C.1.1 C.1.2.1 dD_headValue_1 (by rw [c8]; decide) (by rw [c8]; decide) (by rw [c8]; decide) (by decide) ?_
    refine lv_iconst (v := (-1 : Int32)) C.1.1 C.1.2.1 dD_headValue_80 (by decide) ?_
    exact c_reti C hr hlk hrv hw hf rfl ⟨Nat.le_of_ble_eq_true rfl, Nat.le_of_ble_eq_true rfl⟩ dD_headValue_81
  rcases Decidable.em (x1 = 8) with c9 | c9
  · refine lv_tableIn (off := 79) (tgt := 80) C.1.1 C.1.2.1 dD_headValue_1 (by rw [c9]; decide) (by rw [c9]; decide) (by rw [c9]; decide) (by decide) ?_
    refine lv_iconst (v := (-1 : Int32)) C.1.1 C.1.2.1 dD_headValue_80 (by decide) ?_
    exact c_reti C hr hlk hrv hw hf rfl ⟨Nat.le_of_ble_eq_true rfl, Nat.le_of_ble_eq_true rfl⟩ dD_headValue_81
  refine lv_tableOut (tgt := 80) C.1.1 C.1.2.1 dD_headValue_1 (by have c1n := lv_neT (a := 2) c1 (by decide); have c2n := lv_neT (a := 3) c2 (by decide); have c3n := lv_neT (a := 4) c3 (by decide); have c4n := lv_neT (a := 9) c4 (by decide); have c6n := lv_neT (a := 5) c6 (by decide); have c7n := lv_neT (a := 6) c7 (by decide); have c8n := lv_neT (a := 7) c8 (by decide); have c9n := lv_neT (a := 8) c9 (by decide); omega) (by decide) ?_
  refine lv_iconst (v := (-1 : Int32)) C.1.1 C.1.2.1 dD_headValue_80 (by decide) ?_
  exact c_reti C hr hlk hrv hw hf rfl ⟨Nat.le_of_ble_eq_true rfl, Nat.le_of_ble_eq_true rfl⟩ dD_headValue_81
abbrev cD_count : ByteArray := prog_1_method_15_code
abbrev yD_count : MethodName := ⟨"MidiDesk", "count", "(I)I"⟩
theorem kD_count : yD_count.cls ≠ "java/lang/invoke/MethodHandle" ∧ yD_count.cls ≠ "java/lang/invoke/VarHandle" ∧ (parseMethodDescriptor yD_count.desc).map (fun d => d.parameters.length) = some 1 := by decide +kernel
abbrev rD_count : Room := { frames := 3, cells := 0, slots := 0, locals := 63 }
theorem dD_count_0 : decode cD_count 0 = .ok (.iload_n 1, 1) := by decide +kernel
theorem dD_count_1 : decode cD_count 1 = .ok (.tableswitch 99 0 8 #[51, 59, 99, 99, 99, 67, 75, 83, 91], 51) := by decide +kernel
theorem dD_count_52 : decode cD_count 52 = .ok (.aload_n 0, 1) := by decide +kernel
theorem dD_count_53 : decode cD_count 53 = .ok (.getfield 14, 3) := by decide +kernel
theorem dD_count_56 : decode cD_count 56 = .ok (.invokevirtual 28, 3) := by decide +kernel
theorem dD_count_59 : decode cD_count 59 = .ok (.ireturn, 1) := by decide +kernel
theorem dD_count_60 : decode cD_count 60 = .ok (.aload_n 0, 1) := by decide +kernel
theorem dD_count_61 : decode cD_count 61 = .ok (.getfield 24, 3) := by decide +kernel
theorem dD_count_64 : decode cD_count 64 = .ok (.getfield 139, 3) := by decide +kernel
theorem dD_count_67 : decode cD_count 67 = .ok (.ireturn, 1) := by decide +kernel
theorem dD_count_68 : decode cD_count 68 = .ok (.aload_n 0, 1) := by decide +kernel
theorem dD_count_69 : decode cD_count 69 = .ok (.getfield 24, 3) := by decide +kernel
theorem dD_count_72 : decode cD_count 72 = .ok (.invokevirtual 109, 3) := by decide +kernel
theorem dD_count_75 : decode cD_count 75 = .ok (.ireturn, 1) := by decide +kernel
theorem dD_count_76 : decode cD_count 76 = .ok (.aload_n 0, 1) := by decide +kernel
theorem dD_count_77 : decode cD_count 77 = .ok (.getfield 24, 3) := by decide +kernel
theorem dD_count_80 : decode cD_count 80 = .ok (.invokevirtual 140, 3) := by decide +kernel
theorem dD_count_83 : decode cD_count 83 = .ok (.ireturn, 1) := by decide +kernel
theorem dD_count_84 : decode cD_count 84 = .ok (.aload_n 0, 1) := by decide +kernel
theorem dD_count_85 : decode cD_count 85 = .ok (.getfield 24, 3) := by decide +kernel
theorem dD_count_88 : decode cD_count 88 = .ok (.invokevirtual 143, 3) := by decide +kernel
theorem dD_count_91 : decode cD_count 91 = .ok (.ireturn, 1) := by decide +kernel
theorem dD_count_92 : decode cD_count 92 = .ok (.aload_n 0, 1) := by decide +kernel
theorem dD_count_93 : decode cD_count 93 = .ok (.getfield 18, 3) := by decide +kernel
theorem dD_count_96 : decode cD_count 96 = .ok (.invokevirtual 28, 3) := by decide +kernel
theorem dD_count_99 : decode cD_count 99 = .ok (.ireturn, 1) := by decide +kernel
theorem dD_count_100 : decode cD_count 100 = .ok (.aload_n 0, 1) := by decide +kernel
theorem dD_count_101 : decode cD_count 101 = .ok (.getfield 24, 3) := by decide +kernel
theorem dD_count_104 : decode cD_count 104 = .ok (.getfield 146, 3) := by decide +kernel
theorem dD_count_107 : decode cD_count 107 = .ok (.ifCond .eq 11, 3) := by decide +kernel
theorem dD_count_110 : decode cD_count 110 = .ok (.aload_n 0, 1) := by decide +kernel
theorem dD_count_111 : decode cD_count 111 = .ok (.iload_n 1, 1) := by decide +kernel
theorem dD_count_112 : decode cD_count 112 = .ok (.invokevirtual 150, 3) := by decide +kernel
theorem dD_count_115 : decode cD_count 115 = .ok (.goto 4, 3) := by decide +kernel
theorem dD_count_118 : decode cD_count 118 = .ok (.iconst (-1), 1) := by decide +kernel
theorem dD_count_119 : decode cD_count 119 = .ok (.ireturn, 1) := by decide +kernel
def fD_count (h : cH) (z : cZ) (x1 : Int32) : Option (Int32 × cZ) := if x1 = 0 then ((fB0_size h z).bind fun (r2, z2) => some (r2, z2)) else (if x1 = 1 then (some (zi z 7, z)) else (if x1 = 5 then ((fS_greatestTick h z).bind fun (r5, z5) => some (r5, z5)) else (if x1 = 6 then ((fS_tempoEvents h z).bind fun (r7, z7) => some (r7, z7)) else (if x1 = 7 then ((fS_notesBegun h z).bind fun (r9, z9) => some (r9, z9)) else (if x1 = 8 then ((fB1_size h z).bind fun (r11, z11) => some (r11, z11)) else (if (zi z 3) = 0 then (some ((-1 : Int32), z)) else ((fD_headValue h z x1).bind fun (r13, z13) => some (r13, z13))))))))
set_option maxHeartbeats 4000000 in
set_option maxRecDepth 100000 in
theorem cD_count_met {l : Launch} {g : gT} {qq ad ea : Nat → Nat} {h : cH} {X : va_W} {z z' : cZ} {x1 : Int32} {r' : Int32} (hf : fD_count h z x1 = some (r', z')) : cMet l yD_count cD_count 2 (some .int) rD_count g qq ad ea h X z [.ref (qq 0), .int x1] (some (.int r')) X z' := by
  refine c_entry (by decide) (Nat.le_of_ble_eq_true rfl) ?_
  intro p e s m args below meth c ls C hr hlk hnm hl hw
  have hrv : (some (.int r') : Option Value) = some (.int r') := rfl
  have C : mCx p m c cD_count 2 s args g "MidiDesk" := C
  have hl : lv_has ls 2 [(0, .ref (qq 0)), (1, .int x1)] := hl
  unfold fD_count at hf
  refine lv_iload_n C.1.1 C.1.2.1 dD_count_0 rfl (lv_at hl 1 rfl) ?_
  rcases Decidable.em (x1 = 0) with c1 | c1
  · have hf := ts_t hf c1
    refine lv_tableIn (off := 51) (tgt := 52) C.1.1 C.1.2.1 dD_count_1 (by rw [c1]; decide) (by rw [c1]; decide) (by rw [c1]; decide) (by decide) ?_
    refine lv_aload_n C.1.1 C.1.2.1 dD_count_52 rfl (lv_at hl 0 rfl) ?_
    refine cg_Desk_Desk_input C hw dD_count_53 ?_
    obtain ⟨⟨r2, z2⟩, g2, hf⟩ := ts_b hf
    try dsimp only at hf
    refine c_callV (rest := []) (As := []) (rv := (some (.int r2))) (b := (qq 1)) C hl.1 hw (cB0_size_met g2) rfl (callW_of (rm := rB0_size) (C := "MidiDesk$Bytes") 0 C.1.2.2.2.2 gw_155 gw_156 gw_157 gw_53 gw_158 kB0_size ⟨Nat.le_of_ble_eq_true rfl, Nat.le_of_ble_eq_true rfl⟩) (c_recv_B0 C.2 hw) rfl rfl (Nat.le_of_ble_eq_true rfl) dD_count_56 ⟨Nat.le_of_ble_eq_true rfl, Nat.le_of_ble_eq_true rfl⟩ (fun H locs hw => ?_)
    refine W.eq (g2 := F0 m 59 ls [.int r2]) rfl ?_
    exact c_reti C hr hlk hrv hw hf rfl ⟨Nat.le_of_ble_eq_true rfl, Nat.le_of_ble_eq_true rfl⟩ dD_count_59
  have hf := ts_f hf c1
  rcases Decidable.em (x1 = 1) with c3 | c3
  · have hf := ts_t hf c3
    refine lv_tableIn (off := 59) (tgt := 60) C.1.1 C.1.2.1 dD_count_1 (by rw [c3]; decide) (by rw [c3]; decide) (by rw [c3]; decide) (by decide) ?_
    refine lv_aload_n C.1.1 C.1.2.1 dD_count_60 rfl (lv_at hl 0 rfl) ?_
    refine cg_Desk_Desk_score C hw dD_count_61 ?_
    refine cg_Desk_Score_size C hw dD_count_64 ?_
    exact c_reti C hr hlk hrv hw hf rfl ⟨Nat.le_of_ble_eq_true rfl, Nat.le_of_ble_eq_true rfl⟩ dD_count_67
  have hf := ts_f hf c3
  rcases Decidable.em (x1 = 5) with c4 | c4
  · have hf := ts_t hf c4
    refine lv_tableIn (off := 67) (tgt := 68) C.1.1 C.1.2.1 dD_count_1 (by rw [c4]; decide) (by rw [c4]; decide) (by rw [c4]; decide) (by decide) ?_
    refine lv_aload_n C.1.1 C.1.2.1 dD_count_68 rfl (lv_at hl 0 rfl) ?_
    refine cg_Desk_Desk_score C hw dD_count_69 ?_
    obtain ⟨⟨r5, z5⟩, g5, hf⟩ := ts_b hf
    try dsimp only at hf
    refine c_callV (rest := []) (As := []) (rv := (some (.int r5))) (b := (qq 4)) C hl.1 hw (cS_greatestTick_met g5) rfl (callW_of (rm := rS_greatestTick) (C := "MidiDesk$Score") 0 C.1.2.2.2.2 gw_439 gw_440 gw_441 gw_54 gw_442 kS_greatestTick ⟨Nat.le_of_ble_eq_true rfl, Nat.le_of_ble_eq_true rfl⟩) (c_recv_score C.2 hw) rfl rfl (Nat.le_of_ble_eq_true rfl) dD_count_72 ⟨Nat.le_of_ble_eq_true rfl, Nat.le_of_ble_eq_true rfl⟩ (fun H locs hw => ?_)
    refine W.eq (g2 := F0 m 75 ls [.int r5]) rfl ?_
    exact c_reti C hr hlk hrv hw hf rfl ⟨Nat.le_of_ble_eq_true rfl, Nat.le_of_ble_eq_true rfl⟩ dD_count_75
  have hf := ts_f hf c4
  rcases Decidable.em (x1 = 6) with c6 | c6
  · have hf := ts_t hf c6
    refine lv_tableIn (off := 75) (tgt := 76) C.1.1 C.1.2.1 dD_count_1 (by rw [c6]; decide) (by rw [c6]; decide) (by rw [c6]; decide) (by decide) ?_
    refine lv_aload_n C.1.1 C.1.2.1 dD_count_76 rfl (lv_at hl 0 rfl) ?_
    refine cg_Desk_Desk_score C hw dD_count_77 ?_
    obtain ⟨⟨r7, z7⟩, g7, hf⟩ := ts_b hf
    try dsimp only at hf
    refine c_callV (rest := []) (As := []) (rv := (some (.int r7))) (b := (qq 4)) C hl.1 hw (cS_tempoEvents_met g7) rfl (callW_of (rm := rS_tempoEvents) (C := "MidiDesk$Score") 0 C.1.2.2.2.2 gw_443 gw_444 gw_445 gw_54 gw_446 kS_tempoEvents ⟨Nat.le_of_ble_eq_true rfl, Nat.le_of_ble_eq_true rfl⟩) (c_recv_score C.2 hw) rfl rfl (Nat.le_of_ble_eq_true rfl) dD_count_80 ⟨Nat.le_of_ble_eq_true rfl, Nat.le_of_ble_eq_true rfl⟩ (fun H locs hw => ?_)
    refine W.eq (g2 := F0 m 83 ls [.int r7]) rfl ?_
    exact c_reti C hr hlk hrv hw hf rfl ⟨Nat.le_of_ble_eq_true rfl, Nat.le_of_ble_eq_true rfl⟩ dD_count_83
  have hf := ts_f hf c6
  rcases Decidable.em (x1 = 7) with c8 | c8
  · have hf := ts_t hf c8
    refine lv_tableIn (off := 83) (tgt := 84) C.1.1 C.1.2.1 dD_count_1 (by rw [c8]; decide) (by rw [c8]; decide) (by rw [c8]; decide) (by decide) ?_
    refine lv_aload_n C.1.1 C.1.2.1 dD_count_84 rfl (lv_at hl 0 rfl) ?_
    refine cg_Desk_Desk_score C hw dD_count_85 ?_
    obtain ⟨⟨r9, z9⟩, g9, hf⟩ := ts_b hf
    try dsimp only at hf
    refine c_callV (rest := []) (As := []) (rv := (some (.int r9))) (b := (qq 4)) C hl.1 hw (cS_notesBegun_met g9) rfl (callW_of (rm := rS_notesBegun) (C := "MidiDesk$Score") 0 C.1.2.2.2.2 gw_451 gw_452 gw_453 gw_54 gw_454 kS_notesBegun ⟨Nat.le_of_ble_eq_true rfl, Nat.le_of_ble_eq_true rfl⟩) (c_recv_score C.2 hw) rfl rfl (Nat.le_of_ble_eq_true rfl) dD_count_88 ⟨Nat.le_of_ble_eq_true rfl, Nat.le_of_ble_eq_true rfl⟩ (fun H locs hw => ?_)
    refine W.eq (g2 := F0 m 91 ls [.int r9]) rfl ?_
    exact c_reti C hr hlk hrv hw hf rfl ⟨Nat.le_of_ble_eq_true rfl, Nat.le_of_ble_eq_true rfl⟩ dD_count_91
  have hf := ts_f hf c8
  rcases Decidable.em (x1 = 8) with c10 | c10
  · have hf := ts_t hf c10
    refine lv_tableIn (off := 91) (tgt := 92) C.1.1 C.1.2.1 dD_count_1 (by rw [c10]; decide) (by rw [c10]; decide) (by rw [c10]; decide) (by decide) ?_
    refine lv_aload_n C.1.1 C.1.2.1 dD_count_92 rfl (lv_at hl 0 rfl) ?_
    refine cg_Desk_Desk_output C hw dD_count_93 ?_
    obtain ⟨⟨r11, z11⟩, g11, hf⟩ := ts_b hf
    try dsimp only at hf
    refine c_callV (rest := []) (As := []) (rv := (some (.int r11))) (b := (qq 2)) C hl.1 hw (cB1_size_met g11) rfl (callW_of (rm := rB1_size) (C := "MidiDesk$Bytes") 0 C.1.2.2.2.2 gw_155 gw_156 gw_157 gw_53 gw_158 kB1_size ⟨Nat.le_of_ble_eq_true rfl, Nat.le_of_ble_eq_true rfl⟩) (c_recv_B1 C.2 hw) rfl rfl (Nat.le_of_ble_eq_true rfl) dD_count_96 ⟨Nat.le_of_ble_eq_true rfl, Nat.le_of_ble_eq_true rfl⟩ (fun H locs hw => ?_)
    refine W.eq (g2 := F0 m 99 ls [.int r11]) rfl ?_
    exact c_reti C hr hlk hrv hw hf rfl ⟨Nat.le_of_ble_eq_true rfl, Nat.le_of_ble_eq_true rfl⟩ dD_count_99
  have hf := ts_f hf c10
  rcases Decidable.em (x1 = 2) with c14 | c14
  · refine lv_tableIn (off := 99) (tgt := 100) C.1.1 C.1.2.1 dD_count_1 (by rw [c14]; decide) (by rw [c14]; decide) (by rw [c14]; decide) (by decide) ?_
    refine lv_aload_n C.1.1 C.1.2.1 dD_count_100 rfl (lv_at hl 0 rfl) ?_
    refine cg_Desk_Desk_score C hw dD_count_101 ?_
    refine cg_Desk_Score_present C hw dD_count_104 ?_
    refine lv_if_eq (tgt := 118) C.1.1 C.1.2.1 dD_count_107 (by decide) (fun c12 => ?_) (fun c12 => ?_)
    · have hf := ts_t hf c12
      refine lv_iconst (v := (-1 : Int32)) C.1.1 C.1.2.1 dD_count_118 (by decide) ?_
      exact c_reti C hr hlk hrv hw hf rfl ⟨Nat.le_of_ble_eq_true rfl, Nat.le_of_ble_eq_true rfl⟩ dD_count_119
    · have hf := ts_f hf c12
      refine lv_aload_n C.1.1 C.1.2.1 dD_count_110 rfl (lv_at hl 0 rfl) ?_
      refine lv_iload_n C.1.1 C.1.2.1 dD_count_111 rfl (lv_at hl 1 rfl) ?_
      obtain ⟨⟨r13, z13⟩, g13, hf⟩ := ts_b hf
      try dsimp only at hf
      refine c_callV (rest := []) (As := [.int x1]) (rv := (some (.int r13))) (b := (qq 0)) C hl.1 hw (cD_headValue_met g13) rfl (callW_of (rm := rD_headValue) (C := "MidiDesk") 1 C.1.2.2.2.2 gw_455 gw_457 gw_15 gw_52 gw_458 kD_headValue ⟨Nat.le_of_ble_eq_true rfl, Nat.le_of_ble_eq_true rfl⟩) (c_recv_desk C.2 hw) rfl rfl (Nat.le_of_ble_eq_true rfl) dD_count_112 ⟨Nat.le_of_ble_eq_true rfl, Nat.le_of_ble_eq_true rfl⟩ (fun H locs hw => ?_)
      refine W.eq (g2 := F0 m 115 ls [.int r13]) rfl ?_
      refine lv_goto (tgt := 119) C.1.1 C.1.2.1 dD_count_115 (by decide) ?_
      exact c_reti C hr hlk hrv hw hf rfl ⟨Nat.le_of_ble_eq_true rfl, Nat.le_of_ble_eq_true rfl⟩ dD_count_119
  rcases Decidable.em (x1 = 3) with c15 | c15
  · refine lv_tableIn (off := 99) (tgt := 100) C.1.1 C.1.2.1 dD_count_1 (by rw [c15]; decide) (by rw [c15]; decide) (by rw [c15]; decide) (by decide) ?_
    refine lv_aload_n C.1.1 C.1.2.1 dD_count_100 rfl (lv_at hl 0 rfl) ?_
    refine cg_Desk_Desk_score C hw dD_count_101 ?_
    refine cg_Desk_Score_present C hw dD_count_104 ?_
    refine lv_if_eq (tgt := 118) C.1.1 C.1.2.1 dD_count_107 (by decide) (fun c12 => ?_) (fun c12 => ?_)
    · have hf := ts_t hf c12
      refine lv_iconst (v := (-1 : Int32)) C.1.1 C.1.2.1 dD_count_118 (by decide) ?_
      exact c_reti C hr hlk hrv hw hf rfl ⟨Nat.le_of_ble_eq_true rfl, Nat.le_of_ble_eq_true rfl⟩ dD_count_119
    · have hf := ts_f hf c12
      refine lv_aload_n C.1.1 C.1.2.1 dD_count_110 rfl (lv_at hl 0 rfl) ?_
      refine lv_iload_n C.1.1 C.1.2.1 dD_count_111 rfl (lv_at hl 1 rfl) ?_
      obtain ⟨⟨r13, z13⟩, g13, hf⟩ := ts_b hf
      try dsimp only at hf
      refine c_callV (rest := []) (As := [.int x1]) (rv := (some (.int r13))) (b := (qq 0)) C hl.1 hw (cD_headValue_met g13) rfl (callW_of (rm := rD_headValue) (C := "MidiDesk") 1 C.1.2.2.2.2 gw_455 gw_457 gw_15 gw_52 gw_458 kD_headValue ⟨Nat.le_of_ble_eq_true rfl, Nat.le_of_ble_eq_true rfl⟩) (c_recv_desk C.2 hw) rfl rfl (Nat.le_of_ble_eq_true rfl) dD_count_112 ⟨Nat.le_of_ble_eq_true rfl, Nat.le_of_ble_eq_true rfl⟩ (fun H locs hw => ?_)
      refine W.eq (g2 := F0 m 115 ls [.int r13]) rfl ?_
      refine lv_goto (tgt := 119) C.1.1 C.1.2.1 dD_count_115 (by decide) ?_
      exact c_reti C hr hlk hrv hw hf rfl ⟨Nat.le_of_ble_eq_true rfl, Nat.le_of_ble_eq_true rfl⟩ dD_count_119
  rcases Decidable.em (x1 = 4) with c16 | c16
  · refine lv_tableIn (off := 99) (tgt := 100) C.1.1 C.1.2.1 dD_count_1 (by rw [c16]; decide) (by rw [c16]; decide) (by rw [c16]; decide) (by decide) ?_
    refine lv_aload_n C.1.1 C.1.2.1 dD_count_100 rfl (lv_at hl 0 rfl) ?_
    refine cg_Desk_Desk_score C hw dD_count_101 ?_
    refine cg_Desk_Score_present C hw dD_count_104 ?_
    refine lv_if_eq (tgt := 118) C.1.1 C.1.2.1 dD_count_107 (by decide) (fun c12 => ?_) (fun c12 => ?_)
    · have hf := ts_t hf c12
      refine lv_iconst (v := (-1 : Int32)) C.1.1 C.1.2.1 dD_count_118 (by decide) ?_
      exact c_reti C hr hlk hrv hw hf rfl ⟨Nat.le_of_ble_eq_true rfl, Nat.le_of_ble_eq_true rfl⟩ dD_count_119
    · have hf := ts_f hf c12
      refine lv_aload_n C.1.1 C.1.2.1 dD_count_110 rfl (lv_at hl 0 rfl) ?_
      refine lv_iload_n C.1.1 C.1.2.1 dD_count_111 rfl (lv_at hl 1 rfl) ?_
      obtain ⟨⟨r13, z13⟩, g13, hf⟩ := ts_b hf
      try dsimp only at hf
      refine c_callV (rest := []) (As := [.int x1]) (rv := (some (.int r13))) (b := (qq 0)) C hl.1 hw (cD_headValue_met g13) rfl (callW_of (rm := rD_headValue) (C := "MidiDesk") 1 C.1.2.2.2.2 gw_455 gw_457 gw_15 gw_52 gw_458 kD_headValue ⟨Nat.le_of_ble_eq_true rfl, Nat.le_of_ble_eq_true rfl⟩) (c_recv_desk C.2 hw) rfl rfl (Nat.le_of_ble_eq_true rfl) dD_count_112 ⟨Nat.le_of_ble_eq_true rfl, Nat.le_of_ble_eq_true rfl⟩ (fun H locs hw => ?_)
      refine W.eq (g2 := F0 m 115 ls [.int r13]) rfl ?_
      refine lv_goto (tgt := 119) C.1.1 C.1.2.1 dD_count_115 (by decide) ?_
      exact c_reti C hr hlk hrv hw hf rfl ⟨Nat.le_of_ble_eq_true rfl, Nat.le_of_ble_eq_true rfl⟩ dD_count_119
  refine lv_tableOut (tgt := 100) C.1.1 C.1.2.1 dD_count_1 (by have c1n := lv_neT (a := 0) c1 (by decide); have c3n := lv_neT (a := 1) c3 (by decide); have c4n := lv_neT (a := 5) c4 (by decide); have c6n := lv_neT (a := 6) c6 (by decide); have c8n := lv_neT (a := 7) c8 (by decide); have c10n := lv_neT (a := 8) c10 (by decide); have c14n := lv_neT (a := 2) c14 (by decide); have c15n := lv_neT (a := 3) c15 (by decide); have c16n := lv_neT (a := 4) c16 (by decide); omega) (by decide) ?_
  refine lv_aload_n C.1.1 C.1.2.1 dD_count_100 rfl (lv_at hl 0 rfl) ?_
  refine cg_Desk_Desk_score C hw dD_count_101 ?_
  refine cg_Desk_Score_present C hw dD_count_104 ?_
  refine lv_if_eq (tgt := 118) C.1.1 C.1.2.1 dD_count_107 (by decide) (fun c12 => ?_) (fun c12 => ?_)
  · have hf := ts_t hf c12
    refine lv_iconst (v := (-1 : Int32)) C.1.1 C.1.2.1 dD_count_118 (by decide) ?_
    exact c_reti C hr hlk hrv hw hf rfl ⟨Nat.le_of_ble_eq_true rfl, Nat.le_of_ble_eq_true rfl⟩ dD_count_119
  · have hf := ts_f hf c12
    refine lv_aload_n C.1.1 C.1.2.1 dD_count_110 rfl (lv_at hl 0 rfl) ?_
    refine lv_iload_n C.1.1 C.1.2.1 dD_count_111 rfl (lv_at hl 1 rfl) ?_
    obtain ⟨⟨r13, z13⟩, g13, hf⟩ := ts_b hf
    try dsimp only at hf
    refine c_callV (rest := []) (As := [.int x1]) (rv := (some (.int r13))) (b := (qq 0)) C hl.1 hw (cD_headValue_met g13) rfl (callW_of (rm := rD_headValue) (C := "MidiDesk") 1 C.1.2.2.2.2 gw_455 gw_457 gw_15 gw_52 gw_458 kD_headValue ⟨Nat.le_of_ble_eq_true rfl, Nat.le_of_ble_eq_true rfl⟩) (c_recv_desk C.2 hw) rfl rfl (Nat.le_of_ble_eq_true rfl) dD_count_112 ⟨Nat.le_of_ble_eq_true rfl, Nat.le_of_ble_eq_true rfl⟩ (fun H locs hw => ?_)
    refine W.eq (g2 := F0 m 115 ls [.int r13]) rfl ?_
    refine lv_goto (tgt := 119) C.1.1 C.1.2.1 dD_count_115 (by decide) ?_
    exact c_reti C hr hlk hrv hw hf rfl ⟨Nat.le_of_ble_eq_true rfl, Nat.le_of_ble_eq_true rfl⟩ dD_count_119
end
