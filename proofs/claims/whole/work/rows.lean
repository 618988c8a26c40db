section
-- ===== PART A: goes FIRST, ahead of the names: the tables' words, and 'selects' of the private methods out of them =====
/-- a private method of a class that the tables say can be made, by its rows of tables_1 -/
def lw_okq (q : MethodName × Nat) : Prop := (q.1.cls ≠ "java/lang/invoke/MethodHandle" ∧ q.1.cls ≠ "java/lang/invoke/VarHandle") ∧ Cond.instantiable q.1.cls q.2 ∈ tables_1 ∧ Cond.privateMethod q.1 ∈ tables_1 ∧ Cond.instanceMethod q.1 ∈ tables_1
theorem lw_p0 : lw_okq (⟨"MidiDesk$Parser", "head", "()V"⟩, 13) := ⟨⟨by decide +kernel, by decide +kernel⟩, List.mem_of_getElem? (i := 133) (by decide +kernel), List.mem_of_getElem? (i := 192) (by decide +kernel), List.mem_of_getElem? (i := 193) (by decide +kernel)⟩
theorem lw_p1 : lw_okq (⟨"MidiDesk$Parser", "fixed", "(I)J"⟩, 13) := ⟨⟨by decide +kernel, by decide +kernel⟩, List.mem_of_getElem? (i := 133) (by decide +kernel), List.mem_of_getElem? (i := 196) (by decide +kernel), List.mem_of_getElem? (i := 197) (by decide +kernel)⟩
theorem lw_p2 : lw_okq (⟨"MidiDesk$Parser", "expect", "(ZII)V"⟩, 13) := ⟨⟨by decide +kernel, by decide +kernel⟩, List.mem_of_getElem? (i := 133) (by decide +kernel), List.mem_of_getElem? (i := 200) (by decide +kernel), List.mem_of_getElem? (i := 201) (by decide +kernel)⟩
theorem lw_p3 : lw_okq (⟨"MidiDesk$Parser", "beginsTrack", "()Z"⟩, 13) := ⟨⟨by decide +kernel, by decide +kernel⟩, List.mem_of_getElem? (i := 133) (by decide +kernel), List.mem_of_getElem? (i := 214) (by decide +kernel), List.mem_of_getElem? (i := 215) (by decide +kernel)⟩
theorem lw_p4 : lw_okq (⟨"MidiDesk$Parser", "track", "()V"⟩, 13) := ⟨⟨by decide +kernel, by decide +kernel⟩, List.mem_of_getElem? (i := 133) (by decide +kernel), List.mem_of_getElem? (i := 219) (by decide +kernel), List.mem_of_getElem? (i := 220) (by decide +kernel)⟩
theorem lw_p5 : lw_okq (⟨"MidiDesk$Parser", "oneEvent", "()V"⟩, 13) := ⟨⟨by decide +kernel, by decide +kernel⟩, List.mem_of_getElem? (i := 133) (by decide +kernel), List.mem_of_getElem? (i := 223) (by decide +kernel), List.mem_of_getElem? (i := 224) (by decide +kernel)⟩
theorem lw_p6 : lw_okq (⟨"MidiDesk$Parser", "number", "()I"⟩, 13) := ⟨⟨by decide +kernel, by decide +kernel⟩, List.mem_of_getElem? (i := 133) (by decide +kernel), List.mem_of_getElem? (i := 227) (by decide +kernel), List.mem_of_getElem? (i := 228) (by decide +kernel)⟩
theorem lw_p7 : lw_okq (⟨"MidiDesk$Parser", "status", "()I"⟩, 13) := ⟨⟨by decide +kernel, by decide +kernel⟩, List.mem_of_getElem? (i := 133) (by decide +kernel), List.mem_of_getElem? (i := 232) (by decide +kernel), List.mem_of_getElem? (i := 233) (by decide +kernel)⟩
theorem lw_p8 : lw_okq (⟨"MidiDesk$Parser", "channelEvent", "(I)V"⟩, 13) := ⟨⟨by decide +kernel, by decide +kernel⟩, List.mem_of_getElem? (i := 133) (by decide +kernel), List.mem_of_getElem? (i := 236) (by decide +kernel), List.mem_of_getElem? (i := 237) (by decide +kernel)⟩
theorem lw_p9 : lw_okq (⟨"MidiDesk$Parser", "lowByte", "()I"⟩, 13) := ⟨⟨by decide +kernel, by decide +kernel⟩, List.mem_of_getElem? (i := 133) (by decide +kernel), List.mem_of_getElem? (i := 240) (by decide +kernel), List.mem_of_getElem? (i := 241) (by decide +kernel)⟩
theorem lw_p10 : lw_okq (⟨"MidiDesk$Parser", "metaEvent", "()V"⟩, 13) := ⟨⟨by decide +kernel, by decide +kernel⟩, List.mem_of_getElem? (i := 133) (by decide +kernel), List.mem_of_getElem? (i := 247) (by decide +kernel), List.mem_of_getElem? (i := 248) (by decide +kernel)⟩
theorem lw_p11 : lw_okq (⟨"MidiDesk$Parser", "passData", "()V"⟩, 13) := ⟨⟨by decide +kernel, by decide +kernel⟩, List.mem_of_getElem? (i := 133) (by decide +kernel), List.mem_of_getElem? (i := 251) (by decide +kernel), List.mem_of_getElem? (i := 252) (by decide +kernel)⟩
theorem lw_p12 : lw_okq (⟨"MidiDesk$Parser", "exclusiveEvent", "()V"⟩, 13) := ⟨⟨by decide +kernel, by decide +kernel⟩, List.mem_of_getElem? (i := 133) (by decide +kernel), List.mem_of_getElem? (i := 255) (by decide +kernel), List.mem_of_getElem? (i := 256) (by decide +kernel)⟩
theorem lw_p13 : lw_okq (⟨"MidiDesk$Parser", "keep", "(I)V"⟩, 13) := ⟨⟨by decide +kernel, by decide +kernel⟩, List.mem_of_getElem? (i := 133) (by decide +kernel), List.mem_of_getElem? (i := 267) (by decide +kernel), List.mem_of_getElem? (i := 268) (by decide +kernel)⟩
theorem lw_p14 : lw_okq (⟨"MidiDesk$Score", "mergeRuns", "(III)V"⟩, 8) := ⟨⟨by decide +kernel, by decide +kernel⟩, List.mem_of_getElem? (i := 42) (by decide +kernel), List.mem_of_getElem? (i := 334) (by decide +kernel), List.mem_of_getElem? (i := 335) (by decide +kernel)⟩
theorem lw_p15 : lw_okq (⟨"MidiDesk", "headValue", "(I)I"⟩, 3) := ⟨⟨by decide +kernel, by decide +kernel⟩, List.mem_of_getElem? (i := 17) (by decide +kernel), List.mem_of_getElem? (i := 405) (by decide +kernel), List.mem_of_getElem? (i := 406) (by decide +kernel)⟩
def lw_privs_1 : List (MethodName × Nat) := [(⟨"MidiDesk$Parser", "head", "()V"⟩, 13), (⟨"MidiDesk$Parser", "fixed", "(I)J"⟩, 13), (⟨"MidiDesk$Parser", "expect", "(ZII)V"⟩, 13), (⟨"MidiDesk$Parser", "beginsTrack", "()Z"⟩, 13), (⟨"MidiDesk$Parser", "track", "()V"⟩, 13), (⟨"MidiDesk$Parser", "oneEvent", "()V"⟩, 13), (⟨"MidiDesk$Parser", "number", "()I"⟩, 13), (⟨"MidiDesk$Parser", "status", "()I"⟩, 13), (⟨"MidiDesk$Parser", "channelEvent", "(I)V"⟩, 13), (⟨"MidiDesk$Parser", "lowByte", "()I"⟩, 13), (⟨"MidiDesk$Parser", "metaEvent", "()V"⟩, 13), (⟨"MidiDesk$Parser", "passData", "()V"⟩, 13), (⟨"MidiDesk$Parser", "exclusiveEvent", "()V"⟩, 13), (⟨"MidiDesk$Parser", "keep", "(I)V"⟩, 13), (⟨"MidiDesk$Score", "mergeRuns", "(III)V"⟩, 8), (⟨"MidiDesk", "headValue", "(I)I"⟩, 3)]
theorem lw_r1 : ∀ q ∈ lw_privs_1, lw_okq q := List.forall_mem_cons.mpr ⟨lw_p0, List.forall_mem_cons.mpr ⟨lw_p1, List.forall_mem_cons.mpr ⟨lw_p2, List.forall_mem_cons.mpr ⟨lw_p3, List.forall_mem_cons.mpr ⟨lw_p4, List.forall_mem_cons.mpr ⟨lw_p5, List.forall_mem_cons.mpr ⟨lw_p6, List.forall_mem_cons.mpr ⟨lw_p7, List.forall_mem_cons.mpr ⟨lw_p8, List.forall_mem_cons.mpr ⟨lw_p9, List.forall_mem_cons.mpr ⟨lw_p10, List.forall_mem_cons.mpr ⟨lw_p11, List.forall_mem_cons.mpr ⟨lw_p12, List.forall_mem_cons.mpr ⟨lw_p13, List.forall_mem_cons.mpr ⟨lw_p14, List.forall_mem_cons.mpr ⟨lw_p15, fun _ h => absurd h List.not_mem_nil⟩⟩⟩⟩⟩⟩⟩⟩⟩⟩⟩⟩⟩⟩⟩⟩
theorem lw_p16 : lw_okq (⟨"MidiDesk$Score", "hasFrames", "()Z"⟩, 8) := ⟨⟨by decide +kernel, by decide +kernel⟩, List.mem_of_getElem? (i := 42) (by decide +kernel), List.mem_of_getElem? (i := 413) (by decide +kernel), List.mem_of_getElem? (i := 414) (by decide +kernel)⟩
theorem lw_p17 : lw_okq (⟨"MidiDesk$Score", "frames", "()I"⟩, 8) := ⟨⟨by decide +kernel, by decide +kernel⟩, List.mem_of_getElem? (i := 42) (by decide +kernel), List.mem_of_getElem? (i := 417) (by decide +kernel), List.mem_of_getElem? (i := 418) (by decide +kernel)⟩
theorem lw_p18 : lw_okq (⟨"MidiDesk", "needList", "()V"⟩, 3) := ⟨⟨by decide +kernel, by decide +kernel⟩, List.mem_of_getElem? (i := 17) (by decide +kernel), List.mem_of_getElem? (i := 430) (by decide +kernel), List.mem_of_getElem? (i := 431) (by decide +kernel)⟩
theorem lw_p19 : lw_okq (⟨"java/lang/Throwable", "fillInStackTrace", "(I)Ljava/lang/Throwable;"⟩, 6) := ⟨⟨by decide +kernel, by decide +kernel⟩, List.mem_of_getElem? (i := 471) (by decide +kernel), List.mem_of_getElem? (i := 469) (by decide +kernel), List.mem_of_getElem? (i := 470) (by decide +kernel)⟩
theorem lw_p20 : lw_okq (⟨"MidiDesk", "needTick", "(I)V"⟩, 3) := ⟨⟨by decide +kernel, by decide +kernel⟩, List.mem_of_getElem? (i := 17) (by decide +kernel), List.mem_of_getElem? (i := 501) (by decide +kernel), List.mem_of_getElem? (i := 502) (by decide +kernel)⟩
theorem lw_p21 : lw_okq (⟨"MidiDesk$Score", "tempoOf", "(LMidiDesk$Event;)I"⟩, 8) := ⟨⟨by decide +kernel, by decide +kernel⟩, List.mem_of_getElem? (i := 42) (by decide +kernel), List.mem_of_getElem? (i := 529) (by decide +kernel), List.mem_of_getElem? (i := 530) (by decide +kernel)⟩
theorem lw_p22 : lw_okq (⟨"MidiDesk$Printer", "putFixed", "(II)V"⟩, 5) := ⟨⟨by decide +kernel, by decide +kernel⟩, List.mem_of_getElem? (i := 601) (by decide +kernel), List.mem_of_getElem? (i := 629) (by decide +kernel), List.mem_of_getElem? (i := 630) (by decide +kernel)⟩
theorem lw_p23 : lw_okq (⟨"MidiDesk$Printer", "putTrack", "(I)V"⟩, 5) := ⟨⟨by decide +kernel, by decide +kernel⟩, List.mem_of_getElem? (i := 601) (by decide +kernel), List.mem_of_getElem? (i := 634) (by decide +kernel), List.mem_of_getElem? (i := 635) (by decide +kernel)⟩
theorem lw_p24 : lw_okq (⟨"MidiDesk$Printer", "putEvent", "(LMidiDesk$Event;)V"⟩, 5) := ⟨⟨by decide +kernel, by decide +kernel⟩, List.mem_of_getElem? (i := 601) (by decide +kernel), List.mem_of_getElem? (i := 641) (by decide +kernel), List.mem_of_getElem? (i := 642) (by decide +kernel)⟩
theorem lw_p25 : lw_okq (⟨"MidiDesk$Printer", "putNumber", "(I)V"⟩, 5) := ⟨⟨by decide +kernel, by decide +kernel⟩, List.mem_of_getElem? (i := 601) (by decide +kernel), List.mem_of_getElem? (i := 645) (by decide +kernel), List.mem_of_getElem? (i := 646) (by decide +kernel)⟩
theorem lw_p26 : lw_okq (⟨"MidiDeskModel", "head", "()V"⟩, 25) := ⟨⟨by decide +kernel, by decide +kernel⟩, List.mem_of_getElem? (i := 658) (by decide +kernel), List.mem_of_getElem? (i := 754) (by decide +kernel), List.mem_of_getElem? (i := 755) (by decide +kernel)⟩
theorem lw_p27 : lw_okq (⟨"MidiDeskModel", "taken", "(I)J"⟩, 25) := ⟨⟨by decide +kernel, by decide +kernel⟩, List.mem_of_getElem? (i := 658) (by decide +kernel), List.mem_of_getElem? (i := 758) (by decide +kernel), List.mem_of_getElem? (i := 759) (by decide +kernel)⟩
theorem lw_p28 : lw_okq (⟨"MidiDeskModel", "fail", "(II)V"⟩, 25) := ⟨⟨by decide +kernel, by decide +kernel⟩, List.mem_of_getElem? (i := 658) (by decide +kernel), List.mem_of_getElem? (i := 762) (by decide +kernel), List.mem_of_getElem? (i := 763) (by decide +kernel)⟩
theorem lw_p29 : lw_okq (⟨"MidiDeskModel", "track", "(I)V"⟩, 25) := ⟨⟨by decide +kernel, by decide +kernel⟩, List.mem_of_getElem? (i := 658) (by decide +kernel), List.mem_of_getElem? (i := 773) (by decide +kernel), List.mem_of_getElem? (i := 774) (by decide +kernel)⟩
theorem lw_p30 : lw_okq (⟨"MidiDeskModel", "number", "()I"⟩, 25) := ⟨⟨by decide +kernel, by decide +kernel⟩, List.mem_of_getElem? (i := 658) (by decide +kernel), List.mem_of_getElem? (i := 777) (by decide +kernel), List.mem_of_getElem? (i := 778) (by decide +kernel)⟩
theorem lw_p31 : lw_okq (⟨"MidiDeskModel", "event", "(IIII)Z"⟩, 25) := ⟨⟨by decide +kernel, by decide +kernel⟩, List.mem_of_getElem? (i := 658) (by decide +kernel), List.mem_of_getElem? (i := 782) (by decide +kernel), List.mem_of_getElem? (i := 783) (by decide +kernel)⟩
def lw_privs_2 : List (MethodName × Nat) := [(⟨"MidiDesk$Score", "hasFrames", "()Z"⟩, 8), (⟨"MidiDesk$Score", "frames", "()I"⟩, 8), (⟨"MidiDesk", "needList", "()V"⟩, 3), (⟨"java/lang/Throwable", "fillInStackTrace", "(I)Ljava/lang/Throwable;"⟩, 6), (⟨"MidiDesk", "needTick", "(I)V"⟩, 3), (⟨"MidiDesk$Score", "tempoOf", "(LMidiDesk$Event;)I"⟩, 8), (⟨"MidiDesk$Printer", "putFixed", "(II)V"⟩, 5), (⟨"MidiDesk$Printer", "putTrack", "(I)V"⟩, 5), (⟨"MidiDesk$Printer", "putEvent", "(LMidiDesk$Event;)V"⟩, 5), (⟨"MidiDesk$Printer", "putNumber", "(I)V"⟩, 5), (⟨"MidiDeskModel", "head", "()V"⟩, 25), (⟨"MidiDeskModel", "taken", "(I)J"⟩, 25), (⟨"MidiDeskModel", "fail", "(II)V"⟩, 25), (⟨"MidiDeskModel", "track", "(I)V"⟩, 25), (⟨"MidiDeskModel", "number", "()I"⟩, 25), (⟨"MidiDeskModel", "event", "(IIII)Z"⟩, 25)]
theorem lw_r2 : ∀ q ∈ lw_privs_2, lw_okq q := List.forall_mem_cons.mpr ⟨lw_p16, List.forall_mem_cons.mpr ⟨lw_p17, List.forall_mem_cons.mpr ⟨lw_p18, List.forall_mem_cons.mpr ⟨lw_p19, List.forall_mem_cons.mpr ⟨lw_p20, List.forall_mem_cons.mpr ⟨lw_p21, List.forall_mem_cons.mpr ⟨lw_p22, List.forall_mem_cons.mpr ⟨lw_p23, List.forall_mem_cons.mpr ⟨lw_p24, List.forall_mem_cons.mpr ⟨lw_p25, List.forall_mem_cons.mpr ⟨lw_p26, List.forall_mem_cons.mpr ⟨lw_p27, List.forall_mem_cons.mpr ⟨lw_p28, List.forall_mem_cons.mpr ⟨lw_p29, List.forall_mem_cons.mpr ⟨lw_p30, List.forall_mem_cons.mpr ⟨lw_p31, fun _ h => absurd h List.not_mem_nil⟩⟩⟩⟩⟩⟩⟩⟩⟩⟩⟩⟩⟩⟩⟩⟩
theorem lw_p32 : lw_okq (⟨"MidiDeskModel", "small", "()I"⟩, 25) := ⟨⟨by decide +kernel, by decide +kernel⟩, List.mem_of_getElem? (i := 658) (by decide +kernel), List.mem_of_getElem? (i := 786) (by decide +kernel), List.mem_of_getElem? (i := 787) (by decide +kernel)⟩
theorem lw_p33 : lw_okq (⟨"MidiDeskModel", "follow", "(II)V"⟩, 25) := ⟨⟨by decide +kernel, by decide +kernel⟩, List.mem_of_getElem? (i := 658) (by decide +kernel), List.mem_of_getElem? (i := 790) (by decide +kernel), List.mem_of_getElem? (i := 791) (by decide +kernel)⟩
theorem lw_p34 : lw_okq (⟨"MidiDeskModel", "tempo", "(I)I"⟩, 25) := ⟨⟨by decide +kernel, by decide +kernel⟩, List.mem_of_getElem? (i := 658) (by decide +kernel), List.mem_of_getElem? (i := 794) (by decide +kernel), List.mem_of_getElem? (i := 795) (by decide +kernel)⟩
theorem lw_p35 : lw_okq (⟨"MidiDeskModel", "sort", "()V"⟩, 25) := ⟨⟨by decide +kernel, by decide +kernel⟩, List.mem_of_getElem? (i := 658) (by decide +kernel), List.mem_of_getElem? (i := 798) (by decide +kernel), List.mem_of_getElem? (i := 799) (by decide +kernel)⟩
theorem lw_p36 : lw_okq (⟨"MidiDeskModel", "again", "()V"⟩, 25) := ⟨⟨by decide +kernel, by decide +kernel⟩, List.mem_of_getElem? (i := 658) (by decide +kernel), List.mem_of_getElem? (i := 802) (by decide +kernel), List.mem_of_getElem? (i := 803) (by decide +kernel)⟩
theorem lw_p37 : lw_okq (⟨"MidiDeskModel", "isBefore", "(II)Z"⟩, 25) := ⟨⟨by decide +kernel, by decide +kernel⟩, List.mem_of_getElem? (i := 658) (by decide +kernel), List.mem_of_getElem? (i := 806) (by decide +kernel), List.mem_of_getElem? (i := 807) (by decide +kernel)⟩
theorem lw_p38 : lw_okq (⟨"MidiDeskModel", "has", "(I)Z"⟩, 25) := ⟨⟨by decide +kernel, by decide +kernel⟩, List.mem_of_getElem? (i := 658) (by decide +kernel), List.mem_of_getElem? (i := 814) (by decide +kernel), List.mem_of_getElem? (i := 815) (by decide +kernel)⟩
theorem lw_p39 : lw_okq (⟨"MidiDeskModel", "fails", "(ZZ)Z"⟩, 25) := ⟨⟨by decide +kernel, by decide +kernel⟩, List.mem_of_getElem? (i := 658) (by decide +kernel), List.mem_of_getElem? (i := 827) (by decide +kernel), List.mem_of_getElem? (i := 828) (by decide +kernel)⟩
theorem lw_p40 : lw_okq (⟨"MidiDeskModel", "timed", "(I)J"⟩, 25) := ⟨⟨by decide +kernel, by decide +kernel⟩, List.mem_of_getElem? (i := 658) (by decide +kernel), List.mem_of_getElem? (i := 831) (by decide +kernel), List.mem_of_getElem? (i := 832) (by decide +kernel)⟩
theorem lw_p41 : lw_okq (⟨"MidiDeskModel", "isTempo", "(I)Z"⟩, 25) := ⟨⟨by decide +kernel, by decide +kernel⟩, List.mem_of_getElem? (i := 658) (by decide +kernel), List.mem_of_getElem? (i := 838) (by decide +kernel), List.mem_of_getElem? (i := 839) (by decide +kernel)⟩
theorem lw_p42 : lw_okq (⟨"MidiDeskModel", "parts", "()J"⟩, 25) := ⟨⟨by decide +kernel, by decide +kernel⟩, List.mem_of_getElem? (i := 658) (by decide +kernel), List.mem_of_getElem? (i := 842) (by decide +kernel), List.mem_of_getElem? (i := 843) (by decide +kernel)⟩
theorem lw_p43 : lw_okq (⟨"MidiDeskModel", "begins", "(I)Z"⟩, 25) := ⟨⟨by decide +kernel, by decide +kernel⟩, List.mem_of_getElem? (i := 658) (by decide +kernel), List.mem_of_getElem? (i := 855) (by decide +kernel), List.mem_of_getElem? (i := 856) (by decide +kernel)⟩
theorem lw_p44 : lw_okq (⟨"MidiDeskModel", "ends", "(I)Z"⟩, 25) := ⟨⟨by decide +kernel, by decide +kernel⟩, List.mem_of_getElem? (i := 658) (by decide +kernel), List.mem_of_getElem? (i := 859) (by decide +kernel), List.mem_of_getElem? (i := 860) (by decide +kernel)⟩
theorem lw_p45 : lw_okq (⟨"MidiDeskModel", "isNote", "(II)Z"⟩, 25) := ⟨⟨by decide +kernel, by decide +kernel⟩, List.mem_of_getElem? (i := 658) (by decide +kernel), List.mem_of_getElem? (i := 867) (by decide +kernel), List.mem_of_getElem? (i := 868) (by decide +kernel)⟩
theorem lw_p46 : lw_okq (⟨"MidiDeskModel", "put", "(II)V"⟩, 25) := ⟨⟨by decide +kernel, by decide +kernel⟩, List.mem_of_getElem? (i := 658) (by decide +kernel), List.mem_of_getElem? (i := 890) (by decide +kernel), List.mem_of_getElem? (i := 891) (by decide +kernel)⟩
theorem lw_p47 : lw_okq (⟨"MidiDeskModel", "put", "(I)V"⟩, 25) := ⟨⟨by decide +kernel, by decide +kernel⟩, List.mem_of_getElem? (i := 658) (by decide +kernel), List.mem_of_getElem? (i := 894) (by decide +kernel), List.mem_of_getElem? (i := 895) (by decide +kernel)⟩
def lw_privs_3 : List (MethodName × Nat) := [(⟨"MidiDeskModel", "small", "()I"⟩, 25), (⟨"MidiDeskModel", "follow", "(II)V"⟩, 25), (⟨"MidiDeskModel", "tempo", "(I)I"⟩, 25), (⟨"MidiDeskModel", "sort", "()V"⟩, 25), (⟨"MidiDeskModel", "again", "()V"⟩, 25), (⟨"MidiDeskModel", "isBefore", "(II)Z"⟩, 25), (⟨"MidiDeskModel", "has", "(I)Z"⟩, 25), (⟨"MidiDeskModel", "fails", "(ZZ)Z"⟩, 25), (⟨"MidiDeskModel", "timed", "(I)J"⟩, 25), (⟨"MidiDeskModel", "isTempo", "(I)Z"⟩, 25), (⟨"MidiDeskModel", "parts", "()J"⟩, 25), (⟨"MidiDeskModel", "begins", "(I)Z"⟩, 25), (⟨"MidiDeskModel", "ends", "(I)Z"⟩, 25), (⟨"MidiDeskModel", "isNote", "(II)Z"⟩, 25), (⟨"MidiDeskModel", "put", "(II)V"⟩, 25), (⟨"MidiDeskModel", "put", "(I)V"⟩, 25)]
theorem lw_r3 : ∀ q ∈ lw_privs_3, lw_okq q := List.forall_mem_cons.mpr ⟨lw_p32, List.forall_mem_cons.mpr ⟨lw_p33, List.forall_mem_cons.mpr ⟨lw_p34, List.forall_mem_cons.mpr ⟨lw_p35, List.forall_mem_cons.mpr ⟨lw_p36, List.forall_mem_cons.mpr ⟨lw_p37, List.forall_mem_cons.mpr ⟨lw_p38, List.forall_mem_cons.mpr ⟨lw_p39, List.forall_mem_cons.mpr ⟨lw_p40, List.forall_mem_cons.mpr ⟨lw_p41, List.forall_mem_cons.mpr ⟨lw_p42, List.forall_mem_cons.mpr ⟨lw_p43, List.forall_mem_cons.mpr ⟨lw_p44, List.forall_mem_cons.mpr ⟨lw_p45, List.forall_mem_cons.mpr ⟨lw_p46, List.forall_mem_cons.mpr ⟨lw_p47, fun _ h => absurd h List.not_mem_nil⟩⟩⟩⟩⟩⟩⟩⟩⟩⟩⟩⟩⟩⟩⟩⟩
theorem lw_p48 : lw_okq (⟨"MidiDeskModel", "putTrack", "(IZZ)V"⟩, 25) := ⟨⟨by decide +kernel, by decide +kernel⟩, List.mem_of_getElem? (i := 658) (by decide +kernel), List.mem_of_getElem? (i := 898) (by decide +kernel), List.mem_of_getElem? (i := 899) (by decide +kernel)⟩
theorem lw_p49 : lw_okq (⟨"MidiDeskModel", "putNumber", "(I)V"⟩, 25) := ⟨⟨by decide +kernel, by decide +kernel⟩, List.mem_of_getElem? (i := 658) (by decide +kernel), List.mem_of_getElem? (i := 903) (by decide +kernel), List.mem_of_getElem? (i := 904) (by decide +kernel)⟩
theorem lw_p50 : lw_okq (⟨"MidiDeskModel", "counted", "(Z)I"⟩, 25) := ⟨⟨by decide +kernel, by decide +kernel⟩, List.mem_of_getElem? (i := 658) (by decide +kernel), List.mem_of_getElem? (i := 921) (by decide +kernel), List.mem_of_getElem? (i := 922) (by decide +kernel)⟩
def lw_privs_4 : List (MethodName × Nat) := [(⟨"MidiDeskModel", "putTrack", "(IZZ)V"⟩, 25), (⟨"MidiDeskModel", "putNumber", "(I)V"⟩, 25), (⟨"MidiDeskModel", "counted", "(Z)I"⟩, 25)]
theorem lw_r4 : ∀ q ∈ lw_privs_4, lw_okq q := List.forall_mem_cons.mpr ⟨lw_p48, List.forall_mem_cons.mpr ⟨lw_p49, List.forall_mem_cons.mpr ⟨lw_p50, fun _ h => absurd h List.not_mem_nil⟩⟩⟩
def lw_privs : List (MethodName × Nat) := lw_privs_1 ++ (lw_privs_2 ++ (lw_privs_3 ++ (lw_privs_4)))
def lw_tbl : List Cond := k2_sels lw_privs ++ tables_1
theorem lw_privs_ok : ∀ q ∈ lw_privs, lw_okq q := by
  show ∀ q ∈ lw_privs_1 ++ (lw_privs_2 ++ (lw_privs_3 ++ (lw_privs_4))), lw_okq q
  exact List.forall_mem_append.mpr ⟨lw_r1, List.forall_mem_append.mpr ⟨lw_r2, List.forall_mem_append.mpr ⟨lw_r3, lw_r4⟩⟩⟩
end
section
theorem ts_t {α : Type} {c : Prop} [Decidable c] {a b : Option α} {r : α} (h : (if c then a else b) = some r) (hc : c) : a = some r := by rw [if_pos hc] at h; exact h
theorem ts_f {α : Type} {c : Prop} [Decidable c] {a b : Option α} {r : α} (h : (if c then a else b) = some r) (hc : ¬ c) : b = some r := by rw [if_neg hc] at h; exact h
theorem ts_g {α : Type} {c : Prop} [Decidable c] {a : Option α} {r : α} (h : (if c then none else a) = some r) : ¬ c ∧ a = some r := by
  by_cases hc : c
  · rw [if_pos hc] at h; cases h
  · rw [if_neg hc] at h; exact ⟨hc, h⟩
theorem ts_b {α β : Type} {o : Option α} {f : α → Option β} {b : β} (h : o.bind f = some b) : ∃ a, o = some a ∧ f a = some b := Option.bind_eq_some_iff.mp h
/-- the words that a call hands on: all of the tables that keep -/
def gw : List Cond := lw_tbl.filter goodWord
theorem gw_good : ∀ w ∈ gw, goodWord w = true := fun w h => (List.mem_filter.mp h).2
theorem gw_in {w : Cond} (i : Nat) (h : lw_tbl[i]? = some w) (hg : goodWord w = true) : w ∈ gw := List.mem_filter.mpr ⟨List.mem_of_getElem? h, hg⟩
theorem gw_GI {c : Cond} (hc : c ∈ gw) : GoodIn gw (c :: gw) := fun w hw => by
  have hm : w ∈ gw := (List.mem_cons.mp hw).elim (fun e => e ▸ hc) id
  exact ⟨hm, good_of_word (gw_good w hm)⟩
def is_nest : Cond → Bool
  | .fieldLinkNest .. => true
  | .methodLinkNest .. => true
  | _ => false
def nestw : List Cond := tables_1.filter is_nest
theorem nest_onT {w : Cond} (h : is_nest w = true) : w.onTables = true := by
  cases w <;> first | rfl | (simp [is_nest] at h)
theorem nest_warm {w : Cond} (h : is_nest w = true) {s U : State} (hW : s.WarmedH U.vm) (hZ : va_Nw w s) : va_Nw w U := by
  cases w <;> first | exact va_Nw.warmF hW hZ | exact va_Nw.warmM hW hZ | (simp [is_nest] at h)
/-- an array of counts, and of rows -/
def up2 (av : Nat → Nat → Int32) (k i : Nat) (x : Int32) : Nat → Nat → Int32 := fun a => if a = k then upd (av k) i x else av a
theorem va_D_map {A : Nat → Prop} {ws ws' : va_W} (e : ws.map Prod.fst = ws'.map Prod.fst) (h : va_D A ws) : va_D A ws' := by
  have key : ∀ (k : Nat) (q : Nat × va_E), ws'[k]? = some q → ∃ q0, ws[k]? = some q0 ∧ q0.1 = q.1 := by
    intro k q hk
    have h1 : (ws'.map Prod.fst)[k]? = some q.1 := by rw [List.getElem?_map, hk]; rfl
    rw [← e, List.getElem?_map] at h1
    cases hq : ws[k]? with
    | none => rw [hq] at h1; cases h1
    | some q0 => rw [hq] at h1; exact ⟨q0, rfl, Option.some.inj h1⟩
  refine ⟨fun i j x y hi hj hxy => ?_, fun k q hk => ?_⟩
  · obtain ⟨x0, h1, h2⟩ := key i x hi
    obtain ⟨y0, h3, h4⟩ := key j y hj
    exact h.1 i j x0 y0 h1 h3 (h2.trans (hxy.trans h4.symm))
  · obtain ⟨q0, h1, h2⟩ := key k q hk
    rw [← h2]; exact h.2 k q0 h1
theorem va_A_map {ws ws' : va_W} {sz : Nat} (e : ws.map Prod.fst = ws'.map Prod.fst) : va_A ws sz = va_A ws' sz := by
  have key : ∀ {a b : va_W}, a.map Prod.fst = b.map Prod.fst → ∀ q, va_A a sz q → va_A b sz q := by
    intro a b e q h
    rcases h with ⟨k, x, h⟩ | h
    · have h1 : (a.map Prod.fst)[k]? = some q := by rw [List.getElem?_map, h]; rfl
      rw [e, List.getElem?_map] at h1
      cases hq : b[k]? with
      | none => rw [hq] at h1; cases h1
      | some q0 =>
        rw [hq] at h1
        obtain ⟨z, w⟩ := q0
        have hz : z = q := Option.some.inj h1
        subst hz
        exact Or.inl ⟨k, w, hq⟩
    · exact Or.inr h
  funext q
  exact propext ⟨key e q, key e.symm q⟩

def R_Bytes : String := "MidiDesk$Bytes"
def F_Bytes : u_T := fun k => match k with
  | 0 => ("MidiDesk$Bytes", "most", "I", true)
  | 1 => ("MidiDesk$Bytes", "row", "[I", false)
  | _ => ("MidiDesk$Bytes", "size", "I", false)
def t_Bytes : Nat → FieldType := fun k => match k with
  | 0 => .int
  | 1 => .array .int
  | _ => .int
theorem n_Bytes : ∀ a, a < 3 → ∀ b, b < 3 → a ≠ b → (F_Bytes a).2.1 ≠ (F_Bytes b).2.1 := by decide +kernel
theorem t_Bytes_ok : ∀ k, k < 3 → parseFieldDescriptor (F_Bytes k).2.2.1 = some (t_Bytes k) := by decide +kernel
def R_Event : String := "MidiDesk$Event"
def F_Event : u_T := fun k => match k with
  | 0 => ("MidiDesk$Event", "tick", "I", false)
  | 1 => ("MidiDesk$Event", "track", "I", false)
  | 2 => ("MidiDesk$Event", "status", "I", false)
  | 3 => ("MidiDesk$Event", "first", "I", false)
  | 4 => ("MidiDesk$Event", "second", "I", false)
  | 5 => ("MidiDesk$Event", "start", "I", false)
  | _ => ("MidiDesk$Event", "size", "I", false)
def t_Event : Nat → FieldType := fun k => match k with
  | 0 => .int
  | 1 => .int
  | 2 => .int
  | 3 => .int
  | 4 => .int
  | 5 => .int
  | _ => .int
theorem n_Event : ∀ a, a < 7 → ∀ b, b < 7 → a ≠ b → (F_Event a).2.1 ≠ (F_Event b).2.1 := by decide +kernel
theorem t_Event_ok : ∀ k, k < 7 → parseFieldDescriptor (F_Event k).2.2.1 = some (t_Event k) := by decide +kernel
def R_Parser : String := "MidiDesk$Parser"
def F_Parser : u_T := fun k => match k with
  | 0 => ("MidiDesk$Parser", "input", "LMidiDesk$Bytes;", true)
  | 1 => ("MidiDesk$Parser", "score", "LMidiDesk$Score;", true)
  | 2 => ("MidiDesk$Parser", "pos", "I", false)
  | 3 => ("MidiDesk$Parser", "end", "I", false)
  | 4 => ("MidiDesk$Parser", "fault", "I", false)
  | 5 => ("MidiDesk$Parser", "tracksSeen", "I", false)
  | 6 => ("MidiDesk$Parser", "tick", "I", false)
  | 7 => ("MidiDesk$Parser", "running", "I", false)
  | 8 => ("MidiDesk$Parser", "ended", "Z", false)
  | 9 => ("MidiDesk$Parser", "first", "I", false)
  | 10 => ("MidiDesk$Parser", "second", "I", false)
  | 11 => ("MidiDesk$Parser", "start", "I", false)
  | _ => ("MidiDesk$Parser", "size", "I", false)
def t_Parser : Nat → FieldType := fun k => match k with
  | 0 => .object "MidiDesk$Bytes"
  | 1 => .object "MidiDesk$Score"
  | 2 => .int
  | 3 => .int
  | 4 => .int
  | 5 => .int
  | 6 => .int
  | 7 => .int
  | 8 => .boolean
  | 9 => .int
  | 10 => .int
  | 11 => .int
  | _ => .int
theorem n_Parser : ∀ a, a < 13 → ∀ b, b < 13 → a ≠ b → (F_Parser a).2.1 ≠ (F_Parser b).2.1 := by decide +kernel
theorem t_Parser_ok : ∀ k, k < 13 → parseFieldDescriptor (F_Parser k).2.2.1 = some (t_Parser k) := by decide +kernel
def R_Printer : String := "MidiDesk$Printer"
def F_Printer : u_T := fun k => match k with
  | 0 => ("MidiDesk$Printer", "score", "LMidiDesk$Score;", true)
  | 1 => ("MidiDesk$Printer", "output", "LMidiDesk$Bytes;", true)
  | 2 => ("MidiDesk$Printer", "brief", "Z", true)
  | 3 => ("MidiDesk$Printer", "tick", "I", false)
  | _ => ("MidiDesk$Printer", "running", "I", false)
def t_Printer : Nat → FieldType := fun k => match k with
  | 0 => .object "MidiDesk$Score"
  | 1 => .object "MidiDesk$Bytes"
  | 2 => .boolean
  | 3 => .int
  | _ => .int
theorem n_Printer : ∀ a, a < 5 → ∀ b, b < 5 → a ≠ b → (F_Printer a).2.1 ≠ (F_Printer b).2.1 := by decide +kernel
theorem t_Printer_ok : ∀ k, k < 5 → parseFieldDescriptor (F_Printer k).2.2.1 = some (t_Printer k) := by decide +kernel
def R_Score : String := "MidiDesk$Score"
def F_Score : u_T := fun k => match k with
  | 0 => ("MidiDesk$Score", "data", "LMidiDesk$Bytes;", true)
  | 1 => ("MidiDesk$Score", "present", "Z", false)
  | 2 => ("MidiDesk$Score", "format", "I", false)
  | 3 => ("MidiDesk$Score", "tracks", "I", false)
  | 4 => ("MidiDesk$Score", "division", "I", false)
  | 5 => ("MidiDesk$Score", "row", "[LMidiDesk$Event;", false)
  | 6 => ("MidiDesk$Score", "spare", "[LMidiDesk$Event;", false)
  | _ => ("MidiDesk$Score", "size", "I", false)
def t_Score : Nat → FieldType := fun k => match k with
  | 0 => .object "MidiDesk$Bytes"
  | 1 => .boolean
  | 2 => .int
  | 3 => .int
  | 4 => .int
  | 5 => .array (.object "MidiDesk$Event")
  | 6 => .array (.object "MidiDesk$Event")
  | _ => .int
theorem n_Score : ∀ a, a < 8 → ∀ b, b < 8 → a ≠ b → (F_Score a).2.1 ≠ (F_Score b).2.1 := by decide +kernel
theorem t_Score_ok : ∀ k, k < 8 → parseFieldDescriptor (F_Score k).2.2.1 = some (t_Score k) := by decide +kernel
def R_Desk : String := "MidiDesk"
def F_Desk : u_T := fun k => match k with
  | 0 => ("MidiDesk", "input", "LMidiDesk$Bytes;", true)
  | 1 => ("MidiDesk", "output", "LMidiDesk$Bytes;", true)
  | _ => ("MidiDesk", "score", "LMidiDesk$Score;", true)
def t_Desk : Nat → FieldType := fun k => match k with
  | 0 => .object "MidiDesk$Bytes"
  | 1 => .object "MidiDesk$Bytes"
  | _ => .object "MidiDesk$Score"
theorem n_Desk : ∀ a, a < 3 → ∀ b, b < 3 → a ≠ b → (F_Desk a).2.1 ≠ (F_Desk b).2.1 := by decide +kernel
theorem t_Desk_ok : ∀ k, k < 3 → parseFieldDescriptor (F_Desk k).2.2.1 = some (t_Desk k) := by decide +kernel
def R_Model : String := "MidiDeskModel"
def F_Model : u_T := fun k => match k with
  | 0 => ("MidiDeskModel", "thrown", "I", false)
  | 1 => ("MidiDeskModel", "input", "[I", true)
  | 2 => ("MidiDeskModel", "size", "I", false)
  | 3 => ("MidiDeskModel", "at", "I", false)
  | 4 => ("MidiDeskModel", "end", "I", false)
  | 5 => ("MidiDeskModel", "fault", "I", false)
  | 6 => ("MidiDeskModel", "place", "I", false)
  | 7 => ("MidiDeskModel", "there", "Z", false)
  | 8 => ("MidiDeskModel", "format", "I", false)
  | 9 => ("MidiDeskModel", "tracks", "I", false)
  | 10 => ("MidiDeskModel", "division", "I", false)
  | 11 => ("MidiDeskModel", "events", "I", false)
  | 12 => ("MidiDeskModel", "many", "I", false)
  | 13 => ("MidiDeskModel", "ticks", "[I", true)
  | 14 => ("MidiDeskModel", "trackOf", "[I", true)
  | 15 => ("MidiDeskModel", "status", "[I", true)
  | 16 => ("MidiDeskModel", "first", "[I", true)
  | 17 => ("MidiDeskModel", "second", "[I", true)
  | 18 => ("MidiDeskModel", "from", "[I", true)
  | 19 => ("MidiDeskModel", "counts", "[I", true)
  | 20 => ("MidiDeskModel", "order", "[I", true)
  | 21 => ("MidiDeskModel", "spare", "[I", true)
  | 22 => ("MidiDeskModel", "bytes", "[I", true)
  | 23 => ("MidiDeskModel", "written", "[I", true)
  | _ => ("MidiDeskModel", "writtenSize", "I", false)
def t_Model : Nat → FieldType := fun k => match k with
  | 0 => .int
  | 1 => .array .int
  | 2 => .int
  | 3 => .int
  | 4 => .int
  | 5 => .int
  | 6 => .int
  | 7 => .boolean
  | 8 => .int
  | 9 => .int
  | 10 => .int
  | 11 => .int
  | 12 => .int
  | 13 => .array .int
  | 14 => .array .int
  | 15 => .array .int
  | 16 => .array .int
  | 17 => .array .int
  | 18 => .array .int
  | 19 => .array .int
  | 20 => .array .int
  | 21 => .array .int
  | 22 => .array .int
  | 23 => .array .int
  | _ => .int
theorem n_Model : ∀ a, a < 25 → ∀ b, b < 25 → a ≠ b → (F_Model a).2.1 ≠ (F_Model b).2.1 := by decide +kernel
theorem t_Model_ok : ∀ k, k < 25 → parseFieldDescriptor (F_Model k).2.2.1 = some (t_Model k) := by decide +kernel
abbrev classes : List vw_C := [(R_Bytes, F_Bytes, 3), (R_Event, F_Event, 7), (R_Parser, F_Parser, 13), (R_Printer, F_Printer, 5), (R_Score, F_Score, 8), (R_Desk, F_Desk, 3), (R_Model, F_Model, 25)]
/-- the classes' numbers and slots, and the numbers of the array classes int[], long[], Event[] -/
abbrev gT : Type := va_G × ClassId × ClassId × ClassId
def kK (g : gT) (U : State) : Prop := va_K g.1 classes [(g.2.1, .int), (g.2.2.1, .long), (g.2.2.2, .object "MidiDesk$Event")] U ∧ ∀ w ∈ nestw, va_Nw w U
theorem kK.moved {g : gT} {s U : State} (hW : s.WarmedH U.vm) (h : kK g s) : kK g U := ⟨va_K.moved hW.alike h.1, fun w hw => nest_warm (List.mem_filter.mp hw).2 hW (h.2 w hw)⟩
theorem kK.same {g : gT} {s U : State} (e : s.vm = U.vm) (h : kK g s) : kK g U := ⟨va_K.moved (by rw [← e]; exact Vm.Alike.refl s.vm) h.1, fun w hw => va_Nw.same (nest_onT (List.mem_filter.mp hw).2) e (h.2 w hw)⟩
section CX
variable {p : Program} {l : Launch} {e : Env} {R : Room} {s : State} {m : MethodId} {args : Array Value} {below : List Frame} {meth : Method} {c : Code} {H : Heap} {locs : List Loc} {cells slots : Nat} {Q : State → Prop}
abbrev mCx (p : Program) (m : MethodId) (c : Code) (cc : ByteArray) (nL : Nat) (s : State) (args : Array Value) (g : gT) (own : String) : Prop := CallFix p m c cc nL s args gw own ∧ kK g s
theorem callW_of {own C : String} {index maxL : Nat} {y : MethodName} {bytes : ByteArray} {ret : Option FieldType} {rm : Room} (n : Nat) (ht : ∀ w ∈ gw, w.before args s = true) (h1 : Cond.methodLink own index y ∈ gw) (h2 : Cond.instanceMethod y ∈ gw) (h3 : Cond.selects C y y ∈ gw) (h4 : Cond.initialized y.cls ∈ gw) (h5 : Cond.code y bytes maxL ret ∈ gw)
    (hd : y.cls ≠ "java/lang/invoke/MethodHandle" ∧ y.cls ≠ "java/lang/invoke/VarHandle" ∧ (parseMethodDescriptor y.desc).map (fun d => d.parameters.length) = some n) (hR : rm.frames + 1 ≤ R.frames ∧ 8 + (maxL + 11) + rm.locals ≤ R.locals) :
    CallW R s args own C index y bytes maxL ret (Cond.code y bytes maxL ret :: gw) rm rm.cells rm.slots n :=
  ⟨callB_of n ht (gw_GI h5) rfl rfl rfl (ht _ h4) (ht _ h1) hd hR, ht _ h2, ht _ h3⟩
theorem callS_of {own : String} {index maxL : Nat} {y : MethodName} {bytes : ByteArray} {ret : Option FieldType} {rm : Room} (n : Nat) (ht : ∀ w ∈ gw, w.before args s = true) (h1 : Cond.methodLink own index y ∈ gw) (h2 : Cond.static y ∈ gw) (h4 : Cond.initialized y.cls ∈ gw) (h5 : Cond.code y bytes maxL ret ∈ gw)
    (hd : y.cls ≠ "java/lang/invoke/MethodHandle" ∧ y.cls ≠ "java/lang/invoke/VarHandle" ∧ (parseMethodDescriptor y.desc).map (fun d => d.parameters.length) = some n) (hR : rm.frames + 1 ≤ R.frames ∧ 8 + (maxL + 11) + rm.locals ≤ R.locals) :
    CallB R s args own index y bytes maxL ret (Cond.code y bytes maxL ret :: gw) rm rm.cells rm.slots n ∧ (Cond.static y).before args s = true :=
  ⟨callB_of n ht (gw_GI h5) rfl rfl rfl (ht _ h4) (ht _ h1) hd hR, ht _ h2⟩
variable {pc : Nat} {ls : Array Slot} {rest st0 : List Value} {A0 A1 : Nat → Prop} {H0 : Heap} {mc ms : Nat} {free : Addr → Prop}
theorem x_call {rv : Option Value} {B : Heap → Prop} (hr : va_Run p l e R s m args below meth c H locs cells slots mc ms (F0 m pc ls st0) rest (fun st oc t => (oc = .returned rv ∧ B t.heap) ∧ va_F A1 st t) free) (hS : va_S A0 H0 H locs) (hA : ∀ q, q < H.size → A1 q → A0 q) (hf : ∀ q, free q → A0 q)
    (kk : ∀ (H1 : Heap) (locs1 : List Loc), B H1 → va_S A0 H0 H1 locs1 → W p l e R s m args below meth c H1 locs1 (cells + mc) (slots + ms) Q (F0 m (pc + 3) ls (rv.toList ++ rest))) : W p l e R s m args below meth c H locs cells slots Q (F0 m pc ls st0) := by
  intro T hT X
  obtain ⟨v, st₀, t, T', L, h0, X', hL, e1, e2, ⟨⟨hv, hb⟩, hz, hk⟩, st⟩ := hr T hT X
  cases hv
  rw [h0] at hz hk
  obtain ⟨t2, a1, b1⟩ := kk T'.heap (locs ++ L) (by rw [e1]; exact hb)
    ⟨Nat.le_trans hS.1 (by rw [e1]; exact hz), fun q h1 h2 => by rw [e1, hk q (Nat.lt_of_lt_of_le h1 hS.1) (fun z => h2 (hA q (Nat.lt_of_lt_of_le h1 hS.1) z))]; exact hS.2.1 q h1 h2, fun q hq => by
      rcases List.mem_append.mp hq with h | h
      · exact hS.2.2 q h
      · exact hf _ (hL q h)⟩ T' rfl X'
  exact ⟨t2, st t2 a1, b1⟩
end CX
end
section
/-- the reference's cells: iv its int fields (0 thrown, 1 size, 2 at, 3 end, 4 fault, 5 place, 6 there, 7 format, 8 tracks, 9 division, 10 events, 11 many, 12 writtenSize), av its arrays (0 input, 1 ticks, 2 trackOf, 3 status, 4 first, 5 second, 6 from, 7 counts, 8 order, 9 spare, 10 bytes, 11 written) -/
def mfs (ad : Nat → Nat) (iv : Nat → Int32) : List Value := [.int (iv 0), .ref (ad 0), .int (iv 1), .int (iv 2), .int (iv 3), .int (iv 4), .int (iv 5), .int (iv 6), .int (iv 7), .int (iv 8), .int (iv 9), .int (iv 10), .int (iv 11), .ref (ad 1), .ref (ad 2), .ref (ad 3), .ref (ad 4), .ref (ad 5), .ref (ad 6), .ref (ad 7), .ref (ad 8), .ref (ad 9), .ref (ad 10), .ref (ad 11), .int (iv 12)]
def mw (g : gT) (q : Nat) (ad : Nat → Nat) (iv : Nat → Int32) (av : Nat → Nat → Int32) (X : va_W) : va_W := (q, .inr (6, mfs ad iv)) :: (ad 0, .inl (g.2.1, 12000, .inl (av 0))) :: (ad 1, .inl (g.2.1, 1001, .inl (av 1))) :: (ad 2, .inl (g.2.1, 1001, .inl (av 2))) :: (ad 3, .inl (g.2.1, 1001, .inl (av 3))) :: (ad 4, .inl (g.2.1, 1001, .inl (av 4))) :: (ad 5, .inl (g.2.1, 1001, .inl (av 5))) :: (ad 6, .inl (g.2.1, 1001, .inl (av 6))) :: (ad 7, .inl (g.2.1, 1001, .inl (av 7))) :: (ad 8, .inl (g.2.1, 1001, .inl (av 8))) :: (ad 9, .inl (g.2.1, 1001, .inl (av 9))) :: (ad 10, .inl (g.2.1, 20100, .inl (av 10))) :: (ad 11, .inl (g.2.1, 32768, .inl (av 11))) :: X
def mWd (g : gT) (A : Nat → Prop) (H0 : Heap) (q : Nat) (ad : Nat → Nat) (X : va_W) (iv : Nat → Int32) (av : Nat → Nat → Int32) (H : Heap) (locs : List Loc) : Prop := va_P g.1 classes (mw g q ad iv av X) H ∧ va_D A (mw g q ad iv av X) ∧ va_S A H0 H locs ∧ ∀ z, H0.size ≤ z → A z
theorem mw_map {g : gT} {q : Nat} {ad : Nat → Nat} {iv iv' : Nat → Int32} {av av' : Nat → Nat → Int32} {X : va_W} : (mw g q ad iv av X).map Prod.fst = (mw g q ad iv' av' X).map Prod.fst := rfl
abbrev mA (g : gT) (q : Nat) (ad : Nat → Nat) (X : va_W) (sz : Nat) : Nat → Prop := va_A (mw g q ad (fun _ => 0) (fun _ _ => 0) X) sz
def mPc (g : gT) (q : Nat) (ad : Nat → Nat) (X : va_W) (iv : Nat → Int32) (av : Nat → Nat → Int32) (vs : List Value) (sz : Nat) : Array Value → State → Prop := va_Pc vs (fun U => U.heap.size = sz ∧ kK g U ∧ va_P g.1 classes (mw g q ad iv av X) U.heap ∧ va_D (fun _ => True) (mw g q ad iv av X))
def mQc (g : gT) (q : Nat) (ad : Nat → Nat) (X : va_W) (rv : Option Value) (iv : Nat → Int32) (av : Nat → Nat → Int32) (sz : Nat) : Array Value → State → Outcome → State → Prop := fun _ st oc t => (oc = .returned rv ∧ va_P g.1 classes (mw g q ad iv av X) t.heap) ∧ va_F (mA g q ad X sz) st t
/-- a method's contract: from the reference's cells iv, av with the arguments vs it returns rv, and the cells are iv', av' -/
def mMet (l : Launch) (y : MethodName) (cc : ByteArray) (maxL : Nat) (ret : Option FieldType) (rm : Room) (g : gT) (q : Nat) (ad : Nat → Nat) (X : va_W) (iv : Nat → Int32) (av : Nat → Nat → Int32) (vs : List Value) (rv : Option Value) (iv' : Nat → Int32) (av' : Nat → Nat → Int32) : Prop :=
  ∀ sz : Nat, Met l y (.code y cc maxL ret :: gw) rm (mPc g q ad X iv av vs sz) (mQc g q ad X rv iv' av' sz) rm.cells rm.slots (mA g q ad X sz)
theorem mPc_blind {g : gT} {q : Nat} {ad : Nat → Nat} {X : va_W} {iv : Nat → Int32} {av : Nat → Nat → Int32} {vs : List Value} {sz : Nat} : FrameBlind (mPc g q ad X iv av vs sz) := fun a U gf mk h => ⟨h.1, h.2.1, kK.same (s := U) (U := U.calling gf mk a) rfl h.2.2.1, h.2.2.2.1, h.2.2.2.2⟩
/-- what the end of a walk must come to -/
abbrev mG (p : Program) (l : Launch) (e : Env) (R : Room) (s : State) (m : MethodId) (args : Array Value) (below : List Frame) (meth : Method) (c : Code) (g : gT) (q : Nat) (ad : Nat → Nat) (X : va_W) (rv : Option Value) (iv' : Nat → Int32) (av' : Nat → Nat → Int32) (H : Heap) (locs : List Loc) (cells slots : Nat) (f : JFrame) : Prop :=
  W p l e R s m args below meth c H locs cells slots (MQ below (mQc g q ad X rv iv' av' s.heap.size) args s R.cells R.slots (mA g q ad X s.heap.size)) f
theorem m_entry {l : Launch} {y : MethodName} {cc : ByteArray} {maxL : Nat} {ret : Option FieldType} {rm : Room} {g : gT} {q : Nat} {ad : Nat → Nat} {X : va_W} {iv iv' : Nat → Int32} {av av' : Nat → Nat → Int32} {vs : List Value} {rv : Option Value} (hy : plainName y.cls = true) (hn : (lg_sl vs).length ≤ maxL)
    (body : ∀ (p : Program) (e : Env) (s : State) (m : MethodId) (args : Array Value) (below : List Frame) (meth : Method) (c : Code) (ls : Array Slot), mCx p m c cc maxL s args g y.cls → meth.sig.returnType = ret → meth.locks = false → meth.name = y.name → lv_has ls maxL (lv_args 0 vs) → mWd g (mA g q ad X s.heap.size) s.heap q ad X iv av s.heap [] → mG p l e rm s m args below meth c g q ad X rv iv' av' s.heap [] 0 0 (F0 m 0 ls [])) :
    mMet l y cc maxL ret rm g q ad X iv av vs rv iv' av' := by
  intro sz
  refine Met.ofW (cc := cc) (maxL := maxL) (ret := ret) hy rfl ?_
  intro p e s m args below meth c s₁ B hml hv
  obtain ⟨rfl, hsz, hK, hP, hD0⟩ := hv
  subst hsz
  have hts := atoms_spec (ws := Cond.code y cc maxL ret :: gw) B.pre
  have hown : s.vm.findClass y.cls = some m.cls := findClass_of_methodNamed B.named
  have hl := lv_entry vs (n := maxL) hn
  rw [lg_entry_eq]
  exact body p e s m vs.toArray below meth c _ ⟨⟨B.exec, B.bytes, hml, hown, fun w hw => hts w (List.mem_cons_of_mem _ hw)⟩, hK⟩ B.returns B.notSynchronized (name_of_methodNamed B.named B.method).1 hl ⟨hP, va_D_map mw_map (hD0.self (sz := s.heap.size)) |> (fun h => by rw [show mA g q ad X s.heap.size = va_A (mw g q ad iv av X) s.heap.size from va_A_map mw_map]; exact h), va_S.rf, fun z hz => Or.inr hz⟩

theorem gw_715 : (Jvm.Cond.fieldLink "MidiDeskModel" (47 : Nat) "MidiDeskModel" "thrown" "I") ∈ gw := gw_in 715 (by decide +kernel) (by decide +kernel)
theorem gw_716 : (Jvm.Cond.fieldLink "MidiDeskModel" (7 : Nat) "MidiDeskModel" "input" "[I") ∈ gw := gw_in 716 (by decide +kernel) (by decide +kernel)
theorem gw_717 : (Jvm.Cond.fieldLink "MidiDeskModel" (51 : Nat) "MidiDeskModel" "size" "I") ∈ gw := gw_in 717 (by decide +kernel) (by decide +kernel)
theorem gw_718 : (Jvm.Cond.fieldLink "MidiDeskModel" (62 : Nat) "MidiDeskModel" "at" "I") ∈ gw := gw_in 718 (by decide +kernel) (by decide +kernel)
theorem gw_719 : (Jvm.Cond.fieldLink "MidiDeskModel" (65 : Nat) "MidiDeskModel" "end" "I") ∈ gw := gw_in 719 (by decide +kernel) (by decide +kernel)
theorem gw_720 : (Jvm.Cond.fieldLink "MidiDeskModel" (56 : Nat) "MidiDeskModel" "fault" "I") ∈ gw := gw_in 720 (by decide +kernel) (by decide +kernel)
theorem gw_721 : (Jvm.Cond.fieldLink "MidiDeskModel" (59 : Nat) "MidiDeskModel" "place" "I") ∈ gw := gw_in 721 (by decide +kernel) (by decide +kernel)
theorem gw_722 : (Jvm.Cond.fieldLink "MidiDeskModel" (110 : Nat) "MidiDeskModel" "there" "Z") ∈ gw := gw_in 722 (by decide +kernel) (by decide +kernel)
theorem gw_723 : (Jvm.Cond.fieldLink "MidiDeskModel" (82 : Nat) "MidiDeskModel" "format" "I") ∈ gw := gw_in 723 (by decide +kernel) (by decide +kernel)
theorem gw_724 : (Jvm.Cond.fieldLink "MidiDeskModel" (85 : Nat) "MidiDeskModel" "tracks" "I") ∈ gw := gw_in 724 (by decide +kernel) (by decide +kernel)
theorem gw_725 : (Jvm.Cond.fieldLink "MidiDeskModel" (88 : Nat) "MidiDeskModel" "division" "I") ∈ gw := gw_in 725 (by decide +kernel) (by decide +kernel)
theorem gw_726 : (Jvm.Cond.fieldLink "MidiDeskModel" (95 : Nat) "MidiDeskModel" "events" "I") ∈ gw := gw_in 726 (by decide +kernel) (by decide +kernel)
theorem gw_727 : (Jvm.Cond.fieldLink "MidiDeskModel" (98 : Nat) "MidiDeskModel" "many" "I") ∈ gw := gw_in 727 (by decide +kernel) (by decide +kernel)
theorem gw_728 : (Jvm.Cond.fieldLink "MidiDeskModel" (13 : Nat) "MidiDeskModel" "ticks" "[I") ∈ gw := gw_in 728 (by decide +kernel) (by decide +kernel)
theorem gw_729 : (Jvm.Cond.fieldLink "MidiDeskModel" (16 : Nat) "MidiDeskModel" "trackOf" "[I") ∈ gw := gw_in 729 (by decide +kernel) (by decide +kernel)
theorem gw_730 : (Jvm.Cond.fieldLink "MidiDeskModel" (19 : Nat) "MidiDeskModel" "status" "[I") ∈ gw := gw_in 730 (by decide +kernel) (by decide +kernel)
theorem gw_731 : (Jvm.Cond.fieldLink "MidiDeskModel" (22 : Nat) "MidiDeskModel" "first" "[I") ∈ gw := gw_in 731 (by decide +kernel) (by decide +kernel)
theorem gw_732 : (Jvm.Cond.fieldLink "MidiDeskModel" (25 : Nat) "MidiDeskModel" "second" "[I") ∈ gw := gw_in 732 (by decide +kernel) (by decide +kernel)
theorem gw_733 : (Jvm.Cond.fieldLink "MidiDeskModel" (28 : Nat) "MidiDeskModel" "from" "[I") ∈ gw := gw_in 733 (by decide +kernel) (by decide +kernel)
theorem gw_734 : (Jvm.Cond.fieldLink "MidiDeskModel" (31 : Nat) "MidiDeskModel" "counts" "[I") ∈ gw := gw_in 734 (by decide +kernel) (by decide +kernel)
theorem gw_735 : (Jvm.Cond.fieldLink "MidiDeskModel" (34 : Nat) "MidiDeskModel" "order" "[I") ∈ gw := gw_in 735 (by decide +kernel) (by decide +kernel)
theorem gw_736 : (Jvm.Cond.fieldLink "MidiDeskModel" (37 : Nat) "MidiDeskModel" "spare" "[I") ∈ gw := gw_in 736 (by decide +kernel) (by decide +kernel)
theorem gw_737 : (Jvm.Cond.fieldLink "MidiDeskModel" (40 : Nat) "MidiDeskModel" "bytes" "[I") ∈ gw := gw_in 737 (by decide +kernel) (by decide +kernel)
theorem gw_738 : (Jvm.Cond.fieldLink "MidiDeskModel" (44 : Nat) "MidiDeskModel" "written" "[I") ∈ gw := gw_in 738 (by decide +kernel) (by decide +kernel)
theorem gw_739 : (Jvm.Cond.fieldLink "MidiDeskModel" (187 : Nat) "MidiDeskModel" "writtenSize" "I") ∈ gw := gw_in 739 (by decide +kernel) (by decide +kernel)
theorem gw_740 : (Jvm.Cond.lays "MidiDeskModel" "MidiDeskModel" "thrown" "I") ∈ gw := gw_in 740 (by decide +kernel) (by decide +kernel)
theorem gw_742 : (Jvm.Cond.laysFinal "MidiDeskModel" "MidiDeskModel" "input" "[I") ∈ gw := gw_in 742 (by decide +kernel) (by decide +kernel)
theorem gw_744 : (Jvm.Cond.lays "MidiDeskModel" "MidiDeskModel" "size" "I") ∈ gw := gw_in 744 (by decide +kernel) (by decide +kernel)
theorem gw_746 : (Jvm.Cond.lays "MidiDeskModel" "MidiDeskModel" "at" "I") ∈ gw := gw_in 746 (by decide +kernel) (by decide +kernel)
theorem gw_748 : (Jvm.Cond.lays "MidiDeskModel" "MidiDeskModel" "end" "I") ∈ gw := gw_in 748 (by decide +kernel) (by decide +kernel)
theorem gw_750 : (Jvm.Cond.lays "MidiDeskModel" "MidiDeskModel" "fault" "I") ∈ gw := gw_in 750 (by decide +kernel) (by decide +kernel)
theorem gw_752 : (Jvm.Cond.lays "MidiDeskModel" "MidiDeskModel" "place" "I") ∈ gw := gw_in 752 (by decide +kernel) (by decide +kernel)
theorem gw_754 : (Jvm.Cond.lays "MidiDeskModel" "MidiDeskModel" "there" "Z") ∈ gw := gw_in 754 (by decide +kernel) (by decide +kernel)
theorem gw_756 : (Jvm.Cond.lays "MidiDeskModel" "MidiDeskModel" "format" "I") ∈ gw := gw_in 756 (by decide +kernel) (by decide +kernel)
theorem gw_758 : (Jvm.Cond.lays "MidiDeskModel" "MidiDeskModel" "tracks" "I") ∈ gw := gw_in 758 (by decide +kernel) (by decide +kernel)
theorem gw_760 : (Jvm.Cond.lays "MidiDeskModel" "MidiDeskModel" "division" "I") ∈ gw := gw_in 760 (by decide +kernel) (by decide +kernel)
theorem gw_762 : (Jvm.Cond.lays "MidiDeskModel" "MidiDeskModel" "events" "I") ∈ gw := gw_in 762 (by decide +kernel) (by decide +kernel)
theorem gw_764 : (Jvm.Cond.lays "MidiDeskModel" "MidiDeskModel" "many" "I") ∈ gw := gw_in 764 (by decide +kernel) (by decide +kernel)
theorem gw_766 : (Jvm.Cond.laysFinal "MidiDeskModel" "MidiDeskModel" "ticks" "[I") ∈ gw := gw_in 766 (by decide +kernel) (by decide +kernel)
theorem gw_768 : (Jvm.Cond.laysFinal "MidiDeskModel" "MidiDeskModel" "trackOf" "[I") ∈ gw := gw_in 768 (by decide +kernel) (by decide +kernel)
theorem gw_770 : (Jvm.Cond.laysFinal "MidiDeskModel" "MidiDeskModel" "status" "[I") ∈ gw := gw_in 770 (by decide +kernel) (by decide +kernel)
theorem gw_772 : (Jvm.Cond.laysFinal "MidiDeskModel" "MidiDeskModel" "first" "[I") ∈ gw := gw_in 772 (by decide +kernel) (by decide +kernel)
theorem gw_774 : (Jvm.Cond.laysFinal "MidiDeskModel" "MidiDeskModel" "second" "[I") ∈ gw := gw_in 774 (by decide +kernel) (by decide +kernel)
theorem gw_776 : (Jvm.Cond.laysFinal "MidiDeskModel" "MidiDeskModel" "from" "[I") ∈ gw := gw_in 776 (by decide +kernel) (by decide +kernel)
theorem gw_778 : (Jvm.Cond.laysFinal "MidiDeskModel" "MidiDeskModel" "counts" "[I") ∈ gw := gw_in 778 (by decide +kernel) (by decide +kernel)
theorem gw_780 : (Jvm.Cond.laysFinal "MidiDeskModel" "MidiDeskModel" "order" "[I") ∈ gw := gw_in 780 (by decide +kernel) (by decide +kernel)
theorem gw_782 : (Jvm.Cond.laysFinal "MidiDeskModel" "MidiDeskModel" "spare" "[I") ∈ gw := gw_in 782 (by decide +kernel) (by decide +kernel)
theorem gw_784 : (Jvm.Cond.laysFinal "MidiDeskModel" "MidiDeskModel" "bytes" "[I") ∈ gw := gw_in 784 (by decide +kernel) (by decide +kernel)
theorem gw_786 : (Jvm.Cond.laysFinal "MidiDeskModel" "MidiDeskModel" "written" "[I") ∈ gw := gw_in 786 (by decide +kernel) (by decide +kernel)
theorem gw_788 : (Jvm.Cond.lays "MidiDeskModel" "MidiDeskModel" "writtenSize" "I") ∈ gw := gw_in 788 (by decide +kernel) (by decide +kernel)
theorem i_Model : ∀ w ∈ u_ws R_Model F_Model 25, w ∈ gw := List.forall_mem_cons.mpr ⟨gw_740, List.forall_mem_cons.mpr ⟨gw_742, List.forall_mem_cons.mpr ⟨gw_744, List.forall_mem_cons.mpr ⟨gw_746, List.forall_mem_cons.mpr ⟨gw_748, List.forall_mem_cons.mpr ⟨gw_750, List.forall_mem_cons.mpr ⟨gw_752, List.forall_mem_cons.mpr ⟨gw_754, List.forall_mem_cons.mpr ⟨gw_756, List.forall_mem_cons.mpr ⟨gw_758, List.forall_mem_cons.mpr ⟨gw_760, List.forall_mem_cons.mpr ⟨gw_762, List.forall_mem_cons.mpr ⟨gw_764, List.forall_mem_cons.mpr ⟨gw_766, List.forall_mem_cons.mpr ⟨gw_768, List.forall_mem_cons.mpr ⟨gw_770, List.forall_mem_cons.mpr ⟨gw_772, List.forall_mem_cons.mpr ⟨gw_774, List.forall_mem_cons.mpr ⟨gw_776, List.forall_mem_cons.mpr ⟨gw_778, List.forall_mem_cons.mpr ⟨gw_780, List.forall_mem_cons.mpr ⟨gw_782, List.forall_mem_cons.mpr ⟨gw_784, List.forall_mem_cons.mpr ⟨gw_786, List.forall_mem_cons.mpr ⟨gw_788, fun _ h => absurd h List.not_mem_nil⟩⟩⟩⟩⟩⟩⟩⟩⟩⟩⟩⟩⟩⟩⟩⟩⟩⟩⟩⟩⟩⟩⟩⟩⟩
section MR
variable {p : Program} {l : Launch} {e : Env} {R : Room} {s : State} {m : MethodId} {args : Array Value} {below : List Frame} {meth : Method} {c : Code} {H : Heap} {locs : List Loc} {cells slots : Nat} {Q : State → Prop} {cc : ByteArray} {nL pc : Nat} {ls : Array Slot} {rest : List Value} {g : gT} {A : Nat → Prop} {H0 : Heap} {q : Nat} {ad : Nat → Nat} {X : va_W} {iv : Nat → Int32} {av : Nat → Nat → Int32}
theorem m_free {sz : Nat} (hw : mWd g A H0 q ad X iv av H locs) (hs : H.size = sz) : ∀ z, mA g q ad X sz z → A z := by
  subst hs
  intro z hz
  rcases hz with ⟨k, x, h⟩ | h
  · have e : (mw g q ad (fun _ => 0) (fun _ _ => 0) X).map Prod.fst = (mw g q ad iv av X).map Prod.fst := mw_map
    have h1 : ((mw g q ad iv av X).map Prod.fst)[k]? = some z := by rw [← e, List.getElem?_map, h]; rfl
    rw [List.getElem?_map] at h1
    cases hq : (mw g q ad iv av X)[k]? with
    | none => rw [hq] at h1; cases h1
    | some q0 =>
      rw [hq] at h1
      have := hw.2.1.2 k q0 hq
      rw [Option.some.inj h1] at this
      exact this
  · exact hw.2.2.2 z (Nat.le_trans hw.2.2.1.1 h)
theorem m_pre {vs : List Value} (hk : kK g s) (hw : mWd g A H0 q ad X iv av H locs) : ∀ U : State, U.heap = H → s.WarmedH U.vm → mPc g q ad X iv av vs H.size vs.toArray U := fun U hU hW => ⟨rfl, by rw [hU], kK.moved hW hk, by rw [hU]; exact hw.1, hw.2.1.weaken (fun _ _ _ _ => trivial)⟩
theorem m_recv (hk : kK g s) (hw : mWd g A H0 q ad X iv av H locs) : ∃ cellB : Cell, H[q]? = some cellB ∧ cellB.vm.isStatics = false ∧ s.vm.findClass "MidiDeskModel" = some cellB.cls := va_recv (ci := 6) (q0 := 0) hk.1 hw.1 rfl rfl
/-- a call of one of the reference's own methods -/
theorem m_callV {y : MethodName} {bytes : ByteArray} {maxL index n : Nat} {ret : Option FieldType} {rm : Room} {As : List Value} {rv : Option Value} {iv' : Nat → Int32} {av' : Nat → Nat → Int32} {st0 : List Value} (C : mCx p m c cc nL s args g "MidiDeskModel") (hl : ls.size = nL) (hw : mWd g A H0 q ad X iv av H locs)
    (hM : mMet l y bytes maxL ret rm g q ad X iv av (.ref q :: As) rv iv' av') (cw : CallW R s args "MidiDeskModel" "MidiDeskModel" index y bytes maxL ret (Cond.code y bytes maxL ret :: gw) rm rm.cells rm.slots n)
    (hn : As.length = n) (hst : st0 = As.reverse ++ .ref q :: rest) (hr : (rest.map fun v => v.category).sum ≤ 8) (hdg : decode cc pc = .ok (.invokevirtual index, 3)) (hf : cells + rm.cells ≤ R.cells ∧ slots + rm.slots ≤ R.slots)
    (kk : ∀ (H1 : Heap) (locs1 : List Loc), mWd g A H0 q ad X iv' av' H1 locs1 → W p l e R s m args below meth c H1 locs1 (cells + rm.cells) (slots + rm.slots) Q (F0 m (pc + 3) ls (rv.toList ++ rest))) : W p l e R s m args below meth c H locs cells slots Q (F0 m pc ls st0) := by
  refine x_call (B := fun h => va_P g.1 classes (mw g q ad iv' av' X) h) (rv := rv) (va_runV (As := As) (rest := rest) C.1 (hM H.size) cw ⟨mPc_blind, m_recv C.2 hw, m_pre C.2 hw⟩ rfl hn hl hst (lv_room hr) hdg hf) hw.2.2.1 (fun z _ h => m_free hw rfl z h) (m_free hw rfl) (fun H1 locs1 hB hS => kk H1 locs1 ⟨hB, va_D_map mw_map hw.2.1, hS, hw.2.2.2⟩)
theorem m_callS {y : MethodName} {bytes : ByteArray} {maxL index n : Nat} {ret : Option FieldType} {rm : Room} {As : List Value} {rv : Option Value} {iv' : Nat → Int32} {av' : Nat → Nat → Int32} {st0 : List Value} (C : mCx p m c cc nL s args g "MidiDeskModel") (hl : ls.size = nL) (hw : mWd g A H0 q ad X iv av H locs)
    (hM : mMet l y bytes maxL ret rm g q ad X iv av As rv iv' av') (cw : CallB R s args "MidiDeskModel" index y bytes maxL ret (Cond.code y bytes maxL ret :: gw) rm rm.cells rm.slots n ∧ (Cond.static y).before args s = true)
    (hn : As.length = n) (hst : st0 = As.reverse ++ rest) (hr : (rest.map fun v => v.category).sum ≤ 8) (hdg : decode cc pc = .ok (.invokestatic index, 3)) (hf : cells + rm.cells ≤ R.cells ∧ slots + rm.slots ≤ R.slots)
    (kk : ∀ (H1 : Heap) (locs1 : List Loc), mWd g A H0 q ad X iv' av' H1 locs1 → W p l e R s m args below meth c H1 locs1 (cells + rm.cells) (slots + rm.slots) Q (F0 m (pc + 3) ls (rv.toList ++ rest))) : W p l e R s m args below meth c H locs cells slots Q (F0 m pc ls st0) := by
  refine x_call (B := fun h => va_P g.1 classes (mw g q ad iv' av' X) h) (rv := rv) (va_runS (As := As) (rest := rest) C.1 (hM H.size) cw ⟨mPc_blind, m_pre C.2 hw⟩ rfl hn hl hst (lv_room hr) hdg hf) hw.2.2.1 (fun z _ h => m_free hw rfl z h) (m_free hw rfl) (fun H1 locs1 hB hS => kk H1 locs1 ⟨hB, va_D_map mw_map hw.2.1, hS, hw.2.2.2⟩)

theorem mg_thrown (C : mCx p m c cc nL s args g "MidiDeskModel") (hw : mWd g A H0 q ad X iv av H locs) (hdg : decode cc pc = .ok (.getfield 47, 3)) (kk : W p l e R s m args below meth c H locs cells slots Q (F0 m (pc + 3) ls (.int (iv 0) :: rest))) : W p l e R s m args below meth c H locs cells slots Q (F0 m pc ls (.ref q :: rest)) :=
  va_get (ci := 6) (C := R_Model) (T := F_Model) (N := 25) C.1.1 C.1.2.1 C.1.2.2.2.2 i_Model C.1.2.2.2.1 C.2.1 hw.1 0 rfl rfl 0 (by decide) (C.1.2.2.2.2 _ gw_715) (fun _ h => h) rfl hdg kk
theorem mp_thrown {x : Int32} (C : mCx p m c cc nL s args g "MidiDeskModel") (hw : mWd g A H0 q ad X iv av H locs) (hdg : decode cc pc = .ok (.putfield 47, 3)) (kk : ∀ (H1 : Heap) (locs1 : List Loc), mWd g A H0 q ad X (upd iv 0 x) av H1 locs1 → W p l e R s m args below meth c H1 locs1 cells slots Q (F0 m (pc + 3) ls rest)) : W p l e R s m args below meth c H locs cells slots Q (F0 m pc ls (.int x :: .ref q :: rest)) :=
  va_put (ci := 6) (ty := .int) (v := .int x) (C := R_Model) (T := F_Model) (N := 25) C.1.1 C.1.2.1 C.1.2.2.2.2 i_Model t_Model t_Model_ok n_Model C.1.2.2.2.1 C.2.1 hw.1 hw.2.1 hw.2.2.1 0 rfl rfl 0 (by decide) (C.1.2.2.2.2 _ gw_715) (fun _ h => h) rfl (by decide +kernel) rfl rfl (Nat.le_of_ble_eq_true rfl) hdg (fun H1 locs1 hP hD hS => kk H1 locs1 ⟨hP, hD, hS, hw.2.2.2⟩)
theorem mg_input (C : mCx p m c cc nL s args g "MidiDeskModel") (hw : mWd g A H0 q ad X iv av H locs) (hdg : decode cc pc = .ok (.getfield 7, 3)) (kk : W p l e R s m args below meth c H locs cells slots Q (F0 m (pc + 3) ls (.ref (ad 0) :: rest))) : W p l e R s m args below meth c H locs cells slots Q (F0 m pc ls (.ref q :: rest)) :=
  va_get (ci := 6) (C := R_Model) (T := F_Model) (N := 25) C.1.1 C.1.2.1 C.1.2.2.2.2 i_Model C.1.2.2.2.1 C.2.1 hw.1 0 rfl rfl 1 (by decide) (C.1.2.2.2.2 _ gw_716) (fun _ h => h) rfl hdg kk
theorem mg_size (C : mCx p m c cc nL s args g "MidiDeskModel") (hw : mWd g A H0 q ad X iv av H locs) (hdg : decode cc pc = .ok (.getfield 51, 3)) (kk : W p l e R s m args below meth c H locs cells slots Q (F0 m (pc + 3) ls (.int (iv 1) :: rest))) : W p l e R s m args below meth c H locs cells slots Q (F0 m pc ls (.ref q :: rest)) :=
  va_get (ci := 6) (C := R_Model) (T := F_Model) (N := 25) C.1.1 C.1.2.1 C.1.2.2.2.2 i_Model C.1.2.2.2.1 C.2.1 hw.1 0 rfl rfl 2 (by decide) (C.1.2.2.2.2 _ gw_717) (fun _ h => h) rfl hdg kk
theorem mp_size {x : Int32} (C : mCx p m c cc nL s args g "MidiDeskModel") (hw : mWd g A H0 q ad X iv av H locs) (hdg : decode cc pc = .ok (.putfield 51, 3)) (kk : ∀ (H1 : Heap) (locs1 : List Loc), mWd g A H0 q ad X (upd iv 1 x) av H1 locs1 → W p l e R s m args below meth c H1 locs1 cells slots Q (F0 m (pc + 3) ls rest)) : W p l e R s m args below meth c H locs cells slots Q (F0 m pc ls (.int x :: .ref q :: rest)) :=
  va_put (ci := 6) (ty := .int) (v := .int x) (C := R_Model) (T := F_Model) (N := 25) C.1.1 C.1.2.1 C.1.2.2.2.2 i_Model t_Model t_Model_ok n_Model C.1.2.2.2.1 C.2.1 hw.1 hw.2.1 hw.2.2.1 0 rfl rfl 2 (by decide) (C.1.2.2.2.2 _ gw_717) (fun _ h => h) rfl (by decide +kernel) rfl rfl (Nat.le_of_ble_eq_true rfl) hdg (fun H1 locs1 hP hD hS => kk H1 locs1 ⟨hP, hD, hS, hw.2.2.2⟩)
theorem mg_at (C : mCx p m c cc nL s args g "MidiDeskModel") (hw : mWd g A H0 q ad X iv av H locs) (hdg : decode cc pc = .ok (.getfield 62, 3)) (kk : W p l e R s m args below meth c H locs cells slots Q (F0 m (pc + 3) ls (.int (iv 2) :: rest))) : W p l e R s m args below meth c H locs cells slots Q (F0 m pc ls (.ref q :: rest)) :=
  va_get (ci := 6) (C := R_Model) (T := F_Model) (N := 25) C.1.1 C.1.2.1 C.1.2.2.2.2 i_Model C.1.2.2.2.1 C.2.1 hw.1 0 rfl rfl 3 (by decide) (C.1.2.2.2.2 _ gw_718) (fun _ h => h) rfl hdg kk
theorem mp_at {x : Int32} (C : mCx p m c cc nL s args g "MidiDeskModel") (hw : mWd g A H0 q ad X iv av H locs) (hdg : decode cc pc = .ok (.putfield 62, 3)) (kk : ∀ (H1 : Heap) (locs1 : List Loc), mWd g A H0 q ad X (upd iv 2 x) av H1 locs1 → W p l e R s m args below meth c H1 locs1 cells slots Q (F0 m (pc + 3) ls rest)) : W p l e R s m args below meth c H locs cells slots Q (F0 m pc ls (.int x :: .ref q :: rest)) :=
  va_put (ci := 6) (ty := .int) (v := .int x) (C := R_Model) (T := F_Model) (N := 25) C.1.1 C.1.2.1 C.1.2.2.2.2 i_Model t_Model t_Model_ok n_Model C.1.2.2.2.1 C.2.1 hw.1 hw.2.1 hw.2.2.1 0 rfl rfl 3 (by decide) (C.1.2.2.2.2 _ gw_718) (fun _ h => h) rfl (by decide +kernel) rfl rfl (Nat.le_of_ble_eq_true rfl) hdg (fun H1 locs1 hP hD hS => kk H1 locs1 ⟨hP, hD, hS, hw.2.2.2⟩)
theorem mg_end (C : mCx p m c cc nL s args g "MidiDeskModel") (hw : mWd g A H0 q ad X iv av H locs) (hdg : decode cc pc = .ok (.getfield 65, 3)) (kk : W p l e R s m args below meth c H locs cells slots Q (F0 m (pc + 3) ls (.int (iv 3) :: rest))) : W p l e R s m args below meth c H locs cells slots Q (F0 m pc ls (.ref q :: rest)) :=
  va_get (ci := 6) (C := R_Model) (T := F_Model) (N := 25) C.1.1 C.1.2.1 C.1.2.2.2.2 i_Model C.1.2.2.2.1 C.2.1 hw.1 0 rfl rfl 4 (by decide) (C.1.2.2.2.2 _ gw_719) (fun _ h => h) rfl hdg kk
theorem mp_end {x : Int32} (C : mCx p m c cc nL s args g "MidiDeskModel") (hw : mWd g A H0 q ad X iv av H locs) (hdg : decode cc pc = .ok (.putfield 65, 3)) (kk : ∀ (H1 : Heap) (locs1 : List Loc), mWd g A H0 q ad X (upd iv 3 x) av H1 locs1 → W p l e R s m args below meth c H1 locs1 cells slots Q (F0 m (pc + 3) ls rest)) : W p l e R s m args below meth c H locs cells slots Q (F0 m pc ls (.int x :: .ref q :: rest)) :=
  va_put (ci := 6) (ty := .int) (v := .int x) (C := R_Model) (T := F_Model) (N := 25) C.1.1 C.1.2.1 C.1.2.2.2.2 i_Model t_Model t_Model_ok n_Model C.1.2.2.2.1 C.2.1 hw.1 hw.2.1 hw.2.2.1 0 rfl rfl 4 (by decide) (C.1.2.2.2.2 _ gw_719) (fun _ h => h) rfl (by decide +kernel) rfl rfl (Nat.le_of_ble_eq_true rfl) hdg (fun H1 locs1 hP hD hS => kk H1 locs1 ⟨hP, hD, hS, hw.2.2.2⟩)
theorem mg_fault (C : mCx p m c cc nL s args g "MidiDeskModel") (hw : mWd g A H0 q ad X iv av H locs) (hdg : decode cc pc = .ok (.getfield 56, 3)) (kk : W p l e R s m args below meth c H locs cells slots Q (F0 m (pc + 3) ls (.int (iv 4) :: rest))) : W p l e R s m args below meth c H locs cells slots Q (F0 m pc ls (.ref q :: rest)) :=
  va_get (ci := 6) (C := R_Model) (T := F_Model) (N := 25) C.1.1 C.1.2.1 C.1.2.2.2.2 i_Model C.1.2.2.2.1 C.2.1 hw.1 0 rfl rfl 5 (by decide) (C.1.2.2.2.2 _ gw_720) (fun _ h => h) rfl hdg kk
theorem mp_fault {x : Int32} (C : mCx p m c cc nL s args g "MidiDeskModel") (hw : mWd g A H0 q ad X iv av H locs) (hdg : decode cc pc = .ok (.putfield 56, 3)) (kk : ∀ (H1 : Heap) (locs1 : List Loc), mWd g A H0 q ad X (upd iv 4 x) av H1 locs1 → W p l e R s m args below meth c H1 locs1 cells slots Q (F0 m (pc + 3) ls rest)) : W p l e R s m args below meth c H locs cells slots Q (F0 m pc ls (.int x :: .ref q :: rest)) :=
  va_put (ci := 6) (ty := .int) (v := .int x) (C := R_Model) (T := F_Model) (N := 25) C.1.1 C.1.2.1 C.1.2.2.2.2 i_Model t_Model t_Model_ok n_Model C.1.2.2.2.1 C.2.1 hw.1 hw.2.1 hw.2.2.1 0 rfl rfl 5 (by decide) (C.1.2.2.2.2 _ gw_720) (fun _ h => h) rfl (by decide +kernel) rfl rfl (Nat.le_of_ble_eq_true rfl) hdg (fun H1 locs1 hP hD hS => kk H1 locs1 ⟨hP, hD, hS, hw.2.2.2⟩)
theorem mg_place (C : mCx p m c cc nL s args g "MidiDeskModel") (hw : mWd g A H0 q ad X iv av H locs) (hdg : decode cc pc = .ok (.getfield 59, 3)) (kk : W p l e R s m args below meth c H locs cells slots Q (F0 m (pc + 3) ls (.int (iv 5) :: rest))) : W p l e R s m args below meth c H locs cells slots Q (F0 m pc ls (.ref q :: rest)) :=
  va_get (ci := 6) (C := R_Model) (T := F_Model) (N := 25) C.1.1 C.1.2.1 C.1.2.2.2.2 i_Model C.1.2.2.2.1 C.2.1 hw.1 0 rfl rfl 6 (by decide) (C.1.2.2.2.2 _ gw_721) (fun _ h => h) rfl hdg kk
theorem mp_place {x : Int32} (C : mCx p m c cc nL s args g "MidiDeskModel") (hw : mWd g A H0 q ad X iv av H locs) (hdg : decode cc pc = .ok (.putfield 59, 3)) (kk : ∀ (H1 : Heap) (locs1 : List Loc), mWd g A H0 q ad X (upd iv 5 x) av H1 locs1 → W p l e R s m args below meth c H1 locs1 cells slots Q (F0 m (pc + 3) ls rest)) : W p l e R s m args below meth c H locs cells slots Q (F0 m pc ls (.int x :: .ref q :: rest)) :=
  va_put (ci := 6) (ty := .int) (v := .int x) (C := R_Model) (T := F_Model) (N := 25) C.1.1 C.1.2.1 C.1.2.2.2.2 i_Model t_Model t_Model_ok n_Model C.1.2.2.2.1 C.2.1 hw.1 hw.2.1 hw.2.2.1 0 rfl rfl 6 (by decide) (C.1.2.2.2.2 _ gw_721) (fun _ h => h) rfl (by decide +kernel) rfl rfl (Nat.le_of_ble_eq_true rfl) hdg (fun H1 locs1 hP hD hS => kk H1 locs1 ⟨hP, hD, hS, hw.2.2.2⟩)
theorem mg_there (C : mCx p m c cc nL s args g "MidiDeskModel") (hw : mWd g A H0 q ad X iv av H locs) (hdg : decode cc pc = .ok (.getfield 110, 3)) (kk : W p l e R s m args below meth c H locs cells slots Q (F0 m (pc + 3) ls (.int (iv 6) :: rest))) : W p l e R s m args below meth c H locs cells slots Q (F0 m pc ls (.ref q :: rest)) :=
  va_get (ci := 6) (C := R_Model) (T := F_Model) (N := 25) C.1.1 C.1.2.1 C.1.2.2.2.2 i_Model C.1.2.2.2.1 C.2.1 hw.1 0 rfl rfl 7 (by decide) (C.1.2.2.2.2 _ gw_722) (fun _ h => h) rfl hdg kk
theorem mp_there {x : Int32} (C : mCx p m c cc nL s args g "MidiDeskModel") (hw : mWd g A H0 q ad X iv av H locs) (hz : x = 0 ∨ x = 1) (hdg : decode cc pc = .ok (.putfield 110, 3)) (kk : ∀ (H1 : Heap) (locs1 : List Loc), mWd g A H0 q ad X (upd iv 6 x) av H1 locs1 → W p l e R s m args below meth c H1 locs1 cells slots Q (F0 m (pc + 3) ls rest)) : W p l e R s m args below meth c H locs cells slots Q (F0 m pc ls (.int x :: .ref q :: rest)) :=
  va_put (ci := 6) (ty := .boolean) (v := .int x) (C := R_Model) (T := F_Model) (N := 25) C.1.1 C.1.2.1 C.1.2.2.2.2 i_Model t_Model t_Model_ok n_Model C.1.2.2.2.1 C.2.1 hw.1 hw.2.1 hw.2.2.1 0 rfl rfl 7 (by decide) (C.1.2.2.2.2 _ gw_722) (fun _ h => h) rfl (by decide +kernel) (by rcases hz with rfl | rfl <;> rfl) (by rcases hz with rfl | rfl <;> rfl) (Nat.le_of_ble_eq_true rfl) hdg (fun H1 locs1 hP hD hS => kk H1 locs1 ⟨hP, hD, hS, hw.2.2.2⟩)
theorem mg_format (C : mCx p m c cc nL s args g "MidiDeskModel") (hw : mWd g A H0 q ad X iv av H locs) (hdg : decode cc pc = .ok (.getfield 82, 3)) (kk : W p l e R s m args below meth c H locs cells slots Q (F0 m (pc + 3) ls (.int (iv 7) :: rest))) : W p l e R s m args below meth c H locs cells slots Q (F0 m pc ls (.ref q :: rest)) :=
  va_get (ci := 6) (C := R_Model) (T := F_Model) (N := 25) C.1.1 C.1.2.1 C.1.2.2.2.2 i_Model C.1.2.2.2.1 C.2.1 hw.1 0 rfl rfl 8 (by decide) (C.1.2.2.2.2 _ gw_723) (fun _ h => h) rfl hdg kk
theorem mp_format {x : Int32} (C : mCx p m c cc nL s args g "MidiDeskModel") (hw : mWd g A H0 q ad X iv av H locs) (hdg : decode cc pc = .ok (.putfield 82, 3)) (kk : ∀ (H1 : Heap) (locs1 : List Loc), mWd g A H0 q ad X (upd iv 7 x) av H1 locs1 → W p l e R s m args below meth c H1 locs1 cells slots Q (F0 m (pc + 3) ls rest)) : W p l e R s m args below meth c H locs cells slots Q (F0 m pc ls (.int x :: .ref q :: rest)) :=
  va_put (ci := 6) (ty := .int) (v := .int x) (C := R_Model) (T := F_Model) (N := 25) C.1.1 C.1.2.1 C.1.2.2.2.2 i_Model t_Model t_Model_ok n_Model C.1.2.2.2.1 C.2.1 hw.1 hw.2.1 hw.2.2.1 0 rfl rfl 8 (by decide) (C.1.2.2.2.2 _ gw_723) (fun _ h => h) rfl (by decide +kernel) rfl rfl (Nat.le_of_ble_eq_true rfl) hdg (fun H1 locs1 hP hD hS => kk H1 locs1 ⟨hP, hD, hS, hw.2.2.2⟩)
theorem mg_tracks (C : mCx p m c cc nL s args g "MidiDeskModel") (hw : mWd g A H0 q ad X iv av H locs) (hdg : decode cc pc = .ok (.getfield 85, 3)) (kk : W p l e R s m args below meth c H locs cells slots Q (F0 m (pc + 3) ls (.int (iv 8) :: rest))) : W p l e R s m args below meth c H locs cells slots Q (F0 m pc ls (.ref q :: rest)) :=
  va_get (ci := 6) (C := R_Model) (T := F_Model) (N := 25) C.1.1 C.1.2.1 C.1.2.2.2.2 i_Model C.1.2.2.2.1 C.2.1 hw.1 0 rfl rfl 9 (by decide) (C.1.2.2.2.2 _ gw_724) (fun _ h => h) rfl hdg kk
theorem mp_tracks {x : Int32} (C : mCx p m c cc nL s args g "MidiDeskModel") (hw : mWd g A H0 q ad X iv av H locs) (hdg : decode cc pc = .ok (.putfield 85, 3)) (kk : ∀ (H1 : Heap) (locs1 : List Loc), mWd g A H0 q ad X (upd iv 8 x) av H1 locs1 → W p l e R s m args below meth c H1 locs1 cells slots Q (F0 m (pc + 3) ls rest)) : W p l e R s m args below meth c H locs cells slots Q (F0 m pc ls (.int x :: .ref q :: rest)) :=
  va_put (ci := 6) (ty := .int) (v := .int x) (C := R_Model) (T := F_Model) (N := 25) C.1.1 C.1.2.1 C.1.2.2.2.2 i_Model t_Model t_Model_ok n_Model C.1.2.2.2.1 C.2.1 hw.1 hw.2.1 hw.2.2.1 0 rfl rfl 9 (by decide) (C.1.2.2.2.2 _ gw_724) (fun _ h => h) rfl (by decide +kernel) rfl rfl (Nat.le_of_ble_eq_true rfl) hdg (fun H1 locs1 hP hD hS => kk H1 locs1 ⟨hP, hD, hS, hw.2.2.2⟩)
theorem mg_division (C : mCx p m c cc nL s args g "MidiDeskModel") (hw : mWd g A H0 q ad X iv av H locs) (hdg : decode cc pc = .ok (.getfield 88, 3)) (kk : W p l e R s m args below meth c H locs cells slots Q (F0 m (pc + 3) ls (.int (iv 9) :: rest))) : W p l e R s m args below meth c H locs cells slots Q (F0 m pc ls (.ref q :: rest)) :=
  va_get (ci := 6) (C := R_Model) (T := F_Model) (N := 25) C.1.1 C.1.2.1 C.1.2.2.2.2 i_Model C.1.2.2.2.1 C.2.1 hw.1 0 rfl rfl 10 (by decide) (C.1.2.2.2.2 _ gw_725) (fun _ h => h) rfl hdg kk
theorem mp_division {x : Int32} (C : mCx p m c cc nL s args g "MidiDeskModel") (hw : mWd g A H0 q ad X iv av H locs) (hdg : decode cc pc = .ok (.putfield 88, 3)) (kk : ∀ (H1 : Heap) (locs1 : List Loc), mWd g A H0 q ad X (upd iv 9 x) av H1 locs1 → W p l e R s m args below meth c H1 locs1 cells slots Q (F0 m (pc + 3) ls rest)) : W p l e R s m args below meth c H locs cells slots Q (F0 m pc ls (.int x :: .ref q :: rest)) :=
  va_put (ci := 6) (ty := .int) (v := .int x) (C := R_Model) (T := F_Model) (N := 25) C.1.1 C.1.2.1 C.1.2.2.2.2 i_Model t_Model t_Model_ok n_Model C.1.2.2.2.1 C.2.1 hw.1 hw.2.1 hw.2.2.1 0 rfl rfl 10 (by decide) (C.1.2.2.2.2 _ gw_725) (fun _ h => h) rfl (by decide +kernel) rfl rfl (Nat.le_of_ble_eq_true rfl) hdg (fun H1 locs1 hP hD hS => kk H1 locs1 ⟨hP, hD, hS, hw.2.2.2⟩)
theorem mg_events (C : mCx p m c cc nL s args g "MidiDeskModel") (hw : mWd g A H0 q ad X iv av H locs) (hdg : decode cc pc = .ok (.getfield 95, 3)) (kk : W p l e R s m args below meth c H locs cells slots Q (F0 m (pc + 3) ls (.int (iv 10) :: rest))) : W p l e R s m args below meth c H locs cells slots Q (F0 m pc ls (.ref q :: rest)) :=
  va_get (ci := 6) (C := R_Model) (T := F_Model) (N := 25) C.1.1 C.1.2.1 C.1.2.2.2.2 i_Model C.1.2.2.2.1 C.2.1 hw.1 0 rfl rfl 11 (by decide) (C.1.2.2.2.2 _ gw_726) (fun _ h => h) rfl hdg kk
theorem mp_events {x : Int32} (C : mCx p m c cc nL s args g "MidiDeskModel") (hw : mWd g A H0 q ad X iv av H locs) (hdg : decode cc pc = .ok (.putfield 95, 3)) (kk : ∀ (H1 : Heap) (locs1 : List Loc), mWd g A H0 q ad X (upd iv 10 x) av H1 locs1 → W p l e R s m args below meth c H1 locs1 cells slots Q (F0 m (pc + 3) ls rest)) : W p l e R s m args below meth c H locs cells slots Q (F0 m pc ls (.int x :: .ref q :: rest)) :=
  va_put (ci := 6) (ty := .int) (v := .int x) (C := R_Model) (T := F_Model) (N := 25) C.1.1 C.1.2.1 C.1.2.2.2.2 i_Model t_Model t_Model_ok n_Model C.1.2.2.2.1 C.2.1 hw.1 hw.2.1 hw.2.2.1 0 rfl rfl 11 (by decide) (C.1.2.2.2.2 _ gw_726) (fun _ h => h) rfl (by decide +kernel) rfl rfl (Nat.le_of_ble_eq_true rfl) hdg (fun H1 locs1 hP hD hS => kk H1 locs1 ⟨hP, hD, hS, hw.2.2.2⟩)
theorem mg_many (C : mCx p m c cc nL s args g "MidiDeskModel") (hw : mWd g A H0 q ad X iv av H locs) (hdg : decode cc pc = .ok (.getfield 98, 3)) (kk : W p l e R s m args below meth c H locs cells slots Q (F0 m (pc + 3) ls (.int (iv 11) :: rest))) : W p l e R s m args below meth c H locs cells slots Q (F0 m pc ls (.ref q :: rest)) :=
  va_get (ci := 6) (C := R_Model) (T := F_Model) (N := 25) C.1.1 C.1.2.1 C.1.2.2.2.2 i_Model C.1.2.2.2.1 C.2.1 hw.1 0 rfl rfl 12 (by decide) (C.1.2.2.2.2 _ gw_727) (fun _ h => h) rfl hdg kk
theorem mp_many {x : Int32} (C : mCx p m c cc nL s args g "MidiDeskModel") (hw : mWd g A H0 q ad X iv av H locs) (hdg : decode cc pc = .ok (.putfield 98, 3)) (kk : ∀ (H1 : Heap) (locs1 : List Loc), mWd g A H0 q ad X (upd iv 11 x) av H1 locs1 → W p l e R s m args below meth c H1 locs1 cells slots Q (F0 m (pc + 3) ls rest)) : W p l e R s m args below meth c H locs cells slots Q (F0 m pc ls (.int x :: .ref q :: rest)) :=
  va_put (ci := 6) (ty := .int) (v := .int x) (C := R_Model) (T := F_Model) (N := 25) C.1.1 C.1.2.1 C.1.2.2.2.2 i_Model t_Model t_Model_ok n_Model C.1.2.2.2.1 C.2.1 hw.1 hw.2.1 hw.2.2.1 0 rfl rfl 12 (by decide) (C.1.2.2.2.2 _ gw_727) (fun _ h => h) rfl (by decide +kernel) rfl rfl (Nat.le_of_ble_eq_true rfl) hdg (fun H1 locs1 hP hD hS => kk H1 locs1 ⟨hP, hD, hS, hw.2.2.2⟩)
theorem mg_ticks (C : mCx p m c cc nL s args g "MidiDeskModel") (hw : mWd g A H0 q ad X iv av H locs) (hdg : decode cc pc = .ok (.getfield 13, 3)) (kk : W p l e R s m args below meth c H locs cells slots Q (F0 m (pc + 3) ls (.ref (ad 1) :: rest))) : W p l e R s m args below meth c H locs cells slots Q (F0 m pc ls (.ref q :: rest)) :=
  va_get (ci := 6) (C := R_Model) (T := F_Model) (N := 25) C.1.1 C.1.2.1 C.1.2.2.2.2 i_Model C.1.2.2.2.1 C.2.1 hw.1 0 rfl rfl 13 (by decide) (C.1.2.2.2.2 _ gw_728) (fun _ h => h) rfl hdg kk
theorem mg_trackOf (C : mCx p m c cc nL s args g "MidiDeskModel") (hw : mWd g A H0 q ad X iv av H locs) (hdg : decode cc pc = .ok (.getfield 16, 3)) (kk : W p l e R s m args below meth c H locs cells slots Q (F0 m (pc + 3) ls (.ref (ad 2) :: rest))) : W p l e R s m args below meth c H locs cells slots Q (F0 m pc ls (.ref q :: rest)) :=
  va_get (ci := 6) (C := R_Model) (T := F_Model) (N := 25) C.1.1 C.1.2.1 C.1.2.2.2.2 i_Model C.1.2.2.2.1 C.2.1 hw.1 0 rfl rfl 14 (by decide) (C.1.2.2.2.2 _ gw_729) (fun _ h => h) rfl hdg kk
theorem mg_status (C : mCx p m c cc nL s args g "MidiDeskModel") (hw : mWd g A H0 q ad X iv av H locs) (hdg : decode cc pc = .ok (.getfield 19, 3)) (kk : W p l e R s m args below meth c H locs cells slots Q (F0 m (pc + 3) ls (.ref (ad 3) :: rest))) : W p l e R s m args below meth c H locs cells slots Q (F0 m pc ls (.ref q :: rest)) :=
  va_get (ci := 6) (C := R_Model) (T := F_Model) (N := 25) C.1.1 C.1.2.1 C.1.2.2.2.2 i_Model C.1.2.2.2.1 C.2.1 hw.1 0 rfl rfl 15 (by decide) (C.1.2.2.2.2 _ gw_730) (fun _ h => h) rfl hdg kk
theorem mg_first (C : mCx p m c cc nL s args g "MidiDeskModel") (hw : mWd g A H0 q ad X iv av H locs) (hdg : decode cc pc = .ok (.getfield 22, 3)) (kk : W p l e R s m args below meth c H locs cells slots Q (F0 m (pc + 3) ls (.ref (ad 4) :: rest))) : W p l e R s m args below meth c H locs cells slots Q (F0 m pc ls (.ref q :: rest)) :=
  va_get (ci := 6) (C := R_Model) (T := F_Model) (N := 25) C.1.1 C.1.2.1 C.1.2.2.2.2 i_Model C.1.2.2.2.1 C.2.1 hw.1 0 rfl rfl 16 (by decide) (C.1.2.2.2.2 _ gw_731) (fun _ h => h) rfl hdg kk
theorem mg_second (C : mCx p m c cc nL s args g "MidiDeskModel") (hw : mWd g A H0 q ad X iv av H locs) (hdg : decode cc pc = .ok (.getfield 25, 3)) (kk : W p l e R s m args below meth c H locs cells slots Q (F0 m (pc + 3) ls (.ref (ad 5) :: rest))) : W p l e R s m args below meth c H locs cells slots Q (F0 m pc ls (.ref q :: rest)) :=
  va_get (ci := 6) (C := R_Model) (T := F_Model) (N := 25) C.1.1 C.1.2.1 C.1.2.2.2.2 i_Model C.1.2.2.2.1 C.2.1 hw.1 0 rfl rfl 17 (by decide) (C.1.2.2.2.2 _ gw_732) (fun _ h => h) rfl hdg kk
theorem mg_from (C : mCx p m c cc nL s args g "MidiDeskModel") (hw : mWd g A H0 q ad X iv av H locs) (hdg : decode cc pc = .ok (.getfield 28, 3)) (kk : W p l e R s m args below meth c H locs cells slots Q (F0 m (pc + 3) ls (.ref (ad 6) :: rest))) : W p l e R s m args below meth c H locs cells slots Q (F0 m pc ls (.ref q :: rest)) :=
  va_get (ci := 6) (C := R_Model) (T := F_Model) (N := 25) C.1.1 C.1.2.1 C.1.2.2.2.2 i_Model C.1.2.2.2.1 C.2.1 hw.1 0 rfl rfl 18 (by decide) (C.1.2.2.2.2 _ gw_733) (fun _ h => h) rfl hdg kk
theorem mg_counts (C : mCx p m c cc nL s args g "MidiDeskModel") (hw : mWd g A H0 q ad X iv av H locs) (hdg : decode cc pc = .ok (.getfield 31, 3)) (kk : W p l e R s m args below meth c H locs cells slots Q (F0 m (pc + 3) ls (.ref (ad 7) :: rest))) : W p l e R s m args below meth c H locs cells slots Q (F0 m pc ls (.ref q :: rest)) :=
  va_get (ci := 6) (C := R_Model) (T := F_Model) (N := 25) C.1.1 C.1.2.1 C.1.2.2.2.2 i_Model C.1.2.2.2.1 C.2.1 hw.1 0 rfl rfl 19 (by decide) (C.1.2.2.2.2 _ gw_734) (fun _ h => h) rfl hdg kk
theorem mg_order (C : mCx p m c cc nL s args g "MidiDeskModel") (hw : mWd g A H0 q ad X iv av H locs) (hdg : decode cc pc = .ok (.getfield 34, 3)) (kk : W p l e R s m args below meth c H locs cells slots Q (F0 m (pc + 3) ls (.ref (ad 8) :: rest))) : W p l e R s m args below meth c H locs cells slots Q (F0 m pc ls (.ref q :: rest)) :=
  va_get (ci := 6) (C := R_Model) (T := F_Model) (N := 25) C.1.1 C.1.2.1 C.1.2.2.2.2 i_Model C.1.2.2.2.1 C.2.1 hw.1 0 rfl rfl 20 (by decide) (C.1.2.2.2.2 _ gw_735) (fun _ h => h) rfl hdg kk
theorem mg_spare (C : mCx p m c cc nL s args g "MidiDeskModel") (hw : mWd g A H0 q ad X iv av H locs) (hdg : decode cc pc = .ok (.getfield 37, 3)) (kk : W p l e R s m args below meth c H locs cells slots Q (F0 m (pc + 3) ls (.ref (ad 9) :: rest))) : W p l e R s m args below meth c H locs cells slots Q (F0 m pc ls (.ref q :: rest)) :=
  va_get (ci := 6) (C := R_Model) (T := F_Model) (N := 25) C.1.1 C.1.2.1 C.1.2.2.2.2 i_Model C.1.2.2.2.1 C.2.1 hw.1 0 rfl rfl 21 (by decide) (C.1.2.2.2.2 _ gw_736) (fun _ h => h) rfl hdg kk
theorem mg_bytes (C : mCx p m c cc nL s args g "MidiDeskModel") (hw : mWd g A H0 q ad X iv av H locs) (hdg : decode cc pc = .ok (.getfield 40, 3)) (kk : W p l e R s m args below meth c H locs cells slots Q (F0 m (pc + 3) ls (.ref (ad 10) :: rest))) : W p l e R s m args below meth c H locs cells slots Q (F0 m pc ls (.ref q :: rest)) :=
  va_get (ci := 6) (C := R_Model) (T := F_Model) (N := 25) C.1.1 C.1.2.1 C.1.2.2.2.2 i_Model C.1.2.2.2.1 C.2.1 hw.1 0 rfl rfl 22 (by decide) (C.1.2.2.2.2 _ gw_737) (fun _ h => h) rfl hdg kk
theorem mg_written (C : mCx p m c cc nL s args g "MidiDeskModel") (hw : mWd g A H0 q ad X iv av H locs) (hdg : decode cc pc = .ok (.getfield 44, 3)) (kk : W p l e R s m args below meth c H locs cells slots Q (F0 m (pc + 3) ls (.ref (ad 11) :: rest))) : W p l e R s m args below meth c H locs cells slots Q (F0 m pc ls (.ref q :: rest)) :=
  va_get (ci := 6) (C := R_Model) (T := F_Model) (N := 25) C.1.1 C.1.2.1 C.1.2.2.2.2 i_Model C.1.2.2.2.1 C.2.1 hw.1 0 rfl rfl 23 (by decide) (C.1.2.2.2.2 _ gw_738) (fun _ h => h) rfl hdg kk
theorem mg_writtenSize (C : mCx p m c cc nL s args g "MidiDeskModel") (hw : mWd g A H0 q ad X iv av H locs) (hdg : decode cc pc = .ok (.getfield 187, 3)) (kk : W p l e R s m args below meth c H locs cells slots Q (F0 m (pc + 3) ls (.int (iv 12) :: rest))) : W p l e R s m args below meth c H locs cells slots Q (F0 m pc ls (.ref q :: rest)) :=
  va_get (ci := 6) (C := R_Model) (T := F_Model) (N := 25) C.1.1 C.1.2.1 C.1.2.2.2.2 i_Model C.1.2.2.2.1 C.2.1 hw.1 0 rfl rfl 24 (by decide) (C.1.2.2.2.2 _ gw_739) (fun _ h => h) rfl hdg kk
theorem mp_writtenSize {x : Int32} (C : mCx p m c cc nL s args g "MidiDeskModel") (hw : mWd g A H0 q ad X iv av H locs) (hdg : decode cc pc = .ok (.putfield 187, 3)) (kk : ∀ (H1 : Heap) (locs1 : List Loc), mWd g A H0 q ad X (upd iv 12 x) av H1 locs1 → W p l e R s m args below meth c H1 locs1 cells slots Q (F0 m (pc + 3) ls rest)) : W p l e R s m args below meth c H locs cells slots Q (F0 m pc ls (.int x :: .ref q :: rest)) :=
  va_put (ci := 6) (ty := .int) (v := .int x) (C := R_Model) (T := F_Model) (N := 25) C.1.1 C.1.2.1 C.1.2.2.2.2 i_Model t_Model t_Model_ok n_Model C.1.2.2.2.1 C.2.1 hw.1 hw.2.1 hw.2.2.1 0 rfl rfl 24 (by decide) (C.1.2.2.2.2 _ gw_739) (fun _ h => h) rfl (by decide +kernel) rfl rfl (Nat.le_of_ble_eq_true rfl) hdg (fun H1 locs1 hP hD hS => kk H1 locs1 ⟨hP, hD, hS, hw.2.2.2⟩)
theorem ma_input {i : Int32} (C : mCx p m c cc nL s args g "MidiDeskModel") (hw : mWd g A H0 q ad X iv av H locs) (hin : ¬ (i < 0 ∨ 12000 ≤ i.toNatClampNeg)) (hdg : decode cc pc = .ok (.iaload, 1)) (kk : W p l e R s m args below meth c H locs cells slots Q (F0 m (pc + 1) ls (.int (av 0 i.toNatClampNeg) :: rest))) : W p l e R s m args below meth c H locs cells slots Q (F0 m pc ls (.int i :: .ref (ad 0) :: rest)) :=
  va_iald C.1.1 C.1.2.1 C.2.1 hw.1 1 0 rfl rfl hin hdg kk
theorem ms_input {i x : Int32} (C : mCx p m c cc nL s args g "MidiDeskModel") (hw : mWd g A H0 q ad X iv av H locs) (hin : ¬ (i < 0 ∨ 12000 ≤ i.toNatClampNeg)) (hdg : decode cc pc = .ok (.iastore, 1)) (kk : ∀ (H1 : Heap) (locs1 : List Loc), mWd g A H0 q ad X iv (up2 av 0 i.toNatClampNeg x) H1 locs1 → W p l e R s m args below meth c H1 locs1 cells slots Q (F0 m (pc + 1) ls rest)) : W p l e R s m args below meth c H locs cells slots Q (F0 m pc ls (.int x :: .int i :: .ref (ad 0) :: rest)) :=
  va_iast C.1.1 C.1.2.1 C.2.1 hw.1 hw.2.1 hw.2.2.1 1 0 rfl rfl hin hdg (fun H1 locs1 hP hD hS => kk H1 locs1 ⟨hP, hD, hS, hw.2.2.2⟩)
theorem ma_ticks {i : Int32} (C : mCx p m c cc nL s args g "MidiDeskModel") (hw : mWd g A H0 q ad X iv av H locs) (hin : ¬ (i < 0 ∨ 1001 ≤ i.toNatClampNeg)) (hdg : decode cc pc = .ok (.iaload, 1)) (kk : W p l e R s m args below meth c H locs cells slots Q (F0 m (pc + 1) ls (.int (av 1 i.toNatClampNeg) :: rest))) : W p l e R s m args below meth c H locs cells slots Q (F0 m pc ls (.int i :: .ref (ad 1) :: rest)) :=
  va_iald C.1.1 C.1.2.1 C.2.1 hw.1 2 0 rfl rfl hin hdg kk
theorem ms_ticks {i x : Int32} (C : mCx p m c cc nL s args g "MidiDeskModel") (hw : mWd g A H0 q ad X iv av H locs) (hin : ¬ (i < 0 ∨ 1001 ≤ i.toNatClampNeg)) (hdg : decode cc pc = .ok (.iastore, 1)) (kk : ∀ (H1 : Heap) (locs1 : List Loc), mWd g A H0 q ad X iv (up2 av 1 i.toNatClampNeg x) H1 locs1 → W p l e R s m args below meth c H1 locs1 cells slots Q (F0 m (pc + 1) ls rest)) : W p l e R s m args below meth c H locs cells slots Q (F0 m pc ls (.int x :: .int i :: .ref (ad 1) :: rest)) :=
  va_iast C.1.1 C.1.2.1 C.2.1 hw.1 hw.2.1 hw.2.2.1 2 0 rfl rfl hin hdg (fun H1 locs1 hP hD hS => kk H1 locs1 ⟨hP, hD, hS, hw.2.2.2⟩)
theorem ma_trackOf {i : Int32} (C : mCx p m c cc nL s args g "MidiDeskModel") (hw : mWd g A H0 q ad X iv av H locs) (hin : ¬ (i < 0 ∨ 1001 ≤ i.toNatClampNeg)) (hdg : decode cc pc = .ok (.iaload, 1)) (kk : W p l e R s m args below meth c H locs cells slots Q (F0 m (pc + 1) ls (.int (av 2 i.toNatClampNeg) :: rest))) : W p l e R s m args below meth c H locs cells slots Q (F0 m pc ls (.int i :: .ref (ad 2) :: rest)) :=
  va_iald C.1.1 C.1.2.1 C.2.1 hw.1 3 0 rfl rfl hin hdg kk
theorem ms_trackOf {i x : Int32} (C : mCx p m c cc nL s args g "MidiDeskModel") (hw : mWd g A H0 q ad X iv av H locs) (hin : ¬ (i < 0 ∨ 1001 ≤ i.toNatClampNeg)) (hdg : decode cc pc = .ok (.iastore, 1)) (kk : ∀ (H1 : Heap) (locs1 : List Loc), mWd g A H0 q ad X iv (up2 av 2 i.toNatClampNeg x) H1 locs1 → W p l e R s m args below meth c H1 locs1 cells slots Q (F0 m (pc + 1) ls rest)) : W p l e R s m args below meth c H locs cells slots Q (F0 m pc ls (.int x :: .int i :: .ref (ad 2) :: rest)) :=
  va_iast C.1.1 C.1.2.1 C.2.1 hw.1 hw.2.1 hw.2.2.1 3 0 rfl rfl hin hdg (fun H1 locs1 hP hD hS => kk H1 locs1 ⟨hP, hD, hS, hw.2.2.2⟩)
theorem ma_status {i : Int32} (C : mCx p m c cc nL s args g "MidiDeskModel") (hw : mWd g A H0 q ad X iv av H locs) (hin : ¬ (i < 0 ∨ 1001 ≤ i.toNatClampNeg)) (hdg : decode cc pc = .ok (.iaload, 1)) (kk : W p l e R s m args below meth c H locs cells slots Q (F0 m (pc + 1) ls (.int (av 3 i.toNatClampNeg) :: rest))) : W p l e R s m args below meth c H locs cells slots Q (F0 m pc ls (.int i :: .ref (ad 3) :: rest)) :=
  va_iald C.1.1 C.1.2.1 C.2.1 hw.1 4 0 rfl rfl hin hdg kk
theorem ms_status {i x : Int32} (C : mCx p m c cc nL s args g "MidiDeskModel") (hw : mWd g A H0 q ad X iv av H locs) (hin : ¬ (i < 0 ∨ 1001 ≤ i.toNatClampNeg)) (hdg : decode cc pc = .ok (.iastore, 1)) (kk : ∀ (H1 : Heap) (locs1 : List Loc), mWd g A H0 q ad X iv (up2 av 3 i.toNatClampNeg x) H1 locs1 → W p l e R s m args below meth c H1 locs1 cells slots Q (F0 m (pc + 1) ls rest)) : W p l e R s m args below meth c H locs cells slots Q (F0 m pc ls (.int x :: .int i :: .ref (ad 3) :: rest)) :=
  va_iast C.1.1 C.1.2.1 C.2.1 hw.1 hw.2.1 hw.2.2.1 4 0 rfl rfl hin hdg (fun H1 locs1 hP hD hS => kk H1 locs1 ⟨hP, hD, hS, hw.2.2.2⟩)
theorem ma_first {i : Int32} (C : mCx p m c cc nL s args g "MidiDeskModel") (hw : mWd g A H0 q ad X iv av H locs) (hin : ¬ (i < 0 ∨ 1001 ≤ i.toNatClampNeg)) (hdg : decode cc pc = .ok (.iaload, 1)) (kk : W p l e R s m args below meth c H locs cells slots Q (F0 m (pc + 1) ls (.int (av 4 i.toNatClampNeg) :: rest))) : W p l e R s m args below meth c H locs cells slots Q (F0 m pc ls (.int i :: .ref (ad 4) :: rest)) :=
  va_iald C.1.1 C.1.2.1 C.2.1 hw.1 5 0 rfl rfl hin hdg kk
theorem ms_first {i x : Int32} (C : mCx p m c cc nL s args g "MidiDeskModel") (hw : mWd g A H0 q ad X iv av H locs) (hin : ¬ (i < 0 ∨ 1001 ≤ i.toNatClampNeg)) (hdg : decode cc pc = .ok (.iastore, 1)) (kk : ∀ (H1 : Heap) (locs1 : List Loc), mWd g A H0 q ad X iv (up2 av 4 i.toNatClampNeg x) H1 locs1 → W p l e R s m args below meth c H1 locs1 cells slots Q (F0 m (pc + 1) ls rest)) : W p l e R s m args below meth c H locs cells slots Q (F0 m pc ls (.int x :: .int i :: .ref (ad 4) :: rest)) :=
  va_iast C.1.1 C.1.2.1 C.2.1 hw.1 hw.2.1 hw.2.2.1 5 0 rfl rfl hin hdg (fun H1 locs1 hP hD hS => kk H1 locs1 ⟨hP, hD, hS, hw.2.2.2⟩)
theorem ma_second {i : Int32} (C : mCx p m c cc nL s args g "MidiDeskModel") (hw : mWd g A H0 q ad X iv av H locs) (hin : ¬ (i < 0 ∨ 1001 ≤ i.toNatClampNeg)) (hdg : decode cc pc = .ok (.iaload, 1)) (kk : W p l e R s m args below meth c H locs cells slots Q (F0 m (pc + 1) ls (.int (av 5 i.toNatClampNeg) :: rest))) : W p l e R s m args below meth c H locs cells slots Q (F0 m pc ls (.int i :: .ref (ad 5) :: rest)) :=
  va_iald C.1.1 C.1.2.1 C.2.1 hw.1 6 0 rfl rfl hin hdg kk
theorem ms_second {i x : Int32} (C : mCx p m c cc nL s args g "MidiDeskModel") (hw : mWd g A H0 q ad X iv av H locs) (hin : ¬ (i < 0 ∨ 1001 ≤ i.toNatClampNeg)) (hdg : decode cc pc = .ok (.iastore, 1)) (kk : ∀ (H1 : Heap) (locs1 : List Loc), mWd g A H0 q ad X iv (up2 av 5 i.toNatClampNeg x) H1 locs1 → W p l e R s m args below meth c H1 locs1 cells slots Q (F0 m (pc + 1) ls rest)) : W p l e R s m args below meth c H locs cells slots Q (F0 m pc ls (.int x :: .int i :: .ref (ad 5) :: rest)) :=
  va_iast C.1.1 C.1.2.1 C.2.1 hw.1 hw.2.1 hw.2.2.1 6 0 rfl rfl hin hdg (fun H1 locs1 hP hD hS => kk H1 locs1 ⟨hP, hD, hS, hw.2.2.2⟩)
theorem ma_from {i : Int32} (C : mCx p m c cc nL s args g "MidiDeskModel") (hw : mWd g A H0 q ad X iv av H locs) (hin : ¬ (i < 0 ∨ 1001 ≤ i.toNatClampNeg)) (hdg : decode cc pc = .ok (.iaload, 1)) (kk : W p l e R s m args below meth c H locs cells slots Q (F0 m (pc + 1) ls (.int (av 6 i.toNatClampNeg) :: rest))) : W p l e R s m args below meth c H locs cells slots Q (F0 m pc ls (.int i :: .ref (ad 6) :: rest)) :=
  va_iald C.1.1 C.1.2.1 C.2.1 hw.1 7 0 rfl rfl hin hdg kk
theorem ms_from {i x : Int32} (C : mCx p m c cc nL s args g "MidiDeskModel") (hw : mWd g A H0 q ad X iv av H locs) (hin : ¬ (i < 0 ∨ 1001 ≤ i.toNatClampNeg)) (hdg : decode cc pc = .ok (.iastore, 1)) (kk : ∀ (H1 : Heap) (locs1 : List Loc), mWd g A H0 q ad X iv (up2 av 6 i.toNatClampNeg x) H1 locs1 → W p l e R s m args below meth c H1 locs1 cells slots Q (F0 m (pc + 1) ls rest)) : W p l e R s m args below meth c H locs cells slots Q (F0 m pc ls (.int x :: .int i :: .ref (ad 6) :: rest)) :=
  va_iast C.1.1 C.1.2.1 C.2.1 hw.1 hw.2.1 hw.2.2.1 7 0 rfl rfl hin hdg (fun H1 locs1 hP hD hS => kk H1 locs1 ⟨hP, hD, hS, hw.2.2.2⟩)
theorem ma_counts {i : Int32} (C : mCx p m c cc nL s args g "MidiDeskModel") (hw : mWd g A H0 q ad X iv av H locs) (hin : ¬ (i < 0 ∨ 1001 ≤ i.toNatClampNeg)) (hdg : decode cc pc = .ok (.iaload, 1)) (kk : W p l e R s m args below meth c H locs cells slots Q (F0 m (pc + 1) ls (.int (av 7 i.toNatClampNeg) :: rest))) : W p l e R s m args below meth c H locs cells slots Q (F0 m pc ls (.int i :: .ref (ad 7) :: rest)) :=
  va_iald C.1.1 C.1.2.1 C.2.1 hw.1 8 0 rfl rfl hin hdg kk
theorem ms_counts {i x : Int32} (C : mCx p m c cc nL s args g "MidiDeskModel") (hw : mWd g A H0 q ad X iv av H locs) (hin : ¬ (i < 0 ∨ 1001 ≤ i.toNatClampNeg)) (hdg : decode cc pc = .ok (.iastore, 1)) (kk : ∀ (H1 : Heap) (locs1 : List Loc), mWd g A H0 q ad X iv (up2 av 7 i.toNatClampNeg x) H1 locs1 → W p l e R s m args below meth c H1 locs1 cells slots Q (F0 m (pc + 1) ls rest)) : W p l e R s m args below meth c H locs cells slots Q (F0 m pc ls (.int x :: .int i :: .ref (ad 7) :: rest)) :=
  va_iast C.1.1 C.1.2.1 C.2.1 hw.1 hw.2.1 hw.2.2.1 8 0 rfl rfl hin hdg (fun H1 locs1 hP hD hS => kk H1 locs1 ⟨hP, hD, hS, hw.2.2.2⟩)
theorem ma_order {i : Int32} (C : mCx p m c cc nL s args g "MidiDeskModel") (hw : mWd g A H0 q ad X iv av H locs) (hin : ¬ (i < 0 ∨ 1001 ≤ i.toNatClampNeg)) (hdg : decode cc pc = .ok (.iaload, 1)) (kk : W p l e R s m args below meth c H locs cells slots Q (F0 m (pc + 1) ls (.int (av 8 i.toNatClampNeg) :: rest))) : W p l e R s m args below meth c H locs cells slots Q (F0 m pc ls (.int i :: .ref (ad 8) :: rest)) :=
  va_iald C.1.1 C.1.2.1 C.2.1 hw.1 9 0 rfl rfl hin hdg kk
theorem ms_order {i x : Int32} (C : mCx p m c cc nL s args g "MidiDeskModel") (hw : mWd g A H0 q ad X iv av H locs) (hin : ¬ (i < 0 ∨ 1001 ≤ i.toNatClampNeg)) (hdg : decode cc pc = .ok (.iastore, 1)) (kk : ∀ (H1 : Heap) (locs1 : List Loc), mWd g A H0 q ad X iv (up2 av 8 i.toNatClampNeg x) H1 locs1 → W p l e R s m args below meth c H1 locs1 cells slots Q (F0 m (pc + 1) ls rest)) : W p l e R s m args below meth c H locs cells slots Q (F0 m pc ls (.int x :: .int i :: .ref (ad 8) :: rest)) :=
  va_iast C.1.1 C.1.2.1 C.2.1 hw.1 hw.2.1 hw.2.2.1 9 0 rfl rfl hin hdg (fun H1 locs1 hP hD hS => kk H1 locs1 ⟨hP, hD, hS, hw.2.2.2⟩)
theorem ma_spare {i : Int32} (C : mCx p m c cc nL s args g "MidiDeskModel") (hw : mWd g A H0 q ad X iv av H locs) (hin : ¬ (i < 0 ∨ 1001 ≤ i.toNatClampNeg)) (hdg : decode cc pc = .ok (.iaload, 1)) (kk : W p l e R s m args below meth c H locs cells slots Q (F0 m (pc + 1) ls (.int (av 9 i.toNatClampNeg) :: rest))) : W p l e R s m args below meth c H locs cells slots Q (F0 m pc ls (.int i :: .ref (ad 9) :: rest)) :=
  va_iald C.1.1 C.1.2.1 C.2.1 hw.1 10 0 rfl rfl hin hdg kk
theorem ms_spare {i x : Int32} (C : mCx p m c cc nL s args g "MidiDeskModel") (hw : mWd g A H0 q ad X iv av H locs) (hin : ¬ (i < 0 ∨ 1001 ≤ i.toNatClampNeg)) (hdg : decode cc pc = .ok (.iastore, 1)) (kk : ∀ (H1 : Heap) (locs1 : List Loc), mWd g A H0 q ad X iv (up2 av 9 i.toNatClampNeg x) H1 locs1 → W p l e R s m args below meth c H1 locs1 cells slots Q (F0 m (pc + 1) ls rest)) : W p l e R s m args below meth c H locs cells slots Q (F0 m pc ls (.int x :: .int i :: .ref (ad 9) :: rest)) :=
  va_iast C.1.1 C.1.2.1 C.2.1 hw.1 hw.2.1 hw.2.2.1 10 0 rfl rfl hin hdg (fun H1 locs1 hP hD hS => kk H1 locs1 ⟨hP, hD, hS, hw.2.2.2⟩)
theorem ma_bytes {i : Int32} (C : mCx p m c cc nL s args g "MidiDeskModel") (hw : mWd g A H0 q ad X iv av H locs) (hin : ¬ (i < 0 ∨ 20100 ≤ i.toNatClampNeg)) (hdg : decode cc pc = .ok (.iaload, 1)) (kk : W p l e R s m args below meth c H locs cells slots Q (F0 m (pc + 1) ls (.int (av 10 i.toNatClampNeg) :: rest))) : W p l e R s m args below meth c H locs cells slots Q (F0 m pc ls (.int i :: .ref (ad 10) :: rest)) :=
  va_iald C.1.1 C.1.2.1 C.2.1 hw.1 11 0 rfl rfl hin hdg kk
theorem ms_bytes {i x : Int32} (C : mCx p m c cc nL s args g "MidiDeskModel") (hw : mWd g A H0 q ad X iv av H locs) (hin : ¬ (i < 0 ∨ 20100 ≤ i.toNatClampNeg)) (hdg : decode cc pc = .ok (.iastore, 1)) (kk : ∀ (H1 : Heap) (locs1 : List Loc), mWd g A H0 q ad X iv (up2 av 10 i.toNatClampNeg x) H1 locs1 → W p l e R s m args below meth c H1 locs1 cells slots Q (F0 m (pc + 1) ls rest)) : W p l e R s m args below meth c H locs cells slots Q (F0 m pc ls (.int x :: .int i :: .ref (ad 10) :: rest)) :=
  va_iast C.1.1 C.1.2.1 C.2.1 hw.1 hw.2.1 hw.2.2.1 11 0 rfl rfl hin hdg (fun H1 locs1 hP hD hS => kk H1 locs1 ⟨hP, hD, hS, hw.2.2.2⟩)
theorem ma_written {i : Int32} (C : mCx p m c cc nL s args g "MidiDeskModel") (hw : mWd g A H0 q ad X iv av H locs) (hin : ¬ (i < 0 ∨ 32768 ≤ i.toNatClampNeg)) (hdg : decode cc pc = .ok (.iaload, 1)) (kk : W p l e R s m args below meth c H locs cells slots Q (F0 m (pc + 1) ls (.int (av 11 i.toNatClampNeg) :: rest))) : W p l e R s m args below meth c H locs cells slots Q (F0 m pc ls (.int i :: .ref (ad 11) :: rest)) :=
  va_iald C.1.1 C.1.2.1 C.2.1 hw.1 12 0 rfl rfl hin hdg kk
theorem ms_written {i x : Int32} (C : mCx p m c cc nL s args g "MidiDeskModel") (hw : mWd g A H0 q ad X iv av H locs) (hin : ¬ (i < 0 ∨ 32768 ≤ i.toNatClampNeg)) (hdg : decode cc pc = .ok (.iastore, 1)) (kk : ∀ (H1 : Heap) (locs1 : List Loc), mWd g A H0 q ad X iv (up2 av 11 i.toNatClampNeg x) H1 locs1 → W p l e R s m args below meth c H1 locs1 cells slots Q (F0 m (pc + 1) ls rest)) : W p l e R s m args below meth c H locs cells slots Q (F0 m pc ls (.int x :: .int i :: .ref (ad 11) :: rest)) :=
  va_iast C.1.1 C.1.2.1 C.2.1 hw.1 hw.2.1 hw.2.2.1 12 0 rfl rfl hin hdg (fun H1 locs1 hP hD hS => kk H1 locs1 ⟨hP, hD, hS, hw.2.2.2⟩)
theorem m_retv {rv : Option Value} {iv' : Nat → Int32} {av' : Nat → Nat → Int32} (C : mCx p m c cc nL s args g "MidiDeskModel") (hr : meth.sig.returnType = none) (hlk : meth.locks = false) (hrv : rv = none) (hw : mWd g (mA g q ad X s.heap.size) s.heap q ad X iv av H locs) (hf : some (iv, av) = some (iv', av')) (hc : cells ≤ R.cells ∧ slots ≤ R.slots) (hdg : decode cc pc = .ok (.return_, 1)) : mG p l e R s m args below meth c g q ad X rv iv' av' H locs cells slots (F0 m pc ls []) := by
  cases hf
  subst hrv
  refine W.widen (k := R.cells) (n := R.slots) hc.1 hc.2 ?_
  exact W.vret C.1.1 C.1.2.1 hr (fun t ht hW => ⟨⟨rfl, by rw [ht]; exact hw.1⟩, hw.2.2.1.F ht⟩) hw.2.2.1.2.2 hdg hlk
theorem m_reti {rv : Option Value} {iv' : Nat → Int32} {av' : Nat → Nat → Int32} {x r : Int32} (C : mCx p m c cc nL s args g "MidiDeskModel") (hr : meth.sig.returnType = some .int) (hlk : meth.locks = false) (hrv : rv = some (.int r)) (hw : mWd g (mA g q ad X s.heap.size) s.heap q ad X iv av H locs) (hf : some (x, iv, av) = some (r, iv', av')) (hc : cells ≤ R.cells ∧ slots ≤ R.slots) (hdg : decode cc pc = .ok (.ireturn, 1)) : mG p l e R s m args below meth c g q ad X rv iv' av' H locs cells slots (F0 m pc ls [.int x]) := by
  cases hf
  subst hrv
  refine W.widen (k := R.cells) (n := R.slots) hc.1 hc.2 ?_
  exact W.iret C.1.1 C.1.2.1 hr (fun t ht hW => ⟨⟨rfl, by rw [ht]; exact hw.1⟩, hw.2.2.1.F ht⟩) hw.2.2.1.2.2 hdg hlk
theorem m_retz {rv : Option Value} {iv' : Nat → Int32} {av' : Nat → Nat → Int32} {x r : Int32} (C : mCx p m c cc nL s args g "MidiDeskModel") (hr : meth.sig.returnType = some .boolean) (hlk : meth.locks = false) (hrv : rv = some (.int r)) (hw : mWd g (mA g q ad X s.heap.size) s.heap q ad X iv av H locs) (hx : x = 0 ∨ x = 1) (hf : some (x, iv, av) = some (r, iv', av')) (hc : cells ≤ R.cells ∧ slots ≤ R.slots) (hdg : decode cc pc = .ok (.ireturn, 1)) : mG p l e R s m args below meth c g q ad X rv iv' av' H locs cells slots (F0 m pc ls [.int x]) := by
  cases hf
  subst hrv
  refine W.widen (k := R.cells) (n := R.slots) hc.1 hc.2 ?_
  exact W.zret C.1.1 C.1.2.1 hr (by rcases hx with rfl | rfl <;> rfl) (fun t ht hW => ⟨⟨rfl, by rw [ht]; exact hw.1⟩, hw.2.2.1.F ht⟩) hw.2.2.1.2.2 hdg hlk
theorem m_retl {rv : Option Value} {iv' : Nat → Int32} {av' : Nat → Nat → Int32} {x r : Int64} (C : mCx p m c cc nL s args g "MidiDeskModel") (hr : meth.sig.returnType = some .long) (hlk : meth.locks = false) (hrv : rv = some (.long r)) (hw : mWd g (mA g q ad X s.heap.size) s.heap q ad X iv av H locs) (hf : some (x, iv, av) = some (r, iv', av')) (hc : cells ≤ R.cells ∧ slots ≤ R.slots) (hdg : decode cc pc = .ok (.lreturn, 1)) : mG p l e R s m args below meth c g q ad X rv iv' av' H locs cells slots (F0 m pc ls [.long x]) := by
  cases hf
  subst hrv
  refine W.widen (k := R.cells) (n := R.slots) hc.1 hc.2 ?_
  exact W.lret C.1.1 C.1.2.1 hr (fun t ht hW => ⟨⟨rfl, by rw [ht]; exact hw.1⟩, hw.2.2.1.F ht⟩) hw.2.2.1.2.2 hdg hlk
end MR
end
section
def FU : Nat := 1000000
theorem gw_26 : (Cond.selects "MidiDeskModel" ({ cls := "MidiDeskModel", name := "head", desc := "()V" } : Jvm.MethodName) ({ cls := "MidiDeskModel", name := "head", desc := "()V" } : Jvm.MethodName)) ∈ gw := gw_in 26 (by decide +kernel) (by decide +kernel)
theorem gw_27 : (Cond.selects "MidiDeskModel" ({ cls := "MidiDeskModel", name := "taken", desc := "(I)J" } : Jvm.MethodName) ({ cls := "MidiDeskModel", name := "taken", desc := "(I)J" } : Jvm.MethodName)) ∈ gw := gw_in 27 (by decide +kernel) (by decide +kernel)
theorem gw_28 : (Cond.selects "MidiDeskModel" ({ cls := "MidiDeskModel", name := "fail", desc := "(II)V" } : Jvm.MethodName) ({ cls := "MidiDeskModel", name := "fail", desc := "(II)V" } : Jvm.MethodName)) ∈ gw := gw_in 28 (by decide +kernel) (by decide +kernel)
theorem gw_29 : (Cond.selects "MidiDeskModel" ({ cls := "MidiDeskModel", name := "track", desc := "(I)V" } : Jvm.MethodName) ({ cls := "MidiDeskModel", name := "track", desc := "(I)V" } : Jvm.MethodName)) ∈ gw := gw_in 29 (by decide +kernel) (by decide +kernel)
theorem gw_30 : (Cond.selects "MidiDeskModel" ({ cls := "MidiDeskModel", name := "number", desc := "()I" } : Jvm.MethodName) ({ cls := "MidiDeskModel", name := "number", desc := "()I" } : Jvm.MethodName)) ∈ gw := gw_in 30 (by decide +kernel) (by decide +kernel)
theorem gw_31 : (Cond.selects "MidiDeskModel" ({ cls := "MidiDeskModel", name := "event", desc := "(IIII)Z" } : Jvm.MethodName) ({ cls := "MidiDeskModel", name := "event", desc := "(IIII)Z" } : Jvm.MethodName)) ∈ gw := gw_in 31 (by decide +kernel) (by decide +kernel)
theorem gw_32 : (Cond.selects "MidiDeskModel" ({ cls := "MidiDeskModel", name := "small", desc := "()I" } : Jvm.MethodName) ({ cls := "MidiDeskModel", name := "small", desc := "()I" } : Jvm.MethodName)) ∈ gw := gw_in 32 (by decide +kernel) (by decide +kernel)
theorem gw_33 : (Cond.selects "MidiDeskModel" ({ cls := "MidiDeskModel", name := "follow", desc := "(II)V" } : Jvm.MethodName) ({ cls := "MidiDeskModel", name := "follow", desc := "(II)V" } : Jvm.MethodName)) ∈ gw := gw_in 33 (by decide +kernel) (by decide +kernel)
theorem gw_34 : (Cond.selects "MidiDeskModel" ({ cls := "MidiDeskModel", name := "tempo", desc := "(I)I" } : Jvm.MethodName) ({ cls := "MidiDeskModel", name := "tempo", desc := "(I)I" } : Jvm.MethodName)) ∈ gw := gw_in 34 (by decide +kernel) (by decide +kernel)
theorem gw_35 : (Cond.selects "MidiDeskModel" ({ cls := "MidiDeskModel", name := "sort", desc := "()V" } : Jvm.MethodName) ({ cls := "MidiDeskModel", name := "sort", desc := "()V" } : Jvm.MethodName)) ∈ gw := gw_in 35 (by decide +kernel) (by decide +kernel)
theorem gw_36 : (Cond.selects "MidiDeskModel" ({ cls := "MidiDeskModel", name := "again", desc := "()V" } : Jvm.MethodName) ({ cls := "MidiDeskModel", name := "again", desc := "()V" } : Jvm.MethodName)) ∈ gw := gw_in 36 (by decide +kernel) (by decide +kernel)
theorem gw_37 : (Cond.selects "MidiDeskModel" ({ cls := "MidiDeskModel", name := "isBefore", desc := "(II)Z" } : Jvm.MethodName) ({ cls := "MidiDeskModel", name := "isBefore", desc := "(II)Z" } : Jvm.MethodName)) ∈ gw := gw_in 37 (by decide +kernel) (by decide +kernel)
theorem gw_38 : (Cond.selects "MidiDeskModel" ({ cls := "MidiDeskModel", name := "has", desc := "(I)Z" } : Jvm.MethodName) ({ cls := "MidiDeskModel", name := "has", desc := "(I)Z" } : Jvm.MethodName)) ∈ gw := gw_in 38 (by decide +kernel) (by decide +kernel)
theorem gw_39 : (Cond.selects "MidiDeskModel" ({ cls := "MidiDeskModel", name := "fails", desc := "(ZZ)Z" } : Jvm.MethodName) ({ cls := "MidiDeskModel", name := "fails", desc := "(ZZ)Z" } : Jvm.MethodName)) ∈ gw := gw_in 39 (by decide +kernel) (by decide +kernel)
theorem gw_40 : (Cond.selects "MidiDeskModel" ({ cls := "MidiDeskModel", name := "timed", desc := "(I)J" } : Jvm.MethodName) ({ cls := "MidiDeskModel", name := "timed", desc := "(I)J" } : Jvm.MethodName)) ∈ gw := gw_in 40 (by decide +kernel) (by decide +kernel)
theorem gw_41 : (Cond.selects "MidiDeskModel" ({ cls := "MidiDeskModel", name := "isTempo", desc := "(I)Z" } : Jvm.MethodName) ({ cls := "MidiDeskModel", name := "isTempo", desc := "(I)Z" } : Jvm.MethodName)) ∈ gw := gw_in 41 (by decide +kernel) (by decide +kernel)
theorem gw_42 : (Cond.selects "MidiDeskModel" ({ cls := "MidiDeskModel", name := "parts", desc := "()J" } : Jvm.MethodName) ({ cls := "MidiDeskModel", name := "parts", desc := "()J" } : Jvm.MethodName)) ∈ gw := gw_in 42 (by decide +kernel) (by decide +kernel)
theorem gw_43 : (Cond.selects "MidiDeskModel" ({ cls := "MidiDeskModel", name := "begins", desc := "(I)Z" } : Jvm.MethodName) ({ cls := "MidiDeskModel", name := "begins", desc := "(I)Z" } : Jvm.MethodName)) ∈ gw := gw_in 43 (by decide +kernel) (by decide +kernel)
theorem gw_44 : (Cond.selects "MidiDeskModel" ({ cls := "MidiDeskModel", name := "ends", desc := "(I)Z" } : Jvm.MethodName) ({ cls := "MidiDeskModel", name := "ends", desc := "(I)Z" } : Jvm.MethodName)) ∈ gw := gw_in 44 (by decide +kernel) (by decide +kernel)
theorem gw_45 : (Cond.selects "MidiDeskModel" ({ cls := "MidiDeskModel", name := "isNote", desc := "(II)Z" } : Jvm.MethodName) ({ cls := "MidiDeskModel", name := "isNote", desc := "(II)Z" } : Jvm.MethodName)) ∈ gw := gw_in 45 (by decide +kernel) (by decide +kernel)
theorem gw_46 : (Cond.selects "MidiDeskModel" ({ cls := "MidiDeskModel", name := "put", desc := "(II)V" } : Jvm.MethodName) ({ cls := "MidiDeskModel", name := "put", desc := "(II)V" } : Jvm.MethodName)) ∈ gw := gw_in 46 (by decide +kernel) (by decide +kernel)
theorem gw_47 : (Cond.selects "MidiDeskModel" ({ cls := "MidiDeskModel", name := "put", desc := "(I)V" } : Jvm.MethodName) ({ cls := "MidiDeskModel", name := "put", desc := "(I)V" } : Jvm.MethodName)) ∈ gw := gw_in 47 (by decide +kernel) (by decide +kernel)
theorem gw_48 : (Cond.selects "MidiDeskModel" ({ cls := "MidiDeskModel", name := "putTrack", desc := "(IZZ)V" } : Jvm.MethodName) ({ cls := "MidiDeskModel", name := "putTrack", desc := "(IZZ)V" } : Jvm.MethodName)) ∈ gw := gw_in 48 (by decide +kernel) (by decide +kernel)
theorem gw_49 : (Cond.selects "MidiDeskModel" ({ cls := "MidiDeskModel", name := "putNumber", desc := "(I)V" } : Jvm.MethodName) ({ cls := "MidiDeskModel", name := "putNumber", desc := "(I)V" } : Jvm.MethodName)) ∈ gw := gw_in 49 (by decide +kernel) (by decide +kernel)
theorem gw_50 : (Cond.selects "MidiDeskModel" ({ cls := "MidiDeskModel", name := "counted", desc := "(Z)I" } : Jvm.MethodName) ({ cls := "MidiDeskModel", name := "counted", desc := "(Z)I" } : Jvm.MethodName)) ∈ gw := gw_in 50 (by decide +kernel) (by decide +kernel)
theorem gw_55 : (Jvm.Cond.initialized "MidiDeskModel") ∈ gw := gw_in 55 (by decide +kernel) (by decide +kernel)
theorem gw_714 : (Jvm.Cond.constant "MidiDeskModel" (43 : Nat) (32768 : Int32)) ∈ gw := gw_in 714 (by decide +kernel) (by decide +kernel)
theorem gw_799 : (Jvm.Cond.constantLong "MidiDeskModel" (54 : Nat) (255 : Int64)) ∈ gw := gw_in 799 (by decide +kernel) (by decide +kernel)
theorem gw_804 : (Jvm.Cond.methodLink "MidiDeskModel" (101 : Nat) ({ cls := "MidiDeskModel", name := "head", desc := "()V" } : Jvm.MethodName)) ∈ gw := gw_in 804 (by decide +kernel) (by decide +kernel)
theorem gw_806 : (Jvm.Cond.instanceMethod ({ cls := "MidiDeskModel", name := "head", desc := "()V" } : Jvm.MethodName)) ∈ gw := gw_in 806 (by decide +kernel) (by decide +kernel)
theorem gw_807 : (Jvm.Cond.code ({ cls := "MidiDeskModel", name := "head", desc := "()V" } : Jvm.MethodName) prog_8_method_9_code (1 : Nat) (Option.none : Option Jvm.ClassFile.FieldType)) ∈ gw := gw_in 807 (by decide +kernel) (by decide +kernel)
theorem gw_808 : (Jvm.Cond.methodLink "MidiDeskModel" (74 : Nat) ({ cls := "MidiDeskModel", name := "taken", desc := "(I)J" } : Jvm.MethodName)) ∈ gw := gw_in 808 (by decide +kernel) (by decide +kernel)
theorem gw_810 : (Jvm.Cond.instanceMethod ({ cls := "MidiDeskModel", name := "taken", desc := "(I)J" } : Jvm.MethodName)) ∈ gw := gw_in 810 (by decide +kernel) (by decide +kernel)
theorem gw_811 : (Jvm.Cond.code ({ cls := "MidiDeskModel", name := "taken", desc := "(I)J" } : Jvm.MethodName) prog_8_method_6_code (5 : Nat) (Option.some Jvm.ClassFile.FieldType.long)) ∈ gw := gw_in 811 (by decide +kernel) (by decide +kernel)
theorem gw_812 : (Jvm.Cond.methodLink "MidiDeskModel" (68 : Nat) ({ cls := "MidiDeskModel", name := "fail", desc := "(II)V" } : Jvm.MethodName)) ∈ gw := gw_in 812 (by decide +kernel) (by decide +kernel)
theorem gw_814 : (Jvm.Cond.instanceMethod ({ cls := "MidiDeskModel", name := "fail", desc := "(II)V" } : Jvm.MethodName)) ∈ gw := gw_in 814 (by decide +kernel) (by decide +kernel)
theorem gw_815 : (Jvm.Cond.code ({ cls := "MidiDeskModel", name := "fail", desc := "(II)V" } : Jvm.MethodName) prog_8_method_5_code (3 : Nat) (Option.none : Option Jvm.ClassFile.FieldType)) ∈ gw := gw_in 815 (by decide +kernel) (by decide +kernel)
theorem gw_816 : (Jvm.Cond.constantLong "MidiDeskModel" (72 : Nat) (256 : Int64)) ∈ gw := gw_in 816 (by decide +kernel) (by decide +kernel)
theorem gw_817 : (Jvm.Cond.constantLong "MidiDeskModel" (78 : Nat) (1297377380 : Int64)) ∈ gw := gw_in 817 (by decide +kernel) (by decide +kernel)
theorem gw_818 : (Jvm.Cond.constantLong "MidiDeskModel" (80 : Nat) (6 : Int64)) ∈ gw := gw_in 818 (by decide +kernel) (by decide +kernel)
theorem gw_819 : (Jvm.Cond.methodLink "MidiDeskModel" (91 : Nat) ({ cls := "MidiDeskModel", name := "isDivision", desc := "(I)Z" } : Jvm.MethodName)) ∈ gw := gw_in 819 (by decide +kernel) (by decide +kernel)
theorem gw_820 : (Jvm.Cond.static ({ cls := "MidiDeskModel", name := "isDivision", desc := "(I)Z" } : Jvm.MethodName)) ∈ gw := gw_in 820 (by decide +kernel) (by decide +kernel)
theorem gw_821 : (Jvm.Cond.code ({ cls := "MidiDeskModel", name := "isDivision", desc := "(I)Z" } : Jvm.MethodName) prog_8_method_8_code (2 : Nat) (Option.some Jvm.ClassFile.FieldType.boolean)) ∈ gw := gw_in 821 (by decide +kernel) (by decide +kernel)
theorem gw_822 : (Jvm.Cond.constantLong "MidiDeskModel" (104 : Nat) (1297379947 : Int64)) ∈ gw := gw_in 822 (by decide +kernel) (by decide +kernel)
theorem gw_823 : (Jvm.Cond.methodLink "MidiDeskModel" (106 : Nat) ({ cls := "MidiDeskModel", name := "track", desc := "(I)V" } : Jvm.MethodName)) ∈ gw := gw_in 823 (by decide +kernel) (by decide +kernel)
theorem gw_825 : (Jvm.Cond.instanceMethod ({ cls := "MidiDeskModel", name := "track", desc := "(I)V" } : Jvm.MethodName)) ∈ gw := gw_in 825 (by decide +kernel) (by decide +kernel)
theorem gw_826 : (Jvm.Cond.code ({ cls := "MidiDeskModel", name := "track", desc := "(I)V" } : Jvm.MethodName) prog_8_method_11_code (8 : Nat) (Option.none : Option Jvm.ClassFile.FieldType)) ∈ gw := gw_in 826 (by decide +kernel) (by decide +kernel)
theorem gw_827 : (Jvm.Cond.methodLink "MidiDeskModel" (117 : Nat) ({ cls := "MidiDeskModel", name := "number", desc := "()I" } : Jvm.MethodName)) ∈ gw := gw_in 827 (by decide +kernel) (by decide +kernel)
theorem gw_829 : (Jvm.Cond.instanceMethod ({ cls := "MidiDeskModel", name := "number", desc := "()I" } : Jvm.MethodName)) ∈ gw := gw_in 829 (by decide +kernel) (by decide +kernel)
theorem gw_830 : (Jvm.Cond.code ({ cls := "MidiDeskModel", name := "number", desc := "()I" } : Jvm.MethodName) prog_8_method_7_code (5 : Nat) (Option.some Jvm.ClassFile.FieldType.int)) ∈ gw := gw_in 830 (by decide +kernel) (by decide +kernel)
theorem gw_831 : (Jvm.Cond.constantLong "MidiDeskModel" (121 : Nat) (268435455 : Int64)) ∈ gw := gw_in 831 (by decide +kernel) (by decide +kernel)
theorem gw_832 : (Jvm.Cond.methodLink "MidiDeskModel" (123 : Nat) ({ cls := "MidiDeskModel", name := "event", desc := "(IIII)Z" } : Jvm.MethodName)) ∈ gw := gw_in 832 (by decide +kernel) (by decide +kernel)
theorem gw_834 : (Jvm.Cond.instanceMethod ({ cls := "MidiDeskModel", name := "event", desc := "(IIII)Z" } : Jvm.MethodName)) ∈ gw := gw_in 834 (by decide +kernel) (by decide +kernel)
theorem gw_835 : (Jvm.Cond.code ({ cls := "MidiDeskModel", name := "event", desc := "(IIII)Z" } : Jvm.MethodName) prog_8_method_13_code (6 : Nat) (Option.some Jvm.ClassFile.FieldType.boolean)) ∈ gw := gw_in 835 (by decide +kernel) (by decide +kernel)
theorem gw_836 : (Jvm.Cond.methodLink "MidiDeskModel" (127 : Nat) ({ cls := "MidiDeskModel", name := "small", desc := "()I" } : Jvm.MethodName)) ∈ gw := gw_in 836 (by decide +kernel) (by decide +kernel)
theorem gw_838 : (Jvm.Cond.instanceMethod ({ cls := "MidiDeskModel", name := "small", desc := "()I" } : Jvm.MethodName)) ∈ gw := gw_in 838 (by decide +kernel) (by decide +kernel)
theorem gw_839 : (Jvm.Cond.code ({ cls := "MidiDeskModel", name := "small", desc := "()I" } : Jvm.MethodName) prog_8_method_12_code (3 : Nat) (Option.some Jvm.ClassFile.FieldType.int)) ∈ gw := gw_in 839 (by decide +kernel) (by decide +kernel)
theorem gw_840 : (Jvm.Cond.methodLink "MidiDeskModel" (130 : Nat) ({ cls := "MidiDeskModel", name := "follow", desc := "(II)V" } : Jvm.MethodName)) ∈ gw := gw_in 840 (by decide +kernel) (by decide +kernel)
theorem gw_842 : (Jvm.Cond.instanceMethod ({ cls := "MidiDeskModel", name := "follow", desc := "(II)V" } : Jvm.MethodName)) ∈ gw := gw_in 842 (by decide +kernel) (by decide +kernel)
theorem gw_843 : (Jvm.Cond.code ({ cls := "MidiDeskModel", name := "follow", desc := "(II)V" } : Jvm.MethodName) prog_8_method_14_code (6 : Nat) (Option.none : Option Jvm.ClassFile.FieldType)) ∈ gw := gw_in 843 (by decide +kernel) (by decide +kernel)
theorem gw_844 : (Jvm.Cond.methodLink "MidiDeskModel" (133 : Nat) ({ cls := "MidiDeskModel", name := "tempo", desc := "(I)I" } : Jvm.MethodName)) ∈ gw := gw_in 844 (by decide +kernel) (by decide +kernel)
theorem gw_846 : (Jvm.Cond.instanceMethod ({ cls := "MidiDeskModel", name := "tempo", desc := "(I)I" } : Jvm.MethodName)) ∈ gw := gw_in 846 (by decide +kernel) (by decide +kernel)
theorem gw_847 : (Jvm.Cond.code ({ cls := "MidiDeskModel", name := "tempo", desc := "(I)I" } : Jvm.MethodName) prog_8_method_15_code (2 : Nat) (Option.some Jvm.ClassFile.FieldType.int)) ∈ gw := gw_in 847 (by decide +kernel) (by decide +kernel)
theorem gw_848 : (Jvm.Cond.methodLink "MidiDeskModel" (114 : Nat) ({ cls := "MidiDeskModel", name := "sort", desc := "()V" } : Jvm.MethodName)) ∈ gw := gw_in 848 (by decide +kernel) (by decide +kernel)
theorem gw_850 : (Jvm.Cond.instanceMethod ({ cls := "MidiDeskModel", name := "sort", desc := "()V" } : Jvm.MethodName)) ∈ gw := gw_in 850 (by decide +kernel) (by decide +kernel)
theorem gw_851 : (Jvm.Cond.code ({ cls := "MidiDeskModel", name := "sort", desc := "()V" } : Jvm.MethodName) prog_8_method_17_code (2 : Nat) (Option.none : Option Jvm.ClassFile.FieldType)) ∈ gw := gw_in 851 (by decide +kernel) (by decide +kernel)
theorem gw_852 : (Jvm.Cond.methodLink "MidiDeskModel" (137 : Nat) ({ cls := "MidiDeskModel", name := "again", desc := "()V" } : Jvm.MethodName)) ∈ gw := gw_in 852 (by decide +kernel) (by decide +kernel)
theorem gw_854 : (Jvm.Cond.instanceMethod ({ cls := "MidiDeskModel", name := "again", desc := "()V" } : Jvm.MethodName)) ∈ gw := gw_in 854 (by decide +kernel) (by decide +kernel)
theorem gw_855 : (Jvm.Cond.code ({ cls := "MidiDeskModel", name := "again", desc := "()V" } : Jvm.MethodName) prog_8_method_19_code (4 : Nat) (Option.none : Option Jvm.ClassFile.FieldType)) ∈ gw := gw_in 855 (by decide +kernel) (by decide +kernel)
theorem gw_856 : (Jvm.Cond.methodLink "MidiDeskModel" (140 : Nat) ({ cls := "MidiDeskModel", name := "isBefore", desc := "(II)Z" } : Jvm.MethodName)) ∈ gw := gw_in 856 (by decide +kernel) (by decide +kernel)
theorem gw_858 : (Jvm.Cond.instanceMethod ({ cls := "MidiDeskModel", name := "isBefore", desc := "(II)Z" } : Jvm.MethodName)) ∈ gw := gw_in 858 (by decide +kernel) (by decide +kernel)
theorem gw_859 : (Jvm.Cond.code ({ cls := "MidiDeskModel", name := "isBefore", desc := "(II)Z" } : Jvm.MethodName) prog_8_method_18_code (3 : Nat) (Option.some Jvm.ClassFile.FieldType.boolean)) ∈ gw := gw_in 859 (by decide +kernel) (by decide +kernel)
theorem gw_864 : (Jvm.Cond.methodLink "MidiDeskModel" (144 : Nat) ({ cls := "MidiDeskModel", name := "has", desc := "(I)Z" } : Jvm.MethodName)) ∈ gw := gw_in 864 (by decide +kernel) (by decide +kernel)
theorem gw_866 : (Jvm.Cond.instanceMethod ({ cls := "MidiDeskModel", name := "has", desc := "(I)Z" } : Jvm.MethodName)) ∈ gw := gw_in 866 (by decide +kernel) (by decide +kernel)
theorem gw_867 : (Jvm.Cond.code ({ cls := "MidiDeskModel", name := "has", desc := "(I)Z" } : Jvm.MethodName) prog_8_method_20_code (2 : Nat) (Option.some Jvm.ClassFile.FieldType.boolean)) ∈ gw := gw_in 867 (by decide +kernel) (by decide +kernel)
theorem gw_876 : (Jvm.Cond.constant "MidiDeskModel" (157 : Nat) (268435455 : Int32)) ∈ gw := gw_in 876 (by decide +kernel) (by decide +kernel)
theorem gw_877 : (Jvm.Cond.methodLink "MidiDeskModel" (158 : Nat) ({ cls := "MidiDeskModel", name := "fails", desc := "(ZZ)Z" } : Jvm.MethodName)) ∈ gw := gw_in 877 (by decide +kernel) (by decide +kernel)
theorem gw_879 : (Jvm.Cond.instanceMethod ({ cls := "MidiDeskModel", name := "fails", desc := "(ZZ)Z" } : Jvm.MethodName)) ∈ gw := gw_in 879 (by decide +kernel) (by decide +kernel)
theorem gw_880 : (Jvm.Cond.code ({ cls := "MidiDeskModel", name := "fails", desc := "(ZZ)Z" } : Jvm.MethodName) prog_8_method_3_code (3 : Nat) (Option.some Jvm.ClassFile.FieldType.boolean)) ∈ gw := gw_in 880 (by decide +kernel) (by decide +kernel)
theorem gw_881 : (Jvm.Cond.methodLink "MidiDeskModel" (162 : Nat) ({ cls := "MidiDeskModel", name := "timed", desc := "(I)J" } : Jvm.MethodName)) ∈ gw := gw_in 881 (by decide +kernel) (by decide +kernel)
theorem gw_883 : (Jvm.Cond.instanceMethod ({ cls := "MidiDeskModel", name := "timed", desc := "(I)J" } : Jvm.MethodName)) ∈ gw := gw_in 883 (by decide +kernel) (by decide +kernel)
theorem gw_884 : (Jvm.Cond.code ({ cls := "MidiDeskModel", name := "timed", desc := "(I)J" } : Jvm.MethodName) prog_8_method_24_code (8 : Nat) (Option.some Jvm.ClassFile.FieldType.long)) ∈ gw := gw_in 884 (by decide +kernel) (by decide +kernel)
theorem gw_885 : (Jvm.Cond.constantLong "MidiDeskModel" (149 : Nat) (100100 : Int64)) ∈ gw := gw_in 885 (by decide +kernel) (by decide +kernel)
theorem gw_886 : (Jvm.Cond.constantLong "MidiDeskModel" (151 : Nat) (1000000 : Int64)) ∈ gw := gw_in 886 (by decide +kernel) (by decide +kernel)
theorem gw_887 : (Jvm.Cond.constant "MidiDeskModel" (153 : Nat) (500000 : Int32)) ∈ gw := gw_in 887 (by decide +kernel) (by decide +kernel)
theorem gw_888 : (Jvm.Cond.methodLink "MidiDeskModel" (154 : Nat) ({ cls := "MidiDeskModel", name := "isTempo", desc := "(I)Z" } : Jvm.MethodName)) ∈ gw := gw_in 888 (by decide +kernel) (by decide +kernel)
theorem gw_890 : (Jvm.Cond.instanceMethod ({ cls := "MidiDeskModel", name := "isTempo", desc := "(I)Z" } : Jvm.MethodName)) ∈ gw := gw_in 890 (by decide +kernel) (by decide +kernel)
theorem gw_891 : (Jvm.Cond.code ({ cls := "MidiDeskModel", name := "isTempo", desc := "(I)Z" } : Jvm.MethodName) prog_8_method_16_code (2 : Nat) (Option.some Jvm.ClassFile.FieldType.boolean)) ∈ gw := gw_in 891 (by decide +kernel) (by decide +kernel)
theorem gw_892 : (Jvm.Cond.methodLink "MidiDeskModel" (165 : Nat) ({ cls := "MidiDeskModel", name := "parts", desc := "()J" } : Jvm.MethodName)) ∈ gw := gw_in 892 (by decide +kernel) (by decide +kernel)
theorem gw_894 : (Jvm.Cond.instanceMethod ({ cls := "MidiDeskModel", name := "parts", desc := "()J" } : Jvm.MethodName)) ∈ gw := gw_in 894 (by decide +kernel) (by decide +kernel)
theorem gw_895 : (Jvm.Cond.code ({ cls := "MidiDeskModel", name := "parts", desc := "()J" } : Jvm.MethodName) prog_8_method_23_code (2 : Nat) (Option.some Jvm.ClassFile.FieldType.long)) ∈ gw := gw_in 895 (by decide +kernel) (by decide +kernel)
theorem gw_896 : (Jvm.Cond.constantLong "MidiDeskModel" (147 : Nat) (3 : Int64)) ∈ gw := gw_in 896 (by decide +kernel) (by decide +kernel)
theorem gw_905 : (Jvm.Cond.methodLink "MidiDeskModel" (169 : Nat) ({ cls := "MidiDeskModel", name := "begins", desc := "(I)Z" } : Jvm.MethodName)) ∈ gw := gw_in 905 (by decide +kernel) (by decide +kernel)
theorem gw_907 : (Jvm.Cond.instanceMethod ({ cls := "MidiDeskModel", name := "begins", desc := "(I)Z" } : Jvm.MethodName)) ∈ gw := gw_in 907 (by decide +kernel) (by decide +kernel)
theorem gw_908 : (Jvm.Cond.code ({ cls := "MidiDeskModel", name := "begins", desc := "(I)Z" } : Jvm.MethodName) prog_8_method_27_code (2 : Nat) (Option.some Jvm.ClassFile.FieldType.boolean)) ∈ gw := gw_in 908 (by decide +kernel) (by decide +kernel)
theorem gw_909 : (Jvm.Cond.methodLink "MidiDeskModel" (172 : Nat) ({ cls := "MidiDeskModel", name := "ends", desc := "(I)Z" } : Jvm.MethodName)) ∈ gw := gw_in 909 (by decide +kernel) (by decide +kernel)
theorem gw_911 : (Jvm.Cond.instanceMethod ({ cls := "MidiDeskModel", name := "ends", desc := "(I)Z" } : Jvm.MethodName)) ∈ gw := gw_in 911 (by decide +kernel) (by decide +kernel)
theorem gw_912 : (Jvm.Cond.code ({ cls := "MidiDeskModel", name := "ends", desc := "(I)Z" } : Jvm.MethodName) prog_8_method_28_code (2 : Nat) (Option.some Jvm.ClassFile.FieldType.boolean)) ∈ gw := gw_in 912 (by decide +kernel) (by decide +kernel)
theorem gw_917 : (Jvm.Cond.methodLink "MidiDeskModel" (175 : Nat) ({ cls := "MidiDeskModel", name := "isNote", desc := "(II)Z" } : Jvm.MethodName)) ∈ gw := gw_in 917 (by decide +kernel) (by decide +kernel)
theorem gw_919 : (Jvm.Cond.instanceMethod ({ cls := "MidiDeskModel", name := "isNote", desc := "(II)Z" } : Jvm.MethodName)) ∈ gw := gw_in 919 (by decide +kernel) (by decide +kernel)
theorem gw_920 : (Jvm.Cond.code ({ cls := "MidiDeskModel", name := "isNote", desc := "(II)Z" } : Jvm.MethodName) prog_8_method_31_code (3 : Nat) (Option.some Jvm.ClassFile.FieldType.boolean)) ∈ gw := gw_in 920 (by decide +kernel) (by decide +kernel)
theorem gw_921 : (Jvm.Cond.constantLong "MidiDeskModel" (178 : Nat) (128 : Int64)) ∈ gw := gw_in 921 (by decide +kernel) (by decide +kernel)
theorem gw_926 : (Jvm.Cond.constant "MidiDeskModel" (182 : Nat) (100000 : Int32)) ∈ gw := gw_in 926 (by decide +kernel) (by decide +kernel)
theorem gw_927 : (Jvm.Cond.methodLink "MidiDeskModel" (183 : Nat) ({ cls := "MidiDeskModel", name := "nearest", desc := "(II)J" } : Jvm.MethodName)) ∈ gw := gw_in 927 (by decide +kernel) (by decide +kernel)
theorem gw_928 : (Jvm.Cond.static ({ cls := "MidiDeskModel", name := "nearest", desc := "(II)J" } : Jvm.MethodName)) ∈ gw := gw_in 928 (by decide +kernel) (by decide +kernel)
theorem gw_929 : (Jvm.Cond.code ({ cls := "MidiDeskModel", name := "nearest", desc := "(II)J" } : Jvm.MethodName) prog_8_method_32_code (4 : Nat) (Option.some Jvm.ClassFile.FieldType.long)) ∈ gw := gw_in 929 (by decide +kernel) (by decide +kernel)
theorem gw_930 : (Jvm.Cond.constantLong "MidiDeskModel" (180 : Nat) (2 : Int64)) ∈ gw := gw_in 930 (by decide +kernel) (by decide +kernel)
theorem gw_939 : (Jvm.Cond.constant "MidiDeskModel" (201 : Nat) (1297377380 : Int32)) ∈ gw := gw_in 939 (by decide +kernel) (by decide +kernel)
theorem gw_940 : (Jvm.Cond.methodLink "MidiDeskModel" (195 : Nat) ({ cls := "MidiDeskModel", name := "put", desc := "(II)V" } : Jvm.MethodName)) ∈ gw := gw_in 940 (by decide +kernel) (by decide +kernel)
theorem gw_942 : (Jvm.Cond.instanceMethod ({ cls := "MidiDeskModel", name := "put", desc := "(II)V" } : Jvm.MethodName)) ∈ gw := gw_in 942 (by decide +kernel) (by decide +kernel)
theorem gw_943 : (Jvm.Cond.code ({ cls := "MidiDeskModel", name := "put", desc := "(II)V" } : Jvm.MethodName) prog_8_method_36_code (4 : Nat) (Option.none : Option Jvm.ClassFile.FieldType)) ∈ gw := gw_in 943 (by decide +kernel) (by decide +kernel)
theorem gw_944 : (Jvm.Cond.methodLink "MidiDeskModel" (190 : Nat) ({ cls := "MidiDeskModel", name := "put", desc := "(I)V" } : Jvm.MethodName)) ∈ gw := gw_in 944 (by decide +kernel) (by decide +kernel)
theorem gw_946 : (Jvm.Cond.instanceMethod ({ cls := "MidiDeskModel", name := "put", desc := "(I)V" } : Jvm.MethodName)) ∈ gw := gw_in 946 (by decide +kernel) (by decide +kernel)
theorem gw_947 : (Jvm.Cond.code ({ cls := "MidiDeskModel", name := "put", desc := "(I)V" } : Jvm.MethodName) prog_8_method_35_code (2 : Nat) (Option.none : Option Jvm.ClassFile.FieldType)) ∈ gw := gw_in 947 (by decide +kernel) (by decide +kernel)
theorem gw_948 : (Jvm.Cond.methodLink "MidiDeskModel" (202 : Nat) ({ cls := "MidiDeskModel", name := "putTrack", desc := "(IZZ)V" } : Jvm.MethodName)) ∈ gw := gw_in 948 (by decide +kernel) (by decide +kernel)
theorem gw_950 : (Jvm.Cond.instanceMethod ({ cls := "MidiDeskModel", name := "putTrack", desc := "(IZZ)V" } : Jvm.MethodName)) ∈ gw := gw_in 950 (by decide +kernel) (by decide +kernel)
theorem gw_951 : (Jvm.Cond.code ({ cls := "MidiDeskModel", name := "putTrack", desc := "(IZZ)V" } : Jvm.MethodName) prog_8_method_38_code (10 : Nat) (Option.none : Option Jvm.ClassFile.FieldType)) ∈ gw := gw_in 951 (by decide +kernel) (by decide +kernel)
theorem gw_952 : (Jvm.Cond.constant "MidiDeskModel" (194 : Nat) (1297379947 : Int32)) ∈ gw := gw_in 952 (by decide +kernel) (by decide +kernel)
theorem gw_953 : (Jvm.Cond.methodLink "MidiDeskModel" (197 : Nat) ({ cls := "MidiDeskModel", name := "putNumber", desc := "(I)V" } : Jvm.MethodName)) ∈ gw := gw_in 953 (by decide +kernel) (by decide +kernel)
theorem gw_955 : (Jvm.Cond.instanceMethod ({ cls := "MidiDeskModel", name := "putNumber", desc := "(I)V" } : Jvm.MethodName)) ∈ gw := gw_in 955 (by decide +kernel) (by decide +kernel)
theorem gw_956 : (Jvm.Cond.code ({ cls := "MidiDeskModel", name := "putNumber", desc := "(I)V" } : Jvm.MethodName) prog_8_method_37_code (4 : Nat) (Option.none : Option Jvm.ClassFile.FieldType)) ∈ gw := gw_in 956 (by decide +kernel) (by decide +kernel)
theorem gw_957 : (Jvm.Cond.constant "MidiDeskModel" (193 : Nat) (2097151 : Int32)) ∈ gw := gw_in 957 (by decide +kernel) (by decide +kernel)
theorem gw_958 : (Jvm.Cond.constant "MidiDeskModel" (200 : Nat) (16723712 : Int32)) ∈ gw := gw_in 958 (by decide +kernel) (by decide +kernel)
theorem gw_971 : (Jvm.Cond.methodLink "MidiDeskModel" (206 : Nat) ({ cls := "MidiDeskModel", name := "counted", desc := "(Z)I" } : Jvm.MethodName)) ∈ gw := gw_in 971 (by decide +kernel) (by decide +kernel)
theorem gw_973 : (Jvm.Cond.instanceMethod ({ cls := "MidiDeskModel", name := "counted", desc := "(Z)I" } : Jvm.MethodName)) ∈ gw := gw_in 973 (by decide +kernel) (by decide +kernel)
theorem gw_974 : (Jvm.Cond.code ({ cls := "MidiDeskModel", name := "counted", desc := "(Z)I" } : Jvm.MethodName) prog_8_method_42_code (4 : Nat) (Option.some Jvm.ClassFile.FieldType.int)) ∈ gw := gw_in 974 (by decide +kernel) (by decide +kernel)
end
section
abbrev cM_thrown : ByteArray := prog_8_method_2_code
abbrev yM_thrown : MethodName := ⟨"MidiDeskModel", "thrown", "()I"⟩
theorem kM_thrown : yM_thrown.cls ≠ "java/lang/invoke/MethodHandle" ∧ yM_thrown.cls ≠ "java/lang/invoke/VarHandle" ∧ (parseMethodDescriptor yM_thrown.desc).map (fun d => d.parameters.length) = some 0 := by decide +kernel
abbrev rM_thrown : Room := { frames := 0, cells := 0, slots := 0, locals := 0 }
theorem dM_thrown_0 : decode cM_thrown 0 = .ok (.aload_n 0, 1) := by decide +kernel
theorem dM_thrown_1 : decode cM_thrown 1 = .ok (.getfield 47, 3) := by decide +kernel
theorem dM_thrown_4 : decode cM_thrown 4 = .ok (.ireturn, 1) := by decide +kernel
def fM_thrown (iv : Nat → Int32) (av : Nat → Nat → Int32) : Option (Int32 × (Nat → Int32) × (Nat → Nat → Int32)) := some (iv 0, iv, av)
set_option maxHeartbeats 4000000 in
set_option maxRecDepth 100000 in
theorem cM_thrown_met {l : Launch} {g : gT} {q : Nat} {ad : Nat → Nat} {X : va_W} {iv iv' : Nat → Int32} {av av' : Nat → Nat → Int32} {r' : Int32} (hf : fM_thrown iv av = some (r', iv', av')) : mMet l yM_thrown cM_thrown 1 (some .int) rM_thrown g q ad X iv av [.ref q] (some (.int r')) iv' av' := by
  refine m_entry (by decide) (Nat.le_of_ble_eq_true rfl) ?_
  intro p e s m args below meth c ls C hr hlk hnm hl hw
  have hrv : ((some (.int r')) : Option Value) = (some (.int r')) := rfl
  have C : mCx p m c cM_thrown 1 s args g "MidiDeskModel" := C
  have hl : lv_has ls 1 [(0, .ref q)] := hl
  unfold fM_thrown at hf
  refine lv_aload_n C.1.1 C.1.2.1 dM_thrown_0 rfl (lv_at hl 0 rfl) ?_
  refine mg_thrown C hw dM_thrown_1 ?_
  exact m_reti C hr hlk hrv hw hf ⟨Nat.le_of_ble_eq_true rfl, Nat.le_of_ble_eq_true rfl⟩ dM_thrown_4
abbrev cM_fails : ByteArray := prog_8_method_3_code
abbrev yM_fails : MethodName := ⟨"MidiDeskModel", "fails", "(ZZ)Z"⟩
theorem kM_fails : yM_fails.cls ≠ "java/lang/invoke/MethodHandle" ∧ yM_fails.cls ≠ "java/lang/invoke/VarHandle" ∧ (parseMethodDescriptor yM_fails.desc).map (fun d => d.parameters.length) = some 2 := by decide +kernel
abbrev rM_fails : Room := { frames := 0, cells := 0, slots := 0, locals := 0 }
theorem dM_fails_0 : decode cM_fails 0 = .ok (.aload_n 0, 1) := by decide +kernel
theorem dM_fails_1 : decode cM_fails 1 = .ok (.iload_n 1, 1) := by decide +kernel
theorem dM_fails_2 : decode cM_fails 2 = .ok (.ifCond .eq 7, 3) := by decide +kernel
theorem dM_fails_5 : decode cM_fails 5 = .ok (.iconst 1, 1) := by decide +kernel
theorem dM_fails_6 : decode cM_fails 6 = .ok (.goto 12, 3) := by decide +kernel
theorem dM_fails_9 : decode cM_fails 9 = .ok (.iload_n 2, 1) := by decide +kernel
theorem dM_fails_10 : decode cM_fails 10 = .ok (.ifCond .eq 7, 3) := by decide +kernel
theorem dM_fails_13 : decode cM_fails 13 = .ok (.iconst 2, 1) := by decide +kernel
theorem dM_fails_14 : decode cM_fails 14 = .ok (.goto 4, 3) := by decide +kernel
theorem dM_fails_17 : decode cM_fails 17 = .ok (.iconst 0, 1) := by decide +kernel
theorem dM_fails_18 : decode cM_fails 18 = .ok (.putfield 47, 3) := by decide +kernel
theorem dM_fails_21 : decode cM_fails 21 = .ok (.aload_n 0, 1) := by decide +kernel
theorem dM_fails_22 : decode cM_fails 22 = .ok (.getfield 47, 3) := by decide +kernel
theorem dM_fails_25 : decode cM_fails 25 = .ok (.ifCond .le 7, 3) := by decide +kernel
theorem dM_fails_28 : decode cM_fails 28 = .ok (.iconst 1, 1) := by decide +kernel
theorem dM_fails_29 : decode cM_fails 29 = .ok (.goto 4, 3) := by decide +kernel
theorem dM_fails_32 : decode cM_fails 32 = .ok (.iconst 0, 1) := by decide +kernel
theorem dM_fails_33 : decode cM_fails 33 = .ok (.ireturn, 1) := by decide +kernel
def jM_fails_18 (iv : Nat → Int32) (av : Nat → Nat → Int32) (s1 : Int32) : Option (Int32 × (Nat → Int32) × (Nat → Nat → Int32)) := if ((upd iv 0 s1) 0) ≤ 0 then (some ((0 : Int32), upd iv 0 s1, av)) else (some ((1 : Int32), upd iv 0 s1, av))
def fM_fails (iv : Nat → Int32) (av : Nat → Nat → Int32) (x1 : Int32) (x2 : Int32) : Option (Int32 × (Nat → Int32) × (Nat → Nat → Int32)) := if x1 = 0 then (if x2 = 0 then (jM_fails_18 iv av (0 : Int32)) else (jM_fails_18 iv av (2 : Int32))) else (jM_fails_18 iv av (1 : Int32))
set_option maxHeartbeats 4000000 in
set_option maxRecDepth 100000 in
theorem wM_fails_18 {p : Program} {l : Launch} {e : Env} {s : State} {m : MethodId} {args : Array Value} {below : List Frame} {meth : Method} {c : Code} {g : gT} {q : Nat} {ad : Nat → Nat} {X : va_W} {rv : Option Value} {iv' : Nat → Int32} {av' : Nat → Nat → Int32} {r' : Int32} (C : mCx p m c cM_fails 3 s args g "MidiDeskModel") (hr : meth.sig.returnType = (some .boolean)) (hlk : meth.locks = false) (hrv : rv = some (.int r')) (iv : Nat → Int32) (av : Nat → Nat → Int32) (s1 : Int32) (H : Heap) (locs : List Loc) (ls : Array Slot) (hl : lv_has ls 3 [(0, .ref q)]) (hw : mWd g (mA g q ad X s.heap.size) s.heap q ad X iv av H locs) (hf : jM_fails_18 iv av s1 = some (r', iv', av')) : mG p l e rM_fails s m args below meth c g q ad X rv iv' av' H locs 0 0 (F0 m 18 ls [.int s1, .ref q]) := by
  unfold jM_fails_18 at hf
  refine mp_thrown C hw dM_fails_18 (fun H locs hw => ?_)
  refine lv_aload_n C.1.1 C.1.2.1 dM_fails_21 rfl (lv_at hl 0 rfl) ?_
  refine mg_thrown C hw dM_fails_22 ?_
  refine lv_if_le (tgt := 32) C.1.1 C.1.2.1 dM_fails_25 (by decide) (fun c1 => ?_) (fun c1 => ?_)
  · have hf := ts_t hf c1
    refine lv_iconst (v := (0 : Int32)) C.1.1 C.1.2.1 dM_fails_32 (by decide) ?_
    exact m_retz C hr hlk hrv hw (Or.inl rfl) hf ⟨Nat.le_of_ble_eq_true rfl, Nat.le_of_ble_eq_true rfl⟩ dM_fails_33
  · have hf := ts_f hf c1
    refine lv_iconst (v := (1 : Int32)) C.1.1 C.1.2.1 dM_fails_28 (by decide) ?_
    refine lv_goto (tgt := 33) C.1.1 C.1.2.1 dM_fails_29 (by decide) ?_
    exact m_retz C hr hlk hrv hw (Or.inr rfl) hf ⟨Nat.le_of_ble_eq_true rfl, Nat.le_of_ble_eq_true rfl⟩ dM_fails_33
set_option maxHeartbeats 4000000 in
set_option maxRecDepth 100000 in
theorem cM_fails_met {l : Launch} {g : gT} {q : Nat} {ad : Nat → Nat} {X : va_W} {iv iv' : Nat → Int32} {av av' : Nat → Nat → Int32} {x1 : Int32} {x2 : Int32} {r' : Int32} (hf : fM_fails iv av x1 x2 = some (r', iv', av')) : mMet l yM_fails cM_fails 3 (some .boolean) rM_fails g q ad X iv av [.ref q, .int x1, .int x2] (some (.int r')) iv' av' := by
  refine m_entry (by decide) (Nat.le_of_ble_eq_true rfl) ?_
  intro p e s m args below meth c ls C hr hlk hnm hl hw
  have hrv : ((some (.int r')) : Option Value) = (some (.int r')) := rfl
  have C : mCx p m c cM_fails 3 s args g "MidiDeskModel" := C
  have hl : lv_has ls 3 [(0, .ref q), (1, .int x1), (2, .int x2)] := hl
  unfold fM_fails at hf
  refine lv_aload_n C.1.1 C.1.2.1 dM_fails_0 rfl (lv_at hl 0 rfl) ?_
  refine lv_iload_n C.1.1 C.1.2.1 dM_fails_1 rfl (lv_at hl 1 rfl) ?_
  refine lv_if_eq (tgt := 9) C.1.1 C.1.2.1 dM_fails_2 (by decide) (fun c1 => ?_) (fun c1 => ?_)
  · have hf := ts_t hf c1
    refine lv_iload_n C.1.1 C.1.2.1 dM_fails_9 rfl (lv_at hl 2 rfl) ?_
    refine lv_if_eq (tgt := 17) C.1.1 C.1.2.1 dM_fails_10 (by decide) (fun c2 => ?_) (fun c2 => ?_)
    · have hf := ts_t hf c2
      refine lv_iconst (v := (0 : Int32)) C.1.1 C.1.2.1 dM_fails_17 (by decide) ?_
      exact wM_fails_18 C hr hlk hrv iv av (0 : Int32) _ _ ls (lv_sub hl [0] rfl) hw hf
    · have hf := ts_f hf c2
      refine lv_iconst (v := (2 : Int32)) C.1.1 C.1.2.1 dM_fails_13 (by decide) ?_
      refine lv_goto (tgt := 18) C.1.1 C.1.2.1 dM_fails_14 (by decide) ?_
      exact wM_fails_18 C hr hlk hrv iv av (2 : Int32) _ _ ls (lv_sub hl [0] rfl) hw hf
  · have hf := ts_f hf c1
    refine lv_iconst (v := (1 : Int32)) C.1.1 C.1.2.1 dM_fails_5 (by decide) ?_
    refine lv_goto (tgt := 18) C.1.1 C.1.2.1 dM_fails_6 (by decide) ?_
    exact wM_fails_18 C hr hlk hrv iv av (1 : Int32) _ _ ls (lv_sub hl [0] rfl) hw hf
abbrev cM_feed : ByteArray := prog_8_method_4_code
abbrev yM_feed : MethodName := ⟨"MidiDeskModel", "feed", "(JI)I"⟩
theorem kM_feed : yM_feed.cls ≠ "java/lang/invoke/MethodHandle" ∧ yM_feed.cls ≠ "java/lang/invoke/VarHandle" ∧ (parseMethodDescriptor yM_feed.desc).map (fun d => d.parameters.length) = some 2 := by decide +kernel
abbrev rM_feed : Room := { frames := 0, cells := 0, slots := 0, locals := 0 }
theorem dM_feed_0 : decode cM_feed 0 = .ok (.aload_n 0, 1) := by decide +kernel
theorem dM_feed_1 : decode cM_feed 1 = .ok (.iconst 0, 1) := by decide +kernel
theorem dM_feed_2 : decode cM_feed 2 = .ok (.putfield 47, 3) := by decide +kernel
theorem dM_feed_5 : decode cM_feed 5 = .ok (.iload_n 3, 1) := by decide +kernel
theorem dM_feed_6 : decode cM_feed 6 = .ok (.iconst 1, 1) := by decide +kernel
theorem dM_feed_7 : decode cM_feed 7 = .ok (.if_icmp .lt 21, 3) := by decide +kernel
theorem dM_feed_10 : decode cM_feed 10 = .ok (.iload_n 3, 1) := by decide +kernel
theorem dM_feed_11 : decode cM_feed 11 = .ok (.bipush 8, 2) := by decide +kernel
theorem dM_feed_13 : decode cM_feed 13 = .ok (.if_icmp .gt 15, 3) := by decide +kernel
theorem dM_feed_16 : decode cM_feed 16 = .ok (.aload_n 0, 1) := by decide +kernel
theorem dM_feed_17 : decode cM_feed 17 = .ok (.getfield 51, 3) := by decide +kernel
theorem dM_feed_20 : decode cM_feed 20 = .ok (.iload_n 3, 1) := by decide +kernel
theorem dM_feed_21 : decode cM_feed 21 = .ok (.iadd, 1) := by decide +kernel
theorem dM_feed_22 : decode cM_feed 22 = .ok (.sipush 12000, 3) := by decide +kernel
theorem dM_feed_25 : decode cM_feed 25 = .ok (.if_icmp .le 5, 3) := by decide +kernel
theorem dM_feed_28 : decode cM_feed 28 = .ok (.iconst (-1), 1) := by decide +kernel
theorem dM_feed_29 : decode cM_feed 29 = .ok (.ireturn, 1) := by decide +kernel
theorem dM_feed_30 : decode cM_feed 30 = .ok (.iconst 0, 1) := by decide +kernel
theorem dM_feed_31 : decode cM_feed 31 = .ok (.istore 4, 2) := by decide +kernel
theorem dM_feed_33 : decode cM_feed 33 = .ok (.iload 4, 2) := by decide +kernel
theorem dM_feed_35 : decode cM_feed 35 = .ok (.iload_n 3, 1) := by decide +kernel
theorem dM_feed_36 : decode cM_feed 36 = .ok (.if_icmp .ge 37, 3) := by decide +kernel
theorem dM_feed_39 : decode cM_feed 39 = .ok (.aload_n 0, 1) := by decide +kernel
theorem dM_feed_40 : decode cM_feed 40 = .ok (.getfield 7, 3) := by decide +kernel
theorem dM_feed_43 : decode cM_feed 43 = .ok (.aload_n 0, 1) := by decide +kernel
theorem dM_feed_44 : decode cM_feed 44 = .ok (.getfield 51, 3) := by decide +kernel
theorem dM_feed_47 : decode cM_feed 47 = .ok (.iload 4, 2) := by decide +kernel
theorem dM_feed_49 : decode cM_feed 49 = .ok (.iadd, 1) := by decide +kernel
theorem dM_feed_50 : decode cM_feed 50 = .ok (.lload_n 1, 1) := by decide +kernel
theorem dM_feed_51 : decode cM_feed 51 = .ok (.bipush 8, 2) := by decide +kernel
theorem dM_feed_53 : decode cM_feed 53 = .ok (.iload_n 3, 1) := by decide +kernel
theorem dM_feed_54 : decode cM_feed 54 = .ok (.iconst 1, 1) := by decide +kernel
theorem dM_feed_55 : decode cM_feed 55 = .ok (.isub, 1) := by decide +kernel
theorem dM_feed_56 : decode cM_feed 56 = .ok (.iload 4, 2) := by decide +kernel
theorem dM_feed_58 : decode cM_feed 58 = .ok (.isub, 1) := by decide +kernel
theorem dM_feed_59 : decode cM_feed 59 = .ok (.imul, 1) := by decide +kernel
theorem dM_feed_60 : decode cM_feed 60 = .ok (.lshr, 1) := by decide +kernel
theorem dM_feed_61 : decode cM_feed 61 = .ok (.ldc2_w 54, 3) := by decide +kernel
theorem dM_feed_64 : decode cM_feed 64 = .ok (.land, 1) := by decide +kernel
theorem dM_feed_65 : decode cM_feed 65 = .ok (.l2i, 1) := by decide +kernel
theorem dM_feed_66 : decode cM_feed 66 = .ok (.iastore, 1) := by decide +kernel
theorem dM_feed_67 : decode cM_feed 67 = .ok (.iinc 4 1, 3) := by decide +kernel
theorem dM_feed_70 : decode cM_feed 70 = .ok (.goto (-37), 3) := by decide +kernel
theorem dM_feed_73 : decode cM_feed 73 = .ok (.aload_n 0, 1) := by decide +kernel
theorem dM_feed_74 : decode cM_feed 74 = .ok (.dup, 1) := by decide +kernel
theorem dM_feed_75 : decode cM_feed 75 = .ok (.getfield 51, 3) := by decide +kernel
theorem dM_feed_78 : decode cM_feed 78 = .ok (.iload_n 3, 1) := by decide +kernel
theorem dM_feed_79 : decode cM_feed 79 = .ok (.iadd, 1) := by decide +kernel
theorem dM_feed_80 : decode cM_feed 80 = .ok (.putfield 51, 3) := by decide +kernel
theorem dM_feed_83 : decode cM_feed 83 = .ok (.aload_n 0, 1) := by decide +kernel
theorem dM_feed_84 : decode cM_feed 84 = .ok (.getfield 51, 3) := by decide +kernel
theorem dM_feed_87 : decode cM_feed 87 = .ok (.ireturn, 1) := by decide +kernel
def lM_feed_33 : Nat → (Nat → Int32) → (Nat → Nat → Int32) → Int64 → Int32 → Int32 → Option (Int32 × (Nat → Int32) × (Nat → Nat → Int32))
  | 0 => fun _ _ _ _ _ => none
  | k + 1 => fun iv av y1 x3 x4 => if x3 ≤ x4 then (some ((upd iv 1 ((iv 1) + x3)) 1, upd iv 1 ((iv 1) + x3), av)) else (if ((iv 1) + x4) < 0 ∨ 12000 ≤ ((iv 1) + x4).toNatClampNeg then none else (lM_feed_33 k iv (up2 av 0 ((iv 1) + x4).toNatClampNeg (((y1 >>> (((8 : Int32) * ((x3 - (1 : Int32)) - x4)).toInt64 &&& 63)) &&& (255 : Int64)).toInt32)) y1 x3 (x4 + 1)))
def fM_feed (iv : Nat → Int32) (av : Nat → Nat → Int32) (y1 : Int64) (x3 : Int32) : Option (Int32 × (Nat → Int32) × (Nat → Nat → Int32)) := if x3 < (1 : Int32) then (some ((-1 : Int32), upd iv 0 (0 : Int32), av)) else (if (8 : Int32) < x3 then (some ((-1 : Int32), upd iv 0 (0 : Int32), av)) else (if (((upd iv 0 (0 : Int32)) 1) + x3) ≤ (12000 : Int32) then (lM_feed_33 FU (upd iv 0 (0 : Int32)) av y1 x3 (0 : Int32)) else (some ((-1 : Int32), upd iv 0 (0 : Int32), av))))
set_option maxHeartbeats 4000000 in
set_option maxRecDepth 100000 in
theorem wM_feed_33 {p : Program} {l : Launch} {e : Env} {s : State} {m : MethodId} {args : Array Value} {below : List Frame} {meth : Method} {c : Code} {g : gT} {q : Nat} {ad : Nat → Nat} {X : va_W} {rv : Option Value} {iv' : Nat → Int32} {av' : Nat → Nat → Int32} {r' : Int32} (C : mCx p m c cM_feed 5 s args g "MidiDeskModel") (hr : meth.sig.returnType = (some .int)) (hlk : meth.locks = false) (hrv : rv = some (.int r')) (k : Nat) : ∀ (iv : Nat → Int32) (av : Nat → Nat → Int32) (y1 : Int64) (x3 : Int32) (x4 : Int32) (H : Heap) (locs : List Loc) (ls : Array Slot), lv_has ls 5 [(0, .ref q), (1, .long y1), (3, .int x3), (4, .int x4)] → mWd g (mA g q ad X s.heap.size) s.heap q ad X iv av H locs → lM_feed_33 k iv av y1 x3 x4 = some (r', iv', av') → mG p l e rM_feed s m args below meth c g q ad X rv iv' av' H locs 0 0 (F0 m 33 ls []) := by
  induction k with
  | zero => intro iv av y1 x3 x4 H locs ls hl hw hf; cases hf
  | succ k ih =>
    intro iv av y1 x3 x4 H locs ls hl hw hf
    have hf : (if x3 ≤ x4 then (some ((upd iv 1 ((iv 1) + x3)) 1, upd iv 1 ((iv 1) + x3), av)) else (if ((iv 1) + x4) < 0 ∨ 12000 ≤ ((iv 1) + x4).toNatClampNeg then none else (lM_feed_33 k iv (up2 av 0 ((iv 1) + x4).toNatClampNeg (((y1 >>> (((8 : Int32) * ((x3 - (1 : Int32)) - x4)).toInt64 &&& 63)) &&& (255 : Int64)).toInt32)) y1 x3 (x4 + 1)))) = some (r', iv', av') := hf
    refine lv_iload C.1.1 C.1.2.1 dM_feed_33 (lv_at hl 3 rfl) ?_
    refine lv_iload_n C.1.1 C.1.2.1 dM_feed_35 rfl (lv_at hl 2 rfl) ?_
    refine lv_icmp_ge (tgt := 73) C.1.1 C.1.2.1 dM_feed_36 (by decide) (fun c1 => ?_) (fun c1 => ?_)
    · have hf := ts_t hf c1
      refine lv_aload_n C.1.1 C.1.2.1 dM_feed_73 rfl (lv_at hl 0 rfl) ?_
      refine lv_dup C.1.1 C.1.2.1 dM_feed_74 rfl ?_
      refine mg_size C hw dM_feed_75 ?_
      refine lv_iload_n C.1.1 C.1.2.1 dM_feed_78 rfl (lv_at hl 2 rfl) ?_
      refine lv_iadd C.1.1 C.1.2.1 dM_feed_79 ?_
      refine mp_size C hw dM_feed_80 (fun H locs hw => ?_)
      refine lv_aload_n C.1.1 C.1.2.1 dM_feed_83 rfl (lv_at hl 0 rfl) ?_
      refine mg_size C hw dM_feed_84 ?_
      exact m_reti C hr hlk hrv hw hf ⟨Nat.le_of_ble_eq_true rfl, Nat.le_of_ble_eq_true rfl⟩ dM_feed_87
    · have hf := ts_f hf c1
      refine lv_aload_n C.1.1 C.1.2.1 dM_feed_39 rfl (lv_at hl 0 rfl) ?_
      refine mg_input C hw dM_feed_40 ?_
      refine lv_aload_n C.1.1 C.1.2.1 dM_feed_43 rfl (lv_at hl 0 rfl) ?_
      refine mg_size C hw dM_feed_44 ?_
      refine lv_iload C.1.1 C.1.2.1 dM_feed_47 (lv_at hl 3 rfl) ?_
      refine lv_iadd C.1.1 C.1.2.1 dM_feed_49 ?_
      refine lv_lload_n C.1.1 C.1.2.1 dM_feed_50 rfl (lv_at hl 1 rfl) ?_
      refine lv_bipush (v := (8 : Int32)) C.1.1 C.1.2.1 dM_feed_51 (by decide) ?_
      refine lv_iload_n C.1.1 C.1.2.1 dM_feed_53 rfl (lv_at hl 2 rfl) ?_
      refine lv_iconst (v := (1 : Int32)) C.1.1 C.1.2.1 dM_feed_54 (by decide) ?_
      refine lv_isub C.1.1 C.1.2.1 dM_feed_55 ?_
      refine lv_iload C.1.1 C.1.2.1 dM_feed_56 (lv_at hl 3 rfl) ?_
      refine lv_isub C.1.1 C.1.2.1 dM_feed_58 ?_
      refine lv_imul C.1.1 C.1.2.1 dM_feed_59 ?_
      refine lv_lshr C.1.1 C.1.2.1 dM_feed_60 rfl ?_
      refine lv_ldc2 C.1.1 C.1.2.1 C.1.2.2.2.1 (C.1.2.2.2.2 _ gw_799) dM_feed_61 ?_
      refine lv_land C.1.1 C.1.2.1 dM_feed_64 ?_
      refine lv_l2i C.1.1 C.1.2.1 dM_feed_65 rfl ?_
      obtain ⟨h2, hf⟩ := ts_g hf
      refine ms_input C hw h2 dM_feed_66 (fun H locs hw => ?_)
      refine lv_iinc (v := x4 + 1) (lv' := [(4, .int (x4 + 1)), (0, .ref q), (1, .long y1), (3, .int x3)]) C.1.1 C.1.2.1 dM_feed_67 hl (k := 3) rfl rfl (by decide) rfl (fun ls hl => ?_)
      refine lv_goto (tgt := 33) C.1.1 C.1.2.1 dM_feed_70 (by decide) ?_
      exact ih iv (up2 av 0 ((iv 1) + x4).toNatClampNeg (((y1 >>> (((8 : Int32) * ((x3 - (1 : Int32)) - x4)).toInt64 &&& 63)) &&& (255 : Int64)).toInt32)) y1 x3 (x4 + 1) _ _ ls (lv_sub hl [1, 2, 3, 0] rfl) hw hf
set_option maxHeartbeats 4000000 in
set_option maxRecDepth 100000 in
theorem cM_feed_met {l : Launch} {g : gT} {q : Nat} {ad : Nat → Nat} {X : va_W} {iv iv' : Nat → Int32} {av av' : Nat → Nat → Int32} {y1 : Int64} {x3 : Int32} {r' : Int32} (hf : fM_feed iv av y1 x3 = some (r', iv', av')) : mMet l yM_feed cM_feed 5 (some .int) rM_feed g q ad X iv av [.ref q, .long y1, .int x3] (some (.int r')) iv' av' := by
  refine m_entry (by decide) (Nat.le_of_ble_eq_true rfl) ?_
  intro p e s m args below meth c ls C hr hlk hnm hl hw
  have hrv : ((some (.int r')) : Option Value) = (some (.int r')) := rfl
  have C : mCx p m c cM_feed 5 s args g "MidiDeskModel" := C
  have hl : lv_has ls 5 [(0, .ref q), (1, .long y1), (3, .int x3)] := hl
  unfold fM_feed at hf
  refine lv_aload_n C.1.1 C.1.2.1 dM_feed_0 rfl (lv_at hl 0 rfl) ?_
  refine lv_iconst (v := (0 : Int32)) C.1.1 C.1.2.1 dM_feed_1 (by decide) ?_
  refine mp_thrown C hw dM_feed_2 (fun H locs hw => ?_)
  refine lv_iload_n C.1.1 C.1.2.1 dM_feed_5 rfl (lv_at hl 2 rfl) ?_
  refine lv_iconst (v := (1 : Int32)) C.1.1 C.1.2.1 dM_feed_6 (by decide) ?_
  refine lv_icmp_lt (tgt := 28) C.1.1 C.1.2.1 dM_feed_7 (by decide) (fun c1 => ?_) (fun c1 => ?_)
  · have hf := ts_t hf c1
    refine lv_iconst (v := (-1 : Int32)) C.1.1 C.1.2.1 dM_feed_28 (by decide) ?_
    exact m_reti C hr hlk hrv hw hf ⟨Nat.le_of_ble_eq_true rfl, Nat.le_of_ble_eq_true rfl⟩ dM_feed_29
  · have hf := ts_f hf c1
    refine lv_iload_n C.1.1 C.1.2.1 dM_feed_10 rfl (lv_at hl 2 rfl) ?_
    refine lv_bipush (v := (8 : Int32)) C.1.1 C.1.2.1 dM_feed_11 (by decide) ?_
    refine lv_icmp_gt (tgt := 28) C.1.1 C.1.2.1 dM_feed_13 (by decide) (fun c2 => ?_) (fun c2 => ?_)
    · have hf := ts_t hf c2
      refine lv_iconst (v := (-1 : Int32)) C.1.1 C.1.2.1 dM_feed_28 (by decide) ?_
      exact m_reti C hr hlk hrv hw hf ⟨Nat.le_of_ble_eq_true rfl, Nat.le_of_ble_eq_true rfl⟩ dM_feed_29
    · have hf := ts_f hf c2
      refine lv_aload_n C.1.1 C.1.2.1 dM_feed_16 rfl (lv_at hl 0 rfl) ?_
      refine mg_size C hw dM_feed_17 ?_
      refine lv_iload_n C.1.1 C.1.2.1 dM_feed_20 rfl (lv_at hl 2 rfl) ?_
      refine lv_iadd C.1.1 C.1.2.1 dM_feed_21 ?_
      refine lv_sipush (v := (12000 : Int32)) C.1.1 C.1.2.1 dM_feed_22 (by decide) ?_
      refine lv_icmp_le (tgt := 30) C.1.1 C.1.2.1 dM_feed_25 (by decide) (fun c3 => ?_) (fun c3 => ?_)
      · have hf := ts_t hf c3
        refine lv_iconst (v := (0 : Int32)) C.1.1 C.1.2.1 dM_feed_30 (by decide) ?_
        refine lv_istore (lv' := [(4, .int (0 : Int32)), (0, .ref q), (1, .long y1), (3, .int x3)]) C.1.1 C.1.2.1 dM_feed_31 hl (by decide) rfl (fun ls hl => ?_)
        exact wM_feed_33 C hr hlk hrv FU (upd iv 0 (0 : Int32)) av y1 x3 (0 : Int32) _ _ ls (lv_sub hl [1, 2, 3, 0] rfl) hw hf
      · have hf := ts_f hf c3
        refine lv_iconst (v := (-1 : Int32)) C.1.1 C.1.2.1 dM_feed_28 (by decide) ?_
        exact m_reti C hr hlk hrv hw hf ⟨Nat.le_of_ble_eq_true rfl, Nat.le_of_ble_eq_true rfl⟩ dM_feed_29
abbrev cM_fail : ByteArray := prog_8_method_5_code
abbrev yM_fail : MethodName := ⟨"MidiDeskModel", "fail", "(II)V"⟩
theorem kM_fail : yM_fail.cls ≠ "java/lang/invoke/MethodHandle" ∧ yM_fail.cls ≠ "java/lang/invoke/VarHandle" ∧ (parseMethodDescriptor yM_fail.desc).map (fun d => d.parameters.length) = some 2 := by decide +kernel
abbrev rM_fail : Room := { frames := 0, cells := 0, slots := 0, locals := 0 }
theorem dM_fail_0 : decode cM_fail 0 = .ok (.aload_n 0, 1) := by decide +kernel
theorem dM_fail_1 : decode cM_fail 1 = .ok (.getfield 56, 3) := by decide +kernel
theorem dM_fail_4 : decode cM_fail 4 = .ok (.ifCond .le 4, 3) := by decide +kernel
theorem dM_fail_7 : decode cM_fail 7 = .ok (.return_, 1) := by decide +kernel
theorem dM_fail_8 : decode cM_fail 8 = .ok (.aload_n 0, 1) := by decide +kernel
theorem dM_fail_9 : decode cM_fail 9 = .ok (.iload_n 1, 1) := by decide +kernel
theorem dM_fail_10 : decode cM_fail 10 = .ok (.putfield 56, 3) := by decide +kernel
theorem dM_fail_13 : decode cM_fail 13 = .ok (.aload_n 0, 1) := by decide +kernel
theorem dM_fail_14 : decode cM_fail 14 = .ok (.iload_n 2, 1) := by decide +kernel
theorem dM_fail_15 : decode cM_fail 15 = .ok (.putfield 59, 3) := by decide +kernel
theorem dM_fail_18 : decode cM_fail 18 = .ok (.return_, 1) := by decide +kernel
def fM_fail (iv : Nat → Int32) (av : Nat → Nat → Int32) (x1 : Int32) (x2 : Int32) : Option ((Nat → Int32) × (Nat → Nat → Int32)) := if (iv 4) ≤ 0 then (some (upd (upd iv 4 x1) 5 x2, av)) else (some (iv, av))
set_option maxHeartbeats 4000000 in
set_option maxRecDepth 100000 in
theorem cM_fail_met {l : Launch} {g : gT} {q : Nat} {ad : Nat → Nat} {X : va_W} {iv iv' : Nat → Int32} {av av' : Nat → Nat → Int32} {x1 : Int32} {x2 : Int32} (hf : fM_fail iv av x1 x2 = some (iv', av')) : mMet l yM_fail cM_fail 3 none rM_fail g q ad X iv av [.ref q, .int x1, .int x2] none iv' av' := by
  refine m_entry (by decide) (Nat.le_of_ble_eq_true rfl) ?_
  intro p e s m args below meth c ls C hr hlk hnm hl hw
  have hrv : (none : Option Value) = none := rfl
  have C : mCx p m c cM_fail 3 s args g "MidiDeskModel" := C
  have hl : lv_has ls 3 [(0, .ref q), (1, .int x1), (2, .int x2)] := hl
  unfold fM_fail at hf
  refine lv_aload_n C.1.1 C.1.2.1 dM_fail_0 rfl (lv_at hl 0 rfl) ?_
  refine mg_fault C hw dM_fail_1 ?_
  refine lv_if_le (tgt := 8) C.1.1 C.1.2.1 dM_fail_4 (by decide) (fun c1 => ?_) (fun c1 => ?_)
  · have hf := ts_t hf c1
    refine lv_aload_n C.1.1 C.1.2.1 dM_fail_8 rfl (lv_at hl 0 rfl) ?_
    refine lv_iload_n C.1.1 C.1.2.1 dM_fail_9 rfl (lv_at hl 1 rfl) ?_
    refine mp_fault C hw dM_fail_10 (fun H locs hw => ?_)
    refine lv_aload_n C.1.1 C.1.2.1 dM_fail_13 rfl (lv_at hl 0 rfl) ?_
    refine lv_iload_n C.1.1 C.1.2.1 dM_fail_14 rfl (lv_at hl 2 rfl) ?_
    refine mp_place C hw dM_fail_15 (fun H locs hw => ?_)
    exact m_retv C hr hlk hrv hw hf ⟨Nat.le_of_ble_eq_true rfl, Nat.le_of_ble_eq_true rfl⟩ dM_fail_18
  · have hf := ts_f hf c1
    exact m_retv C hr hlk hrv hw hf ⟨Nat.le_of_ble_eq_true rfl, Nat.le_of_ble_eq_true rfl⟩ dM_fail_7
abbrev cM_taken : ByteArray := prog_8_method_6_code
abbrev yM_taken : MethodName := ⟨"MidiDeskModel", "taken", "(I)J"⟩
theorem kM_taken : yM_taken.cls ≠ "java/lang/invoke/MethodHandle" ∧ yM_taken.cls ≠ "java/lang/invoke/VarHandle" ∧ (parseMethodDescriptor yM_taken.desc).map (fun d => d.parameters.length) = some 1 := by decide +kernel
abbrev rM_taken : Room := { frames := 1, cells := 0, slots := 0, locals := 22 }
theorem dM_taken_0 : decode cM_taken 0 = .ok (.aload_n 0, 1) := by decide +kernel
theorem dM_taken_1 : decode cM_taken 1 = .ok (.getfield 56, 3) := by decide +kernel
theorem dM_taken_4 : decode cM_taken 4 = .ok (.ifCond .ne 25, 3) := by decide +kernel
theorem dM_taken_7 : decode cM_taken 7 = .ok (.aload_n 0, 1) := by decide +kernel
theorem dM_taken_8 : decode cM_taken 8 = .ok (.getfield 62, 3) := by decide +kernel
theorem dM_taken_11 : decode cM_taken 11 = .ok (.iload_n 1, 1) := by decide +kernel
theorem dM_taken_12 : decode cM_taken 12 = .ok (.iadd, 1) := by decide +kernel
theorem dM_taken_13 : decode cM_taken 13 = .ok (.aload_n 0, 1) := by decide +kernel
theorem dM_taken_14 : decode cM_taken 14 = .ok (.getfield 65, 3) := by decide +kernel
theorem dM_taken_17 : decode cM_taken 17 = .ok (.if_icmp .le 12, 3) := by decide +kernel
theorem dM_taken_20 : decode cM_taken 20 = .ok (.aload_n 0, 1) := by decide +kernel
theorem dM_taken_21 : decode cM_taken 21 = .ok (.iconst 1, 1) := by decide +kernel
theorem dM_taken_22 : decode cM_taken 22 = .ok (.aload_n 0, 1) := by decide +kernel
theorem dM_taken_23 : decode cM_taken 23 = .ok (.getfield 65, 3) := by decide +kernel
theorem dM_taken_26 : decode cM_taken 26 = .ok (.invokevirtual 68, 3) := by decide +kernel
theorem dM_taken_29 : decode cM_taken 29 = .ok (.aload_n 0, 1) := by decide +kernel
theorem dM_taken_30 : decode cM_taken 30 = .ok (.getfield 56, 3) := by decide +kernel
theorem dM_taken_33 : decode cM_taken 33 = .ok (.ifCond .le 5, 3) := by decide +kernel
theorem dM_taken_36 : decode cM_taken 36 = .ok (.lconst 0, 1) := by decide +kernel
theorem dM_taken_37 : decode cM_taken 37 = .ok (.lreturn, 1) := by decide +kernel
theorem dM_taken_38 : decode cM_taken 38 = .ok (.lconst 0, 1) := by decide +kernel
theorem dM_taken_39 : decode cM_taken 39 = .ok (.lstore_n 2, 1) := by decide +kernel
theorem dM_taken_40 : decode cM_taken 40 = .ok (.iconst 0, 1) := by decide +kernel
theorem dM_taken_41 : decode cM_taken 41 = .ok (.istore 4, 2) := by decide +kernel
theorem dM_taken_43 : decode cM_taken 43 = .ok (.iload 4, 2) := by decide +kernel
theorem dM_taken_45 : decode cM_taken 45 = .ok (.iload_n 1, 1) := by decide +kernel
theorem dM_taken_46 : decode cM_taken 46 = .ok (.if_icmp .ge 29, 3) := by decide +kernel
theorem dM_taken_49 : decode cM_taken 49 = .ok (.ldc2_w 72, 3) := by decide +kernel
theorem dM_taken_52 : decode cM_taken 52 = .ok (.lload_n 2, 1) := by decide +kernel
theorem dM_taken_53 : decode cM_taken 53 = .ok (.lmul, 1) := by decide +kernel
theorem dM_taken_54 : decode cM_taken 54 = .ok (.aload_n 0, 1) := by decide +kernel
theorem dM_taken_55 : decode cM_taken 55 = .ok (.getfield 7, 3) := by decide +kernel
theorem dM_taken_58 : decode cM_taken 58 = .ok (.aload_n 0, 1) := by decide +kernel
theorem dM_taken_59 : decode cM_taken 59 = .ok (.getfield 62, 3) := by decide +kernel
theorem dM_taken_62 : decode cM_taken 62 = .ok (.iload 4, 2) := by decide +kernel
theorem dM_taken_64 : decode cM_taken 64 = .ok (.iadd, 1) := by decide +kernel
theorem dM_taken_65 : decode cM_taken 65 = .ok (.iaload, 1) := by decide +kernel
theorem dM_taken_66 : decode cM_taken 66 = .ok (.i2l, 1) := by decide +kernel
theorem dM_taken_67 : decode cM_taken 67 = .ok (.ladd, 1) := by decide +kernel
theorem dM_taken_68 : decode cM_taken 68 = .ok (.lstore_n 2, 1) := by decide +kernel
theorem dM_taken_69 : decode cM_taken 69 = .ok (.iinc 4 1, 3) := by decide +kernel
theorem dM_taken_72 : decode cM_taken 72 = .ok (.goto (-29), 3) := by decide +kernel
theorem dM_taken_75 : decode cM_taken 75 = .ok (.aload_n 0, 1) := by decide +kernel
theorem dM_taken_76 : decode cM_taken 76 = .ok (.dup, 1) := by decide +kernel
theorem dM_taken_77 : decode cM_taken 77 = .ok (.getfield 62, 3) := by decide +kernel
theorem dM_taken_80 : decode cM_taken 80 = .ok (.iload_n 1, 1) := by decide +kernel
theorem dM_taken_81 : decode cM_taken 81 = .ok (.iadd, 1) := by decide +kernel
theorem dM_taken_82 : decode cM_taken 82 = .ok (.putfield 62, 3) := by decide +kernel
theorem dM_taken_85 : decode cM_taken 85 = .ok (.lload_n 2, 1) := by decide +kernel
theorem dM_taken_86 : decode cM_taken 86 = .ok (.lreturn, 1) := by decide +kernel
def lM_taken_43 : Nat → (Nat → Int32) → (Nat → Nat → Int32) → Int32 → Int64 → Int32 → Option (Int64 × (Nat → Int32) × (Nat → Nat → Int32))
  | 0 => fun _ _ _ _ _ => none
  | k + 1 => fun iv av x1 y2 x4 => if x1 ≤ x4 then (some (y2, upd iv 2 ((iv 2) + x1), av)) else (if ((iv 2) + x4) < 0 ∨ 12000 ≤ ((iv 2) + x4).toNatClampNeg then none else (lM_taken_43 k iv av x1 (((256 : Int64) * y2) + ((av 0 ((iv 2) + x4).toNatClampNeg).toInt64)) (x4 + 1)))
def jM_taken_29 (iv : Nat → Int32) (av : Nat → Nat → Int32) (x1 : Int32) : Option (Int64 × (Nat → Int32) × (Nat → Nat → Int32)) := if (iv 4) ≤ 0 then (lM_taken_43 FU iv av x1 (0 : Int64) (0 : Int32)) else (some ((0 : Int64), iv, av))
def fM_taken (iv : Nat → Int32) (av : Nat → Nat → Int32) (x1 : Int32) : Option (Int64 × (Nat → Int32) × (Nat → Nat → Int32)) := if (iv 4) = 0 then (if ((iv 2) + x1) ≤ (iv 3) then (jM_taken_29 iv av x1) else ((fM_fail iv av (1 : Int32) (iv 3)).bind fun (iv3, av3) => jM_taken_29 iv3 av3 x1)) else (jM_taken_29 iv av x1)
set_option maxHeartbeats 4000000 in
set_option maxRecDepth 100000 in
theorem wM_taken_43 {p : Program} {l : Launch} {e : Env} {s : State} {m : MethodId} {args : Array Value} {below : List Frame} {meth : Method} {c : Code} {g : gT} {q : Nat} {ad : Nat → Nat} {X : va_W} {rv : Option Value} {iv' : Nat → Int32} {av' : Nat → Nat → Int32} {r' : Int64} (C : mCx p m c cM_taken 5 s args g "MidiDeskModel") (hr : meth.sig.returnType = (some .long)) (hlk : meth.locks = false) (hrv : rv = some (.long r')) (k : Nat) : ∀ (iv : Nat → Int32) (av : Nat → Nat → Int32) (x1 : Int32) (y2 : Int64) (x4 : Int32) (H : Heap) (locs : List Loc) (ls : Array Slot), lv_has ls 5 [(0, .ref q), (1, .int x1), (2, .long y2), (4, .int x4)] → mWd g (mA g q ad X s.heap.size) s.heap q ad X iv av H locs → lM_taken_43 k iv av x1 y2 x4 = some (r', iv', av') → mG p l e rM_taken s m args below meth c g q ad X rv iv' av' H locs 0 0 (F0 m 43 ls []) := by
  induction k with
  | zero => intro iv av x1 y2 x4 H locs ls hl hw hf; cases hf
  | succ k ih =>
    intro iv av x1 y2 x4 H locs ls hl hw hf
    have hf : (if x1 ≤ x4 then (some (y2, upd iv 2 ((iv 2) + x1), av)) else (if ((iv 2) + x4) < 0 ∨ 12000 ≤ ((iv 2) + x4).toNatClampNeg then none else (lM_taken_43 k iv av x1 (((256 : Int64) * y2) + ((av 0 ((iv 2) + x4).toNatClampNeg).toInt64)) (x4 + 1)))) = some (r', iv', av') := hf
    refine lv_iload C.1.1 C.1.2.1 dM_taken_43 (lv_at hl 3 rfl) ?_
    refine lv_iload_n C.1.1 C.1.2.1 dM_taken_45 rfl (lv_at hl 1 rfl) ?_
    refine lv_icmp_ge (tgt := 75) C.1.1 C.1.2.1 dM_taken_46 (by decide) (fun c1 => ?_) (fun c1 => ?_)
    · have hf := ts_t hf c1
      refine lv_aload_n C.1.1 C.1.2.1 dM_taken_75 rfl (lv_at hl 0 rfl) ?_
      refine lv_dup C.1.1 C.1.2.1 dM_taken_76 rfl ?_
      refine mg_at C hw dM_taken_77 ?_
      refine lv_iload_n C.1.1 C.1.2.1 dM_taken_80 rfl (lv_at hl 1 rfl) ?_
      refine lv_iadd C.1.1 C.1.2.1 dM_taken_81 ?_
      refine mp_at C hw dM_taken_82 (fun H locs hw => ?_)
      refine lv_lload_n C.1.1 C.1.2.1 dM_taken_85 rfl (lv_at hl 2 rfl) ?_
      exact m_retl C hr hlk hrv hw hf ⟨Nat.le_of_ble_eq_true rfl, Nat.le_of_ble_eq_true rfl⟩ dM_taken_86
    · have hf := ts_f hf c1
      refine lv_ldc2 C.1.1 C.1.2.1 C.1.2.2.2.1 (C.1.2.2.2.2 _ gw_816) dM_taken_49 ?_
      refine lv_lload_n C.1.1 C.1.2.1 dM_taken_52 rfl (lv_at hl 2 rfl) ?_
      refine lv_lmul C.1.1 C.1.2.1 dM_taken_53 ?_
      refine lv_aload_n C.1.1 C.1.2.1 dM_taken_54 rfl (lv_at hl 0 rfl) ?_
      refine mg_input C hw dM_taken_55 ?_
      refine lv_aload_n C.1.1 C.1.2.1 dM_taken_58 rfl (lv_at hl 0 rfl) ?_
      refine mg_at C hw dM_taken_59 ?_
      refine lv_iload C.1.1 C.1.2.1 dM_taken_62 (lv_at hl 3 rfl) ?_
      refine lv_iadd C.1.1 C.1.2.1 dM_taken_64 ?_
      obtain ⟨h2, hf⟩ := ts_g hf
      refine ma_input C hw h2 dM_taken_65 ?_
      refine lv_i2l C.1.1 C.1.2.1 dM_taken_66 rfl ?_
      refine lv_ladd C.1.1 C.1.2.1 dM_taken_67 ?_
      refine lv_lstore_n (lv' := [(2, .long (((256 : Int64) * y2) + ((av 0 ((iv 2) + x4).toNatClampNeg).toInt64))), (0, .ref q), (1, .int x1), (4, .int x4)]) C.1.1 C.1.2.1 dM_taken_68 rfl hl (by decide) rfl (fun ls hl => ?_)
      refine lv_iinc (v := x4 + 1) (lv' := [(4, .int (x4 + 1)), (2, .long (((256 : Int64) * y2) + ((av 0 ((iv 2) + x4).toNatClampNeg).toInt64))), (0, .ref q), (1, .int x1)]) C.1.1 C.1.2.1 dM_taken_69 hl (k := 3) rfl rfl (by decide) rfl (fun ls hl => ?_)
      refine lv_goto (tgt := 43) C.1.1 C.1.2.1 dM_taken_72 (by decide) ?_
      exact ih iv av x1 (((256 : Int64) * y2) + ((av 0 ((iv 2) + x4).toNatClampNeg).toInt64)) (x4 + 1) _ _ ls (lv_sub hl [2, 3, 1, 0] rfl) hw hf
set_option maxHeartbeats 4000000 in
set_option maxRecDepth 100000 in
theorem wM_taken_29 {p : Program} {l : Launch} {e : Env} {s : State} {m : MethodId} {args : Array Value} {below : List Frame} {meth : Method} {c : Code} {g : gT} {q : Nat} {ad : Nat → Nat} {X : va_W} {rv : Option Value} {iv' : Nat → Int32} {av' : Nat → Nat → Int32} {r' : Int64} (C : mCx p m c cM_taken 5 s args g "MidiDeskModel") (hr : meth.sig.returnType = (some .long)) (hlk : meth.locks = false) (hrv : rv = some (.long r')) (iv : Nat → Int32) (av : Nat → Nat → Int32) (x1 : Int32) (H : Heap) (locs : List Loc) (ls : Array Slot) (hl : lv_has ls 5 [(0, .ref q), (1, .int x1)]) (hw : mWd g (mA g q ad X s.heap.size) s.heap q ad X iv av H locs) (hf : jM_taken_29 iv av x1 = some (r', iv', av')) : mG p l e rM_taken s m args below meth c g q ad X rv iv' av' H locs 0 0 (F0 m 29 ls []) := by
  unfold jM_taken_29 at hf
  refine lv_aload_n C.1.1 C.1.2.1 dM_taken_29 rfl (lv_at hl 0 rfl) ?_
  refine mg_fault C hw dM_taken_30 ?_
  refine lv_if_le (tgt := 38) C.1.1 C.1.2.1 dM_taken_33 (by decide) (fun c1 => ?_) (fun c1 => ?_)
  · have hf := ts_t hf c1
    refine lv_lconst (v := 0) C.1.1 C.1.2.1 dM_taken_38 (by decide) ?_
    refine lv_lstore_n (lv' := [(2, .long (0 : Int64)), (0, .ref q), (1, .int x1)]) C.1.1 C.1.2.1 dM_taken_39 rfl hl (by decide) rfl (fun ls hl => ?_)
    refine lv_iconst (v := (0 : Int32)) C.1.1 C.1.2.1 dM_taken_40 (by decide) ?_
    refine lv_istore (lv' := [(4, .int (0 : Int32)), (2, .long (0 : Int64)), (0, .ref q), (1, .int x1)]) C.1.1 C.1.2.1 dM_taken_41 hl (by decide) rfl (fun ls hl => ?_)
    exact wM_taken_43 C hr hlk hrv FU iv av x1 (0 : Int64) (0 : Int32) _ _ ls (lv_sub hl [2, 3, 1, 0] rfl) hw hf
  · have hf := ts_f hf c1
    refine lv_lconst (v := 0) C.1.1 C.1.2.1 dM_taken_36 (by decide) ?_
    exact m_retl C hr hlk hrv hw hf ⟨Nat.le_of_ble_eq_true rfl, Nat.le_of_ble_eq_true rfl⟩ dM_taken_37
set_option maxHeartbeats 4000000 in
set_option maxRecDepth 100000 in
theorem cM_taken_met {l : Launch} {g : gT} {q : Nat} {ad : Nat → Nat} {X : va_W} {iv iv' : Nat → Int32} {av av' : Nat → Nat → Int32} {x1 : Int32} {r' : Int64} (hf : fM_taken iv av x1 = some (r', iv', av')) : mMet l yM_taken cM_taken 5 (some .long) rM_taken g q ad X iv av [.ref q, .int x1] (some (.long r')) iv' av' := by
  refine m_entry (by decide) (Nat.le_of_ble_eq_true rfl) ?_
  intro p e s m args below meth c ls C hr hlk hnm hl hw
  have hrv : ((some (.long r')) : Option Value) = (some (.long r')) := rfl
  have C : mCx p m c cM_taken 5 s args g "MidiDeskModel" := C
  have hl : lv_has ls 5 [(0, .ref q), (1, .int x1)] := hl
  unfold fM_taken at hf
  refine lv_aload_n C.1.1 C.1.2.1 dM_taken_0 rfl (lv_at hl 0 rfl) ?_
  refine mg_fault C hw dM_taken_1 ?_
  refine lv_if_ne (tgt := 29) C.1.1 C.1.2.1 dM_taken_4 (by decide) (fun c1 => ?_) (fun c1 => ?_)
  · have hf := ts_f hf c1
    exact wM_taken_29 C hr hlk hrv iv av x1 _ _ ls (lv_sub hl [0, 1] rfl) hw hf
  · have hf := ts_t hf c1
    refine lv_aload_n C.1.1 C.1.2.1 dM_taken_7 rfl (lv_at hl 0 rfl) ?_
    refine mg_at C hw dM_taken_8 ?_
    refine lv_iload_n C.1.1 C.1.2.1 dM_taken_11 rfl (lv_at hl 1 rfl) ?_
    refine lv_iadd C.1.1 C.1.2.1 dM_taken_12 ?_
    refine lv_aload_n C.1.1 C.1.2.1 dM_taken_13 rfl (lv_at hl 0 rfl) ?_
    refine mg_end C hw dM_taken_14 ?_
    refine lv_icmp_le (tgt := 29) C.1.1 C.1.2.1 dM_taken_17 (by decide) (fun c2 => ?_) (fun c2 => ?_)
    · have hf := ts_t hf c2
      exact wM_taken_29 C hr hlk hrv iv av x1 _ _ ls (lv_sub hl [0, 1] rfl) hw hf
    · have hf := ts_f hf c2
      refine lv_aload_n C.1.1 C.1.2.1 dM_taken_20 rfl (lv_at hl 0 rfl) ?_
      refine lv_iconst (v := (1 : Int32)) C.1.1 C.1.2.1 dM_taken_21 (by decide) ?_
      refine lv_aload_n C.1.1 C.1.2.1 dM_taken_22 rfl (lv_at hl 0 rfl) ?_
      refine mg_end C hw dM_taken_23 ?_
      obtain ⟨⟨iv3, av3⟩, g3, hf⟩ := ts_b hf
      dsimp only at hf
      refine m_callV (rest := []) (As := [.int (1 : Int32), .int (iv 3)]) (rv := none) C hl.1 hw (cM_fail_met g3) (callW_of (rm := rM_fail) 2 C.1.2.2.2.2 gw_812 gw_814 gw_28 gw_55 gw_815 kM_fail ⟨Nat.le_of_ble_eq_true rfl, Nat.le_of_ble_eq_true rfl⟩) rfl rfl (Nat.le_of_ble_eq_true rfl) dM_taken_26 ⟨Nat.le_of_ble_eq_true rfl, Nat.le_of_ble_eq_true rfl⟩ (fun H locs hw => ?_)
      refine W.eq (g2 := F0 m 29 ls []) rfl ?_
      exact wM_taken_29 C hr hlk hrv iv3 av3 x1 _ _ ls (lv_sub hl [0, 1] rfl) hw hf
abbrev cM_number : ByteArray := prog_8_method_7_code
abbrev yM_number : MethodName := ⟨"MidiDeskModel", "number", "()I"⟩
theorem kM_number : yM_number.cls ≠ "java/lang/invoke/MethodHandle" ∧ yM_number.cls ≠ "java/lang/invoke/VarHandle" ∧ (parseMethodDescriptor yM_number.desc).map (fun d => d.parameters.length) = some 0 := by decide +kernel
abbrev rM_number : Room := { frames := 2, cells := 0, slots := 0, locals := 46 }
theorem dM_number_0 : decode cM_number 0 = .ok (.aload_n 0, 1) := by decide +kernel
theorem dM_number_1 : decode cM_number 1 = .ok (.getfield 62, 3) := by decide +kernel
theorem dM_number_4 : decode cM_number 4 = .ok (.istore_n 1, 1) := by decide +kernel
theorem dM_number_5 : decode cM_number 5 = .ok (.iconst 0, 1) := by decide +kernel
theorem dM_number_6 : decode cM_number 6 = .ok (.istore_n 2, 1) := by decide +kernel
theorem dM_number_7 : decode cM_number 7 = .ok (.iconst 0, 1) := by decide +kernel
theorem dM_number_8 : decode cM_number 8 = .ok (.istore_n 3, 1) := by decide +kernel
theorem dM_number_9 : decode cM_number 9 = .ok (.iload_n 3, 1) := by decide +kernel
theorem dM_number_10 : decode cM_number 10 = .ok (.iconst 4, 1) := by decide +kernel
theorem dM_number_11 : decode cM_number 11 = .ok (.if_icmp .ge 45, 3) := by decide +kernel
theorem dM_number_14 : decode cM_number 14 = .ok (.aload_n 0, 1) := by decide +kernel
theorem dM_number_15 : decode cM_number 15 = .ok (.getfield 56, 3) := by decide +kernel
theorem dM_number_18 : decode cM_number 18 = .ok (.ifCond .ne 38, 3) := by decide +kernel
theorem dM_number_21 : decode cM_number 21 = .ok (.aload_n 0, 1) := by decide +kernel
theorem dM_number_22 : decode cM_number 22 = .ok (.iconst 1, 1) := by decide +kernel
theorem dM_number_23 : decode cM_number 23 = .ok (.invokevirtual 74, 3) := by decide +kernel
theorem dM_number_26 : decode cM_number 26 = .ok (.l2i, 1) := by decide +kernel
theorem dM_number_27 : decode cM_number 27 = .ok (.istore 4, 2) := by decide +kernel
theorem dM_number_29 : decode cM_number 29 = .ok (.iload_n 2, 1) := by decide +kernel
theorem dM_number_30 : decode cM_number 30 = .ok (.bipush 7, 2) := by decide +kernel
theorem dM_number_32 : decode cM_number 32 = .ok (.ishl, 1) := by decide +kernel
theorem dM_number_33 : decode cM_number 33 = .ok (.iload 4, 2) := by decide +kernel
theorem dM_number_35 : decode cM_number 35 = .ok (.bipush 127, 2) := by decide +kernel
theorem dM_number_37 : decode cM_number 37 = .ok (.iand, 1) := by decide +kernel
theorem dM_number_38 : decode cM_number 38 = .ok (.ior, 1) := by decide +kernel
theorem dM_number_39 : decode cM_number 39 = .ok (.istore_n 2, 1) := by decide +kernel
theorem dM_number_40 : decode cM_number 40 = .ok (.iload 4, 2) := by decide +kernel
theorem dM_number_42 : decode cM_number 42 = .ok (.sipush 128, 3) := by decide +kernel
theorem dM_number_45 : decode cM_number 45 = .ok (.if_icmp .ge 5, 3) := by decide +kernel
theorem dM_number_48 : decode cM_number 48 = .ok (.iload_n 2, 1) := by decide +kernel
theorem dM_number_49 : decode cM_number 49 = .ok (.ireturn, 1) := by decide +kernel
theorem dM_number_50 : decode cM_number 50 = .ok (.iinc 3 1, 3) := by decide +kernel
theorem dM_number_53 : decode cM_number 53 = .ok (.goto (-44), 3) := by decide +kernel
theorem dM_number_56 : decode cM_number 56 = .ok (.aload_n 0, 1) := by decide +kernel
theorem dM_number_57 : decode cM_number 57 = .ok (.iconst 4, 1) := by decide +kernel
theorem dM_number_58 : decode cM_number 58 = .ok (.iload_n 1, 1) := by decide +kernel
theorem dM_number_59 : decode cM_number 59 = .ok (.invokevirtual 68, 3) := by decide +kernel
theorem dM_number_62 : decode cM_number 62 = .ok (.iconst 0, 1) := by decide +kernel
theorem dM_number_63 : decode cM_number 63 = .ok (.ireturn, 1) := by decide +kernel
def jM_number_56 (iv : Nat → Int32) (av : Nat → Nat → Int32) (x1 : Int32) : Option (Int32 × (Nat → Int32) × (Nat → Nat → Int32)) := (fM_fail iv av (4 : Int32) x1).bind fun (iv1, av1) => some ((0 : Int32), iv1, av1)
def lM_number_9 : Nat → (Nat → Int32) → (Nat → Nat → Int32) → Int32 → Int32 → Int32 → Option (Int32 × (Nat → Int32) × (Nat → Nat → Int32))
  | 0 => fun _ _ _ _ _ => none
  | k + 1 => fun iv av x1 x2 x3 => if (4 : Int32) ≤ x3 then (jM_number_56 iv av x1) else (if (iv 4) = 0 then ((fM_taken iv av (1 : Int32)).bind fun (r3, iv3, av3) => if (128 : Int32) ≤ r3.toInt32 then (lM_number_9 k iv3 av3 x1 ((x2 <<< ((7 : Int32) &&& 31)) ||| (r3.toInt32 &&& (127 : Int32))) (x3 + 1)) else (some ((x2 <<< ((7 : Int32) &&& 31)) ||| (r3.toInt32 &&& (127 : Int32)), iv3, av3))) else (jM_number_56 iv av x1))
def fM_number (iv : Nat → Int32) (av : Nat → Nat → Int32) : Option (Int32 × (Nat → Int32) × (Nat → Nat → Int32)) := lM_number_9 FU iv av (iv 2) (0 : Int32) (0 : Int32)
set_option maxHeartbeats 4000000 in
set_option maxRecDepth 100000 in
theorem wM_number_56 {p : Program} {l : Launch} {e : Env} {s : State} {m : MethodId} {args : Array Value} {below : List Frame} {meth : Method} {c : Code} {g : gT} {q : Nat} {ad : Nat → Nat} {X : va_W} {rv : Option Value} {iv' : Nat → Int32} {av' : Nat → Nat → Int32} {r' : Int32} (C : mCx p m c cM_number 5 s args g "MidiDeskModel") (hr : meth.sig.returnType = (some .int)) (hlk : meth.locks = false) (hrv : rv = some (.int r')) (iv : Nat → Int32) (av : Nat → Nat → Int32) (x1 : Int32) (H : Heap) (locs : List Loc) (ls : Array Slot) (hl : lv_has ls 5 [(0, .ref q), (1, .int x1)]) (hw : mWd g (mA g q ad X s.heap.size) s.heap q ad X iv av H locs) (hf : jM_number_56 iv av x1 = some (r', iv', av')) : mG p l e rM_number s m args below meth c g q ad X rv iv' av' H locs 0 0 (F0 m 56 ls []) := by
  unfold jM_number_56 at hf
  refine lv_aload_n C.1.1 C.1.2.1 dM_number_56 rfl (lv_at hl 0 rfl) ?_
  refine lv_iconst (v := (4 : Int32)) C.1.1 C.1.2.1 dM_number_57 (by decide) ?_
  refine lv_iload_n C.1.1 C.1.2.1 dM_number_58 rfl (lv_at hl 1 rfl) ?_
  obtain ⟨⟨iv1, av1⟩, g1, hf⟩ := ts_b hf
  dsimp only at hf
  refine m_callV (rest := []) (As := [.int (4 : Int32), .int x1]) (rv := none) C hl.1 hw (cM_fail_met g1) (callW_of (rm := rM_fail) 2 C.1.2.2.2.2 gw_812 gw_814 gw_28 gw_55 gw_815 kM_fail ⟨Nat.le_of_ble_eq_true rfl, Nat.le_of_ble_eq_true rfl⟩) rfl rfl (Nat.le_of_ble_eq_true rfl) dM_number_59 ⟨Nat.le_of_ble_eq_true rfl, Nat.le_of_ble_eq_true rfl⟩ (fun H locs hw => ?_)
  refine W.eq (g2 := F0 m 62 ls []) rfl ?_
  refine lv_iconst (v := (0 : Int32)) C.1.1 C.1.2.1 dM_number_62 (by decide) ?_
  exact m_reti C hr hlk hrv hw hf ⟨Nat.le_of_ble_eq_true rfl, Nat.le_of_ble_eq_true rfl⟩ dM_number_63
set_option maxHeartbeats 4000000 in
set_option maxRecDepth 100000 in
theorem wM_number_9 {p : Program} {l : Launch} {e : Env} {s : State} {m : MethodId} {args : Array Value} {below : List Frame} {meth : Method} {c : Code} {g : gT} {q : Nat} {ad : Nat → Nat} {X : va_W} {rv : Option Value} {iv' : Nat → Int32} {av' : Nat → Nat → Int32} {r' : Int32} (C : mCx p m c cM_number 5 s args g "MidiDeskModel") (hr : meth.sig.returnType = (some .int)) (hlk : meth.locks = false) (hrv : rv = some (.int r')) (k : Nat) : ∀ (iv : Nat → Int32) (av : Nat → Nat → Int32) (x1 : Int32) (x2 : Int32) (x3 : Int32) (H : Heap) (locs : List Loc) (ls : Array Slot), lv_has ls 5 [(0, .ref q), (1, .int x1), (2, .int x2), (3, .int x3)] → mWd g (mA g q ad X s.heap.size) s.heap q ad X iv av H locs → lM_number_9 k iv av x1 x2 x3 = some (r', iv', av') → mG p l e rM_number s m args below meth c g q ad X rv iv' av' H locs 0 0 (F0 m 9 ls []) := by
  induction k with
  | zero => intro iv av x1 x2 x3 H locs ls hl hw hf; cases hf
  | succ k ih =>
    intro iv av x1 x2 x3 H locs ls hl hw hf
    have hf : (if (4 : Int32) ≤ x3 then (jM_number_56 iv av x1) else (if (iv 4) = 0 then ((fM_taken iv av (1 : Int32)).bind fun (r3, iv3, av3) => if (128 : Int32) ≤ r3.toInt32 then (lM_number_9 k iv3 av3 x1 ((x2 <<< ((7 : Int32) &&& 31)) ||| (r3.toInt32 &&& (127 : Int32))) (x3 + 1)) else (some ((x2 <<< ((7 : Int32) &&& 31)) ||| (r3.toInt32 &&& (127 : Int32)), iv3, av3))) else (jM_number_56 iv av x1))) = some (r', iv', av') := hf
    refine lv_iload_n C.1.1 C.1.2.1 dM_number_9 rfl (lv_at hl 3 rfl) ?_
    refine lv_iconst (v := (4 : Int32)) C.1.1 C.1.2.1 dM_number_10 (by decide) ?_
    refine lv_icmp_ge (tgt := 56) C.1.1 C.1.2.1 dM_number_11 (by decide) (fun c1 => ?_) (fun c1 => ?_)
    · have hf := ts_t hf c1
      exact wM_number_56 C hr hlk hrv iv av x1 _ _ ls (lv_sub hl [0, 1] rfl) hw hf
    · have hf := ts_f hf c1
      refine lv_aload_n C.1.1 C.1.2.1 dM_number_14 rfl (lv_at hl 0 rfl) ?_
      refine mg_fault C hw dM_number_15 ?_
      refine lv_if_ne (tgt := 56) C.1.1 C.1.2.1 dM_number_18 (by decide) (fun c2 => ?_) (fun c2 => ?_)
      · have hf := ts_f hf c2
        exact wM_number_56 C hr hlk hrv iv av x1 _ _ ls (lv_sub hl [0, 1] rfl) hw hf
      · have hf := ts_t hf c2
        refine lv_aload_n C.1.1 C.1.2.1 dM_number_21 rfl (lv_at hl 0 rfl) ?_
        refine lv_iconst (v := (1 : Int32)) C.1.1 C.1.2.1 dM_number_22 (by decide) ?_
        obtain ⟨⟨r3, iv3, av3⟩, g3, hf⟩ := ts_b hf
        dsimp only at hf
        refine m_callV (rest := []) (As := [.int (1 : Int32)]) (rv := (some (.long r3))) C hl.1 hw (cM_taken_met g3) (callW_of (rm := rM_taken) 1 C.1.2.2.2.2 gw_808 gw_810 gw_27 gw_55 gw_811 kM_taken ⟨Nat.le_of_ble_eq_true rfl, Nat.le_of_ble_eq_true rfl⟩) rfl rfl (Nat.le_of_ble_eq_true rfl) dM_number_23 ⟨Nat.le_of_ble_eq_true rfl, Nat.le_of_ble_eq_true rfl⟩ (fun H locs hw => ?_)
        refine W.eq (g2 := F0 m 26 ls [.long r3]) rfl ?_
        refine lv_l2i C.1.1 C.1.2.1 dM_number_26 rfl ?_
        refine lv_istore (lv' := [(4, .int r3.toInt32), (0, .ref q), (1, .int x1), (2, .int x2), (3, .int x3)]) C.1.1 C.1.2.1 dM_number_27 hl (by decide) rfl (fun ls hl => ?_)
        refine lv_iload_n C.1.1 C.1.2.1 dM_number_29 rfl (lv_at hl 3 rfl) ?_
        refine lv_bipush (v := (7 : Int32)) C.1.1 C.1.2.1 dM_number_30 (by decide) ?_
        refine lv_ishl C.1.1 C.1.2.1 dM_number_32 ?_
        refine lv_iload C.1.1 C.1.2.1 dM_number_33 (lv_at hl 0 rfl) ?_
        refine lv_bipush (v := (127 : Int32)) C.1.1 C.1.2.1 dM_number_35 (by decide) ?_
        refine lv_iand C.1.1 C.1.2.1 dM_number_37 ?_
        refine lv_ior C.1.1 C.1.2.1 dM_number_38 ?_
        refine lv_istore_n (lv' := [(2, .int ((x2 <<< ((7 : Int32) &&& 31)) ||| (r3.toInt32 &&& (127 : Int32)))), (4, .int r3.toInt32), (0, .ref q), (1, .int x1), (3, .int x3)]) C.1.1 C.1.2.1 dM_number_39 rfl hl (by decide) rfl (fun ls hl => ?_)
        refine lv_iload C.1.1 C.1.2.1 dM_number_40 (lv_at hl 1 rfl) ?_
        refine lv_sipush (v := (128 : Int32)) C.1.1 C.1.2.1 dM_number_42 (by decide) ?_
        refine lv_icmp_ge (tgt := 50) C.1.1 C.1.2.1 dM_number_45 (by decide) (fun c4 => ?_) (fun c4 => ?_)
        · have hf := ts_t hf c4
          refine lv_iinc (v := x3 + 1) (lv' := [(3, .int (x3 + 1)), (2, .int ((x2 <<< ((7 : Int32) &&& 31)) ||| (r3.toInt32 &&& (127 : Int32)))), (4, .int r3.toInt32), (0, .ref q), (1, .int x1)]) C.1.1 C.1.2.1 dM_number_50 hl (k := 4) rfl rfl (by decide) rfl (fun ls hl => ?_)
          refine lv_goto (tgt := 9) C.1.1 C.1.2.1 dM_number_53 (by decide) ?_
          exact ih iv3 av3 x1 ((x2 <<< ((7 : Int32) &&& 31)) ||| (r3.toInt32 &&& (127 : Int32))) (x3 + 1) _ _ ls (lv_sub hl [3, 4, 1, 0] rfl) hw hf
        · have hf := ts_f hf c4
          refine lv_iload_n C.1.1 C.1.2.1 dM_number_48 rfl (lv_at hl 0 rfl) ?_
          exact m_reti C hr hlk hrv hw hf ⟨Nat.le_of_ble_eq_true rfl, Nat.le_of_ble_eq_true rfl⟩ dM_number_49
set_option maxHeartbeats 4000000 in
set_option maxRecDepth 100000 in
theorem cM_number_met {l : Launch} {g : gT} {q : Nat} {ad : Nat → Nat} {X : va_W} {iv iv' : Nat → Int32} {av av' : Nat → Nat → Int32} {r' : Int32} (hf : fM_number iv av = some (r', iv', av')) : mMet l yM_number cM_number 5 (some .int) rM_number g q ad X iv av [.ref q] (some (.int r')) iv' av' := by
  refine m_entry (by decide) (Nat.le_of_ble_eq_true rfl) ?_
  intro p e s m args below meth c ls C hr hlk hnm hl hw
  have hrv : ((some (.int r')) : Option Value) = (some (.int r')) := rfl
  have C : mCx p m c cM_number 5 s args g "MidiDeskModel" := C
  have hl : lv_has ls 5 [(0, .ref q)] := hl
  unfold fM_number at hf
  refine lv_aload_n C.1.1 C.1.2.1 dM_number_0 rfl (lv_at hl 0 rfl) ?_
  refine mg_at C hw dM_number_1 ?_
  refine lv_istore_n (lv' := [(1, .int (iv 2)), (0, .ref q)]) C.1.1 C.1.2.1 dM_number_4 rfl hl (by decide) rfl (fun ls hl => ?_)
  refine lv_iconst (v := (0 : Int32)) C.1.1 C.1.2.1 dM_number_5 (by decide) ?_
  refine lv_istore_n (lv' := [(2, .int (0 : Int32)), (1, .int (iv 2)), (0, .ref q)]) C.1.1 C.1.2.1 dM_number_6 rfl hl (by decide) rfl (fun ls hl => ?_)
  refine lv_iconst (v := (0 : Int32)) C.1.1 C.1.2.1 dM_number_7 (by decide) ?_
  refine lv_istore_n (lv' := [(3, .int (0 : Int32)), (2, .int (0 : Int32)), (1, .int (iv 2)), (0, .ref q)]) C.1.1 C.1.2.1 dM_number_8 rfl hl (by decide) rfl (fun ls hl => ?_)
  exact wM_number_9 C hr hlk hrv FU iv av (iv 2) (0 : Int32) (0 : Int32) _ _ ls (lv_sub hl [3, 2, 1, 0] rfl) hw hf
abbrev cM_isDivision : ByteArray := prog_8_method_8_code
abbrev yM_isDivision : MethodName := ⟨"MidiDeskModel", "isDivision", "(I)Z"⟩
theorem kM_isDivision : yM_isDivision.cls ≠ "java/lang/invoke/MethodHandle" ∧ yM_isDivision.cls ≠ "java/lang/invoke/VarHandle" ∧ (parseMethodDescriptor yM_isDivision.desc).map (fun d => d.parameters.length) = some 1 := by decide +kernel
abbrev rM_isDivision : Room := { frames := 0, cells := 0, slots := 0, locals := 0 }
theorem dM_isDivision_0 : decode cM_isDivision 0 = .ok (.sipush 256, 3) := by decide +kernel
theorem dM_isDivision_3 : decode cM_isDivision 3 = .ok (.iload_n 0, 1) := by decide +kernel
theorem dM_isDivision_4 : decode cM_isDivision 4 = .ok (.bipush 8, 2) := by decide +kernel
theorem dM_isDivision_6 : decode cM_isDivision 6 = .ok (.ishr, 1) := by decide +kernel
theorem dM_isDivision_7 : decode cM_isDivision 7 = .ok (.isub, 1) := by decide +kernel
theorem dM_isDivision_8 : decode cM_isDivision 8 = .ok (.istore_n 1, 1) := by decide +kernel
theorem dM_isDivision_9 : decode cM_isDivision 9 = .ok (.iload_n 0, 1) := by decide +kernel
theorem dM_isDivision_10 : decode cM_isDivision 10 = .ok (.ldc 43, 2) := by decide +kernel
theorem dM_isDivision_12 : decode cM_isDivision 12 = .ok (.if_icmp .ge 15, 3) := by decide +kernel
theorem dM_isDivision_15 : decode cM_isDivision 15 = .ok (.iload_n 0, 1) := by decide +kernel
theorem dM_isDivision_16 : decode cM_isDivision 16 = .ok (.ifCond .le 7, 3) := by decide +kernel
theorem dM_isDivision_19 : decode cM_isDivision 19 = .ok (.iconst 1, 1) := by decide +kernel
theorem dM_isDivision_20 : decode cM_isDivision 20 = .ok (.goto 44, 3) := by decide +kernel
theorem dM_isDivision_23 : decode cM_isDivision 23 = .ok (.iconst 0, 1) := by decide +kernel
theorem dM_isDivision_24 : decode cM_isDivision 24 = .ok (.goto 40, 3) := by decide +kernel
theorem dM_isDivision_27 : decode cM_isDivision 27 = .ok (.iload_n 1, 1) := by decide +kernel
theorem dM_isDivision_28 : decode cM_isDivision 28 = .ok (.bipush 24, 2) := by decide +kernel
theorem dM_isDivision_30 : decode cM_isDivision 30 = .ok (.if_icmp .eq 21, 3) := by decide +kernel
theorem dM_isDivision_33 : decode cM_isDivision 33 = .ok (.iload_n 1, 1) := by decide +kernel
theorem dM_isDivision_34 : decode cM_isDivision 34 = .ok (.bipush 25, 2) := by decide +kernel
theorem dM_isDivision_36 : decode cM_isDivision 36 = .ok (.if_icmp .eq 15, 3) := by decide +kernel
theorem dM_isDivision_39 : decode cM_isDivision 39 = .ok (.iload_n 1, 1) := by decide +kernel
theorem dM_isDivision_40 : decode cM_isDivision 40 = .ok (.bipush 29, 2) := by decide +kernel
theorem dM_isDivision_42 : decode cM_isDivision 42 = .ok (.if_icmp .eq 9, 3) := by decide +kernel
theorem dM_isDivision_45 : decode cM_isDivision 45 = .ok (.iload_n 1, 1) := by decide +kernel
theorem dM_isDivision_46 : decode cM_isDivision 46 = .ok (.bipush 30, 2) := by decide +kernel
theorem dM_isDivision_48 : decode cM_isDivision 48 = .ok (.if_icmp .ne 15, 3) := by decide +kernel
theorem dM_isDivision_51 : decode cM_isDivision 51 = .ok (.iload_n 0, 1) := by decide +kernel
theorem dM_isDivision_52 : decode cM_isDivision 52 = .ok (.sipush 255, 3) := by decide +kernel
theorem dM_isDivision_55 : decode cM_isDivision 55 = .ok (.iand, 1) := by decide +kernel
theorem dM_isDivision_56 : decode cM_isDivision 56 = .ok (.ifCond .le 7, 3) := by decide +kernel
theorem dM_isDivision_59 : decode cM_isDivision 59 = .ok (.iconst 1, 1) := by decide +kernel
theorem dM_isDivision_60 : decode cM_isDivision 60 = .ok (.goto 4, 3) := by decide +kernel
theorem dM_isDivision_63 : decode cM_isDivision 63 = .ok (.iconst 0, 1) := by decide +kernel
theorem dM_isDivision_64 : decode cM_isDivision 64 = .ok (.ireturn, 1) := by decide +kernel
def jM_isDivision_51 (iv : Nat → Int32) (av : Nat → Nat → Int32) (x0 : Int32) : Option (Int32 × (Nat → Int32) × (Nat → Nat → Int32)) := if (x0 &&& (255 : Int32)) ≤ 0 then (some ((0 : Int32), iv, av)) else (some ((1 : Int32), iv, av))
def fM_isDivision (iv : Nat → Int32) (av : Nat → Nat → Int32) (x0 : Int32) : Option (Int32 × (Nat → Int32) × (Nat → Nat → Int32)) := if (32768 : Int32) ≤ x0 then (if ((256 : Int32) - (x0 >>> ((8 : Int32) &&& 31))) = (24 : Int32) then (jM_isDivision_51 iv av x0) else (if ((256 : Int32) - (x0 >>> ((8 : Int32) &&& 31))) = (25 : Int32) then (jM_isDivision_51 iv av x0) else (if ((256 : Int32) - (x0 >>> ((8 : Int32) &&& 31))) = (29 : Int32) then (jM_isDivision_51 iv av x0) else (if ((256 : Int32) - (x0 >>> ((8 : Int32) &&& 31))) = (30 : Int32) then (jM_isDivision_51 iv av x0) else (some ((0 : Int32), iv, av)))))) else (if x0 ≤ 0 then (some ((0 : Int32), iv, av)) else (some ((1 : Int32), iv, av)))
set_option maxHeartbeats 4000000 in
set_option maxRecDepth 100000 in
theorem wM_isDivision_51 {p : Program} {l : Launch} {e : Env} {s : State} {m : MethodId} {args : Array Value} {below : List Frame} {meth : Method} {c : Code} {g : gT} {q : Nat} {ad : Nat → Nat} {X : va_W} {rv : Option Value} {iv' : Nat → Int32} {av' : Nat → Nat → Int32} {r' : Int32} (C : mCx p m c cM_isDivision 2 s args g "MidiDeskModel") (hr : meth.sig.returnType = (some .boolean)) (hlk : meth.locks = false) (hrv : rv = some (.int r')) (iv : Nat → Int32) (av : Nat → Nat → Int32) (x0 : Int32) (H : Heap) (locs : List Loc) (ls : Array Slot) (hl : lv_has ls 2 [(0, .int x0)]) (hw : mWd g (mA g q ad X s.heap.size) s.heap q ad X iv av H locs) (hf : jM_isDivision_51 iv av x0 = some (r', iv', av')) : mG p l e rM_isDivision s m args below meth c g q ad X rv iv' av' H locs 0 0 (F0 m 51 ls []) := by
  unfold jM_isDivision_51 at hf
  refine lv_iload_n C.1.1 C.1.2.1 dM_isDivision_51 rfl (lv_at hl 0 rfl) ?_
  refine lv_sipush (v := (255 : Int32)) C.1.1 C.1.2.1 dM_isDivision_52 (by decide) ?_
  refine lv_iand C.1.1 C.1.2.1 dM_isDivision_55 ?_
  refine lv_if_le (tgt := 63) C.1.1 C.1.2.1 dM_isDivision_56 (by decide) (fun c1 => ?_) (fun c1 => ?_)
  · have hf := ts_t hf c1
    refine lv_iconst (v := (0 : Int32)) C.1.1 C.1.2.1 dM_isDivision_63 (by decide) ?_
    exact m_retz C hr hlk hrv hw (Or.inl rfl) hf ⟨Nat.le_of_ble_eq_true rfl, Nat.le_of_ble_eq_true rfl⟩ dM_isDivision_64
  · have hf := ts_f hf c1
    refine lv_iconst (v := (1 : Int32)) C.1.1 C.1.2.1 dM_isDivision_59 (by decide) ?_
    refine lv_goto (tgt := 64) C.1.1 C.1.2.1 dM_isDivision_60 (by decide) ?_
    exact m_retz C hr hlk hrv hw (Or.inr rfl) hf ⟨Nat.le_of_ble_eq_true rfl, Nat.le_of_ble_eq_true rfl⟩ dM_isDivision_64
set_option maxHeartbeats 4000000 in
set_option maxRecDepth 100000 in
theorem cM_isDivision_met {l : Launch} {g : gT} {q : Nat} {ad : Nat → Nat} {X : va_W} {iv iv' : Nat → Int32} {av av' : Nat → Nat → Int32} {x0 : Int32} {r' : Int32} (hf : fM_isDivision iv av x0 = some (r', iv', av')) : mMet l yM_isDivision cM_isDivision 2 (some .boolean) rM_isDivision g q ad X iv av [.int x0] (some (.int r')) iv' av' := by
  refine m_entry (by decide) (Nat.le_of_ble_eq_true rfl) ?_
  intro p e s m args below meth c ls C hr hlk hnm hl hw
  have hrv : ((some (.int r')) : Option Value) = (some (.int r')) := rfl
  have C : mCx p m c cM_isDivision 2 s args g "MidiDeskModel" := C
  have hl : lv_has ls 2 [(0, .int x0)] := hl
  unfold fM_isDivision at hf
  refine lv_sipush (v := (256 : Int32)) C.1.1 C.1.2.1 dM_isDivision_0 (by decide) ?_
  refine lv_iload_n C.1.1 C.1.2.1 dM_isDivision_3 rfl (lv_at hl 0 rfl) ?_
  refine lv_bipush (v := (8 : Int32)) C.1.1 C.1.2.1 dM_isDivision_4 (by decide) ?_
  refine lv_ishr C.1.1 C.1.2.1 dM_isDivision_6 ?_
  refine lv_isub C.1.1 C.1.2.1 dM_isDivision_7 ?_
  refine lv_istore_n (lv' := [(1, .int ((256 : Int32) - (x0 >>> ((8 : Int32) &&& 31)))), (0, .int x0)]) C.1.1 C.1.2.1 dM_isDivision_8 rfl hl (by decide) rfl (fun ls hl => ?_)
  refine lv_iload_n C.1.1 C.1.2.1 dM_isDivision_9 rfl (lv_at hl 1 rfl) ?_
  refine lv_ldc C.1.1 C.1.2.1 C.1.2.2.2.1 (C.1.2.2.2.2 _ gw_714) dM_isDivision_10 ?_
  refine lv_icmp_ge (tgt := 27) C.1.1 C.1.2.1 dM_isDivision_12 (by decide) (fun c1 => ?_) (fun c1 => ?_)
  · have hf := ts_t hf c1
    refine lv_iload_n C.1.1 C.1.2.1 dM_isDivision_27 rfl (lv_at hl 0 rfl) ?_
    refine lv_bipush (v := (24 : Int32)) C.1.1 C.1.2.1 dM_isDivision_28 (by decide) ?_
    refine lv_icmp_eq (tgt := 51) C.1.1 C.1.2.1 dM_isDivision_30 (by decide) (fun c2 => ?_) (fun c2 => ?_)
    · have hf := ts_t hf c2
      exact wM_isDivision_51 C hr hlk hrv iv av x0 _ _ ls (lv_sub hl [1] rfl) hw hf
    · have hf := ts_f hf c2
      refine lv_iload_n C.1.1 C.1.2.1 dM_isDivision_33 rfl (lv_at hl 0 rfl) ?_
      refine lv_bipush (v := (25 : Int32)) C.1.1 C.1.2.1 dM_isDivision_34 (by decide) ?_
      refine lv_icmp_eq (tgt := 51) C.1.1 C.1.2.1 dM_isDivision_36 (by decide) (fun c3 => ?_) (fun c3 => ?_)
      · have hf := ts_t hf c3
        exact wM_isDivision_51 C hr hlk hrv iv av x0 _ _ ls (lv_sub hl [1] rfl) hw hf
      · have hf := ts_f hf c3
        refine lv_iload_n C.1.1 C.1.2.1 dM_isDivision_39 rfl (lv_at hl 0 rfl) ?_
        refine lv_bipush (v := (29 : Int32)) C.1.1 C.1.2.1 dM_isDivision_40 (by decide) ?_
        refine lv_icmp_eq (tgt := 51) C.1.1 C.1.2.1 dM_isDivision_42 (by decide) (fun c4 => ?_) (fun c4 => ?_)
        · have hf := ts_t hf c4
          exact wM_isDivision_51 C hr hlk hrv iv av x0 _ _ ls (lv_sub hl [1] rfl) hw hf
        · have hf := ts_f hf c4
          refine lv_iload_n C.1.1 C.1.2.1 dM_isDivision_45 rfl (lv_at hl 0 rfl) ?_
          refine lv_bipush (v := (30 : Int32)) C.1.1 C.1.2.1 dM_isDivision_46 (by decide) ?_
          refine lv_icmp_ne (tgt := 63) C.1.1 C.1.2.1 dM_isDivision_48 (by decide) (fun c5 => ?_) (fun c5 => ?_)
          · have hf := ts_f hf c5
            refine lv_iconst (v := (0 : Int32)) C.1.1 C.1.2.1 dM_isDivision_63 (by decide) ?_
            exact m_retz C hr hlk hrv hw (Or.inl rfl) hf ⟨Nat.le_of_ble_eq_true rfl, Nat.le_of_ble_eq_true rfl⟩ dM_isDivision_64
          · have hf := ts_t hf c5
            exact wM_isDivision_51 C hr hlk hrv iv av x0 _ _ ls (lv_sub hl [1] rfl) hw hf
  · have hf := ts_f hf c1
    refine lv_iload_n C.1.1 C.1.2.1 dM_isDivision_15 rfl (lv_at hl 1 rfl) ?_
    refine lv_if_le (tgt := 23) C.1.1 C.1.2.1 dM_isDivision_16 (by decide) (fun c6 => ?_) (fun c6 => ?_)
    · have hf := ts_t hf c6
      refine lv_iconst (v := (0 : Int32)) C.1.1 C.1.2.1 dM_isDivision_23 (by decide) ?_
      refine lv_goto (tgt := 64) C.1.1 C.1.2.1 dM_isDivision_24 (by decide) ?_
      exact m_retz C hr hlk hrv hw (Or.inl rfl) hf ⟨Nat.le_of_ble_eq_true rfl, Nat.le_of_ble_eq_true rfl⟩ dM_isDivision_64
    · have hf := ts_f hf c6
      refine lv_iconst (v := (1 : Int32)) C.1.1 C.1.2.1 dM_isDivision_19 (by decide) ?_
      refine lv_goto (tgt := 64) C.1.1 C.1.2.1 dM_isDivision_20 (by decide) ?_
      exact m_retz C hr hlk hrv hw (Or.inr rfl) hf ⟨Nat.le_of_ble_eq_true rfl, Nat.le_of_ble_eq_true rfl⟩ dM_isDivision_64
abbrev cM_head : ByteArray := prog_8_method_9_code
abbrev yM_head : MethodName := ⟨"MidiDeskModel", "head", "()V"⟩
theorem kM_head : yM_head.cls ≠ "java/lang/invoke/MethodHandle" ∧ yM_head.cls ≠ "java/lang/invoke/VarHandle" ∧ (parseMethodDescriptor yM_head.desc).map (fun d => d.parameters.length) = some 0 := by decide +kernel
abbrev rM_head : Room := { frames := 2, cells := 0, slots := 0, locals := 46 }
theorem dM_head_0 : decode cM_head 0 = .ok (.aload_n 0, 1) := by decide +kernel
theorem dM_head_1 : decode cM_head 1 = .ok (.iconst 4, 1) := by decide +kernel
theorem dM_head_2 : decode cM_head 2 = .ok (.invokevirtual 74, 3) := by decide +kernel
theorem dM_head_5 : decode cM_head 5 = .ok (.ldc2_w 78, 3) := by decide +kernel
theorem dM_head_8 : decode cM_head 8 = .ok (.lcmp, 1) := by decide +kernel
theorem dM_head_9 : decode cM_head 9 = .ok (.ifCond .eq 9, 3) := by decide +kernel
theorem dM_head_12 : decode cM_head 12 = .ok (.aload_n 0, 1) := by decide +kernel
theorem dM_head_13 : decode cM_head 13 = .ok (.iconst 2, 1) := by decide +kernel
theorem dM_head_14 : decode cM_head 14 = .ok (.iconst 0, 1) := by decide +kernel
theorem dM_head_15 : decode cM_head 15 = .ok (.invokevirtual 68, 3) := by decide +kernel
theorem dM_head_18 : decode cM_head 18 = .ok (.aload_n 0, 1) := by decide +kernel
theorem dM_head_19 : decode cM_head 19 = .ok (.iconst 4, 1) := by decide +kernel
theorem dM_head_20 : decode cM_head 20 = .ok (.invokevirtual 74, 3) := by decide +kernel
theorem dM_head_23 : decode cM_head 23 = .ok (.ldc2_w 80, 3) := by decide +kernel
theorem dM_head_26 : decode cM_head 26 = .ok (.lcmp, 1) := by decide +kernel
theorem dM_head_27 : decode cM_head 27 = .ok (.ifCond .eq 9, 3) := by decide +kernel
theorem dM_head_30 : decode cM_head 30 = .ok (.aload_n 0, 1) := by decide +kernel
theorem dM_head_31 : decode cM_head 31 = .ok (.iconst 2, 1) := by decide +kernel
theorem dM_head_32 : decode cM_head 32 = .ok (.iconst 4, 1) := by decide +kernel
theorem dM_head_33 : decode cM_head 33 = .ok (.invokevirtual 68, 3) := by decide +kernel
theorem dM_head_36 : decode cM_head 36 = .ok (.aload_n 0, 1) := by decide +kernel
theorem dM_head_37 : decode cM_head 37 = .ok (.aload_n 0, 1) := by decide +kernel
theorem dM_head_38 : decode cM_head 38 = .ok (.iconst 2, 1) := by decide +kernel
theorem dM_head_39 : decode cM_head 39 = .ok (.invokevirtual 74, 3) := by decide +kernel
theorem dM_head_42 : decode cM_head 42 = .ok (.l2i, 1) := by decide +kernel
theorem dM_head_43 : decode cM_head 43 = .ok (.putfield 82, 3) := by decide +kernel
theorem dM_head_46 : decode cM_head 46 = .ok (.aload_n 0, 1) := by decide +kernel
theorem dM_head_47 : decode cM_head 47 = .ok (.getfield 82, 3) := by decide +kernel
theorem dM_head_50 : decode cM_head 50 = .ok (.iconst 2, 1) := by decide +kernel
theorem dM_head_51 : decode cM_head 51 = .ok (.if_icmp .le 10, 3) := by decide +kernel
theorem dM_head_54 : decode cM_head 54 = .ok (.aload_n 0, 1) := by decide +kernel
theorem dM_head_55 : decode cM_head 55 = .ok (.iconst 3, 1) := by decide +kernel
theorem dM_head_56 : decode cM_head 56 = .ok (.bipush 8, 2) := by decide +kernel
theorem dM_head_58 : decode cM_head 58 = .ok (.invokevirtual 68, 3) := by decide +kernel
theorem dM_head_61 : decode cM_head 61 = .ok (.aload_n 0, 1) := by decide +kernel
theorem dM_head_62 : decode cM_head 62 = .ok (.aload_n 0, 1) := by decide +kernel
theorem dM_head_63 : decode cM_head 63 = .ok (.iconst 2, 1) := by decide +kernel
theorem dM_head_64 : decode cM_head 64 = .ok (.invokevirtual 74, 3) := by decide +kernel
theorem dM_head_67 : decode cM_head 67 = .ok (.l2i, 1) := by decide +kernel
theorem dM_head_68 : decode cM_head 68 = .ok (.putfield 85, 3) := by decide +kernel
theorem dM_head_71 : decode cM_head 71 = .ok (.aload_n 0, 1) := by decide +kernel
theorem dM_head_72 : decode cM_head 72 = .ok (.getfield 85, 3) := by decide +kernel
theorem dM_head_75 : decode cM_head 75 = .ok (.iconst 1, 1) := by decide +kernel
theorem dM_head_76 : decode cM_head 76 = .ok (.if_icmp .lt 27, 3) := by decide +kernel
theorem dM_head_79 : decode cM_head 79 = .ok (.aload_n 0, 1) := by decide +kernel
theorem dM_head_80 : decode cM_head 80 = .ok (.getfield 85, 3) := by decide +kernel
theorem dM_head_83 : decode cM_head 83 = .ok (.bipush 16, 2) := by decide +kernel
theorem dM_head_85 : decode cM_head 85 = .ok (.if_icmp .gt 18, 3) := by decide +kernel
theorem dM_head_88 : decode cM_head 88 = .ok (.aload_n 0, 1) := by decide +kernel
theorem dM_head_89 : decode cM_head 89 = .ok (.getfield 82, 3) := by decide +kernel
theorem dM_head_92 : decode cM_head 92 = .ok (.ifCond .ne 18, 3) := by decide +kernel
theorem dM_head_95 : decode cM_head 95 = .ok (.aload_n 0, 1) := by decide +kernel
theorem dM_head_96 : decode cM_head 96 = .ok (.getfield 85, 3) := by decide +kernel
theorem dM_head_99 : decode cM_head 99 = .ok (.iconst 1, 1) := by decide +kernel
theorem dM_head_100 : decode cM_head 100 = .ok (.if_icmp .le 10, 3) := by decide +kernel
theorem dM_head_103 : decode cM_head 103 = .ok (.aload_n 0, 1) := by decide +kernel
theorem dM_head_104 : decode cM_head 104 = .ok (.iconst 3, 1) := by decide +kernel
theorem dM_head_105 : decode cM_head 105 = .ok (.bipush 10, 2) := by decide +kernel
theorem dM_head_107 : decode cM_head 107 = .ok (.invokevirtual 68, 3) := by decide +kernel
theorem dM_head_110 : decode cM_head 110 = .ok (.aload_n 0, 1) := by decide +kernel
theorem dM_head_111 : decode cM_head 111 = .ok (.aload_n 0, 1) := by decide +kernel
theorem dM_head_112 : decode cM_head 112 = .ok (.iconst 2, 1) := by decide +kernel
theorem dM_head_113 : decode cM_head 113 = .ok (.invokevirtual 74, 3) := by decide +kernel
theorem dM_head_116 : decode cM_head 116 = .ok (.l2i, 1) := by decide +kernel
theorem dM_head_117 : decode cM_head 117 = .ok (.putfield 88, 3) := by decide +kernel
theorem dM_head_120 : decode cM_head 120 = .ok (.aload_n 0, 1) := by decide +kernel
theorem dM_head_121 : decode cM_head 121 = .ok (.getfield 88, 3) := by decide +kernel
theorem dM_head_124 : decode cM_head 124 = .ok (.invokestatic 91, 3) := by decide +kernel
theorem dM_head_127 : decode cM_head 127 = .ok (.ifCond .ne 10, 3) := by decide +kernel
theorem dM_head_130 : decode cM_head 130 = .ok (.aload_n 0, 1) := by decide +kernel
theorem dM_head_131 : decode cM_head 131 = .ok (.iconst 3, 1) := by decide +kernel
theorem dM_head_132 : decode cM_head 132 = .ok (.bipush 12, 2) := by decide +kernel
theorem dM_head_134 : decode cM_head 134 = .ok (.invokevirtual 68, 3) := by decide +kernel
theorem dM_head_137 : decode cM_head 137 = .ok (.return_, 1) := by decide +kernel
def jM_head_110 (iv : Nat → Int32) (av : Nat → Nat → Int32) : Option ((Nat → Int32) × (Nat → Nat → Int32)) := (fM_taken iv av (2 : Int32)).bind fun (r1, iv1, av1) => (fM_isDivision (upd iv1 9 r1.toInt32) av1 ((upd iv1 9 r1.toInt32) 9)).bind fun (r2, iv2, av2) => if r2 = 0 then ((fM_fail iv2 av2 (3 : Int32) (12 : Int32)).bind fun (iv4, av4) => some (iv4, av4)) else (some (iv2, av2))
def jM_head_103 (iv : Nat → Int32) (av : Nat → Nat → Int32) : Option ((Nat → Int32) × (Nat → Nat → Int32)) := (fM_fail iv av (3 : Int32) (10 : Int32)).bind fun (iv1, av1) => jM_head_110 iv1 av1
def jM_head_61 (iv : Nat → Int32) (av : Nat → Nat → Int32) : Option ((Nat → Int32) × (Nat → Nat → Int32)) := (fM_taken iv av (2 : Int32)).bind fun (r1, iv1, av1) => if ((upd iv1 8 r1.toInt32) 8) < (1 : Int32) then (jM_head_103 (upd iv1 8 r1.toInt32) av1) else (if (16 : Int32) < ((upd iv1 8 r1.toInt32) 8) then (jM_head_103 (upd iv1 8 r1.toInt32) av1) else (if ((upd iv1 8 r1.toInt32) 7) = 0 then (if ((upd iv1 8 r1.toInt32) 8) ≤ (1 : Int32) then (jM_head_110 (upd iv1 8 r1.toInt32) av1) else (jM_head_103 (upd iv1 8 r1.toInt32) av1)) else (jM_head_110 (upd iv1 8 r1.toInt32) av1)))
def jM_head_36 (iv : Nat → Int32) (av : Nat → Nat → Int32) : Option ((Nat → Int32) × (Nat → Nat → Int32)) := (fM_taken iv av (2 : Int32)).bind fun (r1, iv1, av1) => if ((upd iv1 7 r1.toInt32) 7) ≤ (2 : Int32) then (jM_head_61 (upd iv1 7 r1.toInt32) av1) else ((fM_fail (upd iv1 7 r1.toInt32) av1 (3 : Int32) (8 : Int32)).bind fun (iv3, av3) => jM_head_61 iv3 av3)
def jM_head_18 (iv : Nat → Int32) (av : Nat → Nat → Int32) : Option ((Nat → Int32) × (Nat → Nat → Int32)) := (fM_taken iv av (4 : Int32)).bind fun (r1, iv1, av1) => if (lg_cmp r1 (6 : Int64)) = 0 then (jM_head_36 iv1 av1) else ((fM_fail iv1 av1 (2 : Int32) (4 : Int32)).bind fun (iv3, av3) => jM_head_36 iv3 av3)
def fM_head (iv : Nat → Int32) (av : Nat → Nat → Int32) : Option ((Nat → Int32) × (Nat → Nat → Int32)) := (fM_taken iv av (4 : Int32)).bind fun (r1, iv1, av1) => if (lg_cmp r1 (1297377380 : Int64)) = 0 then (jM_head_18 iv1 av1) else ((fM_fail iv1 av1 (2 : Int32) (0 : Int32)).bind fun (iv3, av3) => jM_head_18 iv3 av3)
set_option maxHeartbeats 4000000 in
set_option maxRecDepth 100000 in
theorem wM_head_110 {p : Program} {l : Launch} {e : Env} {s : State} {m : MethodId} {args : Array Value} {below : List Frame} {meth : Method} {c : Code} {g : gT} {q : Nat} {ad : Nat → Nat} {X : va_W} {rv : Option Value} {iv' : Nat → Int32} {av' : Nat → Nat → Int32} (C : mCx p m c cM_head 1 s args g "MidiDeskModel") (hr : meth.sig.returnType = none) (hlk : meth.locks = false) (hrv : rv = none) (iv : Nat → Int32) (av : Nat → Nat → Int32) (H : Heap) (locs : List Loc) (ls : Array Slot) (hl : lv_has ls 1 [(0, .ref q)]) (hw : mWd g (mA g q ad X s.heap.size) s.heap q ad X iv av H locs) (hf : jM_head_110 iv av = some (iv', av')) : mG p l e rM_head s m args below meth c g q ad X rv iv' av' H locs 0 0 (F0 m 110 ls []) := by
  unfold jM_head_110 at hf
  refine lv_aload_n C.1.1 C.1.2.1 dM_head_110 rfl (lv_at hl 0 rfl) ?_
  refine lv_aload_n C.1.1 C.1.2.1 dM_head_111 rfl (lv_at hl 0 rfl) ?_
  refine lv_iconst (v := (2 : Int32)) C.1.1 C.1.2.1 dM_head_112 (by decide) ?_
  obtain ⟨⟨r1, iv1, av1⟩, g1, hf⟩ := ts_b hf
  dsimp only at hf
  refine m_callV (rest := [.ref q]) (As := [.int (2 : Int32)]) (rv := (some (.long r1))) C hl.1 hw (cM_taken_met g1) (callW_of (rm := rM_taken) 1 C.1.2.2.2.2 gw_808 gw_810 gw_27 gw_55 gw_811 kM_taken ⟨Nat.le_of_ble_eq_true rfl, Nat.le_of_ble_eq_true rfl⟩) rfl rfl (Nat.le_of_ble_eq_true rfl) dM_head_113 ⟨Nat.le_of_ble_eq_true rfl, Nat.le_of_ble_eq_true rfl⟩ (fun H locs hw => ?_)
  refine W.eq (g2 := F0 m 116 ls [.long r1, .ref q]) rfl ?_
  refine lv_l2i C.1.1 C.1.2.1 dM_head_116 rfl ?_
  refine mp_division C hw dM_head_117 (fun H locs hw => ?_)
  refine lv_aload_n C.1.1 C.1.2.1 dM_head_120 rfl (lv_at hl 0 rfl) ?_
  refine mg_division C hw dM_head_121 ?_
  obtain ⟨⟨r2, iv2, av2⟩, g2, hf⟩ := ts_b hf
  dsimp only at hf
  refine m_callS (rest := []) (As := [.int ((upd iv1 9 r1.toInt32) 9)]) (rv := (some (.int r2))) C hl.1 hw (cM_isDivision_met g2) (callS_of (rm := rM_isDivision) 1 C.1.2.2.2.2 gw_819 gw_820 gw_55 gw_821 kM_isDivision ⟨Nat.le_of_ble_eq_true rfl, Nat.le_of_ble_eq_true rfl⟩) rfl rfl (Nat.le_of_ble_eq_true rfl) dM_head_124 ⟨Nat.le_of_ble_eq_true rfl, Nat.le_of_ble_eq_true rfl⟩ (fun H locs hw => ?_)
  refine W.eq (g2 := F0 m 127 ls [.int r2]) rfl ?_
  refine lv_if_ne (tgt := 137) C.1.1 C.1.2.1 dM_head_127 (by decide) (fun c3 => ?_) (fun c3 => ?_)
  · have hf := ts_f hf c3
    exact m_retv C hr hlk hrv hw hf ⟨Nat.le_of_ble_eq_true rfl, Nat.le_of_ble_eq_true rfl⟩ dM_head_137
  · have hf := ts_t hf c3
    refine lv_aload_n C.1.1 C.1.2.1 dM_head_130 rfl (lv_at hl 0 rfl) ?_
    refine lv_iconst (v := (3 : Int32)) C.1.1 C.1.2.1 dM_head_131 (by decide) ?_
    refine lv_bipush (v := (12 : Int32)) C.1.1 C.1.2.1 dM_head_132 (by decide) ?_
    obtain ⟨⟨iv4, av4⟩, g4, hf⟩ := ts_b hf
    dsimp only at hf
    refine m_callV (rest := []) (As := [.int (3 : Int32), .int (12 : Int32)]) (rv := none) C hl.1 hw (cM_fail_met g4) (callW_of (rm := rM_fail) 2 C.1.2.2.2.2 gw_812 gw_814 gw_28 gw_55 gw_815 kM_fail ⟨Nat.le_of_ble_eq_true rfl, Nat.le_of_ble_eq_true rfl⟩) rfl rfl (Nat.le_of_ble_eq_true rfl) dM_head_134 ⟨Nat.le_of_ble_eq_true rfl, Nat.le_of_ble_eq_true rfl⟩ (fun H locs hw => ?_)
    refine W.eq (g2 := F0 m 137 ls []) rfl ?_
    exact m_retv C hr hlk hrv hw hf ⟨Nat.le_of_ble_eq_true rfl, Nat.le_of_ble_eq_true rfl⟩ dM_head_137
set_option maxHeartbeats 4000000 in
set_option maxRecDepth 100000 in
theorem wM_head_103 {p : Program} {l : Launch} {e : Env} {s : State} {m : MethodId} {args : Array Value} {below : List Frame} {meth : Method} {c : Code} {g : gT} {q : Nat} {ad : Nat → Nat} {X : va_W} {rv : Option Value} {iv' : Nat → Int32} {av' : Nat → Nat → Int32} (C : mCx p m c cM_head 1 s args g "MidiDeskModel") (hr : meth.sig.returnType = none) (hlk : meth.locks = false) (hrv : rv = none) (iv : Nat → Int32) (av : Nat → Nat → Int32) (H : Heap) (locs : List Loc) (ls : Array Slot) (hl : lv_has ls 1 [(0, .ref q)]) (hw : mWd g (mA g q ad X s.heap.size) s.heap q ad X iv av H locs) (hf : jM_head_103 iv av = some (iv', av')) : mG p l e rM_head s m args below meth c g q ad X rv iv' av' H locs 0 0 (F0 m 103 ls []) := by
  unfold jM_head_103 at hf
  refine lv_aload_n C.1.1 C.1.2.1 dM_head_103 rfl (lv_at hl 0 rfl) ?_
  refine lv_iconst (v := (3 : Int32)) C.1.1 C.1.2.1 dM_head_104 (by decide) ?_
  refine lv_bipush (v := (10 : Int32)) C.1.1 C.1.2.1 dM_head_105 (by decide) ?_
  obtain ⟨⟨iv1, av1⟩, g1, hf⟩ := ts_b hf
  dsimp only at hf
  refine m_callV (rest := []) (As := [.int (3 : Int32), .int (10 : Int32)]) (rv := none) C hl.1 hw (cM_fail_met g1) (callW_of (rm := rM_fail) 2 C.1.2.2.2.2 gw_812 gw_814 gw_28 gw_55 gw_815 kM_fail ⟨Nat.le_of_ble_eq_true rfl, Nat.le_of_ble_eq_true rfl⟩) rfl rfl (Nat.le_of_ble_eq_true rfl) dM_head_107 ⟨Nat.le_of_ble_eq_true rfl, Nat.le_of_ble_eq_true rfl⟩ (fun H locs hw => ?_)
  refine W.eq (g2 := F0 m 110 ls []) rfl ?_
  exact wM_head_110 C hr hlk hrv iv1 av1 _ _ ls (lv_sub hl [0] rfl) hw hf
set_option maxHeartbeats 4000000 in
set_option maxRecDepth 100000 in
theorem wM_head_61 {p : Program} {l : Launch} {e : Env} {s : State} {m : MethodId} {args : Array Value} {below : List Frame} {meth : Method} {c : Code} {g : gT} {q : Nat} {ad : Nat → Nat} {X : va_W} {rv : Option Value} {iv' : Nat → Int32} {av' : Nat → Nat → Int32} (C : mCx p m c cM_head 1 s args g "MidiDeskModel") (hr : meth.sig.returnType = none) (hlk : meth.locks = false) (hrv : rv = none) (iv : Nat → Int32) (av : Nat → Nat → Int32) (H : Heap) (locs : List Loc) (ls : Array Slot) (hl : lv_has ls 1 [(0, .ref q)]) (hw : mWd g (mA g q ad X s.heap.size) s.heap q ad X iv av H locs) (hf : jM_head_61 iv av = some (iv', av')) : mG p l e rM_head s m args below meth c g q ad X rv iv' av' H locs 0 0 (F0 m 61 ls []) := by
  unfold jM_head_61 at hf
  refine lv_aload_n C.1.1 C.1.2.1 dM_head_61 rfl (lv_at hl 0 rfl) ?_
  refine lv_aload_n C.1.1 C.1.2.1 dM_head_62 rfl (lv_at hl 0 rfl) ?_
  refine lv_iconst (v := (2 : Int32)) C.1.1 C.1.2.1 dM_head_63 (by decide) ?_
  obtain ⟨⟨r1, iv1, av1⟩, g1, hf⟩ := ts_b hf
  dsimp only at hf
  refine m_callV (rest := [.ref q]) (As := [.int (2 : Int32)]) (rv := (some (.long r1))) C hl.1 hw (cM_taken_met g1) (callW_of (rm := rM_taken) 1 C.1.2.2.2.2 gw_808 gw_810 gw_27 gw_55 gw_811 kM_taken ⟨Nat.le_of_ble_eq_true rfl, Nat.le_of_ble_eq_true rfl⟩) rfl rfl (Nat.le_of_ble_eq_true rfl) dM_head_64 ⟨Nat.le_of_ble_eq_true rfl, Nat.le_of_ble_eq_true rfl⟩ (fun H locs hw => ?_)
  refine W.eq (g2 := F0 m 67 ls [.long r1, .ref q]) rfl ?_
  refine lv_l2i C.1.1 C.1.2.1 dM_head_67 rfl ?_
  refine mp_tracks C hw dM_head_68 (fun H locs hw => ?_)
  refine lv_aload_n C.1.1 C.1.2.1 dM_head_71 rfl (lv_at hl 0 rfl) ?_
  refine mg_tracks C hw dM_head_72 ?_
  refine lv_iconst (v := (1 : Int32)) C.1.1 C.1.2.1 dM_head_75 (by decide) ?_
  refine lv_icmp_lt (tgt := 103) C.1.1 C.1.2.1 dM_head_76 (by decide) (fun c2 => ?_) (fun c2 => ?_)
  · have hf := ts_t hf c2
    exact wM_head_103 C hr hlk hrv (upd iv1 8 r1.toInt32) av1 _ _ ls (lv_sub hl [0] rfl) hw hf
  · have hf := ts_f hf c2
    refine lv_aload_n C.1.1 C.1.2.1 dM_head_79 rfl (lv_at hl 0 rfl) ?_
    refine mg_tracks C hw dM_head_80 ?_
    refine lv_bipush (v := (16 : Int32)) C.1.1 C.1.2.1 dM_head_83 (by decide) ?_
    refine lv_icmp_gt (tgt := 103) C.1.1 C.1.2.1 dM_head_85 (by decide) (fun c3 => ?_) (fun c3 => ?_)
    · have hf := ts_t hf c3
      exact wM_head_103 C hr hlk hrv (upd iv1 8 r1.toInt32) av1 _ _ ls (lv_sub hl [0] rfl) hw hf
    · have hf := ts_f hf c3
      refine lv_aload_n C.1.1 C.1.2.1 dM_head_88 rfl (lv_at hl 0 rfl) ?_
      refine mg_format C hw dM_head_89 ?_
      refine lv_if_ne (tgt := 110) C.1.1 C.1.2.1 dM_head_92 (by decide) (fun c4 => ?_) (fun c4 => ?_)
      · have hf := ts_f hf c4
        exact wM_head_110 C hr hlk hrv (upd iv1 8 r1.toInt32) av1 _ _ ls (lv_sub hl [0] rfl) hw hf
      · have hf := ts_t hf c4
        refine lv_aload_n C.1.1 C.1.2.1 dM_head_95 rfl (lv_at hl 0 rfl) ?_
        refine mg_tracks C hw dM_head_96 ?_
        refine lv_iconst (v := (1 : Int32)) C.1.1 C.1.2.1 dM_head_99 (by decide) ?_
        refine lv_icmp_le (tgt := 110) C.1.1 C.1.2.1 dM_head_100 (by decide) (fun c5 => ?_) (fun c5 => ?_)
        · have hf := ts_t hf c5
          exact wM_head_110 C hr hlk hrv (upd iv1 8 r1.toInt32) av1 _ _ ls (lv_sub hl [0] rfl) hw hf
        · have hf := ts_f hf c5
          exact wM_head_103 C hr hlk hrv (upd iv1 8 r1.toInt32) av1 _ _ ls (lv_sub hl [0] rfl) hw hf
set_option maxHeartbeats 4000000 in
set_option maxRecDepth 100000 in
theorem wM_head_36 {p : Program} {l : Launch} {e : Env} {s : State} {m : MethodId} {args : Array Value} {below : List Frame} {meth : Method} {c : Code} {g : gT} {q : Nat} {ad : Nat → Nat} {X : va_W} {rv : Option Value} {iv' : Nat → Int32} {av' : Nat → Nat → Int32} (C : mCx p m c cM_head 1 s args g "MidiDeskModel") (hr : meth.sig.returnType = none) (hlk : meth.locks = false) (hrv : rv = none) (iv : Nat → Int32) (av : Nat → Nat → Int32) (H : Heap) (locs : List Loc) (ls : Array Slot) (hl : lv_has ls 1 [(0, .ref q)]) (hw : mWd g (mA g q ad X s.heap.size) s.heap q ad X iv av H locs) (hf : jM_head_36 iv av = some (iv', av')) : mG p l e rM_head s m args below meth c g q ad X rv iv' av' H locs 0 0 (F0 m 36 ls []) := by
  unfold jM_head_36 at hf
  refine lv_aload_n C.1.1 C.1.2.1 dM_head_36 rfl (lv_at hl 0 rfl) ?_
  refine lv_aload_n C.1.1 C.1.2.1 dM_head_37 rfl (lv_at hl 0 rfl) ?_
  refine lv_iconst (v := (2 : Int32)) C.1.1 C.1.2.1 dM_head_38 (by decide) ?_
  obtain ⟨⟨r1, iv1, av1⟩, g1, hf⟩ := ts_b hf
  dsimp only at hf
  refine m_callV (rest := [.ref q]) (As := [.int (2 : Int32)]) (rv := (some (.long r1))) C hl.1 hw (cM_taken_met g1) (callW_of (rm := rM_taken) 1 C.1.2.2.2.2 gw_808 gw_810 gw_27 gw_55 gw_811 kM_taken ⟨Nat.le_of_ble_eq_true rfl, Nat.le_of_ble_eq_true rfl⟩) rfl rfl (Nat.le_of_ble_eq_true rfl) dM_head_39 ⟨Nat.le_of_ble_eq_true rfl, Nat.le_of_ble_eq_true rfl⟩ (fun H locs hw => ?_)
  refine W.eq (g2 := F0 m 42 ls [.long r1, .ref q]) rfl ?_
  refine lv_l2i C.1.1 C.1.2.1 dM_head_42 rfl ?_
  refine mp_format C hw dM_head_43 (fun H locs hw => ?_)
  refine lv_aload_n C.1.1 C.1.2.1 dM_head_46 rfl (lv_at hl 0 rfl) ?_
  refine mg_format C hw dM_head_47 ?_
  refine lv_iconst (v := (2 : Int32)) C.1.1 C.1.2.1 dM_head_50 (by decide) ?_
  refine lv_icmp_le (tgt := 61) C.1.1 C.1.2.1 dM_head_51 (by decide) (fun c2 => ?_) (fun c2 => ?_)
  · have hf := ts_t hf c2
    exact wM_head_61 C hr hlk hrv (upd iv1 7 r1.toInt32) av1 _ _ ls (lv_sub hl [0] rfl) hw hf
  · have hf := ts_f hf c2
    refine lv_aload_n C.1.1 C.1.2.1 dM_head_54 rfl (lv_at hl 0 rfl) ?_
    refine lv_iconst (v := (3 : Int32)) C.1.1 C.1.2.1 dM_head_55 (by decide) ?_
    refine lv_bipush (v := (8 : Int32)) C.1.1 C.1.2.1 dM_head_56 (by decide) ?_
    obtain ⟨⟨iv3, av3⟩, g3, hf⟩ := ts_b hf
    dsimp only at hf
    refine m_callV (rest := []) (As := [.int (3 : Int32), .int (8 : Int32)]) (rv := none) C hl.1 hw (cM_fail_met g3) (callW_of (rm := rM_fail) 2 C.1.2.2.2.2 gw_812 gw_814 gw_28 gw_55 gw_815 kM_fail ⟨Nat.le_of_ble_eq_true rfl, Nat.le_of_ble_eq_true rfl⟩) rfl rfl (Nat.le_of_ble_eq_true rfl) dM_head_58 ⟨Nat.le_of_ble_eq_true rfl, Nat.le_of_ble_eq_true rfl⟩ (fun H locs hw => ?_)
    refine W.eq (g2 := F0 m 61 ls []) rfl ?_
    exact wM_head_61 C hr hlk hrv iv3 av3 _ _ ls (lv_sub hl [0] rfl) hw hf
set_option maxHeartbeats 4000000 in
set_option maxRecDepth 100000 in
theorem wM_head_18 {p : Program} {l : Launch} {e : Env} {s : State} {m : MethodId} {args : Array Value} {below : List Frame} {meth : Method} {c : Code} {g : gT} {q : Nat} {ad : Nat → Nat} {X : va_W} {rv : Option Value} {iv' : Nat → Int32} {av' : Nat → Nat → Int32} (C : mCx p m c cM_head 1 s args g "MidiDeskModel") (hr : meth.sig.returnType = none) (hlk : meth.locks = false) (hrv : rv = none) (iv : Nat → Int32) (av : Nat → Nat → Int32) (H : Heap) (locs : List Loc) (ls : Array Slot) (hl : lv_has ls 1 [(0, .ref q)]) (hw : mWd g (mA g q ad X s.heap.size) s.heap q ad X iv av H locs) (hf : jM_head_18 iv av = some (iv', av')) : mG p l e rM_head s m args below meth c g q ad X rv iv' av' H locs 0 0 (F0 m 18 ls []) := by
  unfold jM_head_18 at hf
  refine lv_aload_n C.1.1 C.1.2.1 dM_head_18 rfl (lv_at hl 0 rfl) ?_
  refine lv_iconst (v := (4 : Int32)) C.1.1 C.1.2.1 dM_head_19 (by decide) ?_
  obtain ⟨⟨r1, iv1, av1⟩, g1, hf⟩ := ts_b hf
  dsimp only at hf
  refine m_callV (rest := []) (As := [.int (4 : Int32)]) (rv := (some (.long r1))) C hl.1 hw (cM_taken_met g1) (callW_of (rm := rM_taken) 1 C.1.2.2.2.2 gw_808 gw_810 gw_27 gw_55 gw_811 kM_taken ⟨Nat.le_of_ble_eq_true rfl, Nat.le_of_ble_eq_true rfl⟩) rfl rfl (Nat.le_of_ble_eq_true rfl) dM_head_20 ⟨Nat.le_of_ble_eq_true rfl, Nat.le_of_ble_eq_true rfl⟩ (fun H locs hw => ?_)
  refine W.eq (g2 := F0 m 23 ls [.long r1]) rfl ?_
  refine lv_ldc2 C.1.1 C.1.2.1 C.1.2.2.2.1 (C.1.2.2.2.2 _ gw_818) dM_head_23 ?_
  refine W.lcmp C.1.1 C.1.2.1 dM_head_26 ?_
  refine lv_if_eq (tgt := 36) C.1.1 C.1.2.1 dM_head_27 (by decide) (fun c2 => ?_) (fun c2 => ?_)
  · have hf := ts_t hf c2
    exact wM_head_36 C hr hlk hrv iv1 av1 _ _ ls (lv_sub hl [0] rfl) hw hf
  · have hf := ts_f hf c2
    refine lv_aload_n C.1.1 C.1.2.1 dM_head_30 rfl (lv_at hl 0 rfl) ?_
    refine lv_iconst (v := (2 : Int32)) C.1.1 C.1.2.1 dM_head_31 (by decide) ?_
    refine lv_iconst (v := (4 : Int32)) C.1.1 C.1.2.1 dM_head_32 (by decide) ?_
    obtain ⟨⟨iv3, av3⟩, g3, hf⟩ := ts_b hf
    dsimp only at hf
    refine m_callV (rest := []) (As := [.int (2 : Int32), .int (4 : Int32)]) (rv := none) C hl.1 hw (cM_fail_met g3) (callW_of (rm := rM_fail) 2 C.1.2.2.2.2 gw_812 gw_814 gw_28 gw_55 gw_815 kM_fail ⟨Nat.le_of_ble_eq_true rfl, Nat.le_of_ble_eq_true rfl⟩) rfl rfl (Nat.le_of_ble_eq_true rfl) dM_head_33 ⟨Nat.le_of_ble_eq_true rfl, Nat.le_of_ble_eq_true rfl⟩ (fun H locs hw => ?_)
    refine W.eq (g2 := F0 m 36 ls []) rfl ?_
    exact wM_head_36 C hr hlk hrv iv3 av3 _ _ ls (lv_sub hl [0] rfl) hw hf
set_option maxHeartbeats 4000000 in
set_option maxRecDepth 100000 in
theorem cM_head_met {l : Launch} {g : gT} {q : Nat} {ad : Nat → Nat} {X : va_W} {iv iv' : Nat → Int32} {av av' : Nat → Nat → Int32} (hf : fM_head iv av = some (iv', av')) : mMet l yM_head cM_head 1 none rM_head g q ad X iv av [.ref q] none iv' av' := by
  refine m_entry (by decide) (Nat.le_of_ble_eq_true rfl) ?_
  intro p e s m args below meth c ls C hr hlk hnm hl hw
  have hrv : (none : Option Value) = none := rfl
  have C : mCx p m c cM_head 1 s args g "MidiDeskModel" := C
  have hl : lv_has ls 1 [(0, .ref q)] := hl
  unfold fM_head at hf
  refine lv_aload_n C.1.1 C.1.2.1 dM_head_0 rfl (lv_at hl 0 rfl) ?_
  refine lv_iconst (v := (4 : Int32)) C.1.1 C.1.2.1 dM_head_1 (by decide) ?_
  obtain ⟨⟨r1, iv1, av1⟩, g1, hf⟩ := ts_b hf
  dsimp only at hf
  refine m_callV (rest := []) (As := [.int (4 : Int32)]) (rv := (some (.long r1))) C hl.1 hw (cM_taken_met g1) (callW_of (rm := rM_taken) 1 C.1.2.2.2.2 gw_808 gw_810 gw_27 gw_55 gw_811 kM_taken ⟨Nat.le_of_ble_eq_true rfl, Nat.le_of_ble_eq_true rfl⟩) rfl rfl (Nat.le_of_ble_eq_true rfl) dM_head_2 ⟨Nat.le_of_ble_eq_true rfl, Nat.le_of_ble_eq_true rfl⟩ (fun H locs hw => ?_)
  refine W.eq (g2 := F0 m 5 ls [.long r1]) rfl ?_
  refine lv_ldc2 C.1.1 C.1.2.1 C.1.2.2.2.1 (C.1.2.2.2.2 _ gw_817) dM_head_5 ?_
  refine W.lcmp C.1.1 C.1.2.1 dM_head_8 ?_
  refine lv_if_eq (tgt := 18) C.1.1 C.1.2.1 dM_head_9 (by decide) (fun c2 => ?_) (fun c2 => ?_)
  · have hf := ts_t hf c2
    exact wM_head_18 C hr hlk hrv iv1 av1 _ _ ls (lv_sub hl [0] rfl) hw hf
  · have hf := ts_f hf c2
    refine lv_aload_n C.1.1 C.1.2.1 dM_head_12 rfl (lv_at hl 0 rfl) ?_
    refine lv_iconst (v := (2 : Int32)) C.1.1 C.1.2.1 dM_head_13 (by decide) ?_
    refine lv_iconst (v := (0 : Int32)) C.1.1 C.1.2.1 dM_head_14 (by decide) ?_
    obtain ⟨⟨iv3, av3⟩, g3, hf⟩ := ts_b hf
    dsimp only at hf
    refine m_callV (rest := []) (As := [.int (2 : Int32), .int (0 : Int32)]) (rv := none) C hl.1 hw (cM_fail_met g3) (callW_of (rm := rM_fail) 2 C.1.2.2.2.2 gw_812 gw_814 gw_28 gw_55 gw_815 kM_fail ⟨Nat.le_of_ble_eq_true rfl, Nat.le_of_ble_eq_true rfl⟩) rfl rfl (Nat.le_of_ble_eq_true rfl) dM_head_15 ⟨Nat.le_of_ble_eq_true rfl, Nat.le_of_ble_eq_true rfl⟩ (fun H locs hw => ?_)
    refine W.eq (g2 := F0 m 18 ls []) rfl ?_
    exact wM_head_18 C hr hlk hrv iv3 av3 _ _ ls (lv_sub hl [0] rfl) hw hf
end
section
abbrev cM_small : ByteArray := prog_8_method_12_code
abbrev yM_small : MethodName := ⟨"MidiDeskModel", "small", "()I"⟩
theorem kM_small : yM_small.cls ≠ "java/lang/invoke/MethodHandle" ∧ yM_small.cls ≠ "java/lang/invoke/VarHandle" ∧ (parseMethodDescriptor yM_small.desc).map (fun d => d.parameters.length) = some 0 := by decide +kernel
abbrev rM_small : Room := { frames := 2, cells := 0, slots := 0, locals := 46 }
theorem dM_small_0 : decode cM_small 0 = .ok (.aload_n 0, 1) := by decide +kernel
theorem dM_small_1 : decode cM_small 1 = .ok (.getfield 62, 3) := by decide +kernel
theorem dM_small_4 : decode cM_small 4 = .ok (.istore_n 1, 1) := by decide +kernel
theorem dM_small_5 : decode cM_small 5 = .ok (.aload_n 0, 1) := by decide +kernel
theorem dM_small_6 : decode cM_small 6 = .ok (.iconst 1, 1) := by decide +kernel
theorem dM_small_7 : decode cM_small 7 = .ok (.invokevirtual 74, 3) := by decide +kernel
theorem dM_small_10 : decode cM_small 10 = .ok (.l2i, 1) := by decide +kernel
theorem dM_small_11 : decode cM_small 11 = .ok (.istore_n 2, 1) := by decide +kernel
theorem dM_small_12 : decode cM_small 12 = .ok (.iload_n 2, 1) := by decide +kernel
theorem dM_small_13 : decode cM_small 13 = .ok (.bipush 127, 2) := by decide +kernel
theorem dM_small_15 : decode cM_small 15 = .ok (.if_icmp .le 10, 3) := by decide +kernel
theorem dM_small_18 : decode cM_small 18 = .ok (.aload_n 0, 1) := by decide +kernel
theorem dM_small_19 : decode cM_small 19 = .ok (.bipush 6, 2) := by decide +kernel
theorem dM_small_21 : decode cM_small 21 = .ok (.iload_n 1, 1) := by decide +kernel
theorem dM_small_22 : decode cM_small 22 = .ok (.invokevirtual 68, 3) := by decide +kernel
theorem dM_small_25 : decode cM_small 25 = .ok (.iload_n 2, 1) := by decide +kernel
theorem dM_small_26 : decode cM_small 26 = .ok (.ireturn, 1) := by decide +kernel
def fM_small (iv : Nat → Int32) (av : Nat → Nat → Int32) : Option (Int32 × (Nat → Int32) × (Nat → Nat → Int32)) := (fM_taken iv av (1 : Int32)).bind fun (r1, iv1, av1) => if r1.toInt32 ≤ (127 : Int32) then (some (r1.toInt32, iv1, av1)) else ((fM_fail iv1 av1 (6 : Int32) (iv 2)).bind fun (iv3, av3) => some (r1.toInt32, iv3, av3))
set_option maxHeartbeats 4000000 in
set_option maxRecDepth 100000 in
theorem cM_small_met {l : Launch} {g : gT} {q : Nat} {ad : Nat → Nat} {X : va_W} {iv iv' : Nat → Int32} {av av' : Nat → Nat → Int32} {r' : Int32} (hf : fM_small iv av = some (r', iv', av')) : mMet l yM_small cM_small 3 (some .int) rM_small g q ad X iv av [.ref q] (some (.int r')) iv' av' := by
  refine m_entry (by decide) (Nat.le_of_ble_eq_true rfl) ?_
  intro p e s m args below meth c ls C hr hlk hnm hl hw
  have hrv : ((some (.int r')) : Option Value) = (some (.int r')) := rfl
  have C : mCx p m c cM_small 3 s args g "MidiDeskModel" := C
  have hl : lv_has ls 3 [(0, .ref q)] := hl
  unfold fM_small at hf
  refine lv_aload_n C.1.1 C.1.2.1 dM_small_0 rfl (lv_at hl 0 rfl) ?_
  refine mg_at C hw dM_small_1 ?_
  refine lv_istore_n (lv' := [(1, .int (iv 2)), (0, .ref q)]) C.1.1 C.1.2.1 dM_small_4 rfl hl (by decide) rfl (fun ls hl => ?_)
  refine lv_aload_n C.1.1 C.1.2.1 dM_small_5 rfl (lv_at hl 1 rfl) ?_
  refine lv_iconst (v := (1 : Int32)) C.1.1 C.1.2.1 dM_small_6 (by decide) ?_
  obtain ⟨⟨r1, iv1, av1⟩, g1, hf⟩ := ts_b hf
  dsimp only at hf
  refine m_callV (rest := []) (As := [.int (1 : Int32)]) (rv := (some (.long r1))) C hl.1 hw (cM_taken_met g1) (callW_of (rm := rM_taken) 1 C.1.2.2.2.2 gw_808 gw_810 gw_27 gw_55 gw_811 kM_taken ⟨Nat.le_of_ble_eq_true rfl, Nat.le_of_ble_eq_true rfl⟩) rfl rfl (Nat.le_of_ble_eq_true rfl) dM_small_7 ⟨Nat.le_of_ble_eq_true rfl, Nat.le_of_ble_eq_true rfl⟩ (fun H locs hw => ?_)
  refine W.eq (g2 := F0 m 10 ls [.long r1]) rfl ?_
  refine lv_l2i C.1.1 C.1.2.1 dM_small_10 rfl ?_
  refine lv_istore_n (lv' := [(2, .int r1.toInt32), (1, .int (iv 2)), (0, .ref q)]) C.1.1 C.1.2.1 dM_small_11 rfl hl (by decide) rfl (fun ls hl => ?_)
  refine lv_iload_n C.1.1 C.1.2.1 dM_small_12 rfl (lv_at hl 0 rfl) ?_
  refine lv_bipush (v := (127 : Int32)) C.1.1 C.1.2.1 dM_small_13 (by decide) ?_
  refine lv_icmp_le (tgt := 25) C.1.1 C.1.2.1 dM_small_15 (by decide) (fun c2 => ?_) (fun c2 => ?_)
  · have hf := ts_t hf c2
    refine lv_iload_n C.1.1 C.1.2.1 dM_small_25 rfl (lv_at hl 0 rfl) ?_
    exact m_reti C hr hlk hrv hw hf ⟨Nat.le_of_ble_eq_true rfl, Nat.le_of_ble_eq_true rfl⟩ dM_small_26
  · have hf := ts_f hf c2
    refine lv_aload_n C.1.1 C.1.2.1 dM_small_18 rfl (lv_at hl 2 rfl) ?_
    refine lv_bipush (v := (6 : Int32)) C.1.1 C.1.2.1 dM_small_19 (by decide) ?_
    refine lv_iload_n C.1.1 C.1.2.1 dM_small_21 rfl (lv_at hl 1 rfl) ?_
    obtain ⟨⟨iv3, av3⟩, g3, hf⟩ := ts_b hf
    dsimp only at hf
    refine m_callV (rest := []) (As := [.int (6 : Int32), .int (iv 2)]) (rv := none) C hl.1 hw (cM_fail_met g3) (callW_of (rm := rM_fail) 2 C.1.2.2.2.2 gw_812 gw_814 gw_28 gw_55 gw_815 kM_fail ⟨Nat.le_of_ble_eq_true rfl, Nat.le_of_ble_eq_true rfl⟩) rfl rfl (Nat.le_of_ble_eq_true rfl) dM_small_22 ⟨Nat.le_of_ble_eq_true rfl, Nat.le_of_ble_eq_true rfl⟩ (fun H locs hw => ?_)
    refine W.eq (g2 := F0 m 25 ls []) rfl ?_
    refine lv_iload_n C.1.1 C.1.2.1 dM_small_25 rfl (lv_at hl 0 rfl) ?_
    exact m_reti C hr hlk hrv hw hf ⟨Nat.le_of_ble_eq_true rfl, Nat.le_of_ble_eq_true rfl⟩ dM_small_26
abbrev cM_tempo : ByteArray := prog_8_method_15_code
abbrev yM_tempo : MethodName := ⟨"MidiDeskModel", "tempo", "(I)I"⟩
theorem kM_tempo : yM_tempo.cls ≠ "java/lang/invoke/MethodHandle" ∧ yM_tempo.cls ≠ "java/lang/invoke/VarHandle" ∧ (parseMethodDescriptor yM_tempo.desc).map (fun d => d.parameters.length) = some 1 := by decide +kernel
abbrev rM_tempo : Room := { frames := 0, cells := 0, slots := 0, locals := 0 }
theorem dM_tempo_0 : decode cM_tempo 0 = .ok (.aload_n 0, 1) := by decide +kernel
theorem dM_tempo_1 : decode cM_tempo 1 = .ok (.getfield 40, 3) := by decide +kernel
theorem dM_tempo_4 : decode cM_tempo 4 = .ok (.aload_n 0, 1) := by decide +kernel
theorem dM_tempo_5 : decode cM_tempo 5 = .ok (.getfield 28, 3) := by decide +kernel
theorem dM_tempo_8 : decode cM_tempo 8 = .ok (.iload_n 1, 1) := by decide +kernel
theorem dM_tempo_9 : decode cM_tempo 9 = .ok (.iaload, 1) := by decide +kernel
theorem dM_tempo_10 : decode cM_tempo 10 = .ok (.iaload, 1) := by decide +kernel
theorem dM_tempo_11 : decode cM_tempo 11 = .ok (.bipush 16, 2) := by decide +kernel
theorem dM_tempo_13 : decode cM_tempo 13 = .ok (.ishl, 1) := by decide +kernel
theorem dM_tempo_14 : decode cM_tempo 14 = .ok (.aload_n 0, 1) := by decide +kernel
theorem dM_tempo_15 : decode cM_tempo 15 = .ok (.getfield 40, 3) := by decide +kernel
theorem dM_tempo_18 : decode cM_tempo 18 = .ok (.aload_n 0, 1) := by decide +kernel
theorem dM_tempo_19 : decode cM_tempo 19 = .ok (.getfield 28, 3) := by decide +kernel
theorem dM_tempo_22 : decode cM_tempo 22 = .ok (.iload_n 1, 1) := by decide +kernel
theorem dM_tempo_23 : decode cM_tempo 23 = .ok (.iaload, 1) := by decide +kernel
theorem dM_tempo_24 : decode cM_tempo 24 = .ok (.iconst 1, 1) := by decide +kernel
theorem dM_tempo_25 : decode cM_tempo 25 = .ok (.iadd, 1) := by decide +kernel
theorem dM_tempo_26 : decode cM_tempo 26 = .ok (.iaload, 1) := by decide +kernel
theorem dM_tempo_27 : decode cM_tempo 27 = .ok (.bipush 8, 2) := by decide +kernel
theorem dM_tempo_29 : decode cM_tempo 29 = .ok (.ishl, 1) := by decide +kernel
theorem dM_tempo_30 : decode cM_tempo 30 = .ok (.ior, 1) := by decide +kernel
theorem dM_tempo_31 : decode cM_tempo 31 = .ok (.aload_n 0, 1) := by decide +kernel
theorem dM_tempo_32 : decode cM_tempo 32 = .ok (.getfield 40, 3) := by decide +kernel
theorem dM_tempo_35 : decode cM_tempo 35 = .ok (.aload_n 0, 1) := by decide +kernel
theorem dM_tempo_36 : decode cM_tempo 36 = .ok (.getfield 28, 3) := by decide +kernel
theorem dM_tempo_39 : decode cM_tempo 39 = .ok (.iload_n 1, 1) := by decide +kernel
theorem dM_tempo_40 : decode cM_tempo 40 = .ok (.iaload, 1) := by decide +kernel
theorem dM_tempo_41 : decode cM_tempo 41 = .ok (.iconst 2, 1) := by decide +kernel
theorem dM_tempo_42 : decode cM_tempo 42 = .ok (.iadd, 1) := by decide +kernel
theorem dM_tempo_43 : decode cM_tempo 43 = .ok (.iaload, 1) := by decide +kernel
theorem dM_tempo_44 : decode cM_tempo 44 = .ok (.ior, 1) := by decide +kernel
theorem dM_tempo_45 : decode cM_tempo 45 = .ok (.ireturn, 1) := by decide +kernel
def fM_tempo (iv : Nat → Int32) (av : Nat → Nat → Int32) (x1 : Int32) : Option (Int32 × (Nat → Int32) × (Nat → Nat → Int32)) := if x1 < 0 ∨ 1001 ≤ x1.toNatClampNeg then none else (if (av 6 x1.toNatClampNeg) < 0 ∨ 20100 ≤ (av 6 x1.toNatClampNeg).toNatClampNeg then none else (if x1 < 0 ∨ 1001 ≤ x1.toNatClampNeg then none else (if ((av 6 x1.toNatClampNeg) + (1 : Int32)) < 0 ∨ 20100 ≤ ((av 6 x1.toNatClampNeg) + (1 : Int32)).toNatClampNeg then none else (if x1 < 0 ∨ 1001 ≤ x1.toNatClampNeg then none else (if ((av 6 x1.toNatClampNeg) + (2 : Int32)) < 0 ∨ 20100 ≤ ((av 6 x1.toNatClampNeg) + (2 : Int32)).toNatClampNeg then none else (some ((((av 10 (av 6 x1.toNatClampNeg).toNatClampNeg) <<< ((16 : Int32) &&& 31)) ||| ((av 10 ((av 6 x1.toNatClampNeg) + (1 : Int32)).toNatClampNeg) <<< ((8 : Int32) &&& 31))) ||| (av 10 ((av 6 x1.toNatClampNeg) + (2 : Int32)).toNatClampNeg), iv, av)))))))
set_option maxHeartbeats 4000000 in
set_option maxRecDepth 100000 in
theorem cM_tempo_met {l : Launch} {g : gT} {q : Nat} {ad : Nat → Nat} {X : va_W} {iv iv' : Nat → Int32} {av av' : Nat → Nat → Int32} {x1 : Int32} {r' : Int32} (hf : fM_tempo iv av x1 = some (r', iv', av')) : mMet l yM_tempo cM_tempo 2 (some .int) rM_tempo g q ad X iv av [.ref q, .int x1] (some (.int r')) iv' av' := by
  refine m_entry (by decide) (Nat.le_of_ble_eq_true rfl) ?_
  intro p e s m args below meth c ls C hr hlk hnm hl hw
  have hrv : ((some (.int r')) : Option Value) = (some (.int r')) := rfl
  have C : mCx p m c cM_tempo 2 s args g "MidiDeskModel" := C
  have hl : lv_has ls 2 [(0, .ref q), (1, .int x1)] := hl
  unfold fM_tempo at hf
  refine lv_aload_n C.1.1 C.1.2.1 dM_tempo_0 rfl (lv_at hl 0 rfl) ?_
  refine mg_bytes C hw dM_tempo_1 ?_
  refine lv_aload_n C.1.1 C.1.2.1 dM_tempo_4 rfl (lv_at hl 0 rfl) ?_
  refine mg_from C hw dM_tempo_5 ?_
  refine lv_iload_n C.1.1 C.1.2.1 dM_tempo_8 rfl (lv_at hl 1 rfl) ?_
  obtain ⟨h1, hf⟩ := ts_g hf
  refine ma_from C hw h1 dM_tempo_9 ?_
  obtain ⟨h2, hf⟩ := ts_g hf
  refine ma_bytes C hw h2 dM_tempo_10 ?_
  refine lv_bipush (v := (16 : Int32)) C.1.1 C.1.2.1 dM_tempo_11 (by decide) ?_
  refine lv_ishl C.1.1 C.1.2.1 dM_tempo_13 ?_
  refine lv_aload_n C.1.1 C.1.2.1 dM_tempo_14 rfl (lv_at hl 0 rfl) ?_
  refine mg_bytes C hw dM_tempo_15 ?_
  refine lv_aload_n C.1.1 C.1.2.1 dM_tempo_18 rfl (lv_at hl 0 rfl) ?_
  refine mg_from C hw dM_tempo_19 ?_
  refine lv_iload_n C.1.1 C.1.2.1 dM_tempo_22 rfl (lv_at hl 1 rfl) ?_
  obtain ⟨h3, hf⟩ := ts_g hf
  refine ma_from C hw h3 dM_tempo_23 ?_
  refine lv_iconst (v := (1 : Int32)) C.1.1 C.1.2.1 dM_tempo_24 (by decide) ?_
  refine lv_iadd C.1.1 C.1.2.1 dM_tempo_25 ?_
  obtain ⟨h4, hf⟩ := ts_g hf
  refine ma_bytes C hw h4 dM_tempo_26 ?_
  refine lv_bipush (v := (8 : Int32)) C.1.1 C.1.2.1 dM_tempo_27 (by decide) ?_
  refine lv_ishl C.1.1 C.1.2.1 dM_tempo_29 ?_
  refine lv_ior C.1.1 C.1.2.1 dM_tempo_30 ?_
  refine lv_aload_n C.1.1 C.1.2.1 dM_tempo_31 rfl (lv_at hl 0 rfl) ?_
  refine mg_bytes C hw dM_tempo_32 ?_
  refine lv_aload_n C.1.1 C.1.2.1 dM_tempo_35 rfl (lv_at hl 0 rfl) ?_
  refine mg_from C hw dM_tempo_36 ?_
  refine lv_iload_n C.1.1 C.1.2.1 dM_tempo_39 rfl (lv_at hl 1 rfl) ?_
  obtain ⟨h5, hf⟩ := ts_g hf
  refine ma_from C hw h5 dM_tempo_40 ?_
  refine lv_iconst (v := (2 : Int32)) C.1.1 C.1.2.1 dM_tempo_41 (by decide) ?_
  refine lv_iadd C.1.1 C.1.2.1 dM_tempo_42 ?_
  obtain ⟨h6, hf⟩ := ts_g hf
  refine ma_bytes C hw h6 dM_tempo_43 ?_
  refine lv_ior C.1.1 C.1.2.1 dM_tempo_44 ?_
  exact m_reti C hr hlk hrv hw hf ⟨Nat.le_of_ble_eq_true rfl, Nat.le_of_ble_eq_true rfl⟩ dM_tempo_45
abbrev cM_follow : ByteArray := prog_8_method_14_code
abbrev yM_follow : MethodName := ⟨"MidiDeskModel", "follow", "(II)V"⟩
theorem kM_follow : yM_follow.cls ≠ "java/lang/invoke/MethodHandle" ∧ yM_follow.cls ≠ "java/lang/invoke/VarHandle" ∧ (parseMethodDescriptor yM_follow.desc).map (fun d => d.parameters.length) = some 2 := by decide +kernel
abbrev rM_follow : Room := { frames := 3, cells := 0, slots := 0, locals := 70 }
theorem dM_follow_0 : decode cM_follow 0 = .ok (.aload_n 0, 1) := by decide +kernel
theorem dM_follow_1 : decode cM_follow 1 = .ok (.getfield 62, 3) := by decide +kernel
theorem dM_follow_4 : decode cM_follow 4 = .ok (.istore_n 3, 1) := by decide +kernel
theorem dM_follow_5 : decode cM_follow 5 = .ok (.aload_n 0, 1) := by decide +kernel
theorem dM_follow_6 : decode cM_follow 6 = .ok (.invokevirtual 117, 3) := by decide +kernel
theorem dM_follow_9 : decode cM_follow 9 = .ok (.istore 4, 2) := by decide +kernel
theorem dM_follow_11 : decode cM_follow 11 = .ok (.aload_n 0, 1) := by decide +kernel
theorem dM_follow_12 : decode cM_follow 12 = .ok (.getfield 56, 3) := by decide +kernel
theorem dM_follow_15 : decode cM_follow 15 = .ok (.ifCond .ne 21, 3) := by decide +kernel
theorem dM_follow_18 : decode cM_follow 18 = .ok (.iload_n 2, 1) := by decide +kernel
theorem dM_follow_19 : decode cM_follow 19 = .ok (.bipush 47, 2) := by decide +kernel
theorem dM_follow_21 : decode cM_follow 21 = .ok (.if_icmp .ne 15, 3) := by decide +kernel
theorem dM_follow_24 : decode cM_follow 24 = .ok (.iload 4, 2) := by decide +kernel
theorem dM_follow_26 : decode cM_follow 26 = .ok (.ifCond .le 10, 3) := by decide +kernel
theorem dM_follow_29 : decode cM_follow 29 = .ok (.aload_n 0, 1) := by decide +kernel
theorem dM_follow_30 : decode cM_follow 30 = .ok (.bipush 7, 2) := by decide +kernel
theorem dM_follow_32 : decode cM_follow 32 = .ok (.iload_n 3, 1) := by decide +kernel
theorem dM_follow_33 : decode cM_follow 33 = .ok (.invokevirtual 68, 3) := by decide +kernel
theorem dM_follow_36 : decode cM_follow 36 = .ok (.aload_n 0, 1) := by decide +kernel
theorem dM_follow_37 : decode cM_follow 37 = .ok (.getfield 56, 3) := by decide +kernel
theorem dM_follow_40 : decode cM_follow 40 = .ok (.ifCond .ne 22, 3) := by decide +kernel
theorem dM_follow_43 : decode cM_follow 43 = .ok (.iload_n 2, 1) := by decide +kernel
theorem dM_follow_44 : decode cM_follow 44 = .ok (.bipush 81, 2) := by decide +kernel
theorem dM_follow_46 : decode cM_follow 46 = .ok (.if_icmp .ne 16, 3) := by decide +kernel
theorem dM_follow_49 : decode cM_follow 49 = .ok (.iload 4, 2) := by decide +kernel
theorem dM_follow_51 : decode cM_follow 51 = .ok (.iconst 3, 1) := by decide +kernel
theorem dM_follow_52 : decode cM_follow 52 = .ok (.if_icmp .eq 10, 3) := by decide +kernel
theorem dM_follow_55 : decode cM_follow 55 = .ok (.aload_n 0, 1) := by decide +kernel
theorem dM_follow_56 : decode cM_follow 56 = .ok (.bipush 8, 2) := by decide +kernel
theorem dM_follow_58 : decode cM_follow 58 = .ok (.iload_n 3, 1) := by decide +kernel
theorem dM_follow_59 : decode cM_follow 59 = .ok (.invokevirtual 68, 3) := by decide +kernel
theorem dM_follow_62 : decode cM_follow 62 = .ok (.aload_n 0, 1) := by decide +kernel
theorem dM_follow_63 : decode cM_follow 63 = .ok (.getfield 56, 3) := by decide +kernel
theorem dM_follow_66 : decode cM_follow 66 = .ok (.ifCond .ne 26, 3) := by decide +kernel
theorem dM_follow_69 : decode cM_follow 69 = .ok (.aload_n 0, 1) := by decide +kernel
theorem dM_follow_70 : decode cM_follow 70 = .ok (.getfield 62, 3) := by decide +kernel
theorem dM_follow_73 : decode cM_follow 73 = .ok (.iload 4, 2) := by decide +kernel
theorem dM_follow_75 : decode cM_follow 75 = .ok (.iadd, 1) := by decide +kernel
theorem dM_follow_76 : decode cM_follow 76 = .ok (.aload_n 0, 1) := by decide +kernel
theorem dM_follow_77 : decode cM_follow 77 = .ok (.getfield 65, 3) := by decide +kernel
theorem dM_follow_80 : decode cM_follow 80 = .ok (.if_icmp .le 12, 3) := by decide +kernel
theorem dM_follow_83 : decode cM_follow 83 = .ok (.aload_n 0, 1) := by decide +kernel
theorem dM_follow_84 : decode cM_follow 84 = .ok (.iconst 1, 1) := by decide +kernel
theorem dM_follow_85 : decode cM_follow 85 = .ok (.aload_n 0, 1) := by decide +kernel
theorem dM_follow_86 : decode cM_follow 86 = .ok (.getfield 65, 3) := by decide +kernel
theorem dM_follow_89 : decode cM_follow 89 = .ok (.invokevirtual 68, 3) := by decide +kernel
theorem dM_follow_92 : decode cM_follow 92 = .ok (.aload_n 0, 1) := by decide +kernel
theorem dM_follow_93 : decode cM_follow 93 = .ok (.getfield 56, 3) := by decide +kernel
theorem dM_follow_96 : decode cM_follow 96 = .ok (.ifCond .le 4, 3) := by decide +kernel
theorem dM_follow_99 : decode cM_follow 99 = .ok (.return_, 1) := by decide +kernel
theorem dM_follow_100 : decode cM_follow 100 = .ok (.aload_n 0, 1) := by decide +kernel
theorem dM_follow_101 : decode cM_follow 101 = .ok (.getfield 31, 3) := by decide +kernel
theorem dM_follow_104 : decode cM_follow 104 = .ok (.iload_n 1, 1) := by decide +kernel
theorem dM_follow_105 : decode cM_follow 105 = .ok (.iload 4, 2) := by decide +kernel
theorem dM_follow_107 : decode cM_follow 107 = .ok (.iastore, 1) := by decide +kernel
theorem dM_follow_108 : decode cM_follow 108 = .ok (.aload_n 0, 1) := by decide +kernel
theorem dM_follow_109 : decode cM_follow 109 = .ok (.getfield 62, 3) := by decide +kernel
theorem dM_follow_112 : decode cM_follow 112 = .ok (.istore_n 3, 1) := by decide +kernel
theorem dM_follow_113 : decode cM_follow 113 = .ok (.iconst 0, 1) := by decide +kernel
theorem dM_follow_114 : decode cM_follow 114 = .ok (.istore 5, 2) := by decide +kernel
theorem dM_follow_116 : decode cM_follow 116 = .ok (.iload 5, 2) := by decide +kernel
theorem dM_follow_118 : decode cM_follow 118 = .ok (.iload 4, 2) := by decide +kernel
theorem dM_follow_120 : decode cM_follow 120 = .ok (.if_icmp .ge 33, 3) := by decide +kernel
theorem dM_follow_123 : decode cM_follow 123 = .ok (.aload_n 0, 1) := by decide +kernel
theorem dM_follow_124 : decode cM_follow 124 = .ok (.getfield 40, 3) := by decide +kernel
theorem dM_follow_127 : decode cM_follow 127 = .ok (.aload_n 0, 1) := by decide +kernel
theorem dM_follow_128 : decode cM_follow 128 = .ok (.getfield 98, 3) := by decide +kernel
theorem dM_follow_131 : decode cM_follow 131 = .ok (.iload 5, 2) := by decide +kernel
theorem dM_follow_133 : decode cM_follow 133 = .ok (.iadd, 1) := by decide +kernel
theorem dM_follow_134 : decode cM_follow 134 = .ok (.aload_n 0, 1) := by decide +kernel
theorem dM_follow_135 : decode cM_follow 135 = .ok (.getfield 7, 3) := by decide +kernel
theorem dM_follow_138 : decode cM_follow 138 = .ok (.aload_n 0, 1) := by decide +kernel
theorem dM_follow_139 : decode cM_follow 139 = .ok (.getfield 62, 3) := by decide +kernel
theorem dM_follow_142 : decode cM_follow 142 = .ok (.iload 5, 2) := by decide +kernel
theorem dM_follow_144 : decode cM_follow 144 = .ok (.iadd, 1) := by decide +kernel
theorem dM_follow_145 : decode cM_follow 145 = .ok (.iaload, 1) := by decide +kernel
theorem dM_follow_146 : decode cM_follow 146 = .ok (.iastore, 1) := by decide +kernel
theorem dM_follow_147 : decode cM_follow 147 = .ok (.iinc 5 1, 3) := by decide +kernel
theorem dM_follow_150 : decode cM_follow 150 = .ok (.goto (-34), 3) := by decide +kernel
theorem dM_follow_153 : decode cM_follow 153 = .ok (.aload_n 0, 1) := by decide +kernel
theorem dM_follow_154 : decode cM_follow 154 = .ok (.dup, 1) := by decide +kernel
theorem dM_follow_155 : decode cM_follow 155 = .ok (.getfield 62, 3) := by decide +kernel
theorem dM_follow_158 : decode cM_follow 158 = .ok (.iload 4, 2) := by decide +kernel
theorem dM_follow_160 : decode cM_follow 160 = .ok (.iadd, 1) := by decide +kernel
theorem dM_follow_161 : decode cM_follow 161 = .ok (.putfield 62, 3) := by decide +kernel
theorem dM_follow_164 : decode cM_follow 164 = .ok (.iload_n 2, 1) := by decide +kernel
theorem dM_follow_165 : decode cM_follow 165 = .ok (.bipush 81, 2) := by decide +kernel
theorem dM_follow_167 : decode cM_follow 167 = .ok (.if_icmp .ne 18, 3) := by decide +kernel
theorem dM_follow_170 : decode cM_follow 170 = .ok (.aload_n 0, 1) := by decide +kernel
theorem dM_follow_171 : decode cM_follow 171 = .ok (.iload_n 1, 1) := by decide +kernel
theorem dM_follow_172 : decode cM_follow 172 = .ok (.invokevirtual 133, 3) := by decide +kernel
theorem dM_follow_175 : decode cM_follow 175 = .ok (.ifCond .ne 10, 3) := by decide +kernel
theorem dM_follow_178 : decode cM_follow 178 = .ok (.aload_n 0, 1) := by decide +kernel
theorem dM_follow_179 : decode cM_follow 179 = .ok (.bipush 8, 2) := by decide +kernel
theorem dM_follow_181 : decode cM_follow 181 = .ok (.iload_n 3, 1) := by decide +kernel
theorem dM_follow_182 : decode cM_follow 182 = .ok (.invokevirtual 68, 3) := by decide +kernel
theorem dM_follow_185 : decode cM_follow 185 = .ok (.return_, 1) := by decide +kernel
def lM_follow_116 : Nat → (Nat → Int32) → (Nat → Nat → Int32) → Int32 → Int32 → Int32 → Int32 → Int32 → Option ((Nat → Int32) × (Nat → Nat → Int32))
  | 0 => fun _ _ _ _ _ _ _ => none
  | k + 1 => fun iv av x1 x2 x3 x4 x5 => if x4 ≤ x5 then (if x2 = (81 : Int32) then ((fM_tempo (upd iv 2 ((iv 2) + x4)) av x1).bind fun (r3, iv3, av3) => if r3 = 0 then ((fM_fail iv3 av3 (8 : Int32) x3).bind fun (iv5, av5) => some (iv5, av5)) else (some (iv3, av3))) else (some (upd iv 2 ((iv 2) + x4), av))) else (if ((iv 2) + x5) < 0 ∨ 12000 ≤ ((iv 2) + x5).toNatClampNeg then none else (if ((iv 11) + x5) < 0 ∨ 20100 ≤ ((iv 11) + x5).toNatClampNeg then none else (lM_follow_116 k iv (up2 av 10 ((iv 11) + x5).toNatClampNeg (av 0 ((iv 2) + x5).toNatClampNeg)) x1 x2 x3 x4 (x5 + 1))))
def jM_follow_92 (iv : Nat → Int32) (av : Nat → Nat → Int32) (x1 : Int32) (x2 : Int32) (x4 : Int32) : Option ((Nat → Int32) × (Nat → Nat → Int32)) := if (iv 4) ≤ 0 then (if x1 < 0 ∨ 1001 ≤ x1.toNatClampNeg then none else (lM_follow_116 FU iv (up2 av 7 x1.toNatClampNeg x4) x1 x2 (iv 2) x4 (0 : Int32))) else (some (iv, av))
def jM_follow_62 (iv : Nat → Int32) (av : Nat → Nat → Int32) (x1 : Int32) (x2 : Int32) (x4 : Int32) : Option ((Nat → Int32) × (Nat → Nat → Int32)) := if (iv 4) = 0 then (if ((iv 2) + x4) ≤ (iv 3) then (jM_follow_92 iv av x1 x2 x4) else ((fM_fail iv av (1 : Int32) (iv 3)).bind fun (iv3, av3) => jM_follow_92 iv3 av3 x1 x2 x4)) else (jM_follow_92 iv av x1 x2 x4)
def jM_follow_36 (iv : Nat → Int32) (av : Nat → Nat → Int32) (x1 : Int32) (x2 : Int32) (x3 : Int32) (x4 : Int32) : Option ((Nat → Int32) × (Nat → Nat → Int32)) := if (iv 4) = 0 then (if x2 = (81 : Int32) then (if x4 = (3 : Int32) then (jM_follow_62 iv av x1 x2 x4) else ((fM_fail iv av (8 : Int32) x3).bind fun (iv4, av4) => jM_follow_62 iv4 av4 x1 x2 x4)) else (jM_follow_62 iv av x1 x2 x4)) else (jM_follow_62 iv av x1 x2 x4)
def fM_follow (iv : Nat → Int32) (av : Nat → Nat → Int32) (x1 : Int32) (x2 : Int32) : Option ((Nat → Int32) × (Nat → Nat → Int32)) := (fM_number iv av).bind fun (r1, iv1, av1) => if (iv1 4) = 0 then (if x2 = (47 : Int32) then (if r1 ≤ 0 then (jM_follow_36 iv1 av1 x1 x2 (iv 2) r1) else ((fM_fail iv1 av1 (7 : Int32) (iv 2)).bind fun (iv5, av5) => jM_follow_36 iv5 av5 x1 x2 (iv 2) r1)) else (jM_follow_36 iv1 av1 x1 x2 (iv 2) r1)) else (jM_follow_36 iv1 av1 x1 x2 (iv 2) r1)
set_option maxHeartbeats 4000000 in
set_option maxRecDepth 100000 in
theorem wM_follow_116 {p : Program} {l : Launch} {e : Env} {s : State} {m : MethodId} {args : Array Value} {below : List Frame} {meth : Method} {c : Code} {g : gT} {q : Nat} {ad : Nat → Nat} {X : va_W} {rv : Option Value} {iv' : Nat → Int32} {av' : Nat → Nat → Int32} (C : mCx p m c cM_follow 6 s args g "MidiDeskModel") (hr : meth.sig.returnType = none) (hlk : meth.locks = false) (hrv : rv = none) (k : Nat) : ∀ (iv : Nat → Int32) (av : Nat → Nat → Int32) (x1 : Int32) (x2 : Int32) (x3 : Int32) (x4 : Int32) (x5 : Int32) (H : Heap) (locs : List Loc) (ls : Array Slot), lv_has ls 6 [(0, .ref q), (1, .int x1), (2, .int x2), (3, .int x3), (4, .int x4), (5, .int x5)] → mWd g (mA g q ad X s.heap.size) s.heap q ad X iv av H locs → lM_follow_116 k iv av x1 x2 x3 x4 x5 = some (iv', av') → mG p l e rM_follow s m args below meth c g q ad X rv iv' av' H locs 0 0 (F0 m 116 ls []) := by
  induction k with
  | zero => intro iv av x1 x2 x3 x4 x5 H locs ls hl hw hf; cases hf
  | succ k ih =>
    intro iv av x1 x2 x3 x4 x5 H locs ls hl hw hf
    have hf : (if x4 ≤ x5 then (if x2 = (81 : Int32) then ((fM_tempo (upd iv 2 ((iv 2) + x4)) av x1).bind fun (r3, iv3, av3) => if r3 = 0 then ((fM_fail iv3 av3 (8 : Int32) x3).bind fun (iv5, av5) => some (iv5, av5)) else (some (iv3, av3))) else (some (upd iv 2 ((iv 2) + x4), av))) else (if ((iv 2) + x5) < 0 ∨ 12000 ≤ ((iv 2) + x5).toNatClampNeg then none else (if ((iv 11) + x5) < 0 ∨ 20100 ≤ ((iv 11) + x5).toNatClampNeg then none else (lM_follow_116 k iv (up2 av 10 ((iv 11) + x5).toNatClampNeg (av 0 ((iv 2) + x5).toNatClampNeg)) x1 x2 x3 x4 (x5 + 1))))) = some (iv', av') := hf
    refine lv_iload C.1.1 C.1.2.1 dM_follow_116 (lv_at hl 5 rfl) ?_
    refine lv_iload C.1.1 C.1.2.1 dM_follow_118 (lv_at hl 4 rfl) ?_
    refine lv_icmp_ge (tgt := 153) C.1.1 C.1.2.1 dM_follow_120 (by decide) (fun c1 => ?_) (fun c1 => ?_)
    · have hf := ts_t hf c1
      refine lv_aload_n C.1.1 C.1.2.1 dM_follow_153 rfl (lv_at hl 0 rfl) ?_
      refine lv_dup C.1.1 C.1.2.1 dM_follow_154 rfl ?_
      refine mg_at C hw dM_follow_155 ?_
      refine lv_iload C.1.1 C.1.2.1 dM_follow_158 (lv_at hl 4 rfl) ?_
      refine lv_iadd C.1.1 C.1.2.1 dM_follow_160 ?_
      refine mp_at C hw dM_follow_161 (fun H locs hw => ?_)
      refine lv_iload_n C.1.1 C.1.2.1 dM_follow_164 rfl (lv_at hl 2 rfl) ?_
      refine lv_bipush (v := (81 : Int32)) C.1.1 C.1.2.1 dM_follow_165 (by decide) ?_
      refine lv_icmp_ne (tgt := 185) C.1.1 C.1.2.1 dM_follow_167 (by decide) (fun c2 => ?_) (fun c2 => ?_)
      · have hf := ts_f hf c2
        exact m_retv C hr hlk hrv hw hf ⟨Nat.le_of_ble_eq_true rfl, Nat.le_of_ble_eq_true rfl⟩ dM_follow_185
      · have hf := ts_t hf c2
        refine lv_aload_n C.1.1 C.1.2.1 dM_follow_170 rfl (lv_at hl 0 rfl) ?_
        refine lv_iload_n C.1.1 C.1.2.1 dM_follow_171 rfl (lv_at hl 1 rfl) ?_
        obtain ⟨⟨r3, iv3, av3⟩, g3, hf⟩ := ts_b hf
        dsimp only at hf
        refine m_callV (rest := []) (As := [.int x1]) (rv := (some (.int r3))) C hl.1 hw (cM_tempo_met g3) (callW_of (rm := rM_tempo) 1 C.1.2.2.2.2 gw_844 gw_846 gw_34 gw_55 gw_847 kM_tempo ⟨Nat.le_of_ble_eq_true rfl, Nat.le_of_ble_eq_true rfl⟩) rfl rfl (Nat.le_of_ble_eq_true rfl) dM_follow_172 ⟨Nat.le_of_ble_eq_true rfl, Nat.le_of_ble_eq_true rfl⟩ (fun H locs hw => ?_)
        refine W.eq (g2 := F0 m 175 ls [.int r3]) rfl ?_
        refine lv_if_ne (tgt := 185) C.1.1 C.1.2.1 dM_follow_175 (by decide) (fun c4 => ?_) (fun c4 => ?_)
        · have hf := ts_f hf c4
          exact m_retv C hr hlk hrv hw hf ⟨Nat.le_of_ble_eq_true rfl, Nat.le_of_ble_eq_true rfl⟩ dM_follow_185
        · have hf := ts_t hf c4
          refine lv_aload_n C.1.1 C.1.2.1 dM_follow_178 rfl (lv_at hl 0 rfl) ?_
          refine lv_bipush (v := (8 : Int32)) C.1.1 C.1.2.1 dM_follow_179 (by decide) ?_
          refine lv_iload_n C.1.1 C.1.2.1 dM_follow_181 rfl (lv_at hl 3 rfl) ?_
          obtain ⟨⟨iv5, av5⟩, g5, hf⟩ := ts_b hf
          dsimp only at hf
          refine m_callV (rest := []) (As := [.int (8 : Int32), .int x3]) (rv := none) C hl.1 hw (cM_fail_met g5) (callW_of (rm := rM_fail) 2 C.1.2.2.2.2 gw_812 gw_814 gw_28 gw_55 gw_815 kM_fail ⟨Nat.le_of_ble_eq_true rfl, Nat.le_of_ble_eq_true rfl⟩) rfl rfl (Nat.le_of_ble_eq_true rfl) dM_follow_182 ⟨Nat.le_of_ble_eq_true rfl, Nat.le_of_ble_eq_true rfl⟩ (fun H locs hw => ?_)
          refine W.eq (g2 := F0 m 185 ls []) rfl ?_
          exact m_retv C hr hlk hrv hw hf ⟨Nat.le_of_ble_eq_true rfl, Nat.le_of_ble_eq_true rfl⟩ dM_follow_185
    · have hf := ts_f hf c1
      refine lv_aload_n C.1.1 C.1.2.1 dM_follow_123 rfl (lv_at hl 0 rfl) ?_
      refine mg_bytes C hw dM_follow_124 ?_
      refine lv_aload_n C.1.1 C.1.2.1 dM_follow_127 rfl (lv_at hl 0 rfl) ?_
      refine mg_many C hw dM_follow_128 ?_
      refine lv_iload C.1.1 C.1.2.1 dM_follow_131 (lv_at hl 5 rfl) ?_
      refine lv_iadd C.1.1 C.1.2.1 dM_follow_133 ?_
      refine lv_aload_n C.1.1 C.1.2.1 dM_follow_134 rfl (lv_at hl 0 rfl) ?_
      refine mg_input C hw dM_follow_135 ?_
      refine lv_aload_n C.1.1 C.1.2.1 dM_follow_138 rfl (lv_at hl 0 rfl) ?_
      refine mg_at C hw dM_follow_139 ?_
      refine lv_iload C.1.1 C.1.2.1 dM_follow_142 (lv_at hl 5 rfl) ?_
      refine lv_iadd C.1.1 C.1.2.1 dM_follow_144 ?_
      obtain ⟨h6, hf⟩ := ts_g hf
      refine ma_input C hw h6 dM_follow_145 ?_
      obtain ⟨h7, hf⟩ := ts_g hf
      refine ms_bytes C hw h7 dM_follow_146 (fun H locs hw => ?_)
      refine lv_iinc (v := x5 + 1) (lv' := [(5, .int (x5 + 1)), (0, .ref q), (1, .int x1), (2, .int x2), (3, .int x3), (4, .int x4)]) C.1.1 C.1.2.1 dM_follow_147 hl (k := 5) rfl rfl (by decide) rfl (fun ls hl => ?_)
      refine lv_goto (tgt := 116) C.1.1 C.1.2.1 dM_follow_150 (by decide) ?_
      exact ih iv (up2 av 10 ((iv 11) + x5).toNatClampNeg (av 0 ((iv 2) + x5).toNatClampNeg)) x1 x2 x3 x4 (x5 + 1) _ _ ls (lv_sub hl [1, 2, 3, 4, 5, 0] rfl) hw hf
set_option maxHeartbeats 4000000 in
set_option maxRecDepth 100000 in
theorem wM_follow_92 {p : Program} {l : Launch} {e : Env} {s : State} {m : MethodId} {args : Array Value} {below : List Frame} {meth : Method} {c : Code} {g : gT} {q : Nat} {ad : Nat → Nat} {X : va_W} {rv : Option Value} {iv' : Nat → Int32} {av' : Nat → Nat → Int32} (C : mCx p m c cM_follow 6 s args g "MidiDeskModel") (hr : meth.sig.returnType = none) (hlk : meth.locks = false) (hrv : rv = none) (iv : Nat → Int32) (av : Nat → Nat → Int32) (x1 : Int32) (x2 : Int32) (x4 : Int32) (H : Heap) (locs : List Loc) (ls : Array Slot) (hl : lv_has ls 6 [(0, .ref q), (1, .int x1), (2, .int x2), (4, .int x4)]) (hw : mWd g (mA g q ad X s.heap.size) s.heap q ad X iv av H locs) (hf : jM_follow_92 iv av x1 x2 x4 = some (iv', av')) : mG p l e rM_follow s m args below meth c g q ad X rv iv' av' H locs 0 0 (F0 m 92 ls []) := by
  unfold jM_follow_92 at hf
  refine lv_aload_n C.1.1 C.1.2.1 dM_follow_92 rfl (lv_at hl 0 rfl) ?_
  refine mg_fault C hw dM_follow_93 ?_
  refine lv_if_le (tgt := 100) C.1.1 C.1.2.1 dM_follow_96 (by decide) (fun c1 => ?_) (fun c1 => ?_)
  · have hf := ts_t hf c1
    refine lv_aload_n C.1.1 C.1.2.1 dM_follow_100 rfl (lv_at hl 0 rfl) ?_
    refine mg_counts C hw dM_follow_101 ?_
    refine lv_iload_n C.1.1 C.1.2.1 dM_follow_104 rfl (lv_at hl 1 rfl) ?_
    refine lv_iload C.1.1 C.1.2.1 dM_follow_105 (lv_at hl 3 rfl) ?_
    obtain ⟨h2, hf⟩ := ts_g hf
    refine ms_counts C hw h2 dM_follow_107 (fun H locs hw => ?_)
    refine lv_aload_n C.1.1 C.1.2.1 dM_follow_108 rfl (lv_at hl 0 rfl) ?_
    refine mg_at C hw dM_follow_109 ?_
    refine lv_istore_n (lv' := [(3, .int (iv 2)), (0, .ref q), (1, .int x1), (2, .int x2), (4, .int x4)]) C.1.1 C.1.2.1 dM_follow_112 rfl hl (by decide) rfl (fun ls hl => ?_)
    refine lv_iconst (v := (0 : Int32)) C.1.1 C.1.2.1 dM_follow_113 (by decide) ?_
    refine lv_istore (lv' := [(5, .int (0 : Int32)), (3, .int (iv 2)), (0, .ref q), (1, .int x1), (2, .int x2), (4, .int x4)]) C.1.1 C.1.2.1 dM_follow_114 hl (by decide) rfl (fun ls hl => ?_)
    exact wM_follow_116 C hr hlk hrv FU iv (up2 av 7 x1.toNatClampNeg x4) x1 x2 (iv 2) x4 (0 : Int32) _ _ ls (lv_sub hl [2, 3, 4, 1, 5, 0] rfl) hw hf
  · have hf := ts_f hf c1
    exact m_retv C hr hlk hrv hw hf ⟨Nat.le_of_ble_eq_true rfl, Nat.le_of_ble_eq_true rfl⟩ dM_follow_99
set_option maxHeartbeats 4000000 in
set_option maxRecDepth 100000 in
theorem wM_follow_62 {p : Program} {l : Launch} {e : Env} {s : State} {m : MethodId} {args : Array Value} {below : List Frame} {meth : Method} {c : Code} {g : gT} {q : Nat} {ad : Nat → Nat} {X : va_W} {rv : Option Value} {iv' : Nat → Int32} {av' : Nat → Nat → Int32} (C : mCx p m c cM_follow 6 s args g "MidiDeskModel") (hr : meth.sig.returnType = none) (hlk : meth.locks = false) (hrv : rv = none) (iv : Nat → Int32) (av : Nat → Nat → Int32) (x1 : Int32) (x2 : Int32) (x4 : Int32) (H : Heap) (locs : List Loc) (ls : Array Slot) (hl : lv_has ls 6 [(0, .ref q), (1, .int x1), (2, .int x2), (4, .int x4)]) (hw : mWd g (mA g q ad X s.heap.size) s.heap q ad X iv av H locs) (hf : jM_follow_62 iv av x1 x2 x4 = some (iv', av')) : mG p l e rM_follow s m args below meth c g q ad X rv iv' av' H locs 0 0 (F0 m 62 ls []) := by
  unfold jM_follow_62 at hf
  refine lv_aload_n C.1.1 C.1.2.1 dM_follow_62 rfl (lv_at hl 0 rfl) ?_
  refine mg_fault C hw dM_follow_63 ?_
  refine lv_if_ne (tgt := 92) C.1.1 C.1.2.1 dM_follow_66 (by decide) (fun c1 => ?_) (fun c1 => ?_)
  · have hf := ts_f hf c1
    exact wM_follow_92 C hr hlk hrv iv av x1 x2 x4 _ _ ls (lv_sub hl [0, 1, 2, 3] rfl) hw hf
  · have hf := ts_t hf c1
    refine lv_aload_n C.1.1 C.1.2.1 dM_follow_69 rfl (lv_at hl 0 rfl) ?_
    refine mg_at C hw dM_follow_70 ?_
    refine lv_iload C.1.1 C.1.2.1 dM_follow_73 (lv_at hl 3 rfl) ?_
    refine lv_iadd C.1.1 C.1.2.1 dM_follow_75 ?_
    refine lv_aload_n C.1.1 C.1.2.1 dM_follow_76 rfl (lv_at hl 0 rfl) ?_
    refine mg_end C hw dM_follow_77 ?_
    refine lv_icmp_le (tgt := 92) C.1.1 C.1.2.1 dM_follow_80 (by decide) (fun c2 => ?_) (fun c2 => ?_)
    · have hf := ts_t hf c2
      exact wM_follow_92 C hr hlk hrv iv av x1 x2 x4 _ _ ls (lv_sub hl [0, 1, 2, 3] rfl) hw hf
    · have hf := ts_f hf c2
      refine lv_aload_n C.1.1 C.1.2.1 dM_follow_83 rfl (lv_at hl 0 rfl) ?_
      refine lv_iconst (v := (1 : Int32)) C.1.1 C.1.2.1 dM_follow_84 (by decide) ?_
      refine lv_aload_n C.1.1 C.1.2.1 dM_follow_85 rfl (lv_at hl 0 rfl) ?_
      refine mg_end C hw dM_follow_86 ?_
      obtain ⟨⟨iv3, av3⟩, g3, hf⟩ := ts_b hf
      dsimp only at hf
      refine m_callV (rest := []) (As := [.int (1 : Int32), .int (iv 3)]) (rv := none) C hl.1 hw (cM_fail_met g3) (callW_of (rm := rM_fail) 2 C.1.2.2.2.2 gw_812 gw_814 gw_28 gw_55 gw_815 kM_fail ⟨Nat.le_of_ble_eq_true rfl, Nat.le_of_ble_eq_true rfl⟩) rfl rfl (Nat.le_of_ble_eq_true rfl) dM_follow_89 ⟨Nat.le_of_ble_eq_true rfl, Nat.le_of_ble_eq_true rfl⟩ (fun H locs hw => ?_)
      refine W.eq (g2 := F0 m 92 ls []) rfl ?_
      exact wM_follow_92 C hr hlk hrv iv3 av3 x1 x2 x4 _ _ ls (lv_sub hl [0, 1, 2, 3] rfl) hw hf
set_option maxHeartbeats 4000000 in
set_option maxRecDepth 100000 in
theorem wM_follow_36 {p : Program} {l : Launch} {e : Env} {s : State} {m : MethodId} {args : Array Value} {below : List Frame} {meth : Method} {c : Code} {g : gT} {q : Nat} {ad : Nat → Nat} {X : va_W} {rv : Option Value} {iv' : Nat → Int32} {av' : Nat → Nat → Int32} (C : mCx p m c cM_follow 6 s args g "MidiDeskModel") (hr : meth.sig.returnType = none) (hlk : meth.locks = false) (hrv : rv = none) (iv : Nat → Int32) (av : Nat → Nat → Int32) (x1 : Int32) (x2 : Int32) (x3 : Int32) (x4 : Int32) (H : Heap) (locs : List Loc) (ls : Array Slot) (hl : lv_has ls 6 [(0, .ref q), (1, .int x1), (2, .int x2), (3, .int x3), (4, .int x4)]) (hw : mWd g (mA g q ad X s.heap.size) s.heap q ad X iv av H locs) (hf : jM_follow_36 iv av x1 x2 x3 x4 = some (iv', av')) : mG p l e rM_follow s m args below meth c g q ad X rv iv' av' H locs 0 0 (F0 m 36 ls []) := by
  unfold jM_follow_36 at hf
  refine lv_aload_n C.1.1 C.1.2.1 dM_follow_36 rfl (lv_at hl 0 rfl) ?_
  refine mg_fault C hw dM_follow_37 ?_
  refine lv_if_ne (tgt := 62) C.1.1 C.1.2.1 dM_follow_40 (by decide) (fun c1 => ?_) (fun c1 => ?_)
  · have hf := ts_f hf c1
    exact wM_follow_62 C hr hlk hrv iv av x1 x2 x4 _ _ ls (lv_sub hl [0, 1, 2, 4] rfl) hw hf
  · have hf := ts_t hf c1
    refine lv_iload_n C.1.1 C.1.2.1 dM_follow_43 rfl (lv_at hl 2 rfl) ?_
    refine lv_bipush (v := (81 : Int32)) C.1.1 C.1.2.1 dM_follow_44 (by decide) ?_
    refine lv_icmp_ne (tgt := 62) C.1.1 C.1.2.1 dM_follow_46 (by decide) (fun c2 => ?_) (fun c2 => ?_)
    · have hf := ts_f hf c2
      exact wM_follow_62 C hr hlk hrv iv av x1 x2 x4 _ _ ls (lv_sub hl [0, 1, 2, 4] rfl) hw hf
    · have hf := ts_t hf c2
      refine lv_iload C.1.1 C.1.2.1 dM_follow_49 (lv_at hl 4 rfl) ?_
      refine lv_iconst (v := (3 : Int32)) C.1.1 C.1.2.1 dM_follow_51 (by decide) ?_
      refine lv_icmp_eq (tgt := 62) C.1.1 C.1.2.1 dM_follow_52 (by decide) (fun c3 => ?_) (fun c3 => ?_)
      · have hf := ts_t hf c3
        exact wM_follow_62 C hr hlk hrv iv av x1 x2 x4 _ _ ls (lv_sub hl [0, 1, 2, 4] rfl) hw hf
      · have hf := ts_f hf c3
        refine lv_aload_n C.1.1 C.1.2.1 dM_follow_55 rfl (lv_at hl 0 rfl) ?_
        refine lv_bipush (v := (8 : Int32)) C.1.1 C.1.2.1 dM_follow_56 (by decide) ?_
        refine lv_iload_n C.1.1 C.1.2.1 dM_follow_58 rfl (lv_at hl 3 rfl) ?_
        obtain ⟨⟨iv4, av4⟩, g4, hf⟩ := ts_b hf
        dsimp only at hf
        refine m_callV (rest := []) (As := [.int (8 : Int32), .int x3]) (rv := none) C hl.1 hw (cM_fail_met g4) (callW_of (rm := rM_fail) 2 C.1.2.2.2.2 gw_812 gw_814 gw_28 gw_55 gw_815 kM_fail ⟨Nat.le_of_ble_eq_true rfl, Nat.le_of_ble_eq_true rfl⟩) rfl rfl (Nat.le_of_ble_eq_true rfl) dM_follow_59 ⟨Nat.le_of_ble_eq_true rfl, Nat.le_of_ble_eq_true rfl⟩ (fun H locs hw => ?_)
        refine W.eq (g2 := F0 m 62 ls []) rfl ?_
        exact wM_follow_62 C hr hlk hrv iv4 av4 x1 x2 x4 _ _ ls (lv_sub hl [0, 1, 2, 4] rfl) hw hf
set_option maxHeartbeats 4000000 in
set_option maxRecDepth 100000 in
theorem cM_follow_met {l : Launch} {g : gT} {q : Nat} {ad : Nat → Nat} {X : va_W} {iv iv' : Nat → Int32} {av av' : Nat → Nat → Int32} {x1 : Int32} {x2 : Int32} (hf : fM_follow iv av x1 x2 = some (iv', av')) : mMet l yM_follow cM_follow 6 none rM_follow g q ad X iv av [.ref q, .int x1, .int x2] none iv' av' := by
  refine m_entry (by decide) (Nat.le_of_ble_eq_true rfl) ?_
  intro p e s m args below meth c ls C hr hlk hnm hl hw
  have hrv : (none : Option Value) = none := rfl
  have C : mCx p m c cM_follow 6 s args g "MidiDeskModel" := C
  have hl : lv_has ls 6 [(0, .ref q), (1, .int x1), (2, .int x2)] := hl
  unfold fM_follow at hf
  refine lv_aload_n C.1.1 C.1.2.1 dM_follow_0 rfl (lv_at hl 0 rfl) ?_
  refine mg_at C hw dM_follow_1 ?_
  refine lv_istore_n (lv' := [(3, .int (iv 2)), (0, .ref q), (1, .int x1), (2, .int x2)]) C.1.1 C.1.2.1 dM_follow_4 rfl hl (by decide) rfl (fun ls hl => ?_)
  refine lv_aload_n C.1.1 C.1.2.1 dM_follow_5 rfl (lv_at hl 1 rfl) ?_
  obtain ⟨⟨r1, iv1, av1⟩, g1, hf⟩ := ts_b hf
  dsimp only at hf
  refine m_callV (rest := []) (As := []) (rv := (some (.int r1))) C hl.1 hw (cM_number_met g1) (callW_of (rm := rM_number) 0 C.1.2.2.2.2 gw_827 gw_829 gw_30 gw_55 gw_830 kM_number ⟨Nat.le_of_ble_eq_true rfl, Nat.le_of_ble_eq_true rfl⟩) rfl rfl (Nat.le_of_ble_eq_true rfl) dM_follow_6 ⟨Nat.le_of_ble_eq_true rfl, Nat.le_of_ble_eq_true rfl⟩ (fun H locs hw => ?_)
  refine W.eq (g2 := F0 m 9 ls [.int r1]) rfl ?_
  refine lv_istore (lv' := [(4, .int r1), (3, .int (iv 2)), (0, .ref q), (1, .int x1), (2, .int x2)]) C.1.1 C.1.2.1 dM_follow_9 hl (by decide) rfl (fun ls hl => ?_)
  refine lv_aload_n C.1.1 C.1.2.1 dM_follow_11 rfl (lv_at hl 2 rfl) ?_
  refine mg_fault C hw dM_follow_12 ?_
  refine lv_if_ne (tgt := 36) C.1.1 C.1.2.1 dM_follow_15 (by decide) (fun c2 => ?_) (fun c2 => ?_)
  · have hf := ts_f hf c2
    exact wM_follow_36 C hr hlk hrv iv1 av1 x1 x2 (iv 2) r1 _ _ ls (lv_sub hl [2, 3, 4, 1, 0] rfl) hw hf
  · have hf := ts_t hf c2
    refine lv_iload_n C.1.1 C.1.2.1 dM_follow_18 rfl (lv_at hl 4 rfl) ?_
    refine lv_bipush (v := (47 : Int32)) C.1.1 C.1.2.1 dM_follow_19 (by decide) ?_
    refine lv_icmp_ne (tgt := 36) C.1.1 C.1.2.1 dM_follow_21 (by decide) (fun c3 => ?_) (fun c3 => ?_)
    · have hf := ts_f hf c3
      exact wM_follow_36 C hr hlk hrv iv1 av1 x1 x2 (iv 2) r1 _ _ ls (lv_sub hl [2, 3, 4, 1, 0] rfl) hw hf
    · have hf := ts_t hf c3
      refine lv_iload C.1.1 C.1.2.1 dM_follow_24 (lv_at hl 0 rfl) ?_
      refine lv_if_le (tgt := 36) C.1.1 C.1.2.1 dM_follow_26 (by decide) (fun c4 => ?_) (fun c4 => ?_)
      · have hf := ts_t hf c4
        exact wM_follow_36 C hr hlk hrv iv1 av1 x1 x2 (iv 2) r1 _ _ ls (lv_sub hl [2, 3, 4, 1, 0] rfl) hw hf
      · have hf := ts_f hf c4
        refine lv_aload_n C.1.1 C.1.2.1 dM_follow_29 rfl (lv_at hl 2 rfl) ?_
        refine lv_bipush (v := (7 : Int32)) C.1.1 C.1.2.1 dM_follow_30 (by decide) ?_
        refine lv_iload_n C.1.1 C.1.2.1 dM_follow_32 rfl (lv_at hl 1 rfl) ?_
        obtain ⟨⟨iv5, av5⟩, g5, hf⟩ := ts_b hf
        dsimp only at hf
        refine m_callV (rest := []) (As := [.int (7 : Int32), .int (iv 2)]) (rv := none) C hl.1 hw (cM_fail_met g5) (callW_of (rm := rM_fail) 2 C.1.2.2.2.2 gw_812 gw_814 gw_28 gw_55 gw_815 kM_fail ⟨Nat.le_of_ble_eq_true rfl, Nat.le_of_ble_eq_true rfl⟩) rfl rfl (Nat.le_of_ble_eq_true rfl) dM_follow_33 ⟨Nat.le_of_ble_eq_true rfl, Nat.le_of_ble_eq_true rfl⟩ (fun H locs hw => ?_)
        refine W.eq (g2 := F0 m 36 ls []) rfl ?_
        exact wM_follow_36 C hr hlk hrv iv5 av5 x1 x2 (iv 2) r1 _ _ ls (lv_sub hl [2, 3, 4, 1, 0] rfl) hw hf
abbrev cM_eventIn : ByteArray := prog_8_method_13_code
abbrev yM_eventIn : MethodName := ⟨"MidiDeskModel", "event", "(IIII)Z"⟩
theorem kM_eventIn : yM_eventIn.cls ≠ "java/lang/invoke/MethodHandle" ∧ yM_eventIn.cls ≠ "java/lang/invoke/VarHandle" ∧ (parseMethodDescriptor yM_eventIn.desc).map (fun d => d.parameters.length) = some 4 := by decide +kernel
abbrev rM_eventIn : Room := { frames := 4, cells := 0, slots := 0, locals := 95 }
theorem dM_eventIn_0 : decode cM_eventIn 0 = .ok (.aload_n 0, 1) := by decide +kernel
theorem dM_eventIn_1 : decode cM_eventIn 1 = .ok (.getfield 95, 3) := by decide +kernel
theorem dM_eventIn_4 : decode cM_eventIn 4 = .ok (.istore 5, 2) := by decide +kernel
theorem dM_eventIn_6 : decode cM_eventIn 6 = .ok (.aload_n 0, 1) := by decide +kernel
theorem dM_eventIn_7 : decode cM_eventIn 7 = .ok (.getfield 22, 3) := by decide +kernel
theorem dM_eventIn_10 : decode cM_eventIn 10 = .ok (.iload 5, 2) := by decide +kernel
theorem dM_eventIn_12 : decode cM_eventIn 12 = .ok (.iload_n 3, 1) := by decide +kernel
theorem dM_eventIn_13 : decode cM_eventIn 13 = .ok (.sipush 240, 3) := by decide +kernel
theorem dM_eventIn_16 : decode cM_eventIn 16 = .ok (.if_icmp .eq 10, 3) := by decide +kernel
theorem dM_eventIn_19 : decode cM_eventIn 19 = .ok (.iload_n 3, 1) := by decide +kernel
theorem dM_eventIn_20 : decode cM_eventIn 20 = .ok (.sipush 247, 3) := by decide +kernel
theorem dM_eventIn_23 : decode cM_eventIn 23 = .ok (.if_icmp .ne 7, 3) := by decide +kernel
theorem dM_eventIn_26 : decode cM_eventIn 26 = .ok (.iconst (-1), 1) := by decide +kernel
theorem dM_eventIn_27 : decode cM_eventIn 27 = .ok (.goto 7, 3) := by decide +kernel
theorem dM_eventIn_30 : decode cM_eventIn 30 = .ok (.aload_n 0, 1) := by decide +kernel
theorem dM_eventIn_31 : decode cM_eventIn 31 = .ok (.invokevirtual 127, 3) := by decide +kernel
theorem dM_eventIn_34 : decode cM_eventIn 34 = .ok (.iastore, 1) := by decide +kernel
theorem dM_eventIn_35 : decode cM_eventIn 35 = .ok (.aload_n 0, 1) := by decide +kernel
theorem dM_eventIn_36 : decode cM_eventIn 36 = .ok (.getfield 25, 3) := by decide +kernel
theorem dM_eventIn_39 : decode cM_eventIn 39 = .ok (.iload 5, 2) := by decide +kernel
theorem dM_eventIn_41 : decode cM_eventIn 41 = .ok (.iload_n 3, 1) := by decide +kernel
theorem dM_eventIn_42 : decode cM_eventIn 42 = .ok (.sipush 192, 3) := by decide +kernel
theorem dM_eventIn_45 : decode cM_eventIn 45 = .ok (.if_icmp .lt 17, 3) := by decide +kernel
theorem dM_eventIn_48 : decode cM_eventIn 48 = .ok (.iload_n 3, 1) := by decide +kernel
theorem dM_eventIn_49 : decode cM_eventIn 49 = .ok (.sipush 223, 3) := by decide +kernel
theorem dM_eventIn_52 : decode cM_eventIn 52 = .ok (.if_icmp .le 17, 3) := by decide +kernel
theorem dM_eventIn_55 : decode cM_eventIn 55 = .ok (.iload_n 3, 1) := by decide +kernel
theorem dM_eventIn_56 : decode cM_eventIn 56 = .ok (.sipush 240, 3) := by decide +kernel
theorem dM_eventIn_59 : decode cM_eventIn 59 = .ok (.if_icmp .ge 10, 3) := by decide +kernel
theorem dM_eventIn_62 : decode cM_eventIn 62 = .ok (.aload_n 0, 1) := by decide +kernel
theorem dM_eventIn_63 : decode cM_eventIn 63 = .ok (.invokevirtual 127, 3) := by decide +kernel
theorem dM_eventIn_66 : decode cM_eventIn 66 = .ok (.goto 4, 3) := by decide +kernel
theorem dM_eventIn_69 : decode cM_eventIn 69 = .ok (.iconst (-1), 1) := by decide +kernel
theorem dM_eventIn_70 : decode cM_eventIn 70 = .ok (.iastore, 1) := by decide +kernel
theorem dM_eventIn_71 : decode cM_eventIn 71 = .ok (.aload_n 0, 1) := by decide +kernel
theorem dM_eventIn_72 : decode cM_eventIn 72 = .ok (.getfield 31, 3) := by decide +kernel
theorem dM_eventIn_75 : decode cM_eventIn 75 = .ok (.iload 5, 2) := by decide +kernel
theorem dM_eventIn_77 : decode cM_eventIn 77 = .ok (.iconst (-1), 1) := by decide +kernel
theorem dM_eventIn_78 : decode cM_eventIn 78 = .ok (.iastore, 1) := by decide +kernel
theorem dM_eventIn_79 : decode cM_eventIn 79 = .ok (.aload_n 0, 1) := by decide +kernel
theorem dM_eventIn_80 : decode cM_eventIn 80 = .ok (.getfield 28, 3) := by decide +kernel
theorem dM_eventIn_83 : decode cM_eventIn 83 = .ok (.iload 5, 2) := by decide +kernel
theorem dM_eventIn_85 : decode cM_eventIn 85 = .ok (.aload_n 0, 1) := by decide +kernel
theorem dM_eventIn_86 : decode cM_eventIn 86 = .ok (.getfield 98, 3) := by decide +kernel
theorem dM_eventIn_89 : decode cM_eventIn 89 = .ok (.iastore, 1) := by decide +kernel
theorem dM_eventIn_90 : decode cM_eventIn 90 = .ok (.iload_n 3, 1) := by decide +kernel
theorem dM_eventIn_91 : decode cM_eventIn 91 = .ok (.sipush 239, 3) := by decide +kernel
theorem dM_eventIn_94 : decode cM_eventIn 94 = .ok (.if_icmp .le 27, 3) := by decide +kernel
theorem dM_eventIn_97 : decode cM_eventIn 97 = .ok (.aload_n 0, 1) := by decide +kernel
theorem dM_eventIn_98 : decode cM_eventIn 98 = .ok (.iload 5, 2) := by decide +kernel
theorem dM_eventIn_100 : decode cM_eventIn 100 = .ok (.iload_n 3, 1) := by decide +kernel
theorem dM_eventIn_101 : decode cM_eventIn 101 = .ok (.sipush 255, 3) := by decide +kernel
theorem dM_eventIn_104 : decode cM_eventIn 104 = .ok (.if_icmp .ne 13, 3) := by decide +kernel
theorem dM_eventIn_107 : decode cM_eventIn 107 = .ok (.aload_n 0, 1) := by decide +kernel
theorem dM_eventIn_108 : decode cM_eventIn 108 = .ok (.getfield 22, 3) := by decide +kernel
theorem dM_eventIn_111 : decode cM_eventIn 111 = .ok (.iload 5, 2) := by decide +kernel
theorem dM_eventIn_113 : decode cM_eventIn 113 = .ok (.iaload, 1) := by decide +kernel
theorem dM_eventIn_114 : decode cM_eventIn 114 = .ok (.goto 4, 3) := by decide +kernel
theorem dM_eventIn_117 : decode cM_eventIn 117 = .ok (.iconst (-1), 1) := by decide +kernel
theorem dM_eventIn_118 : decode cM_eventIn 118 = .ok (.invokevirtual 130, 3) := by decide +kernel
theorem dM_eventIn_121 : decode cM_eventIn 121 = .ok (.aload_n 0, 1) := by decide +kernel
theorem dM_eventIn_122 : decode cM_eventIn 122 = .ok (.getfield 56, 3) := by decide +kernel
theorem dM_eventIn_125 : decode cM_eventIn 125 = .ok (.ifCond .le 5, 3) := by decide +kernel
theorem dM_eventIn_128 : decode cM_eventIn 128 = .ok (.iconst 0, 1) := by decide +kernel
theorem dM_eventIn_129 : decode cM_eventIn 129 = .ok (.ireturn, 1) := by decide +kernel
theorem dM_eventIn_130 : decode cM_eventIn 130 = .ok (.iload_n 3, 1) := by decide +kernel
theorem dM_eventIn_131 : decode cM_eventIn 131 = .ok (.sipush 255, 3) := by decide +kernel
theorem dM_eventIn_134 : decode cM_eventIn 134 = .ok (.if_icmp .ne 38, 3) := by decide +kernel
theorem dM_eventIn_137 : decode cM_eventIn 137 = .ok (.aload_n 0, 1) := by decide +kernel
theorem dM_eventIn_138 : decode cM_eventIn 138 = .ok (.getfield 22, 3) := by decide +kernel
theorem dM_eventIn_141 : decode cM_eventIn 141 = .ok (.iload 5, 2) := by decide +kernel
theorem dM_eventIn_143 : decode cM_eventIn 143 = .ok (.iaload, 1) := by decide +kernel
theorem dM_eventIn_144 : decode cM_eventIn 144 = .ok (.bipush 47, 2) := by decide +kernel
theorem dM_eventIn_146 : decode cM_eventIn 146 = .ok (.if_icmp .ne 26, 3) := by decide +kernel
theorem dM_eventIn_149 : decode cM_eventIn 149 = .ok (.aload_n 0, 1) := by decide +kernel
theorem dM_eventIn_150 : decode cM_eventIn 150 = .ok (.getfield 62, 3) := by decide +kernel
theorem dM_eventIn_153 : decode cM_eventIn 153 = .ok (.aload_n 0, 1) := by decide +kernel
theorem dM_eventIn_154 : decode cM_eventIn 154 = .ok (.getfield 65, 3) := by decide +kernel
theorem dM_eventIn_157 : decode cM_eventIn 157 = .ok (.if_icmp .ge 13, 3) := by decide +kernel
theorem dM_eventIn_160 : decode cM_eventIn 160 = .ok (.aload_n 0, 1) := by decide +kernel
theorem dM_eventIn_161 : decode cM_eventIn 161 = .ok (.bipush 7, 2) := by decide +kernel
theorem dM_eventIn_163 : decode cM_eventIn 163 = .ok (.aload_n 0, 1) := by decide +kernel
theorem dM_eventIn_164 : decode cM_eventIn 164 = .ok (.getfield 62, 3) := by decide +kernel
theorem dM_eventIn_167 : decode cM_eventIn 167 = .ok (.invokevirtual 68, 3) := by decide +kernel
theorem dM_eventIn_170 : decode cM_eventIn 170 = .ok (.iconst 0, 1) := by decide +kernel
theorem dM_eventIn_171 : decode cM_eventIn 171 = .ok (.ireturn, 1) := by decide +kernel
theorem dM_eventIn_172 : decode cM_eventIn 172 = .ok (.aload_n 0, 1) := by decide +kernel
theorem dM_eventIn_173 : decode cM_eventIn 173 = .ok (.getfield 13, 3) := by decide +kernel
theorem dM_eventIn_176 : decode cM_eventIn 176 = .ok (.iload 5, 2) := by decide +kernel
theorem dM_eventIn_178 : decode cM_eventIn 178 = .ok (.iload_n 2, 1) := by decide +kernel
theorem dM_eventIn_179 : decode cM_eventIn 179 = .ok (.iastore, 1) := by decide +kernel
theorem dM_eventIn_180 : decode cM_eventIn 180 = .ok (.aload_n 0, 1) := by decide +kernel
theorem dM_eventIn_181 : decode cM_eventIn 181 = .ok (.getfield 16, 3) := by decide +kernel
theorem dM_eventIn_184 : decode cM_eventIn 184 = .ok (.iload 5, 2) := by decide +kernel
theorem dM_eventIn_186 : decode cM_eventIn 186 = .ok (.iload_n 1, 1) := by decide +kernel
theorem dM_eventIn_187 : decode cM_eventIn 187 = .ok (.iastore, 1) := by decide +kernel
theorem dM_eventIn_188 : decode cM_eventIn 188 = .ok (.aload_n 0, 1) := by decide +kernel
theorem dM_eventIn_189 : decode cM_eventIn 189 = .ok (.getfield 19, 3) := by decide +kernel
theorem dM_eventIn_192 : decode cM_eventIn 192 = .ok (.iload 5, 2) := by decide +kernel
theorem dM_eventIn_194 : decode cM_eventIn 194 = .ok (.iload_n 3, 1) := by decide +kernel
theorem dM_eventIn_195 : decode cM_eventIn 195 = .ok (.iastore, 1) := by decide +kernel
theorem dM_eventIn_196 : decode cM_eventIn 196 = .ok (.aload_n 0, 1) := by decide +kernel
theorem dM_eventIn_197 : decode cM_eventIn 197 = .ok (.dup, 1) := by decide +kernel
theorem dM_eventIn_198 : decode cM_eventIn 198 = .ok (.getfield 95, 3) := by decide +kernel
theorem dM_eventIn_201 : decode cM_eventIn 201 = .ok (.iconst 1, 1) := by decide +kernel
theorem dM_eventIn_202 : decode cM_eventIn 202 = .ok (.iadd, 1) := by decide +kernel
theorem dM_eventIn_203 : decode cM_eventIn 203 = .ok (.putfield 95, 3) := by decide +kernel
theorem dM_eventIn_206 : decode cM_eventIn 206 = .ok (.aload_n 0, 1) := by decide +kernel
theorem dM_eventIn_207 : decode cM_eventIn 207 = .ok (.dup, 1) := by decide +kernel
theorem dM_eventIn_208 : decode cM_eventIn 208 = .ok (.getfield 98, 3) := by decide +kernel
theorem dM_eventIn_211 : decode cM_eventIn 211 = .ok (.iload_n 3, 1) := by decide +kernel
theorem dM_eventIn_212 : decode cM_eventIn 212 = .ok (.sipush 239, 3) := by decide +kernel
theorem dM_eventIn_215 : decode cM_eventIn 215 = .ok (.if_icmp .le 13, 3) := by decide +kernel
theorem dM_eventIn_218 : decode cM_eventIn 218 = .ok (.aload_n 0, 1) := by decide +kernel
theorem dM_eventIn_219 : decode cM_eventIn 219 = .ok (.getfield 31, 3) := by decide +kernel
theorem dM_eventIn_222 : decode cM_eventIn 222 = .ok (.iload 5, 2) := by decide +kernel
theorem dM_eventIn_224 : decode cM_eventIn 224 = .ok (.iaload, 1) := by decide +kernel
theorem dM_eventIn_225 : decode cM_eventIn 225 = .ok (.goto 4, 3) := by decide +kernel
theorem dM_eventIn_228 : decode cM_eventIn 228 = .ok (.iconst 0, 1) := by decide +kernel
theorem dM_eventIn_229 : decode cM_eventIn 229 = .ok (.iadd, 1) := by decide +kernel
theorem dM_eventIn_230 : decode cM_eventIn 230 = .ok (.putfield 98, 3) := by decide +kernel
theorem dM_eventIn_233 : decode cM_eventIn 233 = .ok (.aload_n 0, 1) := by decide +kernel
theorem dM_eventIn_234 : decode cM_eventIn 234 = .ok (.getfield 95, 3) := by decide +kernel
theorem dM_eventIn_237 : decode cM_eventIn 237 = .ok (.sipush 1000, 3) := by decide +kernel
theorem dM_eventIn_240 : decode cM_eventIn 240 = .ok (.if_icmp .gt 13, 3) := by decide +kernel
theorem dM_eventIn_243 : decode cM_eventIn 243 = .ok (.aload_n 0, 1) := by decide +kernel
theorem dM_eventIn_244 : decode cM_eventIn 244 = .ok (.getfield 98, 3) := by decide +kernel
theorem dM_eventIn_247 : decode cM_eventIn 247 = .ok (.sipush 8000, 3) := by decide +kernel
theorem dM_eventIn_250 : decode cM_eventIn 250 = .ok (.if_icmp .le 11, 3) := by decide +kernel
theorem dM_eventIn_253 : decode cM_eventIn 253 = .ok (.aload_n 0, 1) := by decide +kernel
theorem dM_eventIn_254 : decode cM_eventIn 254 = .ok (.bipush 9, 2) := by decide +kernel
theorem dM_eventIn_256 : decode cM_eventIn 256 = .ok (.iload 4, 2) := by decide +kernel
theorem dM_eventIn_258 : decode cM_eventIn 258 = .ok (.invokevirtual 68, 3) := by decide +kernel
theorem dM_eventIn_261 : decode cM_eventIn 261 = .ok (.iconst 1, 1) := by decide +kernel
theorem dM_eventIn_262 : decode cM_eventIn 262 = .ok (.ireturn, 1) := by decide +kernel
def jM_eventIn_253 (iv : Nat → Int32) (av : Nat → Nat → Int32) (x4 : Int32) : Option (Int32 × (Nat → Int32) × (Nat → Nat → Int32)) := (fM_fail iv av (9 : Int32) x4).bind fun (iv1, av1) => some ((1 : Int32), iv1, av1)
def jM_eventIn_229 (iv : Nat → Int32) (av : Nat → Nat → Int32) (x4 : Int32) (s1 : Int32) (s2 : Int32) : Option (Int32 × (Nat → Int32) × (Nat → Nat → Int32)) := if (1000 : Int32) < ((upd iv 11 (s1 + s2)) 10) then (jM_eventIn_253 (upd iv 11 (s1 + s2)) av x4) else (if ((upd iv 11 (s1 + s2)) 11) ≤ (8000 : Int32) then (some ((1 : Int32), upd iv 11 (s1 + s2), av)) else (jM_eventIn_253 (upd iv 11 (s1 + s2)) av x4))
def jM_eventIn_172 (iv : Nat → Int32) (av : Nat → Nat → Int32) (x1 : Int32) (x2 : Int32) (x3 : Int32) (x4 : Int32) (x5 : Int32) : Option (Int32 × (Nat → Int32) × (Nat → Nat → Int32)) := if x5 < 0 ∨ 1001 ≤ x5.toNatClampNeg then none else (if x5 < 0 ∨ 1001 ≤ x5.toNatClampNeg then none else (if x5 < 0 ∨ 1001 ≤ x5.toNatClampNeg then none else (if x3 ≤ (239 : Int32) then (jM_eventIn_229 (upd iv 10 ((iv 10) + (1 : Int32))) (up2 (up2 (up2 av 1 x5.toNatClampNeg x2) 2 x5.toNatClampNeg x1) 3 x5.toNatClampNeg x3) x4 ((upd iv 10 ((iv 10) + (1 : Int32))) 11) (0 : Int32)) else (if x5 < 0 ∨ 1001 ≤ x5.toNatClampNeg then none else (jM_eventIn_229 (upd iv 10 ((iv 10) + (1 : Int32))) (up2 (up2 (up2 av 1 x5.toNatClampNeg x2) 2 x5.toNatClampNeg x1) 3 x5.toNatClampNeg x3) x4 ((upd iv 10 ((iv 10) + (1 : Int32))) 11) ((up2 (up2 (up2 av 1 x5.toNatClampNeg x2) 2 x5.toNatClampNeg x1) 3 x5.toNatClampNeg x3) 7 x5.toNatClampNeg))))))
def jM_eventIn_121 (iv : Nat → Int32) (av : Nat → Nat → Int32) (x1 : Int32) (x2 : Int32) (x3 : Int32) (x4 : Int32) (x5 : Int32) : Option (Int32 × (Nat → Int32) × (Nat → Nat → Int32)) := if (iv 4) ≤ 0 then (if x3 = (255 : Int32) then (if x5 < 0 ∨ 1001 ≤ x5.toNatClampNeg then none else (if (av 4 x5.toNatClampNeg) = (47 : Int32) then (if (iv 3) ≤ (iv 2) then (some ((0 : Int32), iv, av)) else ((fM_fail iv av (7 : Int32) (iv 2)).bind fun (iv6, av6) => some ((0 : Int32), iv6, av6))) else (jM_eventIn_172 iv av x1 x2 x3 x4 x5))) else (jM_eventIn_172 iv av x1 x2 x3 x4 x5)) else (some ((0 : Int32), iv, av))
def jM_eventIn_118 (iv : Nat → Int32) (av : Nat → Nat → Int32) (x1 : Int32) (x2 : Int32) (x3 : Int32) (x4 : Int32) (x5 : Int32) (s1 : Int32) (s2 : Int32) : Option (Int32 × (Nat → Int32) × (Nat → Nat → Int32)) := (fM_follow iv av s1 s2).bind fun (iv1, av1) => jM_eventIn_121 iv1 av1 x1 x2 x3 x4 x5
def jM_eventIn_70 (iv : Nat → Int32) (av : Nat → Nat → Int32) (x1 : Int32) (x2 : Int32) (x3 : Int32) (x4 : Int32) (x5 : Int32) (s1 : Int32) (s2 : Int32) : Option (Int32 × (Nat → Int32) × (Nat → Nat → Int32)) := if s1 < 0 ∨ 1001 ≤ s1.toNatClampNeg then none else (if x5 < 0 ∨ 1001 ≤ x5.toNatClampNeg then none else (if x5 < 0 ∨ 1001 ≤ x5.toNatClampNeg then none else (if x3 ≤ (239 : Int32) then (jM_eventIn_121 iv (up2 (up2 (up2 av 5 s1.toNatClampNeg s2) 7 x5.toNatClampNeg (-1 : Int32)) 6 x5.toNatClampNeg (iv 11)) x1 x2 x3 x4 x5) else (if x3 = (255 : Int32) then (if x5 < 0 ∨ 1001 ≤ x5.toNatClampNeg then none else (jM_eventIn_118 iv (up2 (up2 (up2 av 5 s1.toNatClampNeg s2) 7 x5.toNatClampNeg (-1 : Int32)) 6 x5.toNatClampNeg (iv 11)) x1 x2 x3 x4 x5 x5 ((up2 (up2 (up2 av 5 s1.toNatClampNeg s2) 7 x5.toNatClampNeg (-1 : Int32)) 6 x5.toNatClampNeg (iv 11)) 4 x5.toNatClampNeg))) else (jM_eventIn_118 iv (up2 (up2 (up2 av 5 s1.toNatClampNeg s2) 7 x5.toNatClampNeg (-1 : Int32)) 6 x5.toNatClampNeg (iv 11)) x1 x2 x3 x4 x5 x5 (-1 : Int32))))))
def jM_eventIn_69 (iv : Nat → Int32) (av : Nat → Nat → Int32) (x1 : Int32) (x2 : Int32) (x3 : Int32) (x4 : Int32) (x5 : Int32) (s1 : Int32) : Option (Int32 × (Nat → Int32) × (Nat → Nat → Int32)) := jM_eventIn_70 iv av x1 x2 x3 x4 x5 s1 (-1 : Int32)
def jM_eventIn_62 (iv : Nat → Int32) (av : Nat → Nat → Int32) (x1 : Int32) (x2 : Int32) (x3 : Int32) (x4 : Int32) (x5 : Int32) (s1 : Int32) : Option (Int32 × (Nat → Int32) × (Nat → Nat → Int32)) := (fM_small iv av).bind fun (r1, iv1, av1) => jM_eventIn_70 iv1 av1 x1 x2 x3 x4 x5 s1 r1
def jM_eventIn_34 (iv : Nat → Int32) (av : Nat → Nat → Int32) (x1 : Int32) (x2 : Int32) (x3 : Int32) (x4 : Int32) (x5 : Int32) (s1 : Int32) (s2 : Int32) : Option (Int32 × (Nat → Int32) × (Nat → Nat → Int32)) := if s1 < 0 ∨ 1001 ≤ s1.toNatClampNeg then none else (if x3 < (192 : Int32) then (jM_eventIn_62 iv (up2 av 4 s1.toNatClampNeg s2) x1 x2 x3 x4 x5 x5) else (if x3 ≤ (223 : Int32) then (jM_eventIn_69 iv (up2 av 4 s1.toNatClampNeg s2) x1 x2 x3 x4 x5 x5) else (if (240 : Int32) ≤ x3 then (jM_eventIn_69 iv (up2 av 4 s1.toNatClampNeg s2) x1 x2 x3 x4 x5 x5) else (jM_eventIn_62 iv (up2 av 4 s1.toNatClampNeg s2) x1 x2 x3 x4 x5 x5))))
def jM_eventIn_26 (iv : Nat → Int32) (av : Nat → Nat → Int32) (x1 : Int32) (x2 : Int32) (x3 : Int32) (x4 : Int32) (x5 : Int32) (s1 : Int32) : Option (Int32 × (Nat → Int32) × (Nat → Nat → Int32)) := jM_eventIn_34 iv av x1 x2 x3 x4 x5 s1 (-1 : Int32)
def fM_eventIn (iv : Nat → Int32) (av : Nat → Nat → Int32) (x1 : Int32) (x2 : Int32) (x3 : Int32) (x4 : Int32) : Option (Int32 × (Nat → Int32) × (Nat → Nat → Int32)) := if x3 = (240 : Int32) then (jM_eventIn_26 iv av x1 x2 x3 x4 (iv 10) (iv 10)) else (if x3 = (247 : Int32) then (jM_eventIn_26 iv av x1 x2 x3 x4 (iv 10) (iv 10)) else ((fM_small iv av).bind fun (r3, iv3, av3) => jM_eventIn_34 iv3 av3 x1 x2 x3 x4 (iv 10) (iv 10) r3))
set_option maxHeartbeats 4000000 in
set_option maxRecDepth 100000 in
theorem wM_eventIn_253 {p : Program} {l : Launch} {e : Env} {s : State} {m : MethodId} {args : Array Value} {below : List Frame} {meth : Method} {c : Code} {g : gT} {q : Nat} {ad : Nat → Nat} {X : va_W} {rv : Option Value} {iv' : Nat → Int32} {av' : Nat → Nat → Int32} {r' : Int32} (C : mCx p m c cM_eventIn 6 s args g "MidiDeskModel") (hr : meth.sig.returnType = (some .boolean)) (hlk : meth.locks = false) (hrv : rv = some (.int r')) (iv : Nat → Int32) (av : Nat → Nat → Int32) (x4 : Int32) (H : Heap) (locs : List Loc) (ls : Array Slot) (hl : lv_has ls 6 [(0, .ref q), (4, .int x4)]) (hw : mWd g (mA g q ad X s.heap.size) s.heap q ad X iv av H locs) (hf : jM_eventIn_253 iv av x4 = some (r', iv', av')) : mG p l e rM_eventIn s m args below meth c g q ad X rv iv' av' H locs 0 0 (F0 m 253 ls []) := by
  unfold jM_eventIn_253 at hf
  refine lv_aload_n C.1.1 C.1.2.1 dM_eventIn_253 rfl (lv_at hl 0 rfl) ?_
  refine lv_bipush (v := (9 : Int32)) C.1.1 C.1.2.1 dM_eventIn_254 (by decide) ?_
  refine lv_iload C.1.1 C.1.2.1 dM_eventIn_256 (lv_at hl 1 rfl) ?_
  obtain ⟨⟨iv1, av1⟩, g1, hf⟩ := ts_b hf
  dsimp only at hf
  refine m_callV (rest := []) (As := [.int (9 : Int32), .int x4]) (rv := none) C hl.1 hw (cM_fail_met g1) (callW_of (rm := rM_fail) 2 C.1.2.2.2.2 gw_812 gw_814 gw_28 gw_55 gw_815 kM_fail ⟨Nat.le_of_ble_eq_true rfl, Nat.le_of_ble_eq_true rfl⟩) rfl rfl (Nat.le_of_ble_eq_true rfl) dM_eventIn_258 ⟨Nat.le_of_ble_eq_true rfl, Nat.le_of_ble_eq_true rfl⟩ (fun H locs hw => ?_)
  refine W.eq (g2 := F0 m 261 ls []) rfl ?_
  refine lv_iconst (v := (1 : Int32)) C.1.1 C.1.2.1 dM_eventIn_261 (by decide) ?_
  exact m_retz C hr hlk hrv hw (Or.inr rfl) hf ⟨Nat.le_of_ble_eq_true rfl, Nat.le_of_ble_eq_true rfl⟩ dM_eventIn_262
set_option maxHeartbeats 4000000 in
set_option maxRecDepth 100000 in
theorem wM_eventIn_229 {p : Program} {l : Launch} {e : Env} {s : State} {m : MethodId} {args : Array Value} {below : List Frame} {meth : Method} {c : Code} {g : gT} {q : Nat} {ad : Nat → Nat} {X : va_W} {rv : Option Value} {iv' : Nat → Int32} {av' : Nat → Nat → Int32} {r' : Int32} (C : mCx p m c cM_eventIn 6 s args g "MidiDeskModel") (hr : meth.sig.returnType = (some .boolean)) (hlk : meth.locks = false) (hrv : rv = some (.int r')) (iv : Nat → Int32) (av : Nat → Nat → Int32) (x4 : Int32) (s1 : Int32) (s2 : Int32) (H : Heap) (locs : List Loc) (ls : Array Slot) (hl : lv_has ls 6 [(0, .ref q), (4, .int x4)]) (hw : mWd g (mA g q ad X s.heap.size) s.heap q ad X iv av H locs) (hf : jM_eventIn_229 iv av x4 s1 s2 = some (r', iv', av')) : mG p l e rM_eventIn s m args below meth c g q ad X rv iv' av' H locs 0 0 (F0 m 229 ls [.int s2, .int s1, .ref q]) := by
  unfold jM_eventIn_229 at hf
  refine lv_iadd C.1.1 C.1.2.1 dM_eventIn_229 ?_
  refine mp_many C hw dM_eventIn_230 (fun H locs hw => ?_)
  refine lv_aload_n C.1.1 C.1.2.1 dM_eventIn_233 rfl (lv_at hl 0 rfl) ?_
  refine mg_events C hw dM_eventIn_234 ?_
  refine lv_sipush (v := (1000 : Int32)) C.1.1 C.1.2.1 dM_eventIn_237 (by decide) ?_
  refine lv_icmp_gt (tgt := 253) C.1.1 C.1.2.1 dM_eventIn_240 (by decide) (fun c1 => ?_) (fun c1 => ?_)
  · have hf := ts_t hf c1
    exact wM_eventIn_253 C hr hlk hrv (upd iv 11 (s1 + s2)) av x4 _ _ ls (lv_sub hl [0, 1] rfl) hw hf
  · have hf := ts_f hf c1
    refine lv_aload_n C.1.1 C.1.2.1 dM_eventIn_243 rfl (lv_at hl 0 rfl) ?_
    refine mg_many C hw dM_eventIn_244 ?_
    refine lv_sipush (v := (8000 : Int32)) C.1.1 C.1.2.1 dM_eventIn_247 (by decide) ?_
    refine lv_icmp_le (tgt := 261) C.1.1 C.1.2.1 dM_eventIn_250 (by decide) (fun c2 => ?_) (fun c2 => ?_)
    · have hf := ts_t hf c2
      refine lv_iconst (v := (1 : Int32)) C.1.1 C.1.2.1 dM_eventIn_261 (by decide) ?_
      exact m_retz C hr hlk hrv hw (Or.inr rfl) hf ⟨Nat.le_of_ble_eq_true rfl, Nat.le_of_ble_eq_true rfl⟩ dM_eventIn_262
    · have hf := ts_f hf c2
      exact wM_eventIn_253 C hr hlk hrv (upd iv 11 (s1 + s2)) av x4 _ _ ls (lv_sub hl [0, 1] rfl) hw hf
set_option maxHeartbeats 4000000 in
set_option maxRecDepth 100000 in
theorem wM_eventIn_172 {p : Program} {l : Launch} {e : Env} {s : State} {m : MethodId} {args : Array Value} {below : List Frame} {meth : Method} {c : Code} {g : gT} {q : Nat} {ad : Nat → Nat} {X : va_W} {rv : Option Value} {iv' : Nat → Int32} {av' : Nat → Nat → Int32} {r' : Int32} (C : mCx p m c cM_eventIn 6 s args g "MidiDeskModel") (hr : meth.sig.returnType = (some .boolean)) (hlk : meth.locks = false) (hrv : rv = some (.int r')) (iv : Nat → Int32) (av : Nat → Nat → Int32) (x1 : Int32) (x2 : Int32) (x3 : Int32) (x4 : Int32) (x5 : Int32) (H : Heap) (locs : List Loc) (ls : Array Slot) (hl : lv_has ls 6 [(0, .ref q), (1, .int x1), (2, .int x2), (3, .int x3), (4, .int x4), (5, .int x5)]) (hw : mWd g (mA g q ad X s.heap.size) s.heap q ad X iv av H locs) (hf : jM_eventIn_172 iv av x1 x2 x3 x4 x5 = some (r', iv', av')) : mG p l e rM_eventIn s m args below meth c g q ad X rv iv' av' H locs 0 0 (F0 m 172 ls []) := by
  unfold jM_eventIn_172 at hf
  refine lv_aload_n C.1.1 C.1.2.1 dM_eventIn_172 rfl (lv_at hl 0 rfl) ?_
  refine mg_ticks C hw dM_eventIn_173 ?_
  refine lv_iload C.1.1 C.1.2.1 dM_eventIn_176 (lv_at hl 5 rfl) ?_
  refine lv_iload_n C.1.1 C.1.2.1 dM_eventIn_178 rfl (lv_at hl 2 rfl) ?_
  obtain ⟨h1, hf⟩ := ts_g hf
  refine ms_ticks C hw h1 dM_eventIn_179 (fun H locs hw => ?_)
  refine lv_aload_n C.1.1 C.1.2.1 dM_eventIn_180 rfl (lv_at hl 0 rfl) ?_
  refine mg_trackOf C hw dM_eventIn_181 ?_
  refine lv_iload C.1.1 C.1.2.1 dM_eventIn_184 (lv_at hl 5 rfl) ?_
  refine lv_iload_n C.1.1 C.1.2.1 dM_eventIn_186 rfl (lv_at hl 1 rfl) ?_
  obtain ⟨h2, hf⟩ := ts_g hf
  refine ms_trackOf C hw h2 dM_eventIn_187 (fun H locs hw => ?_)
  refine lv_aload_n C.1.1 C.1.2.1 dM_eventIn_188 rfl (lv_at hl 0 rfl) ?_
  refine mg_status C hw dM_eventIn_189 ?_
  refine lv_iload C.1.1 C.1.2.1 dM_eventIn_192 (lv_at hl 5 rfl) ?_
  refine lv_iload_n C.1.1 C.1.2.1 dM_eventIn_194 rfl (lv_at hl 3 rfl) ?_
  obtain ⟨h3, hf⟩ := ts_g hf
  refine ms_status C hw h3 dM_eventIn_195 (fun H locs hw => ?_)
  refine lv_aload_n C.1.1 C.1.2.1 dM_eventIn_196 rfl (lv_at hl 0 rfl) ?_
  refine lv_dup C.1.1 C.1.2.1 dM_eventIn_197 rfl ?_
  refine mg_events C hw dM_eventIn_198 ?_
  refine lv_iconst (v := (1 : Int32)) C.1.1 C.1.2.1 dM_eventIn_201 (by decide) ?_
  refine lv_iadd C.1.1 C.1.2.1 dM_eventIn_202 ?_
  refine mp_events C hw dM_eventIn_203 (fun H locs hw => ?_)
  refine lv_aload_n C.1.1 C.1.2.1 dM_eventIn_206 rfl (lv_at hl 0 rfl) ?_
  refine lv_dup C.1.1 C.1.2.1 dM_eventIn_207 rfl ?_
  refine mg_many C hw dM_eventIn_208 ?_
  refine lv_iload_n C.1.1 C.1.2.1 dM_eventIn_211 rfl (lv_at hl 3 rfl) ?_
  refine lv_sipush (v := (239 : Int32)) C.1.1 C.1.2.1 dM_eventIn_212 (by decide) ?_
  refine lv_icmp_le (tgt := 228) C.1.1 C.1.2.1 dM_eventIn_215 (by decide) (fun c4 => ?_) (fun c4 => ?_)
  · have hf := ts_t hf c4
    refine lv_iconst (v := (0 : Int32)) C.1.1 C.1.2.1 dM_eventIn_228 (by decide) ?_
    exact wM_eventIn_229 C hr hlk hrv (upd iv 10 ((iv 10) + (1 : Int32))) (up2 (up2 (up2 av 1 x5.toNatClampNeg x2) 2 x5.toNatClampNeg x1) 3 x5.toNatClampNeg x3) x4 ((upd iv 10 ((iv 10) + (1 : Int32))) 11) (0 : Int32) _ _ ls (lv_sub hl [0, 4] rfl) hw hf
  · have hf := ts_f hf c4
    refine lv_aload_n C.1.1 C.1.2.1 dM_eventIn_218 rfl (lv_at hl 0 rfl) ?_
    refine mg_counts C hw dM_eventIn_219 ?_
    refine lv_iload C.1.1 C.1.2.1 dM_eventIn_222 (lv_at hl 5 rfl) ?_
    obtain ⟨h5, hf⟩ := ts_g hf
    refine ma_counts C hw h5 dM_eventIn_224 ?_
    refine lv_goto (tgt := 229) C.1.1 C.1.2.1 dM_eventIn_225 (by decide) ?_
    exact wM_eventIn_229 C hr hlk hrv (upd iv 10 ((iv 10) + (1 : Int32))) (up2 (up2 (up2 av 1 x5.toNatClampNeg x2) 2 x5.toNatClampNeg x1) 3 x5.toNatClampNeg x3) x4 ((upd iv 10 ((iv 10) + (1 : Int32))) 11) ((up2 (up2 (up2 av 1 x5.toNatClampNeg x2) 2 x5.toNatClampNeg x1) 3 x5.toNatClampNeg x3) 7 x5.toNatClampNeg) _ _ ls (lv_sub hl [0, 4] rfl) hw hf
set_option maxHeartbeats 4000000 in
set_option maxRecDepth 100000 in
theorem wM_eventIn_121 {p : Program} {l : Launch} {e : Env} {s : State} {m : MethodId} {args : Array Value} {below : List Frame} {meth : Method} {c : Code} {g : gT} {q : Nat} {ad : Nat → Nat} {X : va_W} {rv : Option Value} {iv' : Nat → Int32} {av' : Nat → Nat → Int32} {r' : Int32} (C : mCx p m c cM_eventIn 6 s args g "MidiDeskModel") (hr : meth.sig.returnType = (some .boolean)) (hlk : meth.locks = false) (hrv : rv = some (.int r')) (iv : Nat → Int32) (av : Nat → Nat → Int32) (x1 : Int32) (x2 : Int32) (x3 : Int32) (x4 : Int32) (x5 : Int32) (H : Heap) (locs : List Loc) (ls : Array Slot) (hl : lv_has ls 6 [(0, .ref q), (1, .int x1), (2, .int x2), (3, .int x3), (4, .int x4), (5, .int x5)]) (hw : mWd g (mA g q ad X s.heap.size) s.heap q ad X iv av H locs) (hf : jM_eventIn_121 iv av x1 x2 x3 x4 x5 = some (r', iv', av')) : mG p l e rM_eventIn s m args below meth c g q ad X rv iv' av' H locs 0 0 (F0 m 121 ls []) := by
  unfold jM_eventIn_121 at hf
  refine lv_aload_n C.1.1 C.1.2.1 dM_eventIn_121 rfl (lv_at hl 0 rfl) ?_
  refine mg_fault C hw dM_eventIn_122 ?_
  refine lv_if_le (tgt := 130) C.1.1 C.1.2.1 dM_eventIn_125 (by decide) (fun c1 => ?_) (fun c1 => ?_)
  · have hf := ts_t hf c1
    refine lv_iload_n C.1.1 C.1.2.1 dM_eventIn_130 rfl (lv_at hl 3 rfl) ?_
    refine lv_sipush (v := (255 : Int32)) C.1.1 C.1.2.1 dM_eventIn_131 (by decide) ?_
    refine lv_icmp_ne (tgt := 172) C.1.1 C.1.2.1 dM_eventIn_134 (by decide) (fun c2 => ?_) (fun c2 => ?_)
    · have hf := ts_f hf c2
      exact wM_eventIn_172 C hr hlk hrv iv av x1 x2 x3 x4 x5 _ _ ls (lv_sub hl [0, 1, 2, 3, 4, 5] rfl) hw hf
    · have hf := ts_t hf c2
      refine lv_aload_n C.1.1 C.1.2.1 dM_eventIn_137 rfl (lv_at hl 0 rfl) ?_
      refine mg_first C hw dM_eventIn_138 ?_
      refine lv_iload C.1.1 C.1.2.1 dM_eventIn_141 (lv_at hl 5 rfl) ?_
      obtain ⟨h3, hf⟩ := ts_g hf
      refine ma_first C hw h3 dM_eventIn_143 ?_
      refine lv_bipush (v := (47 : Int32)) C.1.1 C.1.2.1 dM_eventIn_144 (by decide) ?_
      refine lv_icmp_ne (tgt := 172) C.1.1 C.1.2.1 dM_eventIn_146 (by decide) (fun c4 => ?_) (fun c4 => ?_)
      · have hf := ts_f hf c4
        exact wM_eventIn_172 C hr hlk hrv iv av x1 x2 x3 x4 x5 _ _ ls (lv_sub hl [0, 1, 2, 3, 4, 5] rfl) hw hf
      · have hf := ts_t hf c4
        refine lv_aload_n C.1.1 C.1.2.1 dM_eventIn_149 rfl (lv_at hl 0 rfl) ?_
        refine mg_at C hw dM_eventIn_150 ?_
        refine lv_aload_n C.1.1 C.1.2.1 dM_eventIn_153 rfl (lv_at hl 0 rfl) ?_
        refine mg_end C hw dM_eventIn_154 ?_
        refine lv_icmp_ge (tgt := 170) C.1.1 C.1.2.1 dM_eventIn_157 (by decide) (fun c5 => ?_) (fun c5 => ?_)
        · have hf := ts_t hf c5
          refine lv_iconst (v := (0 : Int32)) C.1.1 C.1.2.1 dM_eventIn_170 (by decide) ?_
          exact m_retz C hr hlk hrv hw (Or.inl rfl) hf ⟨Nat.le_of_ble_eq_true rfl, Nat.le_of_ble_eq_true rfl⟩ dM_eventIn_171
        · have hf := ts_f hf c5
          refine lv_aload_n C.1.1 C.1.2.1 dM_eventIn_160 rfl (lv_at hl 0 rfl) ?_
          refine lv_bipush (v := (7 : Int32)) C.1.1 C.1.2.1 dM_eventIn_161 (by decide) ?_
          refine lv_aload_n C.1.1 C.1.2.1 dM_eventIn_163 rfl (lv_at hl 0 rfl) ?_
          refine mg_at C hw dM_eventIn_164 ?_
          obtain ⟨⟨iv6, av6⟩, g6, hf⟩ := ts_b hf
          dsimp only at hf
          refine m_callV (rest := []) (As := [.int (7 : Int32), .int (iv 2)]) (rv := none) C hl.1 hw (cM_fail_met g6) (callW_of (rm := rM_fail) 2 C.1.2.2.2.2 gw_812 gw_814 gw_28 gw_55 gw_815 kM_fail ⟨Nat.le_of_ble_eq_true rfl, Nat.le_of_ble_eq_true rfl⟩) rfl rfl (Nat.le_of_ble_eq_true rfl) dM_eventIn_167 ⟨Nat.le_of_ble_eq_true rfl, Nat.le_of_ble_eq_true rfl⟩ (fun H locs hw => ?_)
          refine W.eq (g2 := F0 m 170 ls []) rfl ?_
          refine lv_iconst (v := (0 : Int32)) C.1.1 C.1.2.1 dM_eventIn_170 (by decide) ?_
          exact m_retz C hr hlk hrv hw (Or.inl rfl) hf ⟨Nat.le_of_ble_eq_true rfl, Nat.le_of_ble_eq_true rfl⟩ dM_eventIn_171
  · have hf := ts_f hf c1
    refine lv_iconst (v := (0 : Int32)) C.1.1 C.1.2.1 dM_eventIn_128 (by decide) ?_
    exact m_retz C hr hlk hrv hw (Or.inl rfl) hf ⟨Nat.le_of_ble_eq_true rfl, Nat.le_of_ble_eq_true rfl⟩ dM_eventIn_129
set_option maxHeartbeats 4000000 in
set_option maxRecDepth 100000 in
theorem wM_eventIn_118 {p : Program} {l : Launch} {e : Env} {s : State} {m : MethodId} {args : Array Value} {below : List Frame} {meth : Method} {c : Code} {g : gT} {q : Nat} {ad : Nat → Nat} {X : va_W} {rv : Option Value} {iv' : Nat → Int32} {av' : Nat → Nat → Int32} {r' : Int32} (C : mCx p m c cM_eventIn 6 s args g "MidiDeskModel") (hr : meth.sig.returnType = (some .boolean)) (hlk : meth.locks = false) (hrv : rv = some (.int r')) (iv : Nat → Int32) (av : Nat → Nat → Int32) (x1 : Int32) (x2 : Int32) (x3 : Int32) (x4 : Int32) (x5 : Int32) (s1 : Int32) (s2 : Int32) (H : Heap) (locs : List Loc) (ls : Array Slot) (hl : lv_has ls 6 [(0, .ref q), (1, .int x1), (2, .int x2), (3, .int x3), (4, .int x4), (5, .int x5)]) (hw : mWd g (mA g q ad X s.heap.size) s.heap q ad X iv av H locs) (hf : jM_eventIn_118 iv av x1 x2 x3 x4 x5 s1 s2 = some (r', iv', av')) : mG p l e rM_eventIn s m args below meth c g q ad X rv iv' av' H locs 0 0 (F0 m 118 ls [.int s2, .int s1, .ref q]) := by
  unfold jM_eventIn_118 at hf
  obtain ⟨⟨iv1, av1⟩, g1, hf⟩ := ts_b hf
  dsimp only at hf
  refine m_callV (rest := []) (As := [.int s1, .int s2]) (rv := none) C hl.1 hw (cM_follow_met g1) (callW_of (rm := rM_follow) 2 C.1.2.2.2.2 gw_840 gw_842 gw_33 gw_55 gw_843 kM_follow ⟨Nat.le_of_ble_eq_true rfl, Nat.le_of_ble_eq_true rfl⟩) rfl rfl (Nat.le_of_ble_eq_true rfl) dM_eventIn_118 ⟨Nat.le_of_ble_eq_true rfl, Nat.le_of_ble_eq_true rfl⟩ (fun H locs hw => ?_)
  refine W.eq (g2 := F0 m 121 ls []) rfl ?_
  exact wM_eventIn_121 C hr hlk hrv iv1 av1 x1 x2 x3 x4 x5 _ _ ls (lv_sub hl [0, 1, 2, 3, 4, 5] rfl) hw hf
set_option maxHeartbeats 4000000 in
set_option maxRecDepth 100000 in
theorem wM_eventIn_70 {p : Program} {l : Launch} {e : Env} {s : State} {m : MethodId} {args : Array Value} {below : List Frame} {meth : Method} {c : Code} {g : gT} {q : Nat} {ad : Nat → Nat} {X : va_W} {rv : Option Value} {iv' : Nat → Int32} {av' : Nat → Nat → Int32} {r' : Int32} (C : mCx p m c cM_eventIn 6 s args g "MidiDeskModel") (hr : meth.sig.returnType = (some .boolean)) (hlk : meth.locks = false) (hrv : rv = some (.int r')) (iv : Nat → Int32) (av : Nat → Nat → Int32) (x1 : Int32) (x2 : Int32) (x3 : Int32) (x4 : Int32) (x5 : Int32) (s1 : Int32) (s2 : Int32) (H : Heap) (locs : List Loc) (ls : Array Slot) (hl : lv_has ls 6 [(0, .ref q), (1, .int x1), (2, .int x2), (3, .int x3), (4, .int x4), (5, .int x5)]) (hw : mWd g (mA g q ad X s.heap.size) s.heap q ad X iv av H locs) (hf : jM_eventIn_70 iv av x1 x2 x3 x4 x5 s1 s2 = some (r', iv', av')) : mG p l e rM_eventIn s m args below meth c g q ad X rv iv' av' H locs 0 0 (F0 m 70 ls [.int s2, .int s1, .ref (ad 5)]) := by
  unfold jM_eventIn_70 at hf
  obtain ⟨h1, hf⟩ := ts_g hf
  refine ms_second C hw h1 dM_eventIn_70 (fun H locs hw => ?_)
  refine lv_aload_n C.1.1 C.1.2.1 dM_eventIn_71 rfl (lv_at hl 0 rfl) ?_
  refine mg_counts C hw dM_eventIn_72 ?_
  refine lv_iload C.1.1 C.1.2.1 dM_eventIn_75 (lv_at hl 5 rfl) ?_
  refine lv_iconst (v := (-1 : Int32)) C.1.1 C.1.2.1 dM_eventIn_77 (by decide) ?_
  obtain ⟨h2, hf⟩ := ts_g hf
  refine ms_counts C hw h2 dM_eventIn_78 (fun H locs hw => ?_)
  refine lv_aload_n C.1.1 C.1.2.1 dM_eventIn_79 rfl (lv_at hl 0 rfl) ?_
  refine mg_from C hw dM_eventIn_80 ?_
  refine lv_iload C.1.1 C.1.2.1 dM_eventIn_83 (lv_at hl 5 rfl) ?_
  refine lv_aload_n C.1.1 C.1.2.1 dM_eventIn_85 rfl (lv_at hl 0 rfl) ?_
  refine mg_many C hw dM_eventIn_86 ?_
  obtain ⟨h3, hf⟩ := ts_g hf
  refine ms_from C hw h3 dM_eventIn_89 (fun H locs hw => ?_)
  refine lv_iload_n C.1.1 C.1.2.1 dM_eventIn_90 rfl (lv_at hl 3 rfl) ?_
  refine lv_sipush (v := (239 : Int32)) C.1.1 C.1.2.1 dM_eventIn_91 (by decide) ?_
  refine lv_icmp_le (tgt := 121) C.1.1 C.1.2.1 dM_eventIn_94 (by decide) (fun c4 => ?_) (fun c4 => ?_)
  · have hf := ts_t hf c4
    exact wM_eventIn_121 C hr hlk hrv iv (up2 (up2 (up2 av 5 s1.toNatClampNeg s2) 7 x5.toNatClampNeg (-1 : Int32)) 6 x5.toNatClampNeg (iv 11)) x1 x2 x3 x4 x5 _ _ ls (lv_sub hl [0, 1, 2, 3, 4, 5] rfl) hw hf
  · have hf := ts_f hf c4
    refine lv_aload_n C.1.1 C.1.2.1 dM_eventIn_97 rfl (lv_at hl 0 rfl) ?_
    refine lv_iload C.1.1 C.1.2.1 dM_eventIn_98 (lv_at hl 5 rfl) ?_
    refine lv_iload_n C.1.1 C.1.2.1 dM_eventIn_100 rfl (lv_at hl 3 rfl) ?_
    refine lv_sipush (v := (255 : Int32)) C.1.1 C.1.2.1 dM_eventIn_101 (by decide) ?_
    refine lv_icmp_ne (tgt := 117) C.1.1 C.1.2.1 dM_eventIn_104 (by decide) (fun c5 => ?_) (fun c5 => ?_)
    · have hf := ts_f hf c5
      refine lv_iconst (v := (-1 : Int32)) C.1.1 C.1.2.1 dM_eventIn_117 (by decide) ?_
      exact wM_eventIn_118 C hr hlk hrv iv (up2 (up2 (up2 av 5 s1.toNatClampNeg s2) 7 x5.toNatClampNeg (-1 : Int32)) 6 x5.toNatClampNeg (iv 11)) x1 x2 x3 x4 x5 x5 (-1 : Int32) _ _ ls (lv_sub hl [0, 1, 2, 3, 4, 5] rfl) hw hf
    · have hf := ts_t hf c5
      refine lv_aload_n C.1.1 C.1.2.1 dM_eventIn_107 rfl (lv_at hl 0 rfl) ?_
      refine mg_first C hw dM_eventIn_108 ?_
      refine lv_iload C.1.1 C.1.2.1 dM_eventIn_111 (lv_at hl 5 rfl) ?_
      obtain ⟨h6, hf⟩ := ts_g hf
      refine ma_first C hw h6 dM_eventIn_113 ?_
      refine lv_goto (tgt := 118) C.1.1 C.1.2.1 dM_eventIn_114 (by decide) ?_
      exact wM_eventIn_118 C hr hlk hrv iv (up2 (up2 (up2 av 5 s1.toNatClampNeg s2) 7 x5.toNatClampNeg (-1 : Int32)) 6 x5.toNatClampNeg (iv 11)) x1 x2 x3 x4 x5 x5 ((up2 (up2 (up2 av 5 s1.toNatClampNeg s2) 7 x5.toNatClampNeg (-1 : Int32)) 6 x5.toNatClampNeg (iv 11)) 4 x5.toNatClampNeg) _ _ ls (lv_sub hl [0, 1, 2, 3, 4, 5] rfl) hw hf
set_option maxHeartbeats 4000000 in
set_option maxRecDepth 100000 in
theorem wM_eventIn_69 {p : Program} {l : Launch} {e : Env} {s : State} {m : MethodId} {args : Array Value} {below : List Frame} {meth : Method} {c : Code} {g : gT} {q : Nat} {ad : Nat → Nat} {X : va_W} {rv : Option Value} {iv' : Nat → Int32} {av' : Nat → Nat → Int32} {r' : Int32} (C : mCx p m c cM_eventIn 6 s args g "MidiDeskModel") (hr : meth.sig.returnType = (some .boolean)) (hlk : meth.locks = false) (hrv : rv = some (.int r')) (iv : Nat → Int32) (av : Nat → Nat → Int32) (x1 : Int32) (x2 : Int32) (x3 : Int32) (x4 : Int32) (x5 : Int32) (s1 : Int32) (H : Heap) (locs : List Loc) (ls : Array Slot) (hl : lv_has ls 6 [(0, .ref q), (1, .int x1), (2, .int x2), (3, .int x3), (4, .int x4), (5, .int x5)]) (hw : mWd g (mA g q ad X s.heap.size) s.heap q ad X iv av H locs) (hf : jM_eventIn_69 iv av x1 x2 x3 x4 x5 s1 = some (r', iv', av')) : mG p l e rM_eventIn s m args below meth c g q ad X rv iv' av' H locs 0 0 (F0 m 69 ls [.int s1, .ref (ad 5)]) := by
  unfold jM_eventIn_69 at hf
  refine lv_iconst (v := (-1 : Int32)) C.1.1 C.1.2.1 dM_eventIn_69 (by decide) ?_
  exact wM_eventIn_70 C hr hlk hrv iv av x1 x2 x3 x4 x5 s1 (-1 : Int32) _ _ ls (lv_sub hl [0, 1, 2, 3, 4, 5] rfl) hw hf
set_option maxHeartbeats 4000000 in
set_option maxRecDepth 100000 in
theorem wM_eventIn_62 {p : Program} {l : Launch} {e : Env} {s : State} {m : MethodId} {args : Array Value} {below : List Frame} {meth : Method} {c : Code} {g : gT} {q : Nat} {ad : Nat → Nat} {X : va_W} {rv : Option Value} {iv' : Nat → Int32} {av' : Nat → Nat → Int32} {r' : Int32} (C : mCx p m c cM_eventIn 6 s args g "MidiDeskModel") (hr : meth.sig.returnType = (some .boolean)) (hlk : meth.locks = false) (hrv : rv = some (.int r')) (iv : Nat → Int32) (av : Nat → Nat → Int32) (x1 : Int32) (x2 : Int32) (x3 : Int32) (x4 : Int32) (x5 : Int32) (s1 : Int32) (H : Heap) (locs : List Loc) (ls : Array Slot) (hl : lv_has ls 6 [(0, .ref q), (1, .int x1), (2, .int x2), (3, .int x3), (4, .int x4), (5, .int x5)]) (hw : mWd g (mA g q ad X s.heap.size) s.heap q ad X iv av H locs) (hf : jM_eventIn_62 iv av x1 x2 x3 x4 x5 s1 = some (r', iv', av')) : mG p l e rM_eventIn s m args below meth c g q ad X rv iv' av' H locs 0 0 (F0 m 62 ls [.int s1, .ref (ad 5)]) := by
  unfold jM_eventIn_62 at hf
  refine lv_aload_n C.1.1 C.1.2.1 dM_eventIn_62 rfl (lv_at hl 0 rfl) ?_
  obtain ⟨⟨r1, iv1, av1⟩, g1, hf⟩ := ts_b hf
  dsimp only at hf
  refine m_callV (rest := [.int s1, .ref (ad 5)]) (As := []) (rv := (some (.int r1))) C hl.1 hw (cM_small_met g1) (callW_of (rm := rM_small) 0 C.1.2.2.2.2 gw_836 gw_838 gw_32 gw_55 gw_839 kM_small ⟨Nat.le_of_ble_eq_true rfl, Nat.le_of_ble_eq_true rfl⟩) rfl rfl (Nat.le_of_ble_eq_true rfl) dM_eventIn_63 ⟨Nat.le_of_ble_eq_true rfl, Nat.le_of_ble_eq_true rfl⟩ (fun H locs hw => ?_)
  refine W.eq (g2 := F0 m 66 ls [.int r1, .int s1, .ref (ad 5)]) rfl ?_
  refine lv_goto (tgt := 70) C.1.1 C.1.2.1 dM_eventIn_66 (by decide) ?_
  exact wM_eventIn_70 C hr hlk hrv iv1 av1 x1 x2 x3 x4 x5 s1 r1 _ _ ls (lv_sub hl [0, 1, 2, 3, 4, 5] rfl) hw hf
set_option maxHeartbeats 4000000 in
set_option maxRecDepth 100000 in
theorem wM_eventIn_34 {p : Program} {l : Launch} {e : Env} {s : State} {m : MethodId} {args : Array Value} {below : List Frame} {meth : Method} {c : Code} {g : gT} {q : Nat} {ad : Nat → Nat} {X : va_W} {rv : Option Value} {iv' : Nat → Int32} {av' : Nat → Nat → Int32} {r' : Int32} (C : mCx p m c cM_eventIn 6 s args g "MidiDeskModel") (hr : meth.sig.returnType = (some .boolean)) (hlk : meth.locks = false) (hrv : rv = some (.int r')) (iv : Nat → Int32) (av : Nat → Nat → Int32) (x1 : Int32) (x2 : Int32) (x3 : Int32) (x4 : Int32) (x5 : Int32) (s1 : Int32) (s2 : Int32) (H : Heap) (locs : List Loc) (ls : Array Slot) (hl : lv_has ls 6 [(0, .ref q), (1, .int x1), (2, .int x2), (3, .int x3), (4, .int x4), (5, .int x5)]) (hw : mWd g (mA g q ad X s.heap.size) s.heap q ad X iv av H locs) (hf : jM_eventIn_34 iv av x1 x2 x3 x4 x5 s1 s2 = some (r', iv', av')) : mG p l e rM_eventIn s m args below meth c g q ad X rv iv' av' H locs 0 0 (F0 m 34 ls [.int s2, .int s1, .ref (ad 4)]) := by
  unfold jM_eventIn_34 at hf
  obtain ⟨h1, hf⟩ := ts_g hf
  refine ms_first C hw h1 dM_eventIn_34 (fun H locs hw => ?_)
  refine lv_aload_n C.1.1 C.1.2.1 dM_eventIn_35 rfl (lv_at hl 0 rfl) ?_
  refine mg_second C hw dM_eventIn_36 ?_
  refine lv_iload C.1.1 C.1.2.1 dM_eventIn_39 (lv_at hl 5 rfl) ?_
  refine lv_iload_n C.1.1 C.1.2.1 dM_eventIn_41 rfl (lv_at hl 3 rfl) ?_
  refine lv_sipush (v := (192 : Int32)) C.1.1 C.1.2.1 dM_eventIn_42 (by decide) ?_
  refine lv_icmp_lt (tgt := 62) C.1.1 C.1.2.1 dM_eventIn_45 (by decide) (fun c2 => ?_) (fun c2 => ?_)
  · have hf := ts_t hf c2
    exact wM_eventIn_62 C hr hlk hrv iv (up2 av 4 s1.toNatClampNeg s2) x1 x2 x3 x4 x5 x5 _ _ ls (lv_sub hl [0, 1, 2, 3, 4, 5] rfl) hw hf
  · have hf := ts_f hf c2
    refine lv_iload_n C.1.1 C.1.2.1 dM_eventIn_48 rfl (lv_at hl 3 rfl) ?_
    refine lv_sipush (v := (223 : Int32)) C.1.1 C.1.2.1 dM_eventIn_49 (by decide) ?_
    refine lv_icmp_le (tgt := 69) C.1.1 C.1.2.1 dM_eventIn_52 (by decide) (fun c3 => ?_) (fun c3 => ?_)
    · have hf := ts_t hf c3
      exact wM_eventIn_69 C hr hlk hrv iv (up2 av 4 s1.toNatClampNeg s2) x1 x2 x3 x4 x5 x5 _ _ ls (lv_sub hl [0, 1, 2, 3, 4, 5] rfl) hw hf
    · have hf := ts_f hf c3
      refine lv_iload_n C.1.1 C.1.2.1 dM_eventIn_55 rfl (lv_at hl 3 rfl) ?_
      refine lv_sipush (v := (240 : Int32)) C.1.1 C.1.2.1 dM_eventIn_56 (by decide) ?_
      refine lv_icmp_ge (tgt := 69) C.1.1 C.1.2.1 dM_eventIn_59 (by decide) (fun c4 => ?_) (fun c4 => ?_)
      · have hf := ts_t hf c4
        exact wM_eventIn_69 C hr hlk hrv iv (up2 av 4 s1.toNatClampNeg s2) x1 x2 x3 x4 x5 x5 _ _ ls (lv_sub hl [0, 1, 2, 3, 4, 5] rfl) hw hf
      · have hf := ts_f hf c4
        exact wM_eventIn_62 C hr hlk hrv iv (up2 av 4 s1.toNatClampNeg s2) x1 x2 x3 x4 x5 x5 _ _ ls (lv_sub hl [0, 1, 2, 3, 4, 5] rfl) hw hf
set_option maxHeartbeats 4000000 in
set_option maxRecDepth 100000 in
theorem wM_eventIn_26 {p : Program} {l : Launch} {e : Env} {s : State} {m : MethodId} {args : Array Value} {below : List Frame} {meth : Method} {c : Code} {g : gT} {q : Nat} {ad : Nat → Nat} {X : va_W} {rv : Option Value} {iv' : Nat → Int32} {av' : Nat → Nat → Int32} {r' : Int32} (C : mCx p m c cM_eventIn 6 s args g "MidiDeskModel") (hr : meth.sig.returnType = (some .boolean)) (hlk : meth.locks = false) (hrv : rv = some (.int r')) (iv : Nat → Int32) (av : Nat → Nat → Int32) (x1 : Int32) (x2 : Int32) (x3 : Int32) (x4 : Int32) (x5 : Int32) (s1 : Int32) (H : Heap) (locs : List Loc) (ls : Array Slot) (hl : lv_has ls 6 [(0, .ref q), (1, .int x1), (2, .int x2), (3, .int x3), (4, .int x4), (5, .int x5)]) (hw : mWd g (mA g q ad X s.heap.size) s.heap q ad X iv av H locs) (hf : jM_eventIn_26 iv av x1 x2 x3 x4 x5 s1 = some (r', iv', av')) : mG p l e rM_eventIn s m args below meth c g q ad X rv iv' av' H locs 0 0 (F0 m 26 ls [.int s1, .ref (ad 4)]) := by
  unfold jM_eventIn_26 at hf
  refine lv_iconst (v := (-1 : Int32)) C.1.1 C.1.2.1 dM_eventIn_26 (by decide) ?_
  refine lv_goto (tgt := 34) C.1.1 C.1.2.1 dM_eventIn_27 (by decide) ?_
  exact wM_eventIn_34 C hr hlk hrv iv av x1 x2 x3 x4 x5 s1 (-1 : Int32) _ _ ls (lv_sub hl [0, 1, 2, 3, 4, 5] rfl) hw hf
set_option maxHeartbeats 4000000 in
set_option maxRecDepth 100000 in
theorem cM_eventIn_met {l : Launch} {g : gT} {q : Nat} {ad : Nat → Nat} {X : va_W} {iv iv' : Nat → Int32} {av av' : Nat → Nat → Int32} {x1 : Int32} {x2 : Int32} {x3 : Int32} {x4 : Int32} {r' : Int32} (hf : fM_eventIn iv av x1 x2 x3 x4 = some (r', iv', av')) : mMet l yM_eventIn cM_eventIn 6 (some .boolean) rM_eventIn g q ad X iv av [.ref q, .int x1, .int x2, .int x3, .int x4] (some (.int r')) iv' av' := by
  refine m_entry (by decide) (Nat.le_of_ble_eq_true rfl) ?_
  intro p e s m args below meth c ls C hr hlk hnm hl hw
  have hrv : ((some (.int r')) : Option Value) = (some (.int r')) := rfl
  have C : mCx p m c cM_eventIn 6 s args g "MidiDeskModel" := C
  have hl : lv_has ls 6 [(0, .ref q), (1, .int x1), (2, .int x2), (3, .int x3), (4, .int x4)] := hl
  unfold fM_eventIn at hf
  refine lv_aload_n C.1.1 C.1.2.1 dM_eventIn_0 rfl (lv_at hl 0 rfl) ?_
  refine mg_events C hw dM_eventIn_1 ?_
  refine lv_istore (lv' := [(5, .int (iv 10)), (0, .ref q), (1, .int x1), (2, .int x2), (3, .int x3), (4, .int x4)]) C.1.1 C.1.2.1 dM_eventIn_4 hl (by decide) rfl (fun ls hl => ?_)
  refine lv_aload_n C.1.1 C.1.2.1 dM_eventIn_6 rfl (lv_at hl 1 rfl) ?_
  refine mg_first C hw dM_eventIn_7 ?_
  refine lv_iload C.1.1 C.1.2.1 dM_eventIn_10 (lv_at hl 0 rfl) ?_
  refine lv_iload_n C.1.1 C.1.2.1 dM_eventIn_12 rfl (lv_at hl 4 rfl) ?_
  refine lv_sipush (v := (240 : Int32)) C.1.1 C.1.2.1 dM_eventIn_13 (by decide) ?_
  refine lv_icmp_eq (tgt := 26) C.1.1 C.1.2.1 dM_eventIn_16 (by decide) (fun c1 => ?_) (fun c1 => ?_)
  · have hf := ts_t hf c1
    exact wM_eventIn_26 C hr hlk hrv iv av x1 x2 x3 x4 (iv 10) (iv 10) _ _ ls (lv_sub hl [1, 2, 3, 4, 5, 0] rfl) hw hf
  · have hf := ts_f hf c1
    refine lv_iload_n C.1.1 C.1.2.1 dM_eventIn_19 rfl (lv_at hl 4 rfl) ?_
    refine lv_sipush (v := (247 : Int32)) C.1.1 C.1.2.1 dM_eventIn_20 (by decide) ?_
    refine lv_icmp_ne (tgt := 30) C.1.1 C.1.2.1 dM_eventIn_23 (by decide) (fun c2 => ?_) (fun c2 => ?_)
    · have hf := ts_f hf c2
      refine lv_aload_n C.1.1 C.1.2.1 dM_eventIn_30 rfl (lv_at hl 1 rfl) ?_
      obtain ⟨⟨r3, iv3, av3⟩, g3, hf⟩ := ts_b hf
      dsimp only at hf
      refine m_callV (rest := [.int (iv 10), .ref (ad 4)]) (As := []) (rv := (some (.int r3))) C hl.1 hw (cM_small_met g3) (callW_of (rm := rM_small) 0 C.1.2.2.2.2 gw_836 gw_838 gw_32 gw_55 gw_839 kM_small ⟨Nat.le_of_ble_eq_true rfl, Nat.le_of_ble_eq_true rfl⟩) rfl rfl (Nat.le_of_ble_eq_true rfl) dM_eventIn_31 ⟨Nat.le_of_ble_eq_true rfl, Nat.le_of_ble_eq_true rfl⟩ (fun H locs hw => ?_)
      refine W.eq (g2 := F0 m 34 ls [.int r3, .int (iv 10), .ref (ad 4)]) rfl ?_
      exact wM_eventIn_34 C hr hlk hrv iv3 av3 x1 x2 x3 x4 (iv 10) (iv 10) r3 _ _ ls (lv_sub hl [1, 2, 3, 4, 5, 0] rfl) hw hf
    · have hf := ts_t hf c2
      exact wM_eventIn_26 C hr hlk hrv iv av x1 x2 x3 x4 (iv 10) (iv 10) _ _ ls (lv_sub hl [1, 2, 3, 4, 5, 0] rfl) hw hf
end
