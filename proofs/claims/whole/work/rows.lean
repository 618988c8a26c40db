section
-- ===== PART A: goes FIRST, ahead of the names: the tables' words, and 'selects' of the private methods out of them =====
/-- a private method of a class that the tables say can be made, by its rows of tables_1 -/
def lw_okq (q : MethodName × Nat) : Prop := (q.1.cls ≠ "java/lang/invoke/MethodHandle" ∧ q.1.cls ≠ "java/lang/invoke/VarHandle") ∧ Cond.instantiable q.1.cls q.2 ∈ tables_1 ∧ Cond.privateMethod q.1 ∈ tables_1 ∧ Cond.instanceMethod q.1 ∈ tables_1
theorem lw_p0 : lw_okq (⟨"MidiDesk$Parser", "head", "()V"⟩, 13) := ⟨⟨by decide +kernel, by decide +kernel⟩, List.mem_of_getElem? (i := 133) (by decide +kernel), List.mem_of_getElem? (i := 192) (by decide +kernel), List.mem_of_getElem? (i := 193) (by decide +kernel)⟩
theorem lw_p1 : lw_okq (⟨"MidiDesk$Parser", "fixed", "(I)J"⟩, 13) := ⟨⟨by decide +kernel, by decide +kernel⟩, List.mem_of_getElem? (i := 133) (by decide +kernel), List.mem_of_getElem? (i := 196) (by decide +kernel), List.mem_of_getElem? (i := 197) (by decide +kernel)⟩
theorem lw_p2 : lw_okq (⟨"MidiDesk$Parser", "expect", "(ZII)V"⟩, 13) := ⟨⟨by decide +kernel, by decide +kernel⟩, List.mem_of_getElem? (i := 133) (by decide +kernel), List.mem_of_getElem? (i := 200) (by decide +kernel), List.mem_of_getElem? (i := 201) (by decide +kernel)⟩
theorem lw_p3 : lw_okq (⟨"MidiDesk$Parser", "beginsTrack", "()Z"⟩, 13) := ⟨⟨by decide +kernel, by decide +kernel⟩, List.mem_of_getElem? (i := 133) (by decide +kernel), List.mem_of_getElem? (i := 214) (by decide +kernel), List.mem_of_getElem? (i := 215) (by decide +kernel)⟩
theorem lw_p4 : lw_okq (⟨"MidiDesk$Parser", "track", "()V"⟩, 13) := ⟨⟨by decide +kernel, by decide +kernel⟩, List.mem_of_getElem? (i := 133) (by decide +kernel), List.mem_of_getElem? (i := 219) (by decide +kernel), List.mem_of_getElem? (i := 220) (by decide +kernel)⟩
theorem lw_p5 : lw_okq (⟨"MidiDesk$Parser", "oneEvent", "()V"⟩, 13) := ⟨⟨by decide +kernel, by decide +kernel⟩, List.mem_of_getElem? (i := 133) (by decide +kernel), List.mem_of_getElem? (i := 223) (by decide +kernel), List.mem_of_getElem? (i := 224) (by decide +kernel)⟩
theorem lw_p6 : lw_okq (⟨"MidiDesk$Parser", "number", "()I"⟩, 13) := ⟨⟨by decide +kernel, by decide +kernel⟩, List.mem_of_getElem? (i := 133) (by decide +kernel), List.mem_of_getElem? (i := 227) (by decide +kernel), List.mem_of_getElem? (i := 228) (by decide +kernel)⟩
theorem lw_p7 : lw_okq (⟨"MidiDesk$Parser", "status", "()I"⟩, 13) := ⟨⟨by decide +kernel, by decide +kernel⟩, List.mem_of_getElem? (i := 133) (by decide +kernel), List.mem_of_getElem? (i := 232) (by decide +kernel), List.mem_of_getElem? (i := 233) (by decide +kernel)⟩
theorem lw_p8 : lw_okq (⟨"MidiDesk$Parser", "channelEvent", "(I)V"⟩, 13) := ⟨⟨by decide +kernel, by decide +kernel⟩, List.mem_of_getElem? (i := 133) (by decide +kernel), List.mem_of_getElem? (i := 236) (by decide +kernel), List.mem_of_getElem? (i := 237) (by decide +kernel)⟩
theorem lw_p9 : lw_okq (⟨"MidiDesk$Parser", "lowByte", "()I"⟩, 13) := ⟨⟨by decide +kernel, by decide +kernel⟩, List.mem_of_getElem? (i := 133) (by decide +kernel), List.mem_of_getElem? (i := 240) (by decide +kernel), List.mem_of_getElem? (i := 241) (by decide +kernel)⟩
theorem lw_p10 : lw_okq (⟨"MidiDesk$Parser", "metaEvent", "()V"⟩, 13) := ⟨⟨by decide +kernel, by decide +kernel⟩, List.mem_of_getElem? (i := 133) (by decide +kernel), List.mem_of_getElem? (i := 247) (by decide +kernel), List.mem_of_getElem? (i := 248) (by decide +kernel)⟩
theorem lw_p11 : lw_okq (⟨"MidiDesk$Parser", "passData", "()V"⟩, 13) := ⟨⟨by decide +kernel, by decide +kernel⟩, List.mem_of_getElem? (i := 133) (by decide +kernel), List.mem_of_getElem? (i := 251) (by decide +kernel), List.mem_of_getElem? (i := 252) (by decide +kernel)⟩
theorem lw_p12 : lw_okq (⟨"MidiDesk$Parser", "exclusiveEvent", "()V"⟩, 13) := ⟨⟨by decide +kernel, by decide +kernel⟩, List.mem_of_getElem? (i := 133) (by decide +kernel), List.mem_of_getElem? (i := 255) (by decide +kernel), List.mem_of_getElem? (i := 256) (by decide +kernel)⟩
theorem lw_p13 : lw_okq (⟨"MidiDesk$Parser", "keep", "(I)V"⟩, 13) := ⟨⟨by decide +kernel, by decide +kernel⟩, List.mem_of_getElem? (i := 133) (by decide +kernel), List.mem_of_getElem? (i := 267) (by decide +kernel), List.mem_of_getElem? (i := 268) (by decide +kernel)⟩
theorem lw_p14 : lw_okq (⟨"MidiDesk$Score", "mergeRuns", "(III)V"⟩, 8) := ⟨⟨by decide +kernel, by decide +kernel⟩, List.mem_of_getElem? (i := 42) (by decide +kernel), List.mem_of_getElem? (i := 334) (by decide +kernel), List.mem_of_getElem? (i := 335) (by decide +kernel)⟩
theorem lw_p15 : lw_okq (⟨"MidiDesk", "headValue", "(I)I"⟩, 3) := ⟨⟨by decide +kernel, by decide +kernel⟩, List.mem_of_getElem? (i := 17) (by decide +kernel), List.mem_of_getElem? (i := 405) (by decide +kernel), List.mem_of_getElem? (i := 406) (by decide +kernel)⟩
def lw_privs_1 : List (MethodName × Nat) := [(⟨"MidiDesk$Parser", "head", "()V"⟩, 13), (⟨"MidiDesk$Parser", "fixed", "(I)J"⟩, 13), (⟨"MidiDesk$Parser", "expect", "(ZII)V"⟩, 13), (⟨"MidiDesk$Parser", "beginsTrack", "()Z"⟩, 13), (⟨"MidiDesk$Parser", "track", "()V"⟩, 13), (⟨"MidiDesk$Parser", "oneEvent", "()V"⟩, 13), (⟨"MidiDesk$Parser", "number", "()I"⟩, 13), (⟨"MidiDesk$Parser", "status", "()I"⟩, 13), (⟨"MidiDesk$Parser", "channelEvent", "(I)V"⟩, 13), (⟨"MidiDesk$Parser", "lowByte", "()I"⟩, 13), (⟨"MidiDesk$Parser", "metaEvent", "()V"⟩, 13), (⟨"MidiDesk$Parser", "passData", "()V"⟩, 13), (⟨"MidiDesk$Parser", "exclusiveEvent", "()V"⟩, 13), (⟨"MidiDesk$Parser", "keep", "(I)V"⟩, 13), (⟨"MidiDesk$Score", "mergeRuns", "(III)V"⟩, 8), (⟨"MidiDesk", "headValue", "(I)I"⟩, 3)]
theorem lw_r1 : ∀ q ∈ lw_privs_1, lw_okq q := List.forall_mem_cons.mpr ⟨lw_p0, List.forall_mem_cons.mpr ⟨lw_p1, List.forall_mem_cons.mpr ⟨lw_p2, List.forall_mem_cons.mpr ⟨lw_p3, List.forall_mem_cons.mpr ⟨lw_p4, List.forall_mem_cons.mpr ⟨lw_p5, List.forall_mem_cons.mpr ⟨lw_p6, List.forall_mem_cons.mpr ⟨lw_p7, List.forall_mem_cons.mpr ⟨lw_p8, List.forall_mem_cons.mpr ⟨lw_p9, List.forall_mem_cons.mpr ⟨lw_p10, List.forall_mem_cons.mpr ⟨lw_p11, List.forall_mem_cons.mpr ⟨lw_p12, List.forall_mem_cons.mpr ⟨lw_p13, List.forall_mem_cons.mpr ⟨lw_p14, List.forall_mem_cons.mpr ⟨lw_p15, fun _ h => absurd h List.not_mem_nil⟩⟩⟩⟩⟩⟩⟩⟩⟩⟩⟩⟩⟩⟩⟩⟩
theorem lw_p16 : lw_okq (⟨"MidiDesk$Score", "hasFrames", "()Z"⟩, 8) := ⟨⟨by decide +kernel, by decide +kernel⟩, List.mem_of_getElem? (i := 42) (by decide +kernel), List.mem_of_getElem? (i := 413) (by decide +kernel), List.mem_of_getElem? (i := 414) (by decide +kernel)⟩
theorem lw_p17 : lw_okq (⟨"MidiDesk$Score", "frames", "()I"⟩, 8) := ⟨⟨by decide +kernel, by decide +kernel⟩, List.mem_of_getElem? (i := 42) (by decide +kernel), List.mem_of_getElem? (i := 417) (by decide +kernel), List.mem_of_getElem? (i := 418) (by decide +kernel)⟩
theorem lw_p18 : lw_okq (⟨"MidiDesk", "needList", "()V"⟩, 3) := ⟨⟨by decide +kernel, by decide +kernel⟩, List.mem_of_getElem? (i := 17) (by decide +kernel), List.mem_of_getElem? (i := 430) (by decide +kernel), List.mem_of_getElem? (i := 431) (by decide +kernel)⟩
theorem lw_p19 : lw_okq (⟨"java/lang/Throwable", "fillInStackTrace", "(I)Ljava/lang/Throwable;"⟩, 6) := ⟨⟨by decide +kernel, by decide +kernel⟩, List.mem_of_getElem? (i := 471) (by decide +kernel), List.mem_of_getElem? (i := 469) (by decide +kernel), List.mem_of_getElem? (i := 470) (by decide +kernel)⟩
theorem lw_p20 : lw_okq (⟨"MidiDesk", "needTick", "(I)V"⟩, 3) := ⟨⟨by decide +kernel, by decide +kernel⟩, List.mem_of_getElem? (i := 17) (by decide +kernel), List.mem_of_getElem? (i := 501) (by decide +kernel), List.mem_of_getElem? (i := 502) (by decide +kernel)⟩
theorem lw_p21 : lw_okq (⟨"MidiDesk$Score", "tempoOf", "(LMidiDesk$Event;)I"⟩, 8) := ⟨⟨by decide +kernel, by decide +kernel⟩, List.mem_of_getElem? (i := 42) (by decide +kernel), List.mem_of_getElem? (i := 529) (by decide +kernel), List.mem_of_getElem? (i := 530) (by decide +kernel)⟩
theorem lw_p22 : lw_okq (⟨"MidiDesk$Printer", "putFixed", "(II)V"⟩, 5) := ⟨⟨by decide +kernel, by decide +kernel⟩, List.mem_of_getElem? (i := 601) (by decide +kernel), List.mem_of_getElem? (i := 629) (by decide +kernel), List.mem_of_getElem? (i := 630) (by decide +kernel)⟩
theorem lw_p23 : lw_okq (⟨"MidiDesk$Printer", "putTrack", "(I)V"⟩, 5) := ⟨⟨by decide +kernel, by decide +kernel⟩, List.mem_of_getElem? (i := 601) (by decide +kernel), List.mem_of_getElem? (i := 634) (by decide +kernel), List.mem_of_getElem? (i := 635) (by decide +kernel)⟩
theorem lw_p24 : lw_okq (⟨"MidiDesk$Printer", "putEvent", "(LMidiDesk$Event;)V"⟩, 5) := ⟨⟨by decide +kernel, by decide +kernel⟩, List.mem_of_getElem? (i := 601) (by decide +kernel), List.mem_of_getElem? (i := 641) (by decide +kernel), List.mem_of_getElem? (i := 642) (by decide +kernel)⟩
theorem lw_p25 : lw_okq (⟨"MidiDesk$Printer", "putNumber", "(I)V"⟩, 5) := ⟨⟨by decide +kernel, by decide +kernel⟩, List.mem_of_getElem? (i := 601) (by decide +kernel), List.mem_of_getElem? (i := 645) (by decide +kernel), List.mem_of_getElem? (i := 646) (by decide +kernel)⟩
theorem lw_p26 : lw_okq (⟨"MidiDeskModel", "head", "()V"⟩, 25) := ⟨⟨by decide +kernel, by decide +kernel⟩, List.mem_of_getElem? (i := 658) (by decide +kernel), List.mem_of_getElem? (i := 754) (by decide +kernel), List.mem_of_getElem? (i := 755) (by decide +kernel)⟩
theorem lw_p27 : lw_okq (⟨"MidiDeskModel", "taken", "(I)J"⟩, 25) := ⟨⟨by decide +kernel, by decide +kernel⟩, List.mem_of_getElem? (i := 658) (by decide +kernel), List.mem_of_getElem? (i := 758) (by decide +kernel), List.mem_of_getElem? (i := 759) (by decide +kernel)⟩
theorem lw_p28 : lw_okq (⟨"MidiDeskModel", "fail", "(II)V"⟩, 25) := ⟨⟨by decide +kernel, by decide +kernel⟩, List.mem_of_getElem? (i := 658) (by decide +kernel), List.mem_of_getElem? (i := 762) (by decide +kernel), List.mem_of_getElem? (i := 763) (by decide +kernel)⟩
theorem lw_p29 : lw_okq (⟨"MidiDeskModel", "track", "(I)V"⟩, 25) := ⟨⟨by decide +kernel, by decide +kernel⟩, List.mem_of_getElem? (i := 658) (by decide +kernel), List.mem_of_getElem? (i := 773) (by decide +kernel), List.mem_of_getElem? (i := 774) (by decide +kernel)⟩
theorem lw_p30 : lw_okq (⟨"MidiDeskModel", "number", "()I"⟩, 25) := ⟨⟨by decide +kernel, by decide +kernel⟩, List.mem_of_getElem? (i := 658) (by decide +kernel), List.mem_of_getElem? (i := 777) (by decide +kernel), List.mem_of_getElem? (i := 778) (by decide +kernel)⟩
theorem lw_p31 : lw_okq (⟨"MidiDeskModel", "event", "(IIII)Z"⟩, 25) := ⟨⟨by decide +kernel, by decide +kernel⟩, List.mem_of_getElem? (i := 658) (by decide +kernel), List.mem_of_getElem? (i := 782) (by decide +kernel), List.mem_of_getElem? (i := 783) (by decide +kernel)⟩
def lw_privs_2 : List (MethodName × Nat) := [(⟨"MidiDesk$Score", "hasFrames", "()Z"⟩, 8), (⟨"MidiDesk$Score", "frames", "()I"⟩, 8), (⟨"MidiDesk", "needList", "()V"⟩, 3), (⟨"java/lang/Throwable", "fillInStackTrace", "(I)Ljava/lang/Throwable;"⟩, 6), (⟨"MidiDesk", "needTick", "(I)V"⟩, 3), (⟨"MidiDesk$Score", "tempoOf", "(LMidiDesk$Event;)I"⟩, 8), (⟨"MidiDesk$Printer", "putFixed", "(II)V"⟩, 5), (⟨"MidiDesk$Printer", "putTrack", "(I)V"⟩, 5), (⟨"MidiDesk$Printer", "putEvent", "(LMidiDesk$Event;)V"⟩, 5), (⟨"MidiDesk$Printer", "putNumber", "(I)V"⟩, 5), (⟨"MidiDeskModel", "head", "()V"⟩, 25), (⟨"MidiDeskModel", "taken", "(I)J"⟩, 25), (⟨"MidiDeskModel", "fail", "(II)V"⟩, 25), (⟨"MidiDeskModel", "track", "(I)V"⟩, 25), (⟨"MidiDeskModel", "number", "()I"⟩, 25), (⟨"MidiDeskModel", "event", "(IIII)Z"⟩, 25)]
theorem lw_r2 : ∀ q ∈ lw_privs_2, lw_okq q := List.forall_mem_cons.mpr ⟨lw_p16, List.forall_mem_cons.mpr ⟨lw_p17, List.forall_mem_cons.mpr ⟨lw_p18, List.forall_mem_cons.mpr ⟨lw_p19, List.forall_mem_cons.mpr ⟨lw_p20, List.forall_mem_cons.mpr ⟨lw_p21, List.forall_mem_cons.mpr ⟨lw_p22, List.forall_mem_cons.mpr ⟨lw_p23, List.forall_mem_cons.mpr ⟨lw_p24, List.forall_mem_cons.mpr ⟨lw_p25, List.forall_mem_cons.mpr ⟨lw_p26, List.forall_mem_cons.mpr ⟨lw_p27, List.forall_mem_cons.mpr ⟨lw_p28, List.forall_mem_cons.mpr ⟨lw_p29, List.forall_mem_cons.mpr ⟨lw_p30, List.forall_mem_cons.mpr ⟨lw_p31, fun _ h => absurd h List.not_mem_nil⟩⟩⟩⟩⟩⟩⟩⟩⟩⟩⟩⟩⟩⟩⟩⟩
theorem lw_p32 : lw_okq (⟨"MidiDeskModel", "small", "()I"⟩, 25) := ⟨⟨by decide +kernel, by decide +kernel⟩, List.mem_of_getElem? (i := 658) (by decide +kernel), List.mem_of_getElem? (i := 786) (by decide +kernel), List.mem_of_getElem? (i := 787) (by decide +kernel)⟩
theorem lw_p33 : lw_okq (⟨"MidiDeskModel", "follow", "(II)V"⟩, 25) := ⟨⟨by decide +kernel, by decide +kernel⟩, List.mem_of_getElem? (i := 658) (by decide +kernel), List.mem_of_getElem? (i := 790) (by decide +kernel), List.mem_of_getElem? (i := 791) (by decide +kernel)⟩
theorem lw_p34 : lw_okq (⟨"MidiDeskModel", "tempo", "(I)I"⟩, 25) := ⟨⟨by decide +kernel, by decide +kernel⟩, List.mem_of_getElem? (i := 658) (by decide +kernel), List.mem_of_getElem? (i := 794) (by decide +kernel), List.mem_of_getElem? (i := 795) (by decide +kernel)⟩
theorem lw_p35 : lw_okq (⟨"MidiDeskModel", "sort", "()V"⟩, 25) := ⟨⟨by decide +kernel, by decide +kernel⟩, List.mem_of_getElem? (i := 658) (by decide +kernel), List.mem_of_getElem? (i := 798) (by decide +kernel), List.mem_of_getElem? (i := 799) (by decide +kernel)⟩
theorem lw_p36 : lw_okq (⟨"MidiDeskModel", "again", "()V"⟩, 25) := ⟨⟨by decide +kernel, by decide +kernel⟩, List.mem_of_getElem? (i := 658) (by decide +kernel), List.mem_of_getElem? (i := 802) (by decide +kernel), List.mem_of_getElem? (i := 803) (by decide +kernel)⟩
theorem lw_p37 : lw_okq (⟨"MidiDeskModel", "isBefore", "(II)Z"⟩, 25) := ⟨⟨by decide +kernel, by decide +kernel⟩, List.mem_of_getElem? (i := 658) (by decide +kernel), List.mem_of_getElem? (i := 806) (by decide +kernel), List.mem_of_getElem? (i := 807) (by decide +kernel)⟩
theorem lw_p38 : lw_okq (⟨"MidiDeskModel", "has", "(I)Z"⟩, 25) := ⟨⟨by decide +kernel, by decide +kernel⟩, List.mem_of_getElem? (i := 658) (by decide +kernel), List.mem_of_getElem? (i := 814) (by decide +kernel), List.mem_of_getElem? (i := 815) (by decide +kernel)⟩
theorem lw_p39 : lw_okq (⟨"MidiDeskModel", "fails", "(ZZ)Z"⟩, 25) := ⟨⟨by decide +kernel, by decide +kernel⟩, List.mem_of_getElem? (i := 658) (by decide +kernel), List.mem_of_getElem? (i := 827) (by decide +kernel), List.mem_of_getElem? (i := 828) (by decide +kernel)⟩
theorem lw_p40 : lw_okq (⟨"MidiDeskModel", "timed", "(I)J"⟩, 25) := ⟨⟨by decide +kernel, by decide +kernel⟩, List.mem_of_getElem? (i := 658) (by decide +kernel), List.mem_of_getElem? (i := 831) (by decide +kernel), List.mem_of_getElem? (i := 832) (by decide +kernel)⟩
theorem lw_p41 : lw_okq (⟨"MidiDeskModel", "isTempo", "(I)Z"⟩, 25) := ⟨⟨by decide +kernel, by decide +kernel⟩, List.mem_of_getElem? (i := 658) (by decide +kernel), List.mem_of_getElem? (i := 838) (by decide +kernel), List.mem_of_getElem? (i := 839) (by decide +kernel)⟩
theorem lw_p42 : lw_okq (⟨"MidiDeskModel", "parts", "()J"⟩, 25) := ⟨⟨by decide +kernel, by decide +kernel⟩, List.mem_of_getElem? (i := 658) (by decide +kernel), List.mem_of_getElem? (i := 842) (by decide +kernel), List.mem_of_getElem? (i := 843) (by decide +kernel)⟩
theorem lw_p43 : lw_okq (⟨"MidiDeskModel", "begins", "(I)Z"⟩, 25) := ⟨⟨by decide +kernel, by decide +kernel⟩, List.mem_of_getElem? (i := 658) (by decide +kernel), List.mem_of_getElem? (i := 855) (by decide +kernel), List.mem_of_getElem? (i := 856) (by decide +kernel)⟩
theorem lw_p44 : lw_okq (⟨"MidiDeskModel", "ends", "(I)Z"⟩, 25) := ⟨⟨by decide +kernel, by decide +kernel⟩, List.mem_of_getElem? (i := 658) (by decide +kernel), List.mem_of_getElem? (i := 859) (by decide +kernel), List.mem_of_getElem? (i := 860) (by decide +kernel)⟩
theorem lw_p45 : lw_okq (⟨"MidiDeskModel", "isNote", "(II)Z"⟩, 25) := ⟨⟨by decide +kernel, by decide +kernel⟩, List.mem_of_getElem? (i := 658) (by decide +kernel), List.mem_of_getElem? (i := 867) (by decide +kernel), List.mem_of_getElem? (i := 868) (by decide +kernel)⟩
theorem lw_p46 : lw_okq (⟨"MidiDeskModel", "put", "(II)V"⟩, 25) := ⟨⟨by decide +kernel, by decide +kernel⟩, List.mem_of_getElem? (i := 658) (by decide +kernel), List.mem_of_getElem? (i := 890) (by decide +kernel), List.mem_of_getElem? (i := 891) (by decide +kernel)⟩
theorem lw_p47 : lw_okq (⟨"MidiDeskModel", "put", "(I)V"⟩, 25) := ⟨⟨by decide +kernel, by decide +kernel⟩, List.mem_of_getElem? (i := 658) (by decide +kernel), List.mem_of_getElem? (i := 894) (by decide +kernel), List.mem_of_getElem? (i := 895) (by decide +kernel)⟩
def lw_privs_3 : List (MethodName × Nat) := [(⟨"MidiDeskModel", "small", "()I"⟩, 25), (⟨"MidiDeskModel", "follow", "(II)V"⟩, 25), (⟨"MidiDeskModel", "tempo", "(I)I"⟩, 25), (⟨"MidiDeskModel", "sort", "()V"⟩, 25), (⟨"MidiDeskModel", "again", "()V"⟩, 25), (⟨"MidiDeskModel", "isBefore", "(II)Z"⟩, 25), (⟨"MidiDeskModel", "has", "(I)Z"⟩, 25), (⟨"MidiDeskModel", "fails", "(ZZ)Z"⟩, 25), (⟨"MidiDeskModel", "timed", "(I)J"⟩, 25), (⟨"MidiDeskModel", "isTempo", "(I)Z"⟩, 25), (⟨"MidiDeskModel", "parts", "()J"⟩, 25), (⟨"MidiDeskModel", "begins", "(I)Z"⟩, 25), (⟨"MidiDeskModel", "ends", "(I)Z"⟩, 25), (⟨"MidiDeskModel", "isNote", "(II)Z"⟩, 25), (⟨"MidiDeskModel", "put", "(II)V"⟩, 25), (⟨"MidiDeskModel", "put", "(I)V"⟩, 25)]
theorem lw_r3 : ∀ q ∈ lw_privs_3, lw_okq q := List.forall_mem_cons.mpr ⟨lw_p32, List.forall_mem_cons.mpr ⟨lw_p33, List.forall_mem_cons.mpr ⟨lw_p34, List.forall_mem_cons.mpr ⟨lw_p35, List.forall_mem_cons.mpr ⟨lw_p36, List.forall_mem_cons.mpr ⟨lw_p37, List.forall_mem_cons.mpr ⟨lw_p38, List.forall_mem_cons.mpr ⟨lw_p39, List.forall_mem_cons.mpr ⟨lw_p40, List.forall_mem_cons.mpr ⟨lw_p41, List.forall_mem_cons.mpr ⟨lw_p42, List.forall_mem_cons.mpr ⟨lw_p43, List.forall_mem_cons.mpr ⟨lw_p44, List.forall_mem_cons.mpr ⟨lw_p45, List.forall_mem_cons.mpr ⟨lw_p46, List.forall_mem_cons.mpr ⟨lw_p47, fun _ h => absurd h List.not_mem_nil⟩⟩⟩⟩⟩⟩⟩⟩⟩⟩⟩⟩⟩⟩⟩⟩
theorem lw_p48 : lw_okq (⟨"MidiDeskModel", "putTrack", "(IZZ)V"⟩, 25) := ⟨⟨by decide +kernel, by decide +kernel⟩, List.mem_of_getElem? (i := 658) (by decide +kernel), List.mem_of_getElem? (i := 898) (by decide +kernel), List.mem_of_getElem? (i := 899) (by decide +kernel)⟩
theorem lw_p49 : lw_okq (⟨"MidiDeskModel", "putNumber", "(I)V"⟩, 25) := ⟨⟨by decide +kernel, by decide +kernel⟩, List.mem_of_getElem? (i := 658) (by decide +kernel), List.mem_of_getElem? (i := 903) (by decide +kernel), List.mem_of_getElem? (i := 904) (by decide +kernel)⟩
theorem lw_p50 : lw_okq (⟨"MidiDeskModel", "counted", "(Z)I"⟩, 25) := ⟨⟨by decide +kernel, by decide +kernel⟩, List.mem_of_getElem? (i := 658) (by decide +kernel), List.mem_of_getElem? (i := 921) (by decide +kernel), List.mem_of_getElem? (i := 922) (by decide +kernel)⟩
def lw_privs_4 : List (MethodName × Nat) := [(⟨"MidiDeskModel", "putTrack", "(IZZ)V"⟩, 25), (⟨"MidiDeskModel", "putNumber", "(I)V"⟩, 25), (⟨"MidiDeskModel", "counted", "(Z)I"⟩, 25)]
theorem lw_r4 : ∀ q ∈ lw_privs_4, lw_okq q := List.forall_mem_cons.mpr ⟨lw_p48, List.forall_mem_cons.mpr ⟨lw_p49, List.forall_mem_cons.mpr ⟨lw_p50, fun _ h => absurd h List.not_mem_nil⟩⟩⟩
def lw_privs : List (MethodName × Nat) := lw_privs_1 ++ (lw_privs_2 ++ (lw_privs_3 ++ (lw_privs_4)))
def lw_tbl : List Cond := k2_sels lw_privs ++ tables_1
theorem lw_privs_ok : ∀ q ∈ lw_privs, lw_okq q := by
  show ∀ q ∈ lw_privs_1 ++ (lw_privs_2 ++ (lw_privs_3 ++ (lw_privs_4))), lw_okq q
  exact List.forall_mem_append.mpr ⟨lw_r1, List.forall_mem_append.mpr ⟨lw_r2, List.forall_mem_append.mpr ⟨lw_r3, lw_r4⟩⟩⟩
end
section
theorem ts_t {α : Type} {c : Prop} [Decidable c] {a b : Option α} {r : α} (h : (if c then a else b) = some r) (hc : c) : a = some r := by rw [if_pos hc] at h; exact h
theorem ts_f {α : Type} {c : Prop} [Decidable c] {a b : Option α} {r : α} (h : (if c then a else b) = some r) (hc : ¬ c) : b = some r := by rw [if_neg hc] at h; exact h
theorem ts_g {α : Type} {c : Prop} [Decidable c] {a : Option α} {r : α} (h : (if c then none else a) = some r) : ¬ c ∧ a = some r := by
  by_cases hc : c
  · rw [if_pos hc] at h; cases h
  · rw [if_neg hc] at h; exact ⟨hc, h⟩
theorem ts_b {α β : Type} {o : Option α} {f : α → Option β} {b : β} (h : o.bind f = some b) : ∃ a, o = some a ∧ f a = some b := Option.bind_eq_some_iff.mp h
/-- the words that a call hands on: all of the tables that keep -/
def gw : List Cond := lw_tbl.filter goodWord
theorem gw_good : ∀ w ∈ gw, goodWord w = true := fun w h => (List.mem_filter.mp h).2
theorem gw_in {w : Cond} (i : Nat) (h : lw_tbl[i]? = some w) (hg : goodWord w = true) : w ∈ gw := List.mem_filter.mpr ⟨List.mem_of_getElem? h, hg⟩
theorem gw_GI {c : Cond} (hc : c ∈ gw) : GoodIn gw (c :: gw) := fun w hw => by
  have hm : w ∈ gw := (List.mem_cons.mp hw).elim (fun e => e ▸ hc) id
  exact ⟨hm, good_of_word (gw_good w hm)⟩
def is_nest : Cond → Bool
  | .fieldLinkNest .. => true
  | .methodLinkNest .. => true
  | _ => false
def nestw : List Cond := tables_1.filter is_nest
theorem nest_onT {w : Cond} (h : is_nest w = true) : w.onTables = true := by
  cases w <;> first | rfl | (simp [is_nest] at h)
theorem nest_warm {w : Cond} (h : is_nest w = true) {s U : State} (hW : s.WarmedH U.vm) (hZ : va_Nw w s) : va_Nw w U := by
  cases w <;> first | exact va_Nw.warmF hW hZ | exact va_Nw.warmM hW hZ | (simp [is_nest] at h)
/-- an array of counts, and of rows -/
def up2 (av : Nat → Nat → Int32) (k i : Nat) (x : Int32) : Nat → Nat → Int32 := fun a => if a = k then upd (av k) i x else av a
theorem va_D_map {A : Nat → Prop} {ws ws' : va_W} (e : ws.map Prod.fst = ws'.map Prod.fst) (h : va_D A ws) : va_D A ws' := by
  have key : ∀ (k : Nat) (q : Nat × va_E), ws'[k]? = some q → ∃ q0, ws[k]? = some q0 ∧ q0.1 = q.1 := by
    intro k q hk
    have h1 : (ws'.map Prod.fst)[k]? = some q.1 := by rw [List.getElem?_map, hk]; rfl
    rw [← e, List.getElem?_map] at h1
    cases hq : ws[k]? with
    | none => rw [hq] at h1; cases h1
    | some q0 => rw [hq] at h1; exact ⟨q0, rfl, Option.some.inj h1⟩
  refine ⟨fun i j x y hi hj hxy => ?_, fun k q hk => ?_⟩
  · obtain ⟨x0, h1, h2⟩ := key i x hi
    obtain ⟨y0, h3, h4⟩ := key j y hj
    exact h.1 i j x0 y0 h1 h3 (h2.trans (hxy.trans h4.symm))
  · obtain ⟨q0, h1, h2⟩ := key k q hk
    rw [← h2]; exact h.2 k q0 h1
theorem va_A_map {ws ws' : va_W} {sz : Nat} (e : ws.map Prod.fst = ws'.map Prod.fst) : va_A ws sz = va_A ws' sz := by
  have key : ∀ {a b : va_W}, a.map Prod.fst = b.map Prod.fst → ∀ q, va_A a sz q → va_A b sz q := by
    intro a b e q h
    rcases h with ⟨k, x, h⟩ | h
    · have h1 : (a.map Prod.fst)[k]? = some q := by rw [List.getElem?_map, h]; rfl
      rw [e, List.getElem?_map] at h1
      cases hq : b[k]? with
      | none => rw [hq] at h1; cases h1
      | some q0 =>
        rw [hq] at h1
        obtain ⟨z, w⟩ := q0
        have hz : z = q := Option.some.inj h1
        subst hz
        exact Or.inl ⟨k, w, hq⟩
    · exact Or.inr h
  funext q
  exact propext ⟨key e q, key e.symm q⟩

def R_Bytes : String := "MidiDesk$Bytes"
def F_Bytes : u_T := fun k => match k with
  | 0 => ("MidiDesk$Bytes", "most", "I", true)
  | 1 => ("MidiDesk$Bytes", "row", "[I", false)
  | _ => ("MidiDesk$Bytes", "size", "I", false)
def t_Bytes : Nat → FieldType := fun k => match k with
  | 0 => .int
  | 1 => .array .int
  | _ => .int
theorem n_Bytes : ∀ a, a < 3 → ∀ b, b < 3 → a ≠ b → (F_Bytes a).2.1 ≠ (F_Bytes b).2.1 := by decide +kernel
theorem t_Bytes_ok : ∀ k, k < 3 → parseFieldDescriptor (F_Bytes k).2.2.1 = some (t_Bytes k) := by decide +kernel
def R_Event : String := "MidiDesk$Event"
def F_Event : u_T := fun k => match k with
  | 0 => ("MidiDesk$Event", "tick", "I", false)
  | 1 => ("MidiDesk$Event", "track", "I", false)
  | 2 => ("MidiDesk$Event", "status", "I", false)
  | 3 => ("MidiDesk$Event", "first", "I", false)
  | 4 => ("MidiDesk$Event", "second", "I", false)
  | 5 => ("MidiDesk$Event", "start", "I", false)
  | _ => ("MidiDesk$Event", "size", "I", false)
def t_Event : Nat → FieldType := fun k => match k with
  | 0 => .int
  | 1 => .int
  | 2 => .int
  | 3 => .int
  | 4 => .int
  | 5 => .int
  | _ => .int
theorem n_Event : ∀ a, a < 7 → ∀ b, b < 7 → a ≠ b → (F_Event a).2.1 ≠ (F_Event b).2.1 := by decide +kernel
theorem t_Event_ok : ∀ k, k < 7 → parseFieldDescriptor (F_Event k).2.2.1 = some (t_Event k) := by decide +kernel
def R_Parser : String := "MidiDesk$Parser"
def F_Parser : u_T := fun k => match k with
  | 0 => ("MidiDesk$Parser", "input", "LMidiDesk$Bytes;", true)
  | 1 => ("MidiDesk$Parser", "score", "LMidiDesk$Score;", true)
  | 2 => ("MidiDesk$Parser", "pos", "I", false)
  | 3 => ("MidiDesk$Parser", "end", "I", false)
  | 4 => ("MidiDesk$Parser", "fault", "I", false)
  | 5 => ("MidiDesk$Parser", "tracksSeen", "I", false)
  | 6 => ("MidiDesk$Parser", "tick", "I", false)
  | 7 => ("MidiDesk$Parser", "running", "I", false)
  | 8 => ("MidiDesk$Parser", "ended", "Z", false)
  | 9 => ("MidiDesk$Parser", "first", "I", false)
  | 10 => ("MidiDesk$Parser", "second", "I", false)
  | 11 => ("MidiDesk$Parser", "start", "I", false)
  | _ => ("MidiDesk$Parser", "size", "I", false)
def t_Parser : Nat → FieldType := fun k => match k with
  | 0 => .object "MidiDesk$Bytes"
  | 1 => .object "MidiDesk$Score"
  | 2 => .int
  | 3 => .int
  | 4 => .int
  | 5 => .int
  | 6 => .int
  | 7 => .int
  | 8 => .boolean
  | 9 => .int
  | 10 => .int
  | 11 => .int
  | _ => .int
theorem n_Parser : ∀ a, a < 13 → ∀ b, b < 13 → a ≠ b → (F_Parser a).2.1 ≠ (F_Parser b).2.1 := by decide +kernel
theorem t_Parser_ok : ∀ k, k < 13 → parseFieldDescriptor (F_Parser k).2.2.1 = some (t_Parser k) := by decide +kernel
def R_Printer : String := "MidiDesk$Printer"
def F_Printer : u_T := fun k => match k with
  | 0 => ("MidiDesk$Printer", "score", "LMidiDesk$Score;", true)
  | 1 => ("MidiDesk$Printer", "output", "LMidiDesk$Bytes;", true)
  | 2 => ("MidiDesk$Printer", "brief", "Z", true)
  | 3 => ("MidiDesk$Printer", "tick", "I", false)
  | _ => ("MidiDesk$Printer", "running", "I", false)
def t_Printer : Nat → FieldType := fun k => match k with
  | 0 => .object "MidiDesk$Score"
  | 1 => .object "MidiDesk$Bytes"
  | 2 => .boolean
  | 3 => .int
  | _ => .int
theorem n_Printer : ∀ a, a < 5 → ∀ b, b < 5 → a ≠ b → (F_Printer a).2.1 ≠ (F_Printer b).2.1 := by decide +kernel
theorem t_Printer_ok : ∀ k, k < 5 → parseFieldDescriptor (F_Printer k).2.2.1 = some (t_Printer k) := by decide +kernel
def R_Score : String := "MidiDesk$Score"
def F_Score : u_T := fun k => match k with
  | 0 => ("MidiDesk$Score", "data", "LMidiDesk$Bytes;", true)
  | 1 => ("MidiDesk$Score", "present", "Z", false)
  | 2 => ("MidiDesk$Score", "format", "I", false)
  | 3 => ("MidiDesk$Score", "tracks", "I", false)
  | 4 => ("MidiDesk$Score", "division", "I", false)
  | 5 => ("MidiDesk$Score", "row", "[LMidiDesk$Event;", false)
  | 6 => ("MidiDesk$Score", "spare", "[LMidiDesk$Event;", false)
  | _ => ("MidiDesk$Score", "size", "I", false)
def t_Score : Nat → FieldType := fun k => match k with
  | 0 => .object "MidiDesk$Bytes"
  | 1 => .boolean
  | 2 => .int
  | 3 => .int
  | 4 => .int
  | 5 => .array (.object "MidiDesk$Event")
  | 6 => .array (.object "MidiDesk$Event")
  | _ => .int
theorem n_Score : ∀ a, a < 8 → ∀ b, b < 8 → a ≠ b → (F_Score a).2.1 ≠ (F_Score b).2.1 := by decide +kernel
theorem t_Score_ok : ∀ k, k < 8 → parseFieldDescriptor (F_Score k).2.2.1 = some (t_Score k) := by decide +kernel
def R_Desk : String := "MidiDesk"
def F_Desk : u_T := fun k => match k with
  | 0 => ("MidiDesk", "input", "LMidiDesk$Bytes;", true)
  | 1 => ("MidiDesk", "output", "LMidiDesk$Bytes;", true)
  | _ => ("MidiDesk", "score", "LMidiDesk$Score;", true)
def t_Desk : Nat → FieldType := fun k => match k with
  | 0 => .object "MidiDesk$Bytes"
  | 1 => .object "MidiDesk$Bytes"
  | _ => .object "MidiDesk$Score"
theorem n_Desk : ∀ a, a < 3 → ∀ b, b < 3 → a ≠ b → (F_Desk a).2.1 ≠ (F_Desk b).2.1 := by decide +kernel
theorem t_Desk_ok : ∀ k, k < 3 → parseFieldDescriptor (F_Desk k).2.2.1 = some (t_Desk k) := by decide +kernel
def R_Model : String := "MidiDeskModel"
def F_Model : u_T := fun k => match k with
  | 0 => ("MidiDeskModel", "thrown", "I", false)
  | 1 => ("MidiDeskModel", "input", "[I", true)
  | 2 => ("MidiDeskModel", "size", "I", false)
  | 3 => ("MidiDeskModel", "at", "I", false)
  | 4 => ("MidiDeskModel", "end", "I", false)
  | 5 => ("MidiDeskModel", "fault", "I", false)
  | 6 => ("MidiDeskModel", "place", "I", false)
  | 7 => ("MidiDeskModel", "there", "Z", false)
  | 8 => ("MidiDeskModel", "format", "I", false)
  | 9 => ("MidiDeskModel", "tracks", "I", false)
  | 10 => ("MidiDeskModel", "division", "I", false)
  | 11 => ("MidiDeskModel", "events", "I", false)
  | 12 => ("MidiDeskModel", "many", "I", false)
  | 13 => ("MidiDeskModel", "ticks", "[I", true)
  | 14 => ("MidiDeskModel", "trackOf", "[I", true)
  | 15 => ("MidiDeskModel", "status", "[I", true)
  | 16 => ("MidiDeskModel", "first", "[I", true)
  | 17 => ("MidiDeskModel", "second", "[I", true)
  | 18 => ("MidiDeskModel", "from", "[I", true)
  | 19 => ("MidiDeskModel", "counts", "[I", true)
  | 20 => ("MidiDeskModel", "order", "[I", true)
  | 21 => ("MidiDeskModel", "spare", "[I", true)
  | 22 => ("MidiDeskModel", "bytes", "[I", true)
  | 23 => ("MidiDeskModel", "written", "[I", true)
  | _ => ("MidiDeskModel", "writtenSize", "I", false)
def t_Model : Nat → FieldType := fun k => match k with
  | 0 => .int
  | 1 => .array .int
  | 2 => .int
  | 3 => .int
  | 4 => .int
  | 5 => .int
  | 6 => .int
  | 7 => .boolean
  | 8 => .int
  | 9 => .int
  | 10 => .int
  | 11 => .int
  | 12 => .int
  | 13 => .array .int
  | 14 => .array .int
  | 15 => .array .int
  | 16 => .array .int
  | 17 => .array .int
  | 18 => .array .int
  | 19 => .array .int
  | 20 => .array .int
  | 21 => .array .int
  | 22 => .array .int
  | 23 => .array .int
  | _ => .int
theorem n_Model : ∀ a, a < 25 → ∀ b, b < 25 → a ≠ b → (F_Model a).2.1 ≠ (F_Model b).2.1 := by decide +kernel
theorem t_Model_ok : ∀ k, k < 25 → parseFieldDescriptor (F_Model k).2.2.1 = some (t_Model k) := by decide +kernel
abbrev classes : List vw_C := [(R_Bytes, F_Bytes, 3), (R_Event, F_Event, 7), (R_Parser, F_Parser, 13), (R_Printer, F_Printer, 5), (R_Score, F_Score, 8), (R_Desk, F_Desk, 3), (R_Model, F_Model, 25)]
/-- the classes' numbers and slots, and the numbers of the array classes int[], long[], Event[] -/
abbrev gT : Type := va_G × ClassId × ClassId × ClassId
def kK (g : gT) (U : State) : Prop := va_K g.1 classes [(g.2.1, .int), (g.2.2.1, .long), (g.2.2.2, .object "MidiDesk$Event")] U ∧ (∀ w ∈ nestw, va_Nw w U) ∧ va_AO "MidiDesk$Event" U
theorem kK.moved {g : gT} {s U : State} (hW : s.WarmedH U.vm) (h : kK g s) : kK g U := ⟨va_K.moved hW.alike h.1, fun w hw => nest_warm (List.mem_filter.mp hw).2 hW (h.2.1 w hw), h.2.2.moved hW.alike⟩
theorem kK.same {g : gT} {s U : State} (e : s.vm = U.vm) (h : kK g s) : kK g U := ⟨va_K.moved (by rw [← e]; exact Vm.Alike.refl s.vm) h.1, fun w hw => va_Nw.same (nest_onT (List.mem_filter.mp hw).2) e (h.2.1 w hw), h.2.2.moved (by rw [← e]; exact Vm.Alike.refl s.vm)⟩
section CX
variable {p : Program} {l : Launch} {e : Env} {R : Room} {s : State} {m : MethodId} {args : Array Value} {below : List Frame} {meth : Method} {c : Code} {H : Heap} {locs : List Loc} {cells slots : Nat} {Q : State → Prop}
abbrev mCx (p : Program) (m : MethodId) (c : Code) (cc : ByteArray) (nL : Nat) (s : State) (args : Array Value) (g : gT) (own : String) : Prop := CallFix p m c cc nL s args gw own ∧ kK g s
theorem callW_of {own C : String} {index maxL : Nat} {y : MethodName} {bytes : ByteArray} {ret : Option FieldType} {rm : Room} (n : Nat) (ht : ∀ w ∈ gw, w.before args s = true) (h1 : Cond.methodLink own index y ∈ gw) (h2 : Cond.instanceMethod y ∈ gw) (h3 : Cond.selects C y y ∈ gw) (h4 : Cond.initialized y.cls ∈ gw) (h5 : Cond.code y bytes maxL ret ∈ gw)
    (hd : y.cls ≠ "java/lang/invoke/MethodHandle" ∧ y.cls ≠ "java/lang/invoke/VarHandle" ∧ (parseMethodDescriptor y.desc).map (fun d => d.parameters.length) = some n) (hR : rm.frames + 1 ≤ R.frames ∧ 8 + (maxL + 11) + rm.locals ≤ R.locals) :
    CallW R s args own C index y bytes maxL ret (Cond.code y bytes maxL ret :: gw) rm rm.cells rm.slots n :=
  ⟨callB_of n ht (gw_GI h5) rfl rfl rfl (ht _ h4) (ht _ h1) hd hR, ht _ h2, ht _ h3⟩
theorem callS_of {own : String} {index maxL : Nat} {y : MethodName} {bytes : ByteArray} {ret : Option FieldType} {rm : Room} (n : Nat) (ht : ∀ w ∈ gw, w.before args s = true) (h1 : Cond.methodLink own index y ∈ gw) (h2 : Cond.static y ∈ gw) (h4 : Cond.initialized y.cls ∈ gw) (h5 : Cond.code y bytes maxL ret ∈ gw)
    (hd : y.cls ≠ "java/lang/invoke/MethodHandle" ∧ y.cls ≠ "java/lang/invoke/VarHandle" ∧ (parseMethodDescriptor y.desc).map (fun d => d.parameters.length) = some n) (hR : rm.frames + 1 ≤ R.frames ∧ 8 + (maxL + 11) + rm.locals ≤ R.locals) :
    CallB R s args own index y bytes maxL ret (Cond.code y bytes maxL ret :: gw) rm rm.cells rm.slots n ∧ (Cond.static y).before args s = true :=
  ⟨callB_of n ht (gw_GI h5) rfl rfl rfl (ht _ h4) (ht _ h1) hd hR, ht _ h2⟩
variable {pc : Nat} {ls : Array Slot} {rest st0 : List Value} {A0 A1 : Nat → Prop} {H0 : Heap} {mc ms : Nat} {free : Addr → Prop}
theorem x_call {rv : Option Value} {B : Heap → Prop} (hr : va_Run p l e R s m args below meth c H locs cells slots mc ms (F0 m pc ls st0) rest (fun st oc t => (oc = .returned rv ∧ B t.heap) ∧ va_F A1 st t) free) (hS : va_S A0 H0 H locs) (hA : ∀ q, q < H.size → A1 q → A0 q) (hf : ∀ q, free q → A0 q)
    (kk : ∀ (H1 : Heap) (locs1 : List Loc), B H1 → va_S A0 H0 H1 locs1 → W p l e R s m args below meth c H1 locs1 (cells + mc) (slots + ms) Q (F0 m (pc + 3) ls (rv.toList ++ rest))) : W p l e R s m args below meth c H locs cells slots Q (F0 m pc ls st0) := by
  intro T hT X
  obtain ⟨v, st₀, t, T', L, h0, X', hL, e1, e2, ⟨⟨hv, hb⟩, hz, hk⟩, st⟩ := hr T hT X
  cases hv
  rw [h0] at hz hk
  obtain ⟨t2, a1, b1⟩ := kk T'.heap (locs ++ L) (by rw [e1]; exact hb)
    ⟨Nat.le_trans hS.1 (by rw [e1]; exact hz), fun q h1 h2 => by rw [e1, hk q (Nat.lt_of_lt_of_le h1 hS.1) (fun z => h2 (hA q (Nat.lt_of_lt_of_le h1 hS.1) z))]; exact hS.2.1 q h1 h2, fun q hq => by
      rcases List.mem_append.mp hq with h | h
      · exact hS.2.2 q h
      · exact hf _ (hL q h)⟩ T' rfl X'
  exact ⟨t2, st t2 a1, b1⟩
end CX
end
section
/-- the reference's cells: iv its int fields (0 thrown, 1 size, 2 at, 3 end, 4 fault, 5 place, 6 there, 7 format, 8 tracks, 9 division, 10 events, 11 many, 12 writtenSize), av its arrays (0 input, 1 ticks, 2 trackOf, 3 status, 4 first, 5 second, 6 from, 7 counts, 8 order, 9 spare, 10 bytes, 11 written) -/
def mfs (ad : Nat → Nat) (iv : Nat → Int32) : List Value := [.int (iv 0), .ref (ad 0), .int (iv 1), .int (iv 2), .int (iv 3), .int (iv 4), .int (iv 5), .int (iv 6), .int (iv 7), .int (iv 8), .int (iv 9), .int (iv 10), .int (iv 11), .ref (ad 1), .ref (ad 2), .ref (ad 3), .ref (ad 4), .ref (ad 5), .ref (ad 6), .ref (ad 7), .ref (ad 8), .ref (ad 9), .ref (ad 10), .ref (ad 11), .int (iv 12)]
def mw (g : gT) (q : Nat) (ad : Nat → Nat) (iv : Nat → Int32) (av : Nat → Nat → Int32) (X : va_W) : va_W := (q, .inr (6, mfs ad iv)) :: (ad 0, .inl (g.2.1, 12000, .inl (av 0))) :: (ad 1, .inl (g.2.1, 1001, .inl (av 1))) :: (ad 2, .inl (g.2.1, 1001, .inl (av 2))) :: (ad 3, .inl (g.2.1, 1001, .inl (av 3))) :: (ad 4, .inl (g.2.1, 1001, .inl (av 4))) :: (ad 5, .inl (g.2.1, 1001, .inl (av 5))) :: (ad 6, .inl (g.2.1, 1001, .inl (av 6))) :: (ad 7, .inl (g.2.1, 1001, .inl (av 7))) :: (ad 8, .inl (g.2.1, 1001, .inl (av 8))) :: (ad 9, .inl (g.2.1, 1001, .inl (av 9))) :: (ad 10, .inl (g.2.1, 20100, .inl (av 10))) :: (ad 11, .inl (g.2.1, 32768, .inl (av 11))) :: X
def mWd (g : gT) (A : Nat → Prop) (H0 : Heap) (q : Nat) (ad : Nat → Nat) (X : va_W) (iv : Nat → Int32) (av : Nat → Nat → Int32) (H : Heap) (locs : List Loc) : Prop := va_P g.1 classes (mw g q ad iv av X) H ∧ va_D A (mw g q ad iv av X) ∧ va_S A H0 H locs ∧ ∀ z, H0.size ≤ z → A z
theorem mw_map {g : gT} {q : Nat} {ad : Nat → Nat} {iv iv' : Nat → Int32} {av av' : Nat → Nat → Int32} {X : va_W} : (mw g q ad iv av X).map Prod.fst = (mw g q ad iv' av' X).map Prod.fst := rfl
abbrev mA (g : gT) (q : Nat) (ad : Nat → Nat) (X : va_W) (sz : Nat) : Nat → Prop := va_A (mw g q ad (fun _ => 0) (fun _ _ => 0) X) sz
def mPc (g : gT) (q : Nat) (ad : Nat → Nat) (X : va_W) (iv : Nat → Int32) (av : Nat → Nat → Int32) (vs : List Value) (sz : Nat) : Array Value → State → Prop := va_Pc vs (fun U => U.heap.size = sz ∧ kK g U ∧ va_P g.1 classes (mw g q ad iv av X) U.heap ∧ va_D (fun _ => True) (mw g q ad iv av X))
def mQc (g : gT) (q : Nat) (ad : Nat → Nat) (X : va_W) (rv : Option Value) (iv : Nat → Int32) (av : Nat → Nat → Int32) (sz : Nat) : Array Value → State → Outcome → State → Prop := fun _ st oc t => (oc = .returned rv ∧ va_P g.1 classes (mw g q ad iv av X) t.heap) ∧ va_F (mA g q ad X sz) st t
/-- a method's contract: from the reference's cells iv, av with the arguments vs it returns rv, and the cells are iv', av' -/
def mMet (l : Launch) (y : MethodName) (cc : ByteArray) (maxL : Nat) (ret : Option FieldType) (rm : Room) (g : gT) (q : Nat) (ad : Nat → Nat) (X : va_W) (iv : Nat → Int32) (av : Nat → Nat → Int32) (vs : List Value) (rv : Option Value) (iv' : Nat → Int32) (av' : Nat → Nat → Int32) : Prop :=
  ∀ sz : Nat, Met l y (.code y cc maxL ret :: gw) rm (mPc g q ad X iv av vs sz) (mQc g q ad X rv iv' av' sz) rm.cells rm.slots (mA g q ad X sz)
theorem mPc_blind {g : gT} {q : Nat} {ad : Nat → Nat} {X : va_W} {iv : Nat → Int32} {av : Nat → Nat → Int32} {vs : List Value} {sz : Nat} : FrameBlind (mPc g q ad X iv av vs sz) := fun a U gf mk h => ⟨h.1, h.2.1, kK.same (s := U) (U := U.calling gf mk a) rfl h.2.2.1, h.2.2.2.1, h.2.2.2.2⟩
/-- what the end of a walk must come to -/
abbrev mG (p : Program) (l : Launch) (e : Env) (R : Room) (s : State) (m : MethodId) (args : Array Value) (below : List Frame) (meth : Method) (c : Code) (g : gT) (q : Nat) (ad : Nat → Nat) (X : va_W) (rv : Option Value) (iv' : Nat → Int32) (av' : Nat → Nat → Int32) (H : Heap) (locs : List Loc) (cells slots : Nat) (f : JFrame) : Prop :=
  W p l e R s m args below meth c H locs cells slots (MQ below (mQc g q ad X rv iv' av' s.heap.size) args s R.cells R.slots (mA g q ad X s.heap.size)) f
theorem m_entry {l : Launch} {y : MethodName} {cc : ByteArray} {maxL : Nat} {ret : Option FieldType} {rm : Room} {g : gT} {q : Nat} {ad : Nat → Nat} {X : va_W} {iv iv' : Nat → Int32} {av av' : Nat → Nat → Int32} {vs : List Value} {rv : Option Value} (hy : plainName y.cls = true) (hn : (lg_sl vs).length ≤ maxL)
    (body : ∀ (p : Program) (e : Env) (s : State) (m : MethodId) (args : Array Value) (below : List Frame) (meth : Method) (c : Code) (ls : Array Slot), mCx p m c cc maxL s args g y.cls → meth.sig.returnType = ret → meth.locks = false → meth.name = y.name → lv_has ls maxL (lv_args 0 vs) → mWd g (mA g q ad X s.heap.size) s.heap q ad X iv av s.heap [] → mG p l e rm s m args below meth c g q ad X rv iv' av' s.heap [] 0 0 (F0 m 0 ls [])) :
    mMet l y cc maxL ret rm g q ad X iv av vs rv iv' av' := by
  intro sz
  refine Met.ofW (cc := cc) (maxL := maxL) (ret := ret) hy rfl ?_
  intro p e s m args below meth c s₁ B hml hv
  obtain ⟨rfl, hsz, hK, hP, hD0⟩ := hv
  subst hsz
  have hts := atoms_spec (ws := Cond.code y cc maxL ret :: gw) B.pre
  have hown : s.vm.findClass y.cls = some m.cls := findClass_of_methodNamed B.named
  have hl := lv_entry vs (n := maxL) hn
  rw [lg_entry_eq]
  exact body p e s m vs.toArray below meth c _ ⟨⟨B.exec, B.bytes, hml, hown, fun w hw => hts w (List.mem_cons_of_mem _ hw)⟩, hK⟩ B.returns B.notSynchronized (name_of_methodNamed B.named B.method).1 hl ⟨hP, va_D_map mw_map (hD0.self (sz := s.heap.size)) |> (fun h => by rw [show mA g q ad X s.heap.size = va_A (mw g q ad iv av X) s.heap.size from va_A_map mw_map]; exact h), va_S.rf, fun z hz => Or.inr hz⟩

theorem gw_715 : (Jvm.Cond.fieldLink "MidiDeskModel" (47 : Nat) "MidiDeskModel" "thrown" "I") ∈ gw := gw_in 715 (by decide +kernel) (by decide +kernel)
theorem gw_716 : (Jvm.Cond.fieldLink "MidiDeskModel" (7 : Nat) "MidiDeskModel" "input" "[I") ∈ gw := gw_in 716 (by decide +kernel) (by decide +kernel)
theorem gw_717 : (Jvm.Cond.fieldLink "MidiDeskModel" (51 : Nat) "MidiDeskModel" "size" "I") ∈ gw := gw_in 717 (by decide +kernel) (by decide +kernel)
theorem gw_718 : (Jvm.Cond.fieldLink "MidiDeskModel" (62 : Nat) "MidiDeskModel" "at" "I") ∈ gw := gw_in 718 (by decide +kernel) (by decide +kernel)
theorem gw_719 : (Jvm.Cond.fieldLink "MidiDeskModel" (65 : Nat) "MidiDeskModel" "end" "I") ∈ gw := gw_in 719 (by decide +kernel) (by decide +kernel)
theorem gw_720 : (Jvm.Cond.fieldLink "MidiDeskModel" (56 : Nat) "MidiDeskModel" "fault" "I") ∈ gw := gw_in 720 (by decide +kernel) (by decide +kernel)
theorem gw_721 : (Jvm.Cond.fieldLink "MidiDeskModel" (59 : Nat) "MidiDeskModel" "place" "I") ∈ gw := gw_in 721 (by decide +kernel) (by decide +kernel)
theorem gw_722 : (Jvm.Cond.fieldLink "MidiDeskModel" (110 : Nat) "MidiDeskModel" "there" "Z") ∈ gw := gw_in 722 (by decide +kernel) (by decide +kernel)
theorem gw_723 : (Jvm.Cond.fieldLink "MidiDeskModel" (82 : Nat) "MidiDeskModel" "format" "I") ∈ gw := gw_in 723 (by decide +kernel) (by decide +kernel)
theorem gw_724 : (Jvm.Cond.fieldLink "MidiDeskModel" (85 : Nat) "MidiDeskModel" "tracks" "I") ∈ gw := gw_in 724 (by decide +kernel) (by decide +kernel)
theorem gw_725 : (Jvm.Cond.fieldLink "MidiDeskModel" (88 : Nat) "MidiDeskModel" "division" "I") ∈ gw := gw_in 725 (by decide +kernel) (by decide +kernel)
theorem gw_726 : (Jvm.Cond.fieldLink "MidiDeskModel" (95 : Nat) "MidiDeskModel" "events" "I") ∈ gw := gw_in 726 (by decide +kernel) (by decide +kernel)
theorem gw_727 : (Jvm.Cond.fieldLink "MidiDeskModel" (98 : Nat) "MidiDeskModel" "many" "I") ∈ gw := gw_in 727 (by decide +kernel) (by decide +kernel)
theorem gw_728 : (Jvm.Cond.fieldLink "MidiDeskModel" (13 : Nat) "MidiDeskModel" "ticks" "[I") ∈ gw := gw_in 728 (by decide +kernel) (by decide +kernel)
theorem gw_729 : (Jvm.Cond.fieldLink "MidiDeskModel" (16 : Nat) "MidiDeskModel" "trackOf" "[I") ∈ gw := gw_in 729 (by decide +kernel) (by decide +kernel)
theorem gw_730 : (Jvm.Cond.fieldLink "MidiDeskModel" (19 : Nat) "MidiDeskModel" "status" "[I") ∈ gw := gw_in 730 (by decide +kernel) (by decide +kernel)
theorem gw_731 : (Jvm.Cond.fieldLink "MidiDeskModel" (22 : Nat) "MidiDeskModel" "first" "[I") ∈ gw := gw_in 731 (by decide +kernel) (by decide +kernel)
theorem gw_732 : (Jvm.Cond.fieldLink "MidiDeskModel" (25 : Nat) "MidiDeskModel" "second" "[I") ∈ gw := gw_in 732 (by decide +kernel) (by decide +kernel)
theorem gw_733 : (Jvm.Cond.fieldLink "MidiDeskModel" (28 : Nat) "MidiDeskModel" "from" "[I") ∈ gw := gw_in 733 (by decide +kernel) (by decide +kernel)
theorem gw_734 : (Jvm.Cond.fieldLink "MidiDeskModel" (31 : Nat) "MidiDeskModel" "counts" "[I") ∈ gw := gw_in 734 (by decide +kernel) (by decide +kernel)
theorem gw_735 : (Jvm.Cond.fieldLink "MidiDeskModel" (34 : Nat) "MidiDeskModel" "order" "[I") ∈ gw := gw_in 735 (by decide +kernel) (by decide +kernel)
theorem gw_736 : (Jvm.Cond.fieldLink "MidiDeskModel" (37 : Nat) "MidiDeskModel" "spare" "[I") ∈ gw := gw_in 736 (by decide +kernel) (by decide +kernel)
theorem gw_737 : (Jvm.Cond.fieldLink "MidiDeskModel" (40 : Nat) "MidiDeskModel" "bytes" "[I") ∈ gw := gw_in 737 (by decide +kernel) (by decide +kernel)
theorem gw_738 : (Jvm.Cond.fieldLink "MidiDeskModel" (44 : Nat) "MidiDeskModel" "written" "[I") ∈ gw := gw_in 738 (by decide +kernel) (by decide +kernel)
theorem gw_739 : (Jvm.Cond.fieldLink "MidiDeskModel" (187 : Nat) "MidiDeskModel" "writtenSize" "I") ∈ gw := gw_in 739 (by decide +kernel) (by decide +kernel)
theorem gw_740 : (Jvm.Cond.lays "MidiDeskModel" "MidiDeskModel" "thrown" "I") ∈ gw := gw_in 740 (by decide +kernel) (by decide +kernel)
theorem gw_742 : (Jvm.Cond.laysFinal "MidiDeskModel" "MidiDeskModel" "input" "[I") ∈ gw := gw_in 742 (by decide +kernel) (by decide +kernel)
theorem gw_744 : (Jvm.Cond.lays "MidiDeskModel" "MidiDeskModel" "size" "I") ∈ gw := gw_in 744 (by decide +kernel) (by decide +kernel)
theorem gw_746 : (Jvm.Cond.lays "MidiDeskModel" "MidiDeskModel" "at" "I") ∈ gw := gw_in 746 (by decide +kernel) (by decide +kernel)
theorem gw_748 : (Jvm.Cond.lays "MidiDeskModel" "MidiDeskModel" "end" "I") ∈ gw := gw_in 748 (by decide +kernel) (by decide +kernel)
theorem gw_750 : (Jvm.Cond.lays "MidiDeskModel" "MidiDeskModel" "fault" "I") ∈ gw := gw_in 750 (by decide +kernel) (by decide +kernel)
theorem gw_752 : (Jvm.Cond.lays "MidiDeskModel" "MidiDeskModel" "place" "I") ∈ gw := gw_in 752 (by decide +kernel) (by decide +kernel)
theorem gw_754 : (Jvm.Cond.lays "MidiDeskModel" "MidiDeskModel" "there" "Z") ∈ gw := gw_in 754 (by decide +kernel) (by decide +kernel)
theorem gw_756 : (Jvm.Cond.lays "MidiDeskModel" "MidiDeskModel" "format" "I") ∈ gw := gw_in 756 (by decide +kernel) (by decide +kernel)
theorem gw_758 : (Jvm.Cond.lays "MidiDeskModel" "MidiDeskModel" "tracks" "I") ∈ gw := gw_in 758 (by decide +kernel) (by decide +kernel)
theorem gw_760 : (Jvm.Cond.lays "MidiDeskModel" "MidiDeskModel" "division" "I") ∈ gw := gw_in 760 (by decide +kernel) (by decide +kernel)
theorem gw_762 : (Jvm.Cond.lays "MidiDeskModel" "MidiDeskModel" "events" "I") ∈ gw := gw_in 762 (by decide +kernel) (by decide +kernel)
theorem gw_764 : (Jvm.Cond.lays "MidiDeskModel" "MidiDeskModel" "many" "I") ∈ gw := gw_in 764 (by decide +kernel) (by decide +kernel)
theorem gw_766 : (Jvm.Cond.laysFinal "MidiDeskModel" "MidiDeskModel" "ticks" "[I") ∈ gw := gw_in 766 (by decide +kernel) (by decide +kernel)
theorem gw_768 : (Jvm.Cond.laysFinal "MidiDeskModel" "MidiDeskModel" "trackOf" "[I") ∈ gw := gw_in 768 (by decide +kernel) (by decide +kernel)
theorem gw_770 : (Jvm.Cond.laysFinal "MidiDeskModel" "MidiDeskModel" "status" "[I") ∈ gw := gw_in 770 (by decide +kernel) (by decide +kernel)
theorem gw_772 : (Jvm.Cond.laysFinal "MidiDeskModel" "MidiDeskModel" "first" "[I") ∈ gw := gw_in 772 (by decide +kernel) (by decide +kernel)
theorem gw_774 : (Jvm.Cond.laysFinal "MidiDeskModel" "MidiDeskModel" "second" "[I") ∈ gw := gw_in 774 (by decide +kernel) (by decide +kernel)
theorem gw_776 : (Jvm.Cond.laysFinal "MidiDeskModel" "MidiDeskModel" "from" "[I") ∈ gw := gw_in 776 (by decide +kernel) (by decide +kernel)
theorem gw_778 : (Jvm.Cond.laysFinal "MidiDeskModel" "MidiDeskModel" "counts" "[I") ∈ gw := gw_in 778 (by decide +kernel) (by decide +kernel)
theorem gw_780 : (Jvm.Cond.laysFinal "MidiDeskModel" "MidiDeskModel" "order" "[I") ∈ gw := gw_in 780 (by decide +kernel) (by decide +kernel)
theorem gw_782 : (Jvm.Cond.laysFinal "MidiDeskModel" "MidiDeskModel" "spare" "[I") ∈ gw := gw_in 782 (by decide +kernel) (by decide +kernel)
theorem gw_784 : (Jvm.Cond.laysFinal "MidiDeskModel" "MidiDeskModel" "bytes" "[I") ∈ gw := gw_in 784 (by decide +kernel) (by decide +kernel)
theorem gw_786 : (Jvm.Cond.laysFinal "MidiDeskModel" "MidiDeskModel" "written" "[I") ∈ gw := gw_in 786 (by decide +kernel) (by decide +kernel)
theorem gw_788 : (Jvm.Cond.lays "MidiDeskModel" "MidiDeskModel" "writtenSize" "I") ∈ gw := gw_in 788 (by decide +kernel) (by decide +kernel)
theorem i_Model : ∀ w ∈ u_ws R_Model F_Model 25, w ∈ gw := List.forall_mem_cons.mpr ⟨gw_740, List.forall_mem_cons.mpr ⟨gw_742, List.forall_mem_cons.mpr ⟨gw_744, List.forall_mem_cons.mpr ⟨gw_746, List.forall_mem_cons.mpr ⟨gw_748, List.forall_mem_cons.mpr ⟨gw_750, List.forall_mem_cons.mpr ⟨gw_752, List.forall_mem_cons.mpr ⟨gw_754, List.forall_mem_cons.mpr ⟨gw_756, List.forall_mem_cons.mpr ⟨gw_758, List.forall_mem_cons.mpr ⟨gw_760, List.forall_mem_cons.mpr ⟨gw_762, List.forall_mem_cons.mpr ⟨gw_764, List.forall_mem_cons.mpr ⟨gw_766, List.forall_mem_cons.mpr ⟨gw_768, List.forall_mem_cons.mpr ⟨gw_770, List.forall_mem_cons.mpr ⟨gw_772, List.forall_mem_cons.mpr ⟨gw_774, List.forall_mem_cons.mpr ⟨gw_776, List.forall_mem_cons.mpr ⟨gw_778, List.forall_mem_cons.mpr ⟨gw_780, List.forall_mem_cons.mpr ⟨gw_782, List.forall_mem_cons.mpr ⟨gw_784, List.forall_mem_cons.mpr ⟨gw_786, List.forall_mem_cons.mpr ⟨gw_788, fun _ h => absurd h List.not_mem_nil⟩⟩⟩⟩⟩⟩⟩⟩⟩⟩⟩⟩⟩⟩⟩⟩⟩⟩⟩⟩⟩⟩⟩⟩⟩
section MR
variable {p : Program} {l : Launch} {e : Env} {R : Room} {s : State} {m : MethodId} {args : Array Value} {below : List Frame} {meth : Method} {c : Code} {H : Heap} {locs : List Loc} {cells slots : Nat} {Q : State → Prop} {cc : ByteArray} {nL pc : Nat} {ls : Array Slot} {rest : List Value} {g : gT} {A : Nat → Prop} {H0 : Heap} {q : Nat} {ad : Nat → Nat} {X : va_W} {iv : Nat → Int32} {av : Nat → Nat → Int32}
theorem m_free {sz : Nat} (hw : mWd g A H0 q ad X iv av H locs) (hs : H.size = sz) : ∀ z, mA g q ad X sz z → A z := by
  subst hs
  intro z hz
  rcases hz with ⟨k, x, h⟩ | h
  · have e : (mw g q ad (fun _ => 0) (fun _ _ => 0) X).map Prod.fst = (mw g q ad iv av X).map Prod.fst := mw_map
    have h1 : ((mw g q ad iv av X).map Prod.fst)[k]? = some z := by rw [← e, List.getElem?_map, h]; rfl
    rw [List.getElem?_map] at h1
    cases hq : (mw g q ad iv av X)[k]? with
    | none => rw [hq] at h1; cases h1
    | some q0 =>
      rw [hq] at h1
      have := hw.2.1.2 k q0 hq
      rw [Option.some.inj h1] at this
      exact this
  · exact hw.2.2.2 z (Nat.le_trans hw.2.2.1.1 h)
theorem m_pre {vs : List Value} (hk : kK g s) (hw : mWd g A H0 q ad X iv av H locs) : ∀ U : State, U.heap = H → s.WarmedH U.vm → mPc g q ad X iv av vs H.size vs.toArray U := fun U hU hW => ⟨rfl, by rw [hU], kK.moved hW hk, by rw [hU]; exact hw.1, hw.2.1.weaken (fun _ _ _ _ => trivial)⟩
theorem m_recv (hk : kK g s) (hw : mWd g A H0 q ad X iv av H locs) : ∃ cellB : Cell, H[q]? = some cellB ∧ cellB.vm.isStatics = false ∧ s.vm.findClass "MidiDeskModel" = some cellB.cls := va_recv (ci := 6) (q0 := 0) hk.1 hw.1 rfl rfl
/-- a call of one of the reference's own methods -/
theorem m_callV {y : MethodName} {bytes : ByteArray} {maxL index n : Nat} {ret : Option FieldType} {rm : Room} {As : List Value} {rv : Option Value} {iv' : Nat → Int32} {av' : Nat → Nat → Int32} {st0 : List Value} (C : mCx p m c cc nL s args g "MidiDeskModel") (hl : ls.size = nL) (hw : mWd g A H0 q ad X iv av H locs)
    (hM : mMet l y bytes maxL ret rm g q ad X iv av (.ref q :: As) rv iv' av') (cw : CallW R s args "MidiDeskModel" "MidiDeskModel" index y bytes maxL ret (Cond.code y bytes maxL ret :: gw) rm rm.cells rm.slots n)
    (hn : As.length = n) (hst : st0 = As.reverse ++ .ref q :: rest) (hr : (rest.map fun v => v.category).sum ≤ 8) (hdg : decode cc pc = .ok (.invokevirtual index, 3)) (hf : cells + rm.cells ≤ R.cells ∧ slots + rm.slots ≤ R.slots)
    (kk : ∀ (H1 : Heap) (locs1 : List Loc), mWd g A H0 q ad X iv' av' H1 locs1 → W p l e R s m args below meth c H1 locs1 (cells + rm.cells) (slots + rm.slots) Q (F0 m (pc + 3) ls (rv.toList ++ rest))) : W p l e R s m args below meth c H locs cells slots Q (F0 m pc ls st0) := by
  refine x_call (B := fun h => va_P g.1 classes (mw g q ad iv' av' X) h) (rv := rv) (va_runV (As := As) (rest := rest) C.1 (hM H.size) cw ⟨mPc_blind, m_recv C.2 hw, m_pre C.2 hw⟩ rfl hn hl hst (lv_room hr) hdg hf) hw.2.2.1 (fun z _ h => m_free hw rfl z h) (m_free hw rfl) (fun H1 locs1 hB hS => kk H1 locs1 ⟨hB, va_D_map mw_map hw.2.1, hS, hw.2.2.2⟩)
theorem m_callS {y : MethodName} {bytes : ByteArray} {maxL index n : Nat} {ret : Option FieldType} {rm : Room} {As : List Value} {rv : Option Value} {iv' : Nat → Int32} {av' : Nat → Nat → Int32} {st0 : List Value} (C : mCx p m c cc nL s args g "MidiDeskModel") (hl : ls.size = nL) (hw : mWd g A H0 q ad X iv av H locs)
    (hM : mMet l y bytes maxL ret rm g q ad X iv av As rv iv' av') (cw : CallB R s args "MidiDeskModel" index y bytes maxL ret (Cond.code y bytes maxL ret :: gw) rm rm.cells rm.slots n ∧ (Cond.static y).before args s = true)
    (hn : As.length = n) (hst : st0 = As.reverse ++ rest) (hr : (rest.map fun v => v.category).sum ≤ 8) (hdg : decode cc pc = .ok (.invokestatic index, 3)) (hf : cells + rm.cells ≤ R.cells ∧ slots + rm.slots ≤ R.slots)
    (kk : ∀ (H1 : Heap) (locs1 : List Loc), mWd g A H0 q ad X iv' av' H1 locs1 → W p l e R s m args below meth c H1 locs1 (cells + rm.cells) (slots + rm.slots) Q (F0 m (pc + 3) ls (rv.toList ++ rest))) : W p l e R s m args below meth c H locs cells slots Q (F0 m pc ls st0) := by
  refine x_call (B := fun h => va_P g.1 classes (mw g q ad iv' av' X) h) (rv := rv) (va_runS (As := As) (rest := rest) C.1 (hM H.size) cw ⟨mPc_blind, m_pre C.2 hw⟩ rfl hn hl hst (lv_room hr) hdg hf) hw.2.2.1 (fun z _ h => m_free hw rfl z h) (m_free hw rfl) (fun H1 locs1 hB hS => kk H1 locs1 ⟨hB, va_D_map mw_map hw.2.1, hS, hw.2.2.2⟩)

theorem mg_thrown (C : mCx p m c cc nL s args g "MidiDeskModel") (hw : mWd g A H0 q ad X iv av H locs) (hdg : decode cc pc = .ok (.getfield 47, 3)) (kk : W p l e R s m args below meth c H locs cells slots Q (F0 m (pc + 3) ls (.int (iv 0) :: rest))) : W p l e R s m args below meth c H locs cells slots Q (F0 m pc ls (.ref q :: rest)) :=
  va_get (ci := 6) (C := R_Model) (T := F_Model) (N := 25) C.1.1 C.1.2.1 C.1.2.2.2.2 i_Model C.1.2.2.2.1 C.2.1 hw.1 0 rfl rfl 0 (by decide) (C.1.2.2.2.2 _ gw_715) (fun _ h => h) rfl hdg kk
theorem mp_thrown {x : Int32} (C : mCx p m c cc nL s args g "MidiDeskModel") (hw : mWd g A H0 q ad X iv av H locs) (hdg : decode cc pc = .ok (.putfield 47, 3)) (kk : ∀ (H1 : Heap) (locs1 : List Loc), mWd g A H0 q ad X (upd iv 0 x) av H1 locs1 → W p l e R s m args below meth c H1 locs1 cells slots Q (F0 m (pc + 3) ls rest)) : W p l e R s m args below meth c H locs cells slots Q (F0 m pc ls (.int x :: .ref q :: rest)) :=
  va_put (ci := 6) (ty := .int) (v := .int x) (C := R_Model) (T := F_Model) (N := 25) C.1.1 C.1.2.1 C.1.2.2.2.2 i_Model t_Model t_Model_ok n_Model C.1.2.2.2.1 C.2.1 hw.1 hw.2.1 hw.2.2.1 0 rfl rfl 0 (by decide) (C.1.2.2.2.2 _ gw_715) (fun _ h => h) rfl (by decide +kernel) rfl rfl (Nat.le_of_ble_eq_true rfl) hdg (fun H1 locs1 hP hD hS => kk H1 locs1 ⟨hP, hD, hS, hw.2.2.2⟩)
theorem mg_input (C : mCx p m c cc nL s args g "MidiDeskModel") (hw : mWd g A H0 q ad X iv av H locs) (hdg : decode cc pc = .ok (.getfield 7, 3)) (kk : W p l e R s m args below meth c H locs cells slots Q (F0 m (pc + 3) ls (.ref (ad 0) :: rest))) : W p l e R s m args below meth c H locs cells slots Q (F0 m pc ls (.ref q :: rest)) :=
  va_get (ci := 6) (C := R_Model) (T := F_Model) (N := 25) C.1.1 C.1.2.1 C.1.2.2.2.2 i_Model C.1.2.2.2.1 C.2.1 hw.1 0 rfl rfl 1 (by decide) (C.1.2.2.2.2 _ gw_716) (fun _ h => h) rfl hdg kk
theorem mg_size (C : mCx p m c cc nL s args g "MidiDeskModel") (hw : mWd g A H0 q ad X iv av H locs) (hdg : decode cc pc = .ok (.getfield 51, 3)) (kk : W p l e R s m args below meth c H locs cells slots Q (F0 m (pc + 3) ls (.int (iv 1) :: rest))) : W p l e R s m args below meth c H locs cells slots Q (F0 m pc ls (.ref q :: rest)) :=
  va_get (ci := 6) (C := R_Model) (T := F_Model) (N := 25) C.1.1 C.1.2.1 C.1.2.2.2.2 i_Model C.1.2.2.2.1 C.2.1 hw.1 0 rfl rfl 2 (by decide) (C.1.2.2.2.2 _ gw_717) (fun _ h => h) rfl hdg kk
theorem mp_size {x : Int32} (C : mCx p m c cc nL s args g "MidiDeskModel") (hw : mWd g A H0 q ad X iv av H locs) (hdg : decode cc pc = .ok (.putfield 51, 3)) (kk : ∀ (H1 : Heap) (locs1 : List Loc), mWd g A H0 q ad X (upd iv 1 x) av H1 locs1 → W p l e R s m args below meth c H1 locs1 cells slots Q (F0 m (pc + 3) ls rest)) : W p l e R s m args below meth c H locs cells slots Q (F0 m pc ls (.int x :: .ref q :: rest)) :=
  va_put (ci := 6) (ty := .int) (v := .int x) (C := R_Model) (T := F_Model) (N := 25) C.1.1 C.1.2.1 C.1.2.2.2.2 i_Model t_Model t_Model_ok n_Model C.1.2.2.2.1 C.2.1 hw.1 hw.2.1 hw.2.2.1 0 rfl rfl 2 (by decide) (C.1.2.2.2.2 _ gw_717) (fun _ h => h) rfl (by decide +kernel) rfl rfl (Nat.le_of_ble_eq_true rfl) hdg (fun H1 locs1 hP hD hS => kk H1 locs1 ⟨hP, hD, hS, hw.2.2.2⟩)
theorem mg_at (C : mCx p m c cc nL s args g "MidiDeskModel") (hw : mWd g A H0 q ad X iv av H locs) (hdg : decode cc pc = .ok (.getfield 62, 3)) (kk : W p l e R s m args below meth c H locs cells slots Q (F0 m (pc + 3) ls (.int (iv 2) :: rest))) : W p l e R s m args below meth c H locs cells slots Q (F0 m pc ls (.ref q :: rest)) :=
  va_get (ci := 6) (C := R_Model) (T := F_Model) (N := 25) C.1.1 C.1.2.1 C.1.2.2.2.2 i_Model C.1.2.2.2.1 C.2.1 hw.1 0 rfl rfl 3 (by decide) (C.1.2.2.2.2 _ gw_718) (fun _ h => h) rfl hdg kk
theorem mp_at {x : Int32} (C : mCx p m c cc nL s args g "MidiDeskModel") (hw : mWd g A H0 q ad X iv av H locs) (hdg : decode cc pc = .ok (.putfield 62, 3)) (kk : ∀ (H1 : Heap) (locs1 : List Loc), mWd g A H0 q ad X (upd iv 2 x) av H1 locs1 → W p l e R s m args below meth c H1 locs1 cells slots Q (F0 m (pc + 3) ls rest)) : W p l e R s m args below meth c H locs cells slots Q (F0 m pc ls (.int x :: .ref q :: rest)) :=
  va_put (ci := 6) (ty := .int) (v := .int x) (C := R_Model) (T := F_Model) (N := 25) C.1.1 C.1.2.1 C.1.2.2.2.2 i_Model t_Model t_Model_ok n_Model C.1.2.2.2.1 C.2.1 hw.1 hw.2.1 hw.2.2.1 0 rfl rfl 3 (by decide) (C.1.2.2.2.2 _ gw_718) (fun _ h => h) rfl (by decide +kernel) rfl rfl (Nat.le_of_ble_eq_true rfl) hdg (fun H1 locs1 hP hD hS => kk H1 locs1 ⟨hP, hD, hS, hw.2.2.2⟩)
theorem mg_end (C : mCx p m c cc nL s args g "MidiDeskModel") (hw : mWd g A H0 q ad X iv av H locs) (hdg : decode cc pc = .ok (.getfield 65, 3)) (kk : W p l e R s m args below meth c H locs cells slots Q (F0 m (pc + 3) ls (.int (iv 3) :: rest))) : W p l e R s m args below meth c H locs cells slots Q (F0 m pc ls (.ref q :: rest)) :=
  va_get (ci := 6) (C := R_Model) (T := F_Model) (N := 25) C.1.1 C.1.2.1 C.1.2.2.2.2 i_Model C.1.2.2.2.1 C.2.1 hw.1 0 rfl rfl 4 (by decide) (C.1.2.2.2.2 _ gw_719) (fun _ h => h) rfl hdg kk
theorem mp_end {x : Int32} (C : mCx p m c cc nL s args g "MidiDeskModel") (hw : mWd g A H0 q ad X iv av H locs) (hdg : decode cc pc = .ok (.putfield 65, 3)) (kk : ∀ (H1 : Heap) (locs1 : List Loc), mWd g A H0 q ad X (upd iv 3 x) av H1 locs1 → W p l e R s m args below meth c H1 locs1 cells slots Q (F0 m (pc + 3) ls rest)) : W p l e R s m args below meth c H locs cells slots Q (F0 m pc ls (.int x :: .ref q :: rest)) :=
  va_put (ci := 6) (ty := .int) (v := .int x) (C := R_Model) (T := F_Model) (N := 25) C.1.1 C.1.2.1 C.1.2.2.2.2 i_Model t_Model t_Model_ok n_Model C.1.2.2.2.1 C.2.1 hw.1 hw.2.1 hw.2.2.1 0 rfl rfl 4 (by decide) (C.1.2.2.2.2 _ gw_719) (fun _ h => h) rfl (by decide +kernel) rfl rfl (Nat.le_of_ble_eq_true rfl) hdg (fun H1 locs1 hP hD hS => kk H1 locs1 ⟨hP, hD, hS, hw.2.2.2⟩)
theorem mg_fault (C : mCx p m c cc nL s args g "MidiDeskModel") (hw : mWd g A H0 q ad X iv av H locs) (hdg : decode cc pc = .ok (.getfield 56, 3)) (kk : W p l e R s m args below meth c H locs cells slots Q (F0 m (pc + 3) ls (.int (iv 4) :: rest))) : W p l e R s m args below meth c H locs cells slots Q (F0 m pc ls (.ref q :: rest)) :=
  va_get (ci := 6) (C := R_Model) (T := F_Model) (N := 25) C.1.1 C.1.2.1 C.1.2.2.2.2 i_Model C.1.2.2.2.1 C.2.1 hw.1 0 rfl rfl 5 (by decide) (C.1.2.2.2.2 _ gw_720) (fun _ h => h) rfl hdg kk
theorem mp_fault {x : Int32} (C : mCx p m c cc nL s args g "MidiDeskModel") (hw : mWd g A H0 q ad X iv av H locs) (hdg : decode cc pc = .ok (.putfield 56, 3)) (kk : ∀ (H1 : Heap) (locs1 : List Loc), mWd g A H0 q ad X (upd iv 4 x) av H1 locs1 → W p l e R s m args below meth c H1 locs1 cells slots Q (F0 m (pc + 3) ls rest)) : W p l e R s m args below meth c H locs cells slots Q (F0 m pc ls (.int x :: .ref q :: rest)) :=
  va_put (ci := 6) (ty := .int) (v := .int x) (C := R_Model) (T := F_Model) (N := 25) C.1.1 C.1.2.1 C.1.2.2.2.2 i_Model t_Model t_Model_ok n_Model C.1.2.2.2.1 C.2.1 hw.1 hw.2.1 hw.2.2.1 0 rfl rfl 5 (by decide) (C.1.2.2.2.2 _ gw_720) (fun _ h => h) rfl (by decide +kernel) rfl rfl (Nat.le_of_ble_eq_true rfl) hdg (fun H1 locs1 hP hD hS => kk H1 locs1 ⟨hP, hD, hS, hw.2.2.2⟩)
theorem mg_place (C : mCx p m c cc nL s args g "MidiDeskModel") (hw : mWd g A H0 q ad X iv av H locs) (hdg : decode cc pc = .ok (.getfield 59, 3)) (kk : W p l e R s m args below meth c H locs cells slots Q (F0 m (pc + 3) ls (.int (iv 5) :: rest))) : W p l e R s m args below meth c H locs cells slots Q (F0 m pc ls (.ref q :: rest)) :=
  va_get (ci := 6) (C := R_Model) (T := F_Model) (N := 25) C.1.1 C.1.2.1 C.1.2.2.2.2 i_Model C.1.2.2.2.1 C.2.1 hw.1 0 rfl rfl 6 (by decide) (C.1.2.2.2.2 _ gw_721) (fun _ h => h) rfl hdg kk
theorem mp_place {x : Int32} (C : mCx p m c cc nL s args g "MidiDeskModel") (hw : mWd g A H0 q ad X iv av H locs) (hdg : decode cc pc = .ok (.putfield 59, 3)) (kk : ∀ (H1 : Heap) (locs1 : List Loc), mWd g A H0 q ad X (upd iv 5 x) av H1 locs1 → W p l e R s m args below meth c H1 locs1 cells slots Q (F0 m (pc + 3) ls rest)) : W p l e R s m args below meth c H locs cells slots Q (F0 m pc ls (.int x :: .ref q :: rest)) :=
  va_put (ci := 6) (ty := .int) (v := .int x) (C := R_Model) (T := F_Model) (N := 25) C.1.1 C.1.2.1 C.1.2.2.2.2 i_Model t_Model t_Model_ok n_Model C.1.2.2.2.1 C.2.1 hw.1 hw.2.1 hw.2.2.1 0 rfl rfl 6 (by decide) (C.1.2.2.2.2 _ gw_721) (fun _ h => h) rfl (by decide +kernel) rfl rfl (Nat.le_of_ble_eq_true rfl) hdg (fun H1 locs1 hP hD hS => kk H1 locs1 ⟨hP, hD, hS, hw.2.2.2⟩)
theorem mg_there (C : mCx p m c cc nL s args g "MidiDeskModel") (hw : mWd g A H0 q ad X iv av H locs) (hdg : decode cc pc = .ok (.getfield 110, 3)) (kk : W p l e R s m args below meth c H locs cells slots Q (F0 m (pc + 3) ls (.int (iv 6) :: rest))) : W p l e R s m args below meth c H locs cells slots Q (F0 m pc ls (.ref q :: rest)) :=
  va_get (ci := 6) (C := R_Model) (T := F_Model) (N := 25) C.1.1 C.1.2.1 C.1.2.2.2.2 i_Model C.1.2.2.2.1 C.2.1 hw.1 0 rfl rfl 7 (by decide) (C.1.2.2.2.2 _ gw_722) (fun _ h => h) rfl hdg kk
theorem mp_there {x : Int32} (C : mCx p m c cc nL s args g "MidiDeskModel") (hw : mWd g A H0 q ad X iv av H locs) (hz : x = 0 ∨ x = 1) (hdg : decode cc pc = .ok (.putfield 110, 3)) (kk : ∀ (H1 : Heap) (locs1 : List Loc), mWd g A H0 q ad X (upd iv 6 x) av H1 locs1 → W p l e R s m args below meth c H1 locs1 cells slots Q (F0 m (pc + 3) ls rest)) : W p l e R s m args below meth c H locs cells slots Q (F0 m pc ls (.int x :: .ref q :: rest)) :=
  va_put (ci := 6) (ty := .boolean) (v := .int x) (C := R_Model) (T := F_Model) (N := 25) C.1.1 C.1.2.1 C.1.2.2.2.2 i_Model t_Model t_Model_ok n_Model C.1.2.2.2.1 C.2.1 hw.1 hw.2.1 hw.2.2.1 0 rfl rfl 7 (by decide) (C.1.2.2.2.2 _ gw_722) (fun _ h => h) rfl (by decide +kernel) (by rcases hz with rfl | rfl <;> rfl) (by rcases hz with rfl | rfl <;> rfl) (Nat.le_of_ble_eq_true rfl) hdg (fun H1 locs1 hP hD hS => kk H1 locs1 ⟨hP, hD, hS, hw.2.2.2⟩)
theorem mg_format (C : mCx p m c cc nL s args g "MidiDeskModel") (hw : mWd g A H0 q ad X iv av H locs) (hdg : decode cc pc = .ok (.getfield 82, 3)) (kk : W p l e R s m args below meth c H locs cells slots Q (F0 m (pc + 3) ls (.int (iv 7) :: rest))) : W p l e R s m args below meth c H locs cells slots Q (F0 m pc ls (.ref q :: rest)) :=
  va_get (ci := 6) (C := R_Model) (T := F_Model) (N := 25) C.1.1 C.1.2.1 C.1.2.2.2.2 i_Model C.1.2.2.2.1 C.2.1 hw.1 0 rfl rfl 8 (by decide) (C.1.2.2.2.2 _ gw_723) (fun _ h => h) rfl hdg kk
theorem mp_format {x : Int32} (C : mCx p m c cc nL s args g "MidiDeskModel") (hw : mWd g A H0 q ad X iv av H locs) (hdg : decode cc pc = .ok (.putfield 82, 3)) (kk : ∀ (H1 : Heap) (locs1 : List Loc), mWd g A H0 q ad X (upd iv 7 x) av H1 locs1 → W p l e R s m args below meth c H1 locs1 cells slots Q (F0 m (pc + 3) ls rest)) : W p l e R s m args below meth c H locs cells slots Q (F0 m pc ls (.int x :: .ref q :: rest)) :=
  va_put (ci := 6) (ty := .int) (v := .int x) (C := R_Model) (T := F_Model) (N := 25) C.1.1 C.1.2.1 C.1.2.2.2.2 i_Model t_Model t_Model_ok n_Model C.1.2.2.2.1 C.2.1 hw.1 hw.2.1 hw.2.2.1 0 rfl rfl 8 (by decide) (C.1.2.2.2.2 _ gw_723) (fun _ h => h) rfl (by decide +kernel) rfl rfl (Nat.le_of_ble_eq_true rfl) hdg (fun H1 locs1 hP hD hS => kk H1 locs1 ⟨hP, hD, hS, hw.2.2.2⟩)
theorem mg_tracks (C : mCx p m c cc nL s args g "MidiDeskModel") (hw : mWd g A H0 q ad X iv av H locs) (hdg : decode cc pc = .ok (.getfield 85, 3)) (kk : W p l e R s m args below meth c H locs cells slots Q (F0 m (pc + 3) ls (.int (iv 8) :: rest))) : W p l e R s m args below meth c H locs cells slots Q (F0 m pc ls (.ref q :: rest)) :=
  va_get (ci := 6) (C := R_Model) (T := F_Model) (N := 25) C.1.1 C.1.2.1 C.1.2.2.2.2 i_Model C.1.2.2.2.1 C.2.1 hw.1 0 rfl rfl 9 (by decide) (C.1.2.2.2.2 _ gw_724) (fun _ h => h) rfl hdg kk
theorem mp_tracks {x : Int32} (C : mCx p m c cc nL s args g "MidiDeskModel") (hw : mWd g A H0 q ad X iv av H locs) (hdg : decode cc pc = .ok (.putfield 85, 3)) (kk : ∀ (H1 : Heap) (locs1 : List Loc), mWd g A H0 q ad X (upd iv 8 x) av H1 locs1 → W p l e R s m args below meth c H1 locs1 cells slots Q (F0 m (pc + 3) ls rest)) : W p l e R s m args below meth c H locs cells slots Q (F0 m pc ls (.int x :: .ref q :: rest)) :=
  va_put (ci := 6) (ty := .int) (v := .int x) (C := R_Model) (T := F_Model) (N := 25) C.1.1 C.1.2.1 C.1.2.2.2.2 i_Model t_Model t_Model_ok n_Model C.1.2.2.2.1 C.2.1 hw.1 hw.2.1 hw.2.2.1 0 rfl rfl 9 (by decide) (C.1.2.2.2.2 _ gw_724) (fun _ h => h) rfl (by decide +kernel) rfl rfl (Nat.le_of_ble_eq_true rfl) hdg (fun H1 locs1 hP hD hS => kk H1 locs1 ⟨hP, hD, hS, hw.2.2.2⟩)
theorem mg_division (C : mCx p m c cc nL s args g "MidiDeskModel") (hw : mWd g A H0 q ad X iv av H locs) (hdg : decode cc pc = .ok (.getfield 88, 3)) (kk : W p l e R s m args below meth c H locs cells slots Q (F0 m (pc + 3) ls (.int (iv 9) :: rest))) : W p l e R s m args below meth c H locs cells slots Q (F0 m pc ls (.ref q :: rest)) :=
  va_get (ci := 6) (C := R_Model) (T := F_Model) (N := 25) C.1.1 C.1.2.1 C.1.2.2.2.2 i_Model C.1.2.2.2.1 C.2.1 hw.1 0 rfl rfl 10 (by decide) (C.1.2.2.2.2 _ gw_725) (fun _ h => h) rfl hdg kk
theorem mp_division {x : Int32} (C : mCx p m c cc nL s args g "MidiDeskModel") (hw : mWd g A H0 q ad X iv av H locs) (hdg : decode cc pc = .ok (.putfield 88, 3)) (kk : ∀ (H1 : Heap) (locs1 : List Loc), mWd g A H0 q ad X (upd iv 9 x) av H1 locs1 → W p l e R s m args below meth c H1 locs1 cells slots Q (F0 m (pc + 3) ls rest)) : W p l e R s m args below meth c H locs cells slots Q (F0 m pc ls (.int x :: .ref q :: rest)) :=
  va_put (ci := 6) (ty := .int) (v := .int x) (C := R_Model) (T := F_Model) (N := 25) C.1.1 C.1.2.1 C.1.2.2.2.2 i_Model t_Model t_Model_ok n_Model C.1.2.2.2.1 C.2.1 hw.1 hw.2.1 hw.2.2.1 0 rfl rfl 10 (by decide) (C.1.2.2.2.2 _ gw_725) (fun _ h => h) rfl (by decide +kernel) rfl rfl (Nat.le_of_ble_eq_true rfl) hdg (fun H1 locs1 hP hD hS => kk H1 locs1 ⟨hP, hD, hS, hw.2.2.2⟩)
theorem mg_events (C : mCx p m c cc nL s args g "MidiDeskModel") (hw : mWd g A H0 q ad X iv av H locs) (hdg : decode cc pc = .ok (.getfield 95, 3)) (kk : W p l e R s m args below meth c H locs cells slots Q (F0 m (pc + 3) ls (.int (iv 10) :: rest))) : W p l e R s m args below meth c H locs cells slots Q (F0 m pc ls (.ref q :: rest)) :=
  va_get (ci := 6) (C := R_Model) (T := F_Model) (N := 25) C.1.1 C.1.2.1 C.1.2.2.2.2 i_Model C.1.2.2.2.1 C.2.1 hw.1 0 rfl rfl 11 (by decide) (C.1.2.2.2.2 _ gw_726) (fun _ h => h) rfl hdg kk
theorem mp_events {x : Int32} (C : mCx p m c cc nL s args g "MidiDeskModel") (hw : mWd g A H0 q ad X iv av H locs) (hdg : decode cc pc = .ok (.putfield 95, 3)) (kk : ∀ (H1 : Heap) (locs1 : List Loc), mWd g A H0 q ad X (upd iv 10 x) av H1 locs1 → W p l e R s m args below meth c H1 locs1 cells slots Q (F0 m (pc + 3) ls rest)) : W p l e R s m args below meth c H locs cells slots Q (F0 m pc ls (.int x :: .ref q :: rest)) :=
  va_put (ci := 6) (ty := .int) (v := .int x) (C := R_Model) (T := F_Model) (N := 25) C.1.1 C.1.2.1 C.1.2.2.2.2 i_Model t_Model t_Model_ok n_Model C.1.2.2.2.1 C.2.1 hw.1 hw.2.1 hw.2.2.1 0 rfl rfl 11 (by decide) (C.1.2.2.2.2 _ gw_726) (fun _ h => h) rfl (by decide +kernel) rfl rfl (Nat.le_of_ble_eq_true rfl) hdg (fun H1 locs1 hP hD hS => kk H1 locs1 ⟨hP, hD, hS, hw.2.2.2⟩)
theorem mg_many (C : mCx p m c cc nL s args g "MidiDeskModel") (hw : mWd g A H0 q ad X iv av H locs) (hdg : decode cc pc = .ok (.getfield 98, 3)) (kk : W p l e R s m args below meth c H locs cells slots Q (F0 m (pc + 3) ls (.int (iv 11) :: rest))) : W p l e R s m args below meth c H locs cells slots Q (F0 m pc ls (.ref q :: rest)) :=
  va_get (ci := 6) (C := R_Model) (T := F_Model) (N := 25) C.1.1 C.1.2.1 C.1.2.2.2.2 i_Model C.1.2.2.2.1 C.2.1 hw.1 0 rfl rfl 12 (by decide) (C.1.2.2.2.2 _ gw_727) (fun _ h => h) rfl hdg kk
theorem mp_many {x : Int32} (C : mCx p m c cc nL s args g "MidiDeskModel") (hw : mWd g A H0 q ad X iv av H locs) (hdg : decode cc pc = .ok (.putfield 98, 3)) (kk : ∀ (H1 : Heap) (locs1 : List Loc), mWd g A H0 q ad X (upd iv 11 x) av H1 locs1 → W p l e R s m args below meth c H1 locs1 cells slots Q (F0 m (pc + 3) ls rest)) : W p l e R s m args below meth c H locs cells slots Q (F0 m pc ls (.int x :: .ref q :: rest)) :=
  va_put (ci := 6) (ty := .int) (v := .int x) (C := R_Model) (T := F_Model) (N := 25) C.1.1 C.1.2.1 C.1.2.2.2.2 i_Model t_Model t_Model_ok n_Model C.1.2.2.2.1 C.2.1 hw.1 hw.2.1 hw.2.2.1 0 rfl rfl 12 (by decide) (C.1.2.2.2.2 _ gw_727) (fun _ h => h) rfl (by decide +kernel) rfl rfl (Nat.le_of_ble_eq_true rfl) hdg (fun H1 locs1 hP hD hS => kk H1 locs1 ⟨hP, hD, hS, hw.2.2.2⟩)
theorem mg_ticks (C : mCx p m c cc nL s args g "MidiDeskModel") (hw : mWd g A H0 q ad X iv av H locs) (hdg : decode cc pc = .ok (.getfield 13, 3)) (kk : W p l e R s m args below meth c H locs cells slots Q (F0 m (pc + 3) ls (.ref (ad 1) :: rest))) : W p l e R s m args below meth c H locs cells slots Q (F0 m pc ls (.ref q :: rest)) :=
  va_get (ci := 6) (C := R_Model) (T := F_Model) (N := 25) C.1.1 C.1.2.1 C.1.2.2.2.2 i_Model C.1.2.2.2.1 C.2.1 hw.1 0 rfl rfl 13 (by decide) (C.1.2.2.2.2 _ gw_728) (fun _ h => h) rfl hdg kk
theorem mg_trackOf (C : mCx p m c cc nL s args g "MidiDeskModel") (hw : mWd g A H0 q ad X iv av H locs) (hdg : decode cc pc = .ok (.getfield 16, 3)) (kk : W p l e R s m args below meth c H locs cells slots Q (F0 m (pc + 3) ls (.ref (ad 2) :: rest))) : W p l e R s m args below meth c H locs cells slots Q (F0 m pc ls (.ref q :: rest)) :=
  va_get (ci := 6) (C := R_Model) (T := F_Model) (N := 25) C.1.1 C.1.2.1 C.1.2.2.2.2 i_Model C.1.2.2.2.1 C.2.1 hw.1 0 rfl rfl 14 (by decide) (C.1.2.2.2.2 _ gw_729) (fun _ h => h) rfl hdg kk
theorem mg_status (C : mCx p m c cc nL s args g "MidiDeskModel") (hw : mWd g A H0 q ad X iv av H locs) (hdg : decode cc pc = .ok (.getfield 19, 3)) (kk : W p l e R s m args below meth c H locs cells slots Q (F0 m (pc + 3) ls (.ref (ad 3) :: rest))) : W p l e R s m args below meth c H locs cells slots Q (F0 m pc ls (.ref q :: rest)) :=
  va_get (ci := 6) (C := R_Model) (T := F_Model) (N := 25) C.1.1 C.1.2.1 C.1.2.2.2.2 i_Model C.1.2.2.2.1 C.2.1 hw.1 0 rfl rfl 15 (by decide) (C.1.2.2.2.2 _ gw_730) (fun _ h => h) rfl hdg kk
theorem mg_first (C : mCx p m c cc nL s args g "MidiDeskModel") (hw : mWd g A H0 q ad X iv av H locs) (hdg : decode cc pc = .ok (.getfield 22, 3)) (kk : W p l e R s m args below meth c H locs cells slots Q (F0 m (pc + 3) ls (.ref (ad 4) :: rest))) : W p l e R s m args below meth c H locs cells slots Q (F0 m pc ls (.ref q :: rest)) :=
  va_get (ci := 6) (C := R_Model) (T := F_Model) (N := 25) C.1.1 C.1.2.1 C.1.2.2.2.2 i_Model C.1.2.2.2.1 C.2.1 hw.1 0 rfl rfl 16 (by decide) (C.1.2.2.2.2 _ gw_731) (fun _ h => h) rfl hdg kk
theorem mg_second (C : mCx p m c cc nL s args g "MidiDeskModel") (hw : mWd g A H0 q ad X iv av H locs) (hdg : decode cc pc = .ok (.getfield 25, 3)) (kk : W p l e R s m args below meth c H locs cells slots Q (F0 m (pc + 3) ls (.ref (ad 5) :: rest))) : W p l e R s m args below meth c H locs cells slots Q (F0 m pc ls (.ref q :: rest)) :=
  va_get (ci := 6) (C := R_Model) (T := F_Model) (N := 25) C.1.1 C.1.2.1 C.1.2.2.2.2 i_Model C.1.2.2.2.1 C.2.1 hw.1 0 rfl rfl 17 (by decide) (C.1.2.2.2.2 _ gw_732) (fun _ h => h) rfl hdg kk
theorem mg_from (C : mCx p m c cc nL s args g "MidiDeskModel") (hw : mWd g A H0 q ad X iv av H locs) (hdg : decode cc pc = .ok (.getfield 28, 3)) (kk : W p l e R s m args below meth c H locs cells slots Q (F0 m (pc + 3) ls (.ref (ad 6) :: rest))) : W p l e R s m args below meth c H locs cells slots Q (F0 m pc ls (.ref q :: rest)) :=
  va_get (ci := 6) (C := R_Model) (T := F_Model) (N := 25) C.1.1 C.1.2.1 C.1.2.2.2.2 i_Model C.1.2.2.2.1 C.2.1 hw.1 0 rfl rfl 18 (by decide) (C.1.2.2.2.2 _ gw_733) (fun _ h => h) rfl hdg kk
theorem mg_counts (C : mCx p m c cc nL s args g "MidiDeskModel") (hw : mWd g A H0 q ad X iv av H locs) (hdg : decode cc pc = .ok (.getfield 31, 3)) (kk : W p l e R s m args below meth c H locs cells slots Q (F0 m (pc + 3) ls (.ref (ad 7) :: rest))) : W p l e R s m args below meth c H locs cells slots Q (F0 m pc ls (.ref q :: rest)) :=
  va_get (ci := 6) (C := R_Model) (T := F_Model) (N := 25) C.1.1 C.1.2.1 C.1.2.2.2.2 i_Model C.1.2.2.2.1 C.2.1 hw.1 0 rfl rfl 19 (by decide) (C.1.2.2.2.2 _ gw_734) (fun _ h => h) rfl hdg kk
theorem mg_order (C : mCx p m c cc nL s args g "MidiDeskModel") (hw : mWd g A H0 q ad X iv av H locs) (hdg : decode cc pc = .ok (.getfield 34, 3)) (kk : W p l e R s m args below meth c H locs cells slots Q (F0 m (pc + 3) ls (.ref (ad 8) :: rest))) : W p l e R s m args below meth c H locs cells slots Q (F0 m pc ls (.ref q :: rest)) :=
  va_get (ci := 6) (C := R_Model) (T := F_Model) (N := 25) C.1.1 C.1.2.1 C.1.2.2.2.2 i_Model C.1.2.2.2.1 C.2.1 hw.1 0 rfl rfl 20 (by decide) (C.1.2.2.2.2 _ gw_735) (fun _ h => h) rfl hdg kk
theorem mg_spare (C : mCx p m c cc nL s args g "MidiDeskModel") (hw : mWd g A H0 q ad X iv av H locs) (hdg : decode cc pc = .ok (.getfield 37, 3)) (kk : W p l e R s m args below meth c H locs cells slots Q (F0 m (pc + 3) ls (.ref (ad 9) :: rest))) : W p l e R s m args below meth c H locs cells slots Q (F0 m pc ls (.ref q :: rest)) :=
  va_get (ci := 6) (C := R_Model) (T := F_Model) (N := 25) C.1.1 C.1.2.1 C.1.2.2.2.2 i_Model C.1.2.2.2.1 C.2.1 hw.1 0 rfl rfl 21 (by decide) (C.1.2.2.2.2 _ gw_736) (fun _ h => h) rfl hdg kk
theorem mg_bytes (C : mCx p m c cc nL s args g "MidiDeskModel") (hw : mWd g A H0 q ad X iv av H locs) (hdg : decode cc pc = .ok (.getfield 40, 3)) (kk : W p l e R s m args below meth c H locs cells slots Q (F0 m (pc + 3) ls (.ref (ad 10) :: rest))) : W p l e R s m args below meth c H locs cells slots Q (F0 m pc ls (.ref q :: rest)) :=
  va_get (ci := 6) (C := R_Model) (T := F_Model) (N := 25) C.1.1 C.1.2.1 C.1.2.2.2.2 i_Model C.1.2.2.2.1 C.2.1 hw.1 0 rfl rfl 22 (by decide) (C.1.2.2.2.2 _ gw_737) (fun _ h => h) rfl hdg kk
theorem mg_written (C : mCx p m c cc nL s args g "MidiDeskModel") (hw : mWd g A H0 q ad X iv av H locs) (hdg : decode cc pc = .ok (.getfield 44, 3)) (kk : W p l e R s m args below meth c H locs cells slots Q (F0 m (pc + 3) ls (.ref (ad 11) :: rest))) : W p l e R s m args below meth c H locs cells slots Q (F0 m pc ls (.ref q :: rest)) :=
  va_get (ci := 6) (C := R_Model) (T := F_Model) (N := 25) C.1.1 C.1.2.1 C.1.2.2.2.2 i_Model C.1.2.2.2.1 C.2.1 hw.1 0 rfl rfl 23 (by decide) (C.1.2.2.2.2 _ gw_738) (fun _ h => h) rfl hdg kk
theorem mg_writtenSize (C : mCx p m c cc nL s args g "MidiDeskModel") (hw : mWd g A H0 q ad X iv av H locs) (hdg : decode cc pc = .ok (.getfield 187, 3)) (kk : W p l e R s m args below meth c H locs cells slots Q (F0 m (pc + 3) ls (.int (iv 12) :: rest))) : W p l e R s m args below meth c H locs cells slots Q (F0 m pc ls (.ref q :: rest)) :=
  va_get (ci := 6) (C := R_Model) (T := F_Model) (N := 25) C.1.1 C.1.2.1 C.1.2.2.2.2 i_Model C.1.2.2.2.1 C.2.1 hw.1 0 rfl rfl 24 (by decide) (C.1.2.2.2.2 _ gw_739) (fun _ h => h) rfl hdg kk
theorem mp_writtenSize {x : Int32} (C : mCx p m c cc nL s args g "MidiDeskModel") (hw : mWd g A H0 q ad X iv av H locs) (hdg : decode cc pc = .ok (.putfield 187, 3)) (kk : ∀ (H1 : Heap) (locs1 : List Loc), mWd g A H0 q ad X (upd iv 12 x) av H1 locs1 → W p l e R s m args below meth c H1 locs1 cells slots Q (F0 m (pc + 3) ls rest)) : W p l e R s m args below meth c H locs cells slots Q (F0 m pc ls (.int x :: .ref q :: rest)) :=
  va_put (ci := 6) (ty := .int) (v := .int x) (C := R_Model) (T := F_Model) (N := 25) C.1.1 C.1.2.1 C.1.2.2.2.2 i_Model t_Model t_Model_ok n_Model C.1.2.2.2.1 C.2.1 hw.1 hw.2.1 hw.2.2.1 0 rfl rfl 24 (by decide) (C.1.2.2.2.2 _ gw_739) (fun _ h => h) rfl (by decide +kernel) rfl rfl (Nat.le_of_ble_eq_true rfl) hdg (fun H1 locs1 hP hD hS => kk H1 locs1 ⟨hP, hD, hS, hw.2.2.2⟩)
theorem ma_input {i : Int32} (C : mCx p m c cc nL s args g "MidiDeskModel") (hw : mWd g A H0 q ad X iv av H locs) (hin : ¬ (i < 0 ∨ 12000 ≤ i.toNatClampNeg)) (hdg : decode cc pc = .ok (.iaload, 1)) (kk : W p l e R s m args below meth c H locs cells slots Q (F0 m (pc + 1) ls (.int (av 0 i.toNatClampNeg) :: rest))) : W p l e R s m args below meth c H locs cells slots Q (F0 m pc ls (.int i :: .ref (ad 0) :: rest)) :=
  va_iald C.1.1 C.1.2.1 C.2.1 hw.1 1 0 rfl rfl hin hdg kk
theorem ms_input {i x : Int32} (C : mCx p m c cc nL s args g "MidiDeskModel") (hw : mWd g A H0 q ad X iv av H locs) (hin : ¬ (i < 0 ∨ 12000 ≤ i.toNatClampNeg)) (hdg : decode cc pc = .ok (.iastore, 1)) (kk : ∀ (H1 : Heap) (locs1 : List Loc), mWd g A H0 q ad X iv (up2 av 0 i.toNatClampNeg x) H1 locs1 → W p l e R s m args below meth c H1 locs1 cells slots Q (F0 m (pc + 1) ls rest)) : W p l e R s m args below meth c H locs cells slots Q (F0 m pc ls (.int x :: .int i :: .ref (ad 0) :: rest)) :=
  va_iast C.1.1 C.1.2.1 C.2.1 hw.1 hw.2.1 hw.2.2.1 1 0 rfl rfl hin hdg (fun H1 locs1 hP hD hS => kk H1 locs1 ⟨hP, hD, hS, hw.2.2.2⟩)
theorem ma_ticks {i : Int32} (C : mCx p m c cc nL s args g "MidiDeskModel") (hw : mWd g A H0 q ad X iv av H locs) (hin : ¬ (i < 0 ∨ 1001 ≤ i.toNatClampNeg)) (hdg : decode cc pc = .ok (.iaload, 1)) (kk : W p l e R s m args below meth c H locs cells slots Q (F0 m (pc + 1) ls (.int (av 1 i.toNatClampNeg) :: rest))) : W p l e R s m args below meth c H locs cells slots Q (F0 m pc ls (.int i :: .ref (ad 1) :: rest)) :=
  va_iald C.1.1 C.1.2.1 C.2.1 hw.1 2 0 rfl rfl hin hdg kk
theorem ms_ticks {i x : Int32} (C : mCx p m c cc nL s args g "MidiDeskModel") (hw : mWd g A H0 q ad X iv av H locs) (hin : ¬ (i < 0 ∨ 1001 ≤ i.toNatClampNeg)) (hdg : decode cc pc = .ok (.iastore, 1)) (kk : ∀ (H1 : Heap) (locs1 : List Loc), mWd g A H0 q ad X iv (up2 av 1 i.toNatClampNeg x) H1 locs1 → W p l e R s m args below meth c H1 locs1 cells slots Q (F0 m (pc + 1) ls rest)) : W p l e R s m args below meth c H locs cells slots Q (F0 m pc ls (.int x :: .int i :: .ref (ad 1) :: rest)) :=
  va_iast C.1.1 C.1.2.1 C.2.1 hw.1 hw.2.1 hw.2.2.1 2 0 rfl rfl hin hdg (fun H1 locs1 hP hD hS => kk H1 locs1 ⟨hP, hD, hS, hw.2.2.2⟩)
theorem ma_trackOf {i : Int32} (C : mCx p m c cc nL s args g "MidiDeskModel") (hw : mWd g A H0 q ad X iv av H locs) (hin : ¬ (i < 0 ∨ 1001 ≤ i.toNatClampNeg)) (hdg : decode cc pc = .ok (.iaload, 1)) (kk : W p l e R s m args below meth c H locs cells slots Q (F0 m (pc + 1) ls (.int (av 2 i.toNatClampNeg) :: rest))) : W p l e R s m args below meth c H locs cells slots Q (F0 m pc ls (.int i :: .ref (ad 2) :: rest)) :=
  va_iald C.1.1 C.1.2.1 C.2.1 hw.1 3 0 rfl rfl hin hdg kk
theorem ms_trackOf {i x : Int32} (C : mCx p m c cc nL s args g "MidiDeskModel") (hw : mWd g A H0 q ad X iv av H locs) (hin : ¬ (i < 0 ∨ 1001 ≤ i.toNatClampNeg)) (hdg : decode cc pc = .ok (.iastore, 1)) (kk : ∀ (H1 : Heap) (locs1 : List Loc), mWd g A H0 q ad X iv (up2 av 2 i.toNatClampNeg x) H1 locs1 → W p l e R s m args below meth c H1 locs1 cells slots Q (F0 m (pc + 1) ls rest)) : W p l e R s m args below meth c H locs cells slots Q (F0 m pc ls (.int x :: .int i :: .ref (ad 2) :: rest)) :=
  va_iast C.1.1 C.1.2.1 C.2.1 hw.1 hw.2.1 hw.2.2.1 3 0 rfl rfl hin hdg (fun H1 locs1 hP hD hS => kk H1 locs1 ⟨hP, hD, hS, hw.2.2.2⟩)
theorem ma_status {i : Int32} (C : mCx p m c cc nL s args g "MidiDeskModel") (hw : mWd g A H0 q ad X iv av H locs) (hin : ¬ (i < 0 ∨ 1001 ≤ i.toNatClampNeg)) (hdg : decode cc pc = .ok (.iaload, 1)) (kk : W p l e R s m args below meth c H locs cells slots Q (F0 m (pc + 1) ls (.int (av 3 i.toNatClampNeg) :: rest))) : W p l e R s m args below meth c H locs cells slots Q (F0 m pc ls (.int i :: .ref (ad 3) :: rest)) :=
  va_iald C.1.1 C.1.2.1 C.2.1 hw.1 4 0 rfl rfl hin hdg kk
theorem ms_status {i x : Int32} (C : mCx p m c cc nL s args g "MidiDeskModel") (hw : mWd g A H0 q ad X iv av H locs) (hin : ¬ (i < 0 ∨ 1001 ≤ i.toNatClampNeg)) (hdg : decode cc pc = .ok (.iastore, 1)) (kk : ∀ (H1 : Heap) (locs1 : List Loc), mWd g A H0 q ad X iv (up2 av 3 i.toNatClampNeg x) H1 locs1 → W p l e R s m args below meth c H1 locs1 cells slots Q (F0 m (pc + 1) ls rest)) : W p l e R s m args below meth c H locs cells slots Q (F0 m pc ls (.int x :: .int i :: .ref (ad 3) :: rest)) :=
  va_iast C.1.1 C.1.2.1 C.2.1 hw.1 hw.2.1 hw.2.2.1 4 0 rfl rfl hin hdg (fun H1 locs1 hP hD hS => kk H1 locs1 ⟨hP, hD, hS, hw.2.2.2⟩)
theorem ma_first {i : Int32} (C : mCx p m c cc nL s args g "MidiDeskModel") (hw : mWd g A H0 q ad X iv av H locs) (hin : ¬ (i < 0 ∨ 1001 ≤ i.toNatClampNeg)) (hdg : decode cc pc = .ok (.iaload, 1)) (kk : W p l e R s m args below meth c H locs cells slots Q (F0 m (pc + 1) ls (.int (av 4 i.toNatClampNeg) :: rest))) : W p l e R s m args below meth c H locs cells slots Q (F0 m pc ls (.int i :: .ref (ad 4) :: rest)) :=
  va_iald C.1.1 C.1.2.1 C.2.1 hw.1 5 0 rfl rfl hin hdg kk
theorem ms_first {i x : Int32} (C : mCx p m c cc nL s args g "MidiDeskModel") (hw : mWd g A H0 q ad X iv av H locs) (hin : ¬ (i < 0 ∨ 1001 ≤ i.toNatClampNeg)) (hdg : decode cc pc = .ok (.iastore, 1)) (kk : ∀ (H1 : Heap) (locs1 : List Loc), mWd g A H0 q ad X iv (up2 av 4 i.toNatClampNeg x) H1 locs1 → W p l e R s m args below meth c H1 locs1 cells slots Q (F0 m (pc + 1) ls rest)) : W p l e R s m args below meth c H locs cells slots Q (F0 m pc ls (.int x :: .int i :: .ref (ad 4) :: rest)) :=
  va_iast C.1.1 C.1.2.1 C.2.1 hw.1 hw.2.1 hw.2.2.1 5 0 rfl rfl hin hdg (fun H1 locs1 hP hD hS => kk H1 locs1 ⟨hP, hD, hS, hw.2.2.2⟩)
theorem ma_second {i : Int32} (C : mCx p m c cc nL s args g "MidiDeskModel") (hw : mWd g A H0 q ad X iv av H locs) (hin : ¬ (i < 0 ∨ 1001 ≤ i.toNatClampNeg)) (hdg : decode cc pc = .ok (.iaload, 1)) (kk : W p l e R s m args below meth c H locs cells slots Q (F0 m (pc + 1) ls (.int (av 5 i.toNatClampNeg) :: rest))) : W p l e R s m args below meth c H locs cells slots Q (F0 m pc ls (.int i :: .ref (ad 5) :: rest)) :=
  va_iald C.1.1 C.1.2.1 C.2.1 hw.1 6 0 rfl rfl hin hdg kk
theorem ms_second {i x : Int32} (C : mCx p m c cc nL s args g "MidiDeskModel") (hw : mWd g A H0 q ad X iv av H locs) (hin : ¬ (i < 0 ∨ 1001 ≤ i.toNatClampNeg)) (hdg : decode cc pc = .ok (.iastore, 1)) (kk : ∀ (H1 : Heap) (locs1 : List Loc), mWd g A H0 q ad X iv (up2 av 5 i.toNatClampNeg x) H1 locs1 → W p l e R s m args below meth c H1 locs1 cells slots Q (F0 m (pc + 1) ls rest)) : W p l e R s m args below meth c H locs cells slots Q (F0 m pc ls (.int x :: .int i :: .ref (ad 5) :: rest)) :=
  va_iast C.1.1 C.1.2.1 C.2.1 hw.1 hw.2.1 hw.2.2.1 6 0 rfl rfl hin hdg (fun H1 locs1 hP hD hS => kk H1 locs1 ⟨hP, hD, hS, hw.2.2.2⟩)
theorem ma_from {i : Int32} (C : mCx p m c cc nL s args g "MidiDeskModel") (hw : mWd g A H0 q ad X iv av H locs) (hin : ¬ (i < 0 ∨ 1001 ≤ i.toNatClampNeg)) (hdg : decode cc pc = .ok (.iaload, 1)) (kk : W p l e R s m args below meth c H locs cells slots Q (F0 m (pc + 1) ls (.int (av 6 i.toNatClampNeg) :: rest))) : W p l e R s m args below meth c H locs cells slots Q (F0 m pc ls (.int i :: .ref (ad 6) :: rest)) :=
  va_iald C.1.1 C.1.2.1 C.2.1 hw.1 7 0 rfl rfl hin hdg kk
theorem ms_from {i x : Int32} (C : mCx p m c cc nL s args g "MidiDeskModel") (hw : mWd g A H0 q ad X iv av H locs) (hin : ¬ (i < 0 ∨ 1001 ≤ i.toNatClampNeg)) (hdg : decode cc pc = .ok (.iastore, 1)) (kk : ∀ (H1 : Heap) (locs1 : List Loc), mWd g A H0 q ad X iv (up2 av 6 i.toNatClampNeg x) H1 locs1 → W p l e R s m args below meth c H1 locs1 cells slots Q (F0 m (pc + 1) ls rest)) : W p l e R s m args below meth c H locs cells slots Q (F0 m pc ls (.int x :: .int i :: .ref (ad 6) :: rest)) :=
  va_iast C.1.1 C.1.2.1 C.2.1 hw.1 hw.2.1 hw.2.2.1 7 0 rfl rfl hin hdg (fun H1 locs1 hP hD hS => kk H1 locs1 ⟨hP, hD, hS, hw.2.2.2⟩)
theorem ma_counts {i : Int32} (C : mCx p m c cc nL s args g "MidiDeskModel") (hw : mWd g A H0 q ad X iv av H locs) (hin : ¬ (i < 0 ∨ 1001 ≤ i.toNatClampNeg)) (hdg : decode cc pc = .ok (.iaload, 1)) (kk : W p l e R s m args below meth c H locs cells slots Q (F0 m (pc + 1) ls (.int (av 7 i.toNatClampNeg) :: rest))) : W p l e R s m args below meth c H locs cells slots Q (F0 m pc ls (.int i :: .ref (ad 7) :: rest)) :=
  va_iald C.1.1 C.1.2.1 C.2.1 hw.1 8 0 rfl rfl hin hdg kk
theorem ms_counts {i x : Int32} (C : mCx p m c cc nL s args g "MidiDeskModel") (hw : mWd g A H0 q ad X iv av H locs) (hin : ¬ (i < 0 ∨ 1001 ≤ i.toNatClampNeg)) (hdg : decode cc pc = .ok (.iastore, 1)) (kk : ∀ (H1 : Heap) (locs1 : List Loc), mWd g A H0 q ad X iv (up2 av 7 i.toNatClampNeg x) H1 locs1 → W p l e R s m args below meth c H1 locs1 cells slots Q (F0 m (pc + 1) ls rest)) : W p l e R s m args below meth c H locs cells slots Q (F0 m pc ls (.int x :: .int i :: .ref (ad 7) :: rest)) :=
  va_iast C.1.1 C.1.2.1 C.2.1 hw.1 hw.2.1 hw.2.2.1 8 0 rfl rfl hin hdg (fun H1 locs1 hP hD hS => kk H1 locs1 ⟨hP, hD, hS, hw.2.2.2⟩)
theorem ma_order {i : Int32} (C : mCx p m c cc nL s args g "MidiDeskModel") (hw : mWd g A H0 q ad X iv av H locs) (hin : ¬ (i < 0 ∨ 1001 ≤ i.toNatClampNeg)) (hdg : decode cc pc = .ok (.iaload, 1)) (kk : W p l e R s m args below meth c H locs cells slots Q (F0 m (pc + 1) ls (.int (av 8 i.toNatClampNeg) :: rest))) : W p l e R s m args below meth c H locs cells slots Q (F0 m pc ls (.int i :: .ref (ad 8) :: rest)) :=
  va_iald C.1.1 C.1.2.1 C.2.1 hw.1 9 0 rfl rfl hin hdg kk
theorem ms_order {i x : Int32} (C : mCx p m c cc nL s args g "MidiDeskModel") (hw : mWd g A H0 q ad X iv av H locs) (hin : ¬ (i < 0 ∨ 1001 ≤ i.toNatClampNeg)) (hdg : decode cc pc = .ok (.iastore, 1)) (kk : ∀ (H1 : Heap) (locs1 : List Loc), mWd g A H0 q ad X iv (up2 av 8 i.toNatClampNeg x) H1 locs1 → W p l e R s m args below meth c H1 locs1 cells slots Q (F0 m (pc + 1) ls rest)) : W p l e R s m args below meth c H locs cells slots Q (F0 m pc ls (.int x :: .int i :: .ref (ad 8) :: rest)) :=
  va_iast C.1.1 C.1.2.1 C.2.1 hw.1 hw.2.1 hw.2.2.1 9 0 rfl rfl hin hdg (fun H1 locs1 hP hD hS => kk H1 locs1 ⟨hP, hD, hS, hw.2.2.2⟩)
theorem ma_spare {i : Int32} (C : mCx p m c cc nL s args g "MidiDeskModel") (hw : mWd g A H0 q ad X iv av H locs) (hin : ¬ (i < 0 ∨ 1001 ≤ i.toNatClampNeg)) (hdg : decode cc pc = .ok (.iaload, 1)) (kk : W p l e R s m args below meth c H locs cells slots Q (F0 m (pc + 1) ls (.int (av 9 i.toNatClampNeg) :: rest))) : W p l e R s m args below meth c H locs cells slots Q (F0 m pc ls (.int i :: .ref (ad 9) :: rest)) :=
  va_iald C.1.1 C.1.2.1 C.2.1 hw.1 10 0 rfl rfl hin hdg kk
theorem ms_spare {i x : Int32} (C : mCx p m c cc nL s args g "MidiDeskModel") (hw : mWd g A H0 q ad X iv av H locs) (hin : ¬ (i < 0 ∨ 1001 ≤ i.toNatClampNeg)) (hdg : decode cc pc = .ok (.iastore, 1)) (kk : ∀ (H1 : Heap) (locs1 : List Loc), mWd g A H0 q ad X iv (up2 av 9 i.toNatClampNeg x) H1 locs1 → W p l e R s m args below meth c H1 locs1 cells slots Q (F0 m (pc + 1) ls rest)) : W p l e R s m args below meth c H locs cells slots Q (F0 m pc ls (.int x :: .int i :: .ref (ad 9) :: rest)) :=
  va_iast C.1.1 C.1.2.1 C.2.1 hw.1 hw.2.1 hw.2.2.1 10 0 rfl rfl hin hdg (fun H1 locs1 hP hD hS => kk H1 locs1 ⟨hP, hD, hS, hw.2.2.2⟩)
theorem ma_bytes {i : Int32} (C : mCx p m c cc nL s args g "MidiDeskModel") (hw : mWd g A H0 q ad X iv av H locs) (hin : ¬ (i < 0 ∨ 20100 ≤ i.toNatClampNeg)) (hdg : decode cc pc = .ok (.iaload, 1)) (kk : W p l e R s m args below meth c H locs cells slots Q (F0 m (pc + 1) ls (.int (av 10 i.toNatClampNeg) :: rest))) : W p l e R s m args below meth c H locs cells slots Q (F0 m pc ls (.int i :: .ref (ad 10) :: rest)) :=
  va_iald C.1.1 C.1.2.1 C.2.1 hw.1 11 0 rfl rfl hin hdg kk
theorem ms_bytes {i x : Int32} (C : mCx p m c cc nL s args g "MidiDeskModel") (hw : mWd g A H0 q ad X iv av H locs) (hin : ¬ (i < 0 ∨ 20100 ≤ i.toNatClampNeg)) (hdg : decode cc pc = .ok (.iastore, 1)) (kk : ∀ (H1 : Heap) (locs1 : List Loc), mWd g A H0 q ad X iv (up2 av 10 i.toNatClampNeg x) H1 locs1 → W p l e R s m args below meth c H1 locs1 cells slots Q (F0 m (pc + 1) ls rest)) : W p l e R s m args below meth c H locs cells slots Q (F0 m pc ls (.int x :: .int i :: .ref (ad 10) :: rest)) :=
  va_iast C.1.1 C.1.2.1 C.2.1 hw.1 hw.2.1 hw.2.2.1 11 0 rfl rfl hin hdg (fun H1 locs1 hP hD hS => kk H1 locs1 ⟨hP, hD, hS, hw.2.2.2⟩)
theorem ma_written {i : Int32} (C : mCx p m c cc nL s args g "MidiDeskModel") (hw : mWd g A H0 q ad X iv av H locs) (hin : ¬ (i < 0 ∨ 32768 ≤ i.toNatClampNeg)) (hdg : decode cc pc = .ok (.iaload, 1)) (kk : W p l e R s m args below meth c H locs cells slots Q (F0 m (pc + 1) ls (.int (av 11 i.toNatClampNeg) :: rest))) : W p l e R s m args below meth c H locs cells slots Q (F0 m pc ls (.int i :: .ref (ad 11) :: rest)) :=
  va_iald C.1.1 C.1.2.1 C.2.1 hw.1 12 0 rfl rfl hin hdg kk
theorem ms_written {i x : Int32} (C : mCx p m c cc nL s args g "MidiDeskModel") (hw : mWd g A H0 q ad X iv av H locs) (hin : ¬ (i < 0 ∨ 32768 ≤ i.toNatClampNeg)) (hdg : decode cc pc = .ok (.iastore, 1)) (kk : ∀ (H1 : Heap) (locs1 : List Loc), mWd g A H0 q ad X iv (up2 av 11 i.toNatClampNeg x) H1 locs1 → W p l e R s m args below meth c H1 locs1 cells slots Q (F0 m (pc + 1) ls rest)) : W p l e R s m args below meth c H locs cells slots Q (F0 m pc ls (.int x :: .int i :: .ref (ad 11) :: rest)) :=
  va_iast C.1.1 C.1.2.1 C.2.1 hw.1 hw.2.1 hw.2.2.1 12 0 rfl rfl hin hdg (fun H1 locs1 hP hD hS => kk H1 locs1 ⟨hP, hD, hS, hw.2.2.2⟩)
theorem m_retv {rv : Option Value} {iv' : Nat → Int32} {av' : Nat → Nat → Int32} (C : mCx p m c cc nL s args g "MidiDeskModel") (hr : meth.sig.returnType = none) (hlk : meth.locks = false) (hrv : rv = none) (hw : mWd g (mA g q ad X s.heap.size) s.heap q ad X iv av H locs) (hf : some (iv, av) = some (iv', av')) (hc : cells ≤ R.cells ∧ slots ≤ R.slots) (hdg : decode cc pc = .ok (.return_, 1)) : mG p l e R s m args below meth c g q ad X rv iv' av' H locs cells slots (F0 m pc ls []) := by
  cases hf
  subst hrv
  refine W.widen (k := R.cells) (n := R.slots) hc.1 hc.2 ?_
  exact W.vret C.1.1 C.1.2.1 hr (fun t ht hW => ⟨⟨rfl, by rw [ht]; exact hw.1⟩, hw.2.2.1.F ht⟩) hw.2.2.1.2.2 hdg hlk
theorem m_reti {rv : Option Value} {iv' : Nat → Int32} {av' : Nat → Nat → Int32} {x r : Int32} (C : mCx p m c cc nL s args g "MidiDeskModel") (hr : meth.sig.returnType = some .int) (hlk : meth.locks = false) (hrv : rv = some (.int r)) (hw : mWd g (mA g q ad X s.heap.size) s.heap q ad X iv av H locs) (hf : some (x, iv, av) = some (r, iv', av')) (hc : cells ≤ R.cells ∧ slots ≤ R.slots) (hdg : decode cc pc = .ok (.ireturn, 1)) : mG p l e R s m args below meth c g q ad X rv iv' av' H locs cells slots (F0 m pc ls [.int x]) := by
  cases hf
  subst hrv
  refine W.widen (k := R.cells) (n := R.slots) hc.1 hc.2 ?_
  exact W.iret C.1.1 C.1.2.1 hr (fun t ht hW => ⟨⟨rfl, by rw [ht]; exact hw.1⟩, hw.2.2.1.F ht⟩) hw.2.2.1.2.2 hdg hlk
theorem m_retz {rv : Option Value} {iv' : Nat → Int32} {av' : Nat → Nat → Int32} {x r : Int32} (C : mCx p m c cc nL s args g "MidiDeskModel") (hr : meth.sig.returnType = some .boolean) (hlk : meth.locks = false) (hrv : rv = some (.int r)) (hw : mWd g (mA g q ad X s.heap.size) s.heap q ad X iv av H locs) (hx : x = 0 ∨ x = 1) (hf : some (x, iv, av) = some (r, iv', av')) (hc : cells ≤ R.cells ∧ slots ≤ R.slots) (hdg : decode cc pc = .ok (.ireturn, 1)) : mG p l e R s m args below meth c g q ad X rv iv' av' H locs cells slots (F0 m pc ls [.int x]) := by
  cases hf
  subst hrv
  refine W.widen (k := R.cells) (n := R.slots) hc.1 hc.2 ?_
  exact W.zret C.1.1 C.1.2.1 hr (by rcases hx with rfl | rfl <;> rfl) (fun t ht hW => ⟨⟨rfl, by rw [ht]; exact hw.1⟩, hw.2.2.1.F ht⟩) hw.2.2.1.2.2 hdg hlk
theorem m_retl {rv : Option Value} {iv' : Nat → Int32} {av' : Nat → Nat → Int32} {x r : Int64} (C : mCx p m c cc nL s args g "MidiDeskModel") (hr : meth.sig.returnType = some .long) (hlk : meth.locks = false) (hrv : rv = some (.long r)) (hw : mWd g (mA g q ad X s.heap.size) s.heap q ad X iv av H locs) (hf : some (x, iv, av) = some (r, iv', av')) (hc : cells ≤ R.cells ∧ slots ≤ R.slots) (hdg : decode cc pc = .ok (.lreturn, 1)) : mG p l e R s m args below meth c g q ad X rv iv' av' H locs cells slots (F0 m pc ls [.long x]) := by
  cases hf
  subst hrv
  refine W.widen (k := R.cells) (n := R.slots) hc.1 hc.2 ?_
  exact W.lret C.1.1 C.1.2.1 hr (fun t ht hW => ⟨⟨rfl, by rw [ht]; exact hw.1⟩, hw.2.2.1.F ht⟩) hw.2.2.1.2.2 hdg hlk
end MR
end
section
def FU : Nat := 1000000
theorem gw_26 : (Cond.selects "MidiDeskModel" ({ cls := "MidiDeskModel", name := "head", desc := "()V" } : Jvm.MethodName) ({ cls := "MidiDeskModel", name := "head", desc := "()V" } : Jvm.MethodName)) ∈ gw := gw_in 26 (by decide +kernel) (by decide +kernel)
theorem gw_27 : (Cond.selects "MidiDeskModel" ({ cls := "MidiDeskModel", name := "taken", desc := "(I)J" } : Jvm.MethodName) ({ cls := "MidiDeskModel", name := "taken", desc := "(I)J" } : Jvm.MethodName)) ∈ gw := gw_in 27 (by decide +kernel) (by decide +kernel)
theorem gw_28 : (Cond.selects "MidiDeskModel" ({ cls := "MidiDeskModel", name := "fail", desc := "(II)V" } : Jvm.MethodName) ({ cls := "MidiDeskModel", name := "fail", desc := "(II)V" } : Jvm.MethodName)) ∈ gw := gw_in 28 (by decide +kernel) (by decide +kernel)
theorem gw_29 : (Cond.selects "MidiDeskModel" ({ cls := "MidiDeskModel", name := "track", desc := "(I)V" } : Jvm.MethodName) ({ cls := "MidiDeskModel", name := "track", desc := "(I)V" } : Jvm.MethodName)) ∈ gw := gw_in 29 (by decide +kernel) (by decide +kernel)
theorem gw_30 : (Cond.selects "MidiDeskModel" ({ cls := "MidiDeskModel", name := "number", desc := "()I" } : Jvm.MethodName) ({ cls := "MidiDeskModel", name := "number", desc := "()I" } : Jvm.MethodName)) ∈ gw := gw_in 30 (by decide +kernel) (by decide +kernel)
theorem gw_31 : (Cond.selects "MidiDeskModel" ({ cls := "MidiDeskModel", name := "event", desc := "(IIII)Z" } : Jvm.MethodName) ({ cls := "MidiDeskModel", name := "event", desc := "(IIII)Z" } : Jvm.MethodName)) ∈ gw := gw_in 31 (by decide +kernel) (by decide +kernel)
theorem gw_32 : (Cond.selects "MidiDeskModel" ({ cls := "MidiDeskModel", name := "small", desc := "()I" } : Jvm.MethodName) ({ cls := "MidiDeskModel", name := "small", desc := "()I" } : Jvm.MethodName)) ∈ gw := gw_in 32 (by decide +kernel) (by decide +kernel)
theorem gw_33 : (Cond.selects "MidiDeskModel" ({ cls := "MidiDeskModel", name := "follow", desc := "(II)V" } : Jvm.MethodName) ({ cls := "MidiDeskModel", name := "follow", desc := "(II)V" } : Jvm.MethodName)) ∈ gw := gw_in 33 (by decide +kernel) (by decide +kernel)
theorem gw_34 : (Cond.selects "MidiDeskModel" ({ cls := "MidiDeskModel", name := "tempo", desc := "(I)I" } : Jvm.MethodName) ({ cls := "MidiDeskModel", name := "tempo", desc := "(I)I" } : Jvm.MethodName)) ∈ gw := gw_in 34 (by decide +kernel) (by decide +kernel)
theorem gw_35 : (Cond.selects "MidiDeskModel" ({ cls := "MidiDeskModel", name := "sort", desc := "()V" } : Jvm.MethodName) ({ cls := "MidiDeskModel", name := "sort", desc := "()V" } : Jvm.MethodName)) ∈ gw := gw_in 35 (by decide +kernel) (by decide +kernel)
theorem gw_36 : (Cond.selects "MidiDeskModel" ({ cls := "MidiDeskModel", name := "again", desc := "()V" } : Jvm.MethodName) ({ cls := "MidiDeskModel", name := "again", desc := "()V" } : Jvm.MethodName)) ∈ gw := gw_in 36 (by decide +kernel) (by decide +kernel)
theorem gw_37 : (Cond.selects "MidiDeskModel" ({ cls := "MidiDeskModel", name := "isBefore", desc := "(II)Z" } : Jvm.MethodName) ({ cls := "MidiDeskModel", name := "isBefore", desc := "(II)Z" } : Jvm.MethodName)) ∈ gw := gw_in 37 (by decide +kernel) (by decide +kernel)
theorem gw_38 : (Cond.selects "MidiDeskModel" ({ cls := "MidiDeskModel", name := "has", desc := "(I)Z" } : Jvm.MethodName) ({ cls := "MidiDeskModel", name := "has", desc := "(I)Z" } : Jvm.MethodName)) ∈ gw := gw_in 38 (by decide +kernel) (by decide +kernel)
theorem gw_39 : (Cond.selects "MidiDeskModel" ({ cls := "MidiDeskModel", name := "fails", desc := "(ZZ)Z" } : Jvm.MethodName) ({ cls := "MidiDeskModel", name := "fails", desc := "(ZZ)Z" } : Jvm.MethodName)) ∈ gw := gw_in 39 (by decide +kernel) (by decide +kernel)
theorem gw_40 : (Cond.selects "MidiDeskModel" ({ cls := "MidiDeskModel", name := "timed", desc := "(I)J" } : Jvm.MethodName) ({ cls := "MidiDeskModel", name := "timed", desc := "(I)J" } : Jvm.MethodName)) ∈ gw := gw_in 40 (by decide +kernel) (by decide +kernel)
theorem gw_41 : (Cond.selects "MidiDeskModel" ({ cls := "MidiDeskModel", name := "isTempo", desc := "(I)Z" } : Jvm.MethodName) ({ cls := "MidiDeskModel", name := "isTempo", desc := "(I)Z" } : Jvm.MethodName)) ∈ gw := gw_in 41 (by decide +kernel) (by decide +kernel)
theorem gw_42 : (Cond.selects "MidiDeskModel" ({ cls := "MidiDeskModel", name := "parts", desc := "()J" } : Jvm.MethodName) ({ cls := "MidiDeskModel", name := "parts", desc := "()J" } : Jvm.MethodName)) ∈ gw := gw_in 42 (by decide +kernel) (by decide +kernel)
theorem gw_43 : (Cond.selects "MidiDeskModel" ({ cls := "MidiDeskModel", name := "begins", desc := "(I)Z" } : Jvm.MethodName) ({ cls := "MidiDeskModel", name := "begins", desc := "(I)Z" } : Jvm.MethodName)) ∈ gw := gw_in 43 (by decide +kernel) (by decide +kernel)
theorem gw_44 : (Cond.selects "MidiDeskModel" ({ cls := "MidiDeskModel", name := "ends", desc := "(I)Z" } : Jvm.MethodName) ({ cls := "MidiDeskModel", name := "ends", desc := "(I)Z" } : Jvm.MethodName)) ∈ gw := gw_in 44 (by decide +kernel) (by decide +kernel)
theorem gw_45 : (Cond.selects "MidiDeskModel" ({ cls := "MidiDeskModel", name := "isNote", desc := "(II)Z" } : Jvm.MethodName) ({ cls := "MidiDeskModel", name := "isNote", desc := "(II)Z" } : Jvm.MethodName)) ∈ gw := gw_in 45 (by decide +kernel) (by decide +kernel)
theorem gw_46 : (Cond.selects "MidiDeskModel" ({ cls := "MidiDeskModel", name := "put", desc := "(II)V" } : Jvm.MethodName) ({ cls := "MidiDeskModel", name := "put", desc := "(II)V" } : Jvm.MethodName)) ∈ gw := gw_in 46 (by decide +kernel) (by decide +kernel)
theorem gw_47 : (Cond.selects "MidiDeskModel" ({ cls := "MidiDeskModel", name := "put", desc := "(I)V" } : Jvm.MethodName) ({ cls := "MidiDeskModel", name := "put", desc := "(I)V" } : Jvm.MethodName)) ∈ gw := gw_in 47 (by decide +kernel) (by decide +kernel)
theorem gw_48 : (Cond.selects "MidiDeskModel" ({ cls := "MidiDeskModel", name := "putTrack", desc := "(IZZ)V" } : Jvm.MethodName) ({ cls := "MidiDeskModel", name := "putTrack", desc := "(IZZ)V" } : Jvm.MethodName)) ∈ gw := gw_in 48 (by decide +kernel) (by decide +kernel)
theorem gw_49 : (Cond.selects "MidiDeskModel" ({ cls := "MidiDeskModel", name := "putNumber", desc := "(I)V" } : Jvm.MethodName) ({ cls := "MidiDeskModel", name := "putNumber", desc := "(I)V" } : Jvm.MethodName)) ∈ gw := gw_in 49 (by decide +kernel) (by decide +kernel)
theorem gw_50 : (Cond.selects "MidiDeskModel" ({ cls := "MidiDeskModel", name := "counted", desc := "(Z)I" } : Jvm.MethodName) ({ cls := "MidiDeskModel", name := "counted", desc := "(Z)I" } : Jvm.MethodName)) ∈ gw := gw_in 50 (by decide +kernel) (by decide +kernel)
theorem gw_55 : (Jvm.Cond.initialized "MidiDeskModel") ∈ gw := gw_in 55 (by decide +kernel) (by decide +kernel)
theorem gw_714 : (Jvm.Cond.constant "MidiDeskModel" (43 : Nat) (32768 : Int32)) ∈ gw := gw_in 714 (by decide +kernel) (by decide +kernel)
theorem gw_799 : (Jvm.Cond.constantLong "MidiDeskModel" (54 : Nat) (255 : Int64)) ∈ gw := gw_in 799 (by decide +kernel) (by decide +kernel)
theorem gw_804 : (Jvm.Cond.methodLink "MidiDeskModel" (101 : Nat) ({ cls := "MidiDeskModel", name := "head", desc := "()V" } : Jvm.MethodName)) ∈ gw := gw_in 804 (by decide +kernel) (by decide +kernel)
theorem gw_806 : (Jvm.Cond.instanceMethod ({ cls := "MidiDeskModel", name := "head", desc := "()V" } : Jvm.MethodName)) ∈ gw := gw_in 806 (by decide +kernel) (by decide +kernel)
theorem gw_807 : (Jvm.Cond.code ({ cls := "MidiDeskModel", name := "head", desc := "()V" } : Jvm.MethodName) prog_8_method_9_code (1 : Nat) (Option.none : Option Jvm.ClassFile.FieldType)) ∈ gw := gw_in 807 (by decide +kernel) (by decide +kernel)
theorem gw_808 : (Jvm.Cond.methodLink "MidiDeskModel" (74 : Nat) ({ cls := "MidiDeskModel", name := "taken", desc := "(I)J" } : Jvm.MethodName)) ∈ gw := gw_in 808 (by decide +kernel) (by decide +kernel)
theorem gw_810 : (Jvm.Cond.instanceMethod ({ cls := "MidiDeskModel", name := "taken", desc := "(I)J" } : Jvm.MethodName)) ∈ gw := gw_in 810 (by decide +kernel) (by decide +kernel)
theorem gw_811 : (Jvm.Cond.code ({ cls := "MidiDeskModel", name := "taken", desc := "(I)J" } : Jvm.MethodName) prog_8_method_6_code (5 : Nat) (Option.some Jvm.ClassFile.FieldType.long)) ∈ gw := gw_in 811 (by decide +kernel) (by decide +kernel)
theorem gw_812 : (Jvm.Cond.methodLink "MidiDeskModel" (68 : Nat) ({ cls := "MidiDeskModel", name := "fail", desc := "(II)V" } : Jvm.MethodName)) ∈ gw := gw_in 812 (by decide +kernel) (by decide +kernel)
theorem gw_814 : (Jvm.Cond.instanceMethod ({ cls := "MidiDeskModel", name := "fail", desc := "(II)V" } : Jvm.MethodName)) ∈ gw := gw_in 814 (by decide +kernel) (by decide +kernel)
theorem gw_815 : (Jvm.Cond.code ({ cls := "MidiDeskModel", name := "fail", desc := "(II)V" } : Jvm.MethodName) prog_8_method_5_code (3 : Nat) (Option.none : Option Jvm.ClassFile.FieldType)) ∈ gw := gw_in 815 (by decide +kernel) (by decide +kernel)
theorem gw_816 : (Jvm.Cond.constantLong "MidiDeskModel" (72 : Nat) (256 : Int64)) ∈ gw := gw_in 816 (by decide +kernel) (by decide +kernel)
theorem gw_817 : (Jvm.Cond.constantLong "MidiDeskModel" (78 : Nat) (1297377380 : Int64)) ∈ gw := gw_in 817 (by decide +kernel) (by decide +kernel)
theorem gw_818 : (Jvm.Cond.constantLong "MidiDeskModel" (80 : Nat) (6 : Int64)) ∈ gw := gw_in 818 (by decide +kernel) (by decide +kernel)
theorem gw_819 : (Jvm.Cond.methodLink "MidiDeskModel" (91 : Nat) ({ cls := "MidiDeskModel", name := "isDivision", desc := "(I)Z" } : Jvm.MethodName)) ∈ gw := gw_in 819 (by decide +kernel) (by decide +kernel)
theorem gw_820 : (Jvm.Cond.static ({ cls := "MidiDeskModel", name := "isDivision", desc := "(I)Z" } : Jvm.MethodName)) ∈ gw := gw_in 820 (by decide +kernel) (by decide +kernel)
theorem gw_821 : (Jvm.Cond.code ({ cls := "MidiDeskModel", name := "isDivision", desc := "(I)Z" } : Jvm.MethodName) prog_8_method_8_code (2 : Nat) (Option.some Jvm.ClassFile.FieldType.boolean)) ∈ gw := gw_in 821 (by decide +kernel) (by decide +kernel)
theorem gw_822 : (Jvm.Cond.constantLong "MidiDeskModel" (104 : Nat) (1297379947 : Int64)) ∈ gw := gw_in 822 (by decide +kernel) (by decide +kernel)
theorem gw_823 : (Jvm.Cond.methodLink "MidiDeskModel" (106 : Nat) ({ cls := "MidiDeskModel", name := "track", desc := "(I)V" } : Jvm.MethodName)) ∈ gw := gw_in 823 (by decide +kernel) (by decide +kernel)
theorem gw_825 : (Jvm.Cond.instanceMethod ({ cls := "MidiDeskModel", name := "track", desc := "(I)V" } : Jvm.MethodName)) ∈ gw := gw_in 825 (by decide +kernel) (by decide +kernel)
theorem gw_826 : (Jvm.Cond.code ({ cls := "MidiDeskModel", name := "track", desc := "(I)V" } : Jvm.MethodName) prog_8_method_11_code (8 : Nat) (Option.none : Option Jvm.ClassFile.FieldType)) ∈ gw := gw_in 826 (by decide +kernel) (by decide +kernel)
theorem gw_827 : (Jvm.Cond.methodLink "MidiDeskModel" (117 : Nat) ({ cls := "MidiDeskModel", name := "number", desc := "()I" } : Jvm.MethodName)) ∈ gw := gw_in 827 (by decide +kernel) (by decide +kernel)
theorem gw_829 : (Jvm.Cond.instanceMethod ({ cls := "MidiDeskModel", name := "number", desc := "()I" } : Jvm.MethodName)) ∈ gw := gw_in 829 (by decide +kernel) (by decide +kernel)
theorem gw_830 : (Jvm.Cond.code ({ cls := "MidiDeskModel", name := "number", desc := "()I" } : Jvm.MethodName) prog_8_method_7_code (5 : Nat) (Option.some Jvm.ClassFile.FieldType.int)) ∈ gw := gw_in 830 (by decide +kernel) (by decide +kernel)
theorem gw_831 : (Jvm.Cond.constantLong "MidiDeskModel" (121 : Nat) (268435455 : Int64)) ∈ gw := gw_in 831 (by decide +kernel) (by decide +kernel)
theorem gw_832 : (Jvm.Cond.methodLink "MidiDeskModel" (123 : Nat) ({ cls := "MidiDeskModel", name := "event", desc := "(IIII)Z" } : Jvm.MethodName)) ∈ gw := gw_in 832 (by decide +kernel) (by decide +kernel)
theorem gw_834 : (Jvm.Cond.instanceMethod ({ cls := "MidiDeskModel", name := "event", desc := "(IIII)Z" } : Jvm.MethodName)) ∈ gw := gw_in 834 (by decide +kernel) (by decide +kernel)
theorem gw_835 : (Jvm.Cond.code ({ cls := "MidiDeskModel", name := "event", desc := "(IIII)Z" } : Jvm.MethodName) prog_8_method_13_code (6 : Nat) (Option.some Jvm.ClassFile.FieldType.boolean)) ∈ gw := gw_in 835 (by decide +kernel) (by decide +kernel)
theorem gw_836 : (Jvm.Cond.methodLink "MidiDeskModel" (127 : Nat) ({ cls := "MidiDeskModel", name := "small", desc := "()I" } : Jvm.MethodName)) ∈ gw := gw_in 836 (by decide +kernel) (by decide +kernel)
theorem gw_838 : (Jvm.Cond.instanceMethod ({ cls := "MidiDeskModel", name := "small", desc := "()I" } : Jvm.MethodName)) ∈ gw := gw_in 838 (by decide +kernel) (by decide +kernel)
theorem gw_839 : (Jvm.Cond.code ({ cls := "MidiDeskModel", name := "small", desc := "()I" } : Jvm.MethodName) prog_8_method_12_code (3 : Nat) (Option.some Jvm.ClassFile.FieldType.int)) ∈ gw := gw_in 839 (by decide +kernel) (by decide +kernel)
theorem gw_840 : (Jvm.Cond.methodLink "MidiDeskModel" (130 : Nat) ({ cls := "MidiDeskModel", name := "follow", desc := "(II)V" } : Jvm.MethodName)) ∈ gw := gw_in 840 (by decide +kernel) (by decide +kernel)
theorem gw_842 : (Jvm.Cond.instanceMethod ({ cls := "MidiDeskModel", name := "follow", desc := "(II)V" } : Jvm.MethodName)) ∈ gw := gw_in 842 (by decide +kernel) (by decide +kernel)
theorem gw_843 : (Jvm.Cond.code ({ cls := "MidiDeskModel", name := "follow", desc := "(II)V" } : Jvm.MethodName) prog_8_method_14_code (6 : Nat) (Option.none : Option Jvm.ClassFile.FieldType)) ∈ gw := gw_in 843 (by decide +kernel) (by decide +kernel)
theorem gw_844 : (Jvm.Cond.methodLink "MidiDeskModel" (133 : Nat) ({ cls := "MidiDeskModel", name := "tempo", desc := "(I)I" } : Jvm.MethodName)) ∈ gw := gw_in 844 (by decide +kernel) (by decide +kernel)
theorem gw_846 : (Jvm.Cond.instanceMethod ({ cls := "MidiDeskModel", name := "tempo", desc := "(I)I" } : Jvm.MethodName)) ∈ gw := gw_in 846 (by decide +kernel) (by decide +kernel)
theorem gw_847 : (Jvm.Cond.code ({ cls := "MidiDeskModel", name := "tempo", desc := "(I)I" } : Jvm.MethodName) prog_8_method_15_code (2 : Nat) (Option.some Jvm.ClassFile.FieldType.int)) ∈ gw := gw_in 847 (by decide +kernel) (by decide +kernel)
theorem gw_848 : (Jvm.Cond.methodLink "MidiDeskModel" (114 : Nat) ({ cls := "MidiDeskModel", name := "sort", desc := "()V" } : Jvm.MethodName)) ∈ gw := gw_in 848 (by decide +kernel) (by decide +kernel)
theorem gw_850 : (Jvm.Cond.instanceMethod ({ cls := "MidiDeskModel", name := "sort", desc := "()V" } : Jvm.MethodName)) ∈ gw := gw_in 850 (by decide +kernel) (by decide +kernel)
theorem gw_851 : (Jvm.Cond.code ({ cls := "MidiDeskModel", name := "sort", desc := "()V" } : Jvm.MethodName) prog_8_method_17_code (2 : Nat) (Option.none : Option Jvm.ClassFile.FieldType)) ∈ gw := gw_in 851 (by decide +kernel) (by decide +kernel)
theorem gw_852 : (Jvm.Cond.methodLink "MidiDeskModel" (137 : Nat) ({ cls := "MidiDeskModel", name := "again", desc := "()V" } : Jvm.MethodName)) ∈ gw := gw_in 852 (by decide +kernel) (by decide +kernel)
theorem gw_854 : (Jvm.Cond.instanceMethod ({ cls := "MidiDeskModel", name := "again", desc := "()V" } : Jvm.MethodName)) ∈ gw := gw_in 854 (by decide +kernel) (by decide +kernel)
theorem gw_855 : (Jvm.Cond.code ({ cls := "MidiDeskModel", name := "again", desc := "()V" } : Jvm.MethodName) prog_8_method_19_code (4 : Nat) (Option.none : Option Jvm.ClassFile.FieldType)) ∈ gw := gw_in 855 (by decide +kernel) (by decide +kernel)
theorem gw_856 : (Jvm.Cond.methodLink "MidiDeskModel" (140 : Nat) ({ cls := "MidiDeskModel", name := "isBefore", desc := "(II)Z" } : Jvm.MethodName)) ∈ gw := gw_in 856 (by decide +kernel) (by decide +kernel)
theorem gw_858 : (Jvm.Cond.instanceMethod ({ cls := "MidiDeskModel", name := "isBefore", desc := "(II)Z" } : Jvm.MethodName)) ∈ gw := gw_in 858 (by decide +kernel) (by decide +kernel)
theorem gw_859 : (Jvm.Cond.code ({ cls := "MidiDeskModel", name := "isBefore", desc := "(II)Z" } : Jvm.MethodName) prog_8_method_18_code (3 : Nat) (Option.some Jvm.ClassFile.FieldType.boolean)) ∈ gw := gw_in 859 (by decide +kernel) (by decide +kernel)
theorem gw_864 : (Jvm.Cond.methodLink "MidiDeskModel" (144 : Nat) ({ cls := "MidiDeskModel", name := "has", desc := "(I)Z" } : Jvm.MethodName)) ∈ gw := gw_in 864 (by decide +kernel) (by decide +kernel)
theorem gw_866 : (Jvm.Cond.instanceMethod ({ cls := "MidiDeskModel", name := "has", desc := "(I)Z" } : Jvm.MethodName)) ∈ gw := gw_in 866 (by decide +kernel) (by decide +kernel)
theorem gw_867 : (Jvm.Cond.code ({ cls := "MidiDeskModel", name := "has", desc := "(I)Z" } : Jvm.MethodName) prog_8_method_20_code (2 : Nat) (Option.some Jvm.ClassFile.FieldType.boolean)) ∈ gw := gw_in 867 (by decide +kernel) (by decide +kernel)
theorem gw_876 : (Jvm.Cond.constant "MidiDeskModel" (157 : Nat) (268435455 : Int32)) ∈ gw := gw_in 876 (by decide +kernel) (by decide +kernel)
theorem gw_877 : (Jvm.Cond.methodLink "MidiDeskModel" (158 : Nat) ({ cls := "MidiDeskModel", name := "fails", desc := "(ZZ)Z" } : Jvm.MethodName)) ∈ gw := gw_in 877 (by decide +kernel) (by decide +kernel)
theorem gw_879 : (Jvm.Cond.instanceMethod ({ cls := "MidiDeskModel", name := "fails", desc := "(ZZ)Z" } : Jvm.MethodName)) ∈ gw := gw_in 879 (by decide +kernel) (by decide +kernel)
theorem gw_880 : (Jvm.Cond.code ({ cls := "MidiDeskModel", name := "fails", desc := "(ZZ)Z" } : Jvm.MethodName) prog_8_method_3_code (3 : Nat) (Option.some Jvm.ClassFile.FieldType.boolean)) ∈ gw := gw_in 880 (by decide +kernel) (by decide +kernel)
theorem gw_881 : (Jvm.Cond.methodLink "MidiDeskModel" (162 : Nat) ({ cls := "MidiDeskModel", name := "timed", desc := "(I)J" } : Jvm.MethodName)) ∈ gw := gw_in 881 (by decide +kernel) (by decide +kernel)
theorem gw_883 : (Jvm.Cond.instanceMethod ({ cls := "MidiDeskModel", name := "timed", desc := "(I)J" } : Jvm.MethodName)) ∈ gw := gw_in 883 (by decide +kernel) (by decide +kernel)
theorem gw_884 : (Jvm.Cond.code ({ cls := "MidiDeskModel", name := "timed", desc := "(I)J" } : Jvm.MethodName) prog_8_method_24_code (8 : Nat) (Option.some Jvm.ClassFile.FieldType.long)) ∈ gw := gw_in 884 (by decide +kernel) (by decide +kernel)
theorem gw_885 : (Jvm.Cond.constantLong "MidiDeskModel" (149 : Nat) (100100 : Int64)) ∈ gw := gw_in 885 (by decide +kernel) (by decide +kernel)
theorem gw_886 : (Jvm.Cond.constantLong "MidiDeskModel" (151 : Nat) (1000000 : Int64)) ∈ gw := gw_in 886 (by decide +kernel) (by decide +kernel)
theorem gw_887 : (Jvm.Cond.constant "MidiDeskModel" (153 : Nat) (500000 : Int32)) ∈ gw := gw_in 887 (by decide +kernel) (by decide +kernel)
theorem gw_888 : (Jvm.Cond.methodLink "MidiDeskModel" (154 : Nat) ({ cls := "MidiDeskModel", name := "isTempo", desc := "(I)Z" } : Jvm.MethodName)) ∈ gw := gw_in 888 (by decide +kernel) (by decide +kernel)
theorem gw_890 : (Jvm.Cond.instanceMethod ({ cls := "MidiDeskModel", name := "isTempo", desc := "(I)Z" } : Jvm.MethodName)) ∈ gw := gw_in 890 (by decide +kernel) (by decide +kernel)
theorem gw_891 : (Jvm.Cond.code ({ cls := "MidiDeskModel", name := "isTempo", desc := "(I)Z" } : Jvm.MethodName) prog_8_method_16_code (2 : Nat) (Option.some Jvm.ClassFile.FieldType.boolean)) ∈ gw := gw_in 891 (by decide +kernel) (by decide +kernel)
theorem gw_892 : (Jvm.Cond.methodLink "MidiDeskModel" (165 : Nat) ({ cls := "MidiDeskModel", name := "parts", desc := "()J" } : Jvm.MethodName)) ∈ gw := gw_in 892 (by decide +kernel) (by decide +kernel)
theorem gw_894 : (Jvm.Cond.instanceMethod ({ cls := "MidiDeskModel", name := "parts", desc := "()J" } : Jvm.MethodName)) ∈ gw := gw_in 894 (by decide +kernel) (by decide +kernel)
theorem gw_895 : (Jvm.Cond.code ({ cls := "MidiDeskModel", name := "parts", desc := "()J" } : Jvm.MethodName) prog_8_method_23_code (2 : Nat) (Option.some Jvm.ClassFile.FieldType.long)) ∈ gw := gw_in 895 (by decide +kernel) (by decide +kernel)
theorem gw_896 : (Jvm.Cond.constantLong "MidiDeskModel" (147 : Nat) (3 : Int64)) ∈ gw := gw_in 896 (by decide +kernel) (by decide +kernel)
theorem gw_905 : (Jvm.Cond.methodLink "MidiDeskModel" (169 : Nat) ({ cls := "MidiDeskModel", name := "begins", desc := "(I)Z" } : Jvm.MethodName)) ∈ gw := gw_in 905 (by decide +kernel) (by decide +kernel)
theorem gw_907 : (Jvm.Cond.instanceMethod ({ cls := "MidiDeskModel", name := "begins", desc := "(I)Z" } : Jvm.MethodName)) ∈ gw := gw_in 907 (by decide +kernel) (by decide +kernel)
theorem gw_908 : (Jvm.Cond.code ({ cls := "MidiDeskModel", name := "begins", desc := "(I)Z" } : Jvm.MethodName) prog_8_method_27_code (2 : Nat) (Option.some Jvm.ClassFile.FieldType.boolean)) ∈ gw := gw_in 908 (by decide +kernel) (by decide +kernel)
theorem gw_909 : (Jvm.Cond.methodLink "MidiDeskModel" (172 : Nat) ({ cls := "MidiDeskModel", name := "ends", desc := "(I)Z" } : Jvm.MethodName)) ∈ gw := gw_in 909 (by decide +kernel) (by decide +kernel)
theorem gw_911 : (Jvm.Cond.instanceMethod ({ cls := "MidiDeskModel", name := "ends", desc := "(I)Z" } : Jvm.MethodName)) ∈ gw := gw_in 911 (by decide +kernel) (by decide +kernel)
theorem gw_912 : (Jvm.Cond.code ({ cls := "MidiDeskModel", name := "ends", desc := "(I)Z" } : Jvm.MethodName) prog_8_method_28_code (2 : Nat) (Option.some Jvm.ClassFile.FieldType.boolean)) ∈ gw := gw_in 912 (by decide +kernel) (by decide +kernel)
theorem gw_917 : (Jvm.Cond.methodLink "MidiDeskModel" (175 : Nat) ({ cls := "MidiDeskModel", name := "isNote", desc := "(II)Z" } : Jvm.MethodName)) ∈ gw := gw_in 917 (by decide +kernel) (by decide +kernel)
theorem gw_919 : (Jvm.Cond.instanceMethod ({ cls := "MidiDeskModel", name := "isNote", desc := "(II)Z" } : Jvm.MethodName)) ∈ gw := gw_in 919 (by decide +kernel) (by decide +kernel)
theorem gw_920 : (Jvm.Cond.code ({ cls := "MidiDeskModel", name := "isNote", desc := "(II)Z" } : Jvm.MethodName) prog_8_method_31_code (3 : Nat) (Option.some Jvm.ClassFile.FieldType.boolean)) ∈ gw := gw_in 920 (by decide +kernel) (by decide +kernel)
theorem gw_921 : (Jvm.Cond.constantLong "MidiDeskModel" (178 : Nat) (128 : Int64)) ∈ gw := gw_in 921 (by decide +kernel) (by decide +kernel)
theorem gw_926 : (Jvm.Cond.constant "MidiDeskModel" (182 : Nat) (100000 : Int32)) ∈ gw := gw_in 926 (by decide +kernel) (by decide +kernel)
theorem gw_927 : (Jvm.Cond.methodLink "MidiDeskModel" (183 : Nat) ({ cls := "MidiDeskModel", name := "nearest", desc := "(II)J" } : Jvm.MethodName)) ∈ gw := gw_in 927 (by decide +kernel) (by decide +kernel)
theorem gw_928 : (Jvm.Cond.static ({ cls := "MidiDeskModel", name := "nearest", desc := "(II)J" } : Jvm.MethodName)) ∈ gw := gw_in 928 (by decide +kernel) (by decide +kernel)
theorem gw_929 : (Jvm.Cond.code ({ cls := "MidiDeskModel", name := "nearest", desc := "(II)J" } : Jvm.MethodName) prog_8_method_32_code (4 : Nat) (Option.some Jvm.ClassFile.FieldType.long)) ∈ gw := gw_in 929 (by decide +kernel) (by decide +kernel)
theorem gw_930 : (Jvm.Cond.constantLong "MidiDeskModel" (180 : Nat) (2 : Int64)) ∈ gw := gw_in 930 (by decide +kernel) (by decide +kernel)
theorem gw_939 : (Jvm.Cond.constant "MidiDeskModel" (201 : Nat) (1297377380 : Int32)) ∈ gw := gw_in 939 (by decide +kernel) (by decide +kernel)
theorem gw_940 : (Jvm.Cond.methodLink "MidiDeskModel" (195 : Nat) ({ cls := "MidiDeskModel", name := "put", desc := "(II)V" } : Jvm.MethodName)) ∈ gw := gw_in 940 (by decide +kernel) (by decide +kernel)
theorem gw_942 : (Jvm.Cond.instanceMethod ({ cls := "MidiDeskModel", name := "put", desc := "(II)V" } : Jvm.MethodName)) ∈ gw := gw_in 942 (by decide +kernel) (by decide +kernel)
theorem gw_943 : (Jvm.Cond.code ({ cls := "MidiDeskModel", name := "put", desc := "(II)V" } : Jvm.MethodName) prog_8_method_36_code (4 : Nat) (Option.none : Option Jvm.ClassFile.FieldType)) ∈ gw := gw_in 943 (by decide +kernel) (by decide +kernel)
theorem gw_944 : (Jvm.Cond.methodLink "MidiDeskModel" (190 : Nat) ({ cls := "MidiDeskModel", name := "put", desc := "(I)V" } : Jvm.MethodName)) ∈ gw := gw_in 944 (by decide +kernel) (by decide +kernel)
theorem gw_946 : (Jvm.Cond.instanceMethod ({ cls := "MidiDeskModel", name := "put", desc := "(I)V" } : Jvm.MethodName)) ∈ gw := gw_in 946 (by decide +kernel) (by decide +kernel)
theorem gw_947 : (Jvm.Cond.code ({ cls := "MidiDeskModel", name := "put", desc := "(I)V" } : Jvm.MethodName) prog_8_method_35_code (2 : Nat) (Option.none : Option Jvm.ClassFile.FieldType)) ∈ gw := gw_in 947 (by decide +kernel) (by decide +kernel)
theorem gw_948 : (Jvm.Cond.methodLink "MidiDeskModel" (202 : Nat) ({ cls := "MidiDeskModel", name := "putTrack", desc := "(IZZ)V" } : Jvm.MethodName)) ∈ gw := gw_in 948 (by decide +kernel) (by decide +kernel)
theorem gw_950 : (Jvm.Cond.instanceMethod ({ cls := "MidiDeskModel", name := "putTrack", desc := "(IZZ)V" } : Jvm.MethodName)) ∈ gw := gw_in 950 (by decide +kernel) (by decide +kernel)
theorem gw_951 : (Jvm.Cond.code ({ cls := "MidiDeskModel", name := "putTrack", desc := "(IZZ)V" } : Jvm.MethodName) prog_8_method_38_code (10 : Nat) (Option.none : Option Jvm.ClassFile.FieldType)) ∈ gw := gw_in 951 (by decide +kernel) (by decide +kernel)
theorem gw_952 : (Jvm.Cond.constant "MidiDeskModel" (194 : Nat) (1297379947 : Int32)) ∈ gw := gw_in 952 (by decide +kernel) (by decide +kernel)
theorem gw_953 : (Jvm.Cond.methodLink "MidiDeskModel" (197 : Nat) ({ cls := "MidiDeskModel", name := "putNumber", desc := "(I)V" } : Jvm.MethodName)) ∈ gw := gw_in 953 (by decide +kernel) (by decide +kernel)
theorem gw_955 : (Jvm.Cond.instanceMethod ({ cls := "MidiDeskModel", name := "putNumber", desc := "(I)V" } : Jvm.MethodName)) ∈ gw := gw_in 955 (by decide +kernel) (by decide +kernel)
theorem gw_956 : (Jvm.Cond.code ({ cls := "MidiDeskModel", name := "putNumber", desc := "(I)V" } : Jvm.MethodName) prog_8_method_37_code (4 : Nat) (Option.none : Option Jvm.ClassFile.FieldType)) ∈ gw := gw_in 956 (by decide +kernel) (by decide +kernel)
theorem gw_957 : (Jvm.Cond.constant "MidiDeskModel" (193 : Nat) (2097151 : Int32)) ∈ gw := gw_in 957 (by decide +kernel) (by decide +kernel)
theorem gw_958 : (Jvm.Cond.constant "MidiDeskModel" (200 : Nat) (16723712 : Int32)) ∈ gw := gw_in 958 (by decide +kernel) (by decide +kernel)
theorem gw_971 : (Jvm.Cond.methodLink "MidiDeskModel" (206 : Nat) ({ cls := "MidiDeskModel", name := "counted", desc := "(Z)I" } : Jvm.MethodName)) ∈ gw := gw_in 971 (by decide +kernel) (by decide +kernel)
theorem gw_973 : (Jvm.Cond.instanceMethod ({ cls := "MidiDeskModel", name := "counted", desc := "(Z)I" } : Jvm.MethodName)) ∈ gw := gw_in 973 (by decide +kernel) (by decide +kernel)
theorem gw_974 : (Jvm.Cond.code ({ cls := "MidiDeskModel", name := "counted", desc := "(Z)I" } : Jvm.MethodName) prog_8_method_42_code (4 : Nat) (Option.some Jvm.ClassFile.FieldType.int)) ∈ gw := gw_in 974 (by decide +kernel) (by decide +kernel)
end
section
/-- the state of the desk: int fields, int arrays, rows of events (by their numbers), events' fields -/
abbrev cZ : Type := (Nat → Int32) × (Nat → Nat → Int32) × (Nat → Nat → Option Nat) × (Nat → Nat → Int32)
/-- its shape: lengths of arrays, how many events were made, cells and slots that were made -/
abbrev cH : Type := (Nat → Nat) × Nat × Nat × Nat
def zi (z : cZ) : Nat → Int32 := z.1
def za (z : cZ) : Nat → Nat → Int32 := z.2.1
def zr (z : cZ) : Nat → Nat → Option Nat := z.2.2.1
def ze (z : cZ) : Nat → Nat → Int32 := z.2.2.2
def upr (f : Nat → Nat → Option Nat) (k i : Nat) (x : Option Nat) : Nat → Nat → Option Nat := fun a b => if a = k then (if b = i then x else f k b) else f a b
def upe (f : Nat → Nat → Int32) (j k : Nat) (x : Int32) : Nat → Nat → Int32 := fun a b => if a = j then (if b = k then x else f a b) else f a b
def zU (z : cZ) (k : Nat) (x : Int32) : cZ := (upd z.1 k x, z.2)
def zA (z : cZ) (k i : Nat) (x : Int32) : cZ := (z.1, up2 z.2.1 k i x, z.2.2)
def zR (z : cZ) (k i : Nat) (x : Option Nat) : cZ := (z.1, z.2.1, upr z.2.2.1 k i x, z.2.2.2)
def zE (z : cZ) (j k : Nat) (x : Int32) : cZ := (z.1, z.2.1, z.2.2.1, upe z.2.2.2 j k x)
def okr (n : Nat) : Option Nat → Bool
  | none => true
  | some j => decide (j < n)
def cevf (z : cZ) (j : Nat) : List Value := [.int (ze z j 0), .int (ze z j 1), .int (ze z j 2), .int (ze z j 3), .int (ze z j 4), .int (ze z j 5), .int (ze z j 6)]
def cev (ea : Nat → Nat) (z : cZ) (j : Nat) : Nat × va_E := (ea j, .inr (1, cevf z j))
def cpool (ea : Nat → Nat) (z : cZ) (n : Nat) : va_W := (List.range n).map (cev ea z)
/-- the cells of the desk: desk, input, output, data, score, their arrays, the rows of events; the events; others -/
def cw (g : gT) (qq ad ea : Nat → Nat) (h : cH) (z : cZ) (X : va_W) : va_W := (qq 0, .inr (5, [.ref (qq 1), .ref (qq 2), .ref (qq 4)])) :: (qq 1, .inr (0, [.int 12000, .ref (ad 0), .int (zi z 0)])) :: (qq 2, .inr (0, [.int 16384, .ref (ad 1), .int (zi z 1)])) :: (qq 3, .inr (0, [.int 8000, .ref (ad 2), .int (zi z 2)])) :: (qq 4, .inr (4, [.ref (qq 3), .int (zi z 3), .int (zi z 4), .int (zi z 5), .int (zi z 6), .ref (ad 3), .ref (ad 4), .int (zi z 7)])) :: (ad 0, .inl (g.2.1, h.1 0, .inl (za z 0))) :: (ad 1, .inl (g.2.1, h.1 1, .inl (za z 1))) :: (ad 2, .inl (g.2.1, h.1 2, .inl (za z 2))) :: (ad 3, .inl (g.2.2.2, h.1 3, .inr (.inr (.inr (.inr (fun t => Option.map ea (zr z 0 t))))))) :: (ad 4, .inl (g.2.2.2, h.1 4, .inr (.inr (.inr (.inr (fun t => Option.map ea (zr z 1 t))))))) :: (cpool ea z h.2.1 ++ X)
def pcell (qp : Nat) (qq : Nat → Nat) (pv : Nat → Int32) : Nat × va_E := (qp, .inr (2, [.ref (qq 1), .ref (qq 4), .int (pv 0), .int (pv 1), .int (pv 2), .int (pv 3), .int (pv 4), .int (pv 5), .int (pv 6), .int (pv 7), .int (pv 8), .int (pv 9), .int (pv 10)]))
def tcell (qp : Nat) (qq : Nat → Nat) (pv : Nat → Int32) : Nat × va_E := (qp, .inr (3, [.ref (qq 4), .ref (qq 2), .int (pv 0), .int (pv 1), .int (pv 2)]))
def cWd (g : gT) (A : Nat → Prop) (H0 : Heap) (qq ad ea : Nat → Nat) (h : cH) (X : va_W) (z : cZ) (H : Heap) (locs : List Loc) : Prop := va_P g.1 classes (cw g qq ad ea h z X) H ∧ va_D A (cw g qq ad ea h z X) ∧ va_S A H0 H locs ∧ ∀ y, H0.size ≤ y → A y
theorem cw_map {g : gT} {qq ad ea : Nat → Nat} {h : cH} {z z' : cZ} {X X' : va_W} (hX : X.map Prod.fst = X'.map Prod.fst) : (cw g qq ad ea h z X).map Prod.fst = (cw g qq ad ea h z' X').map Prod.fst := by
  simp only [cw, cpool, List.map_cons, List.map_append, List.map_map, hX]
  rfl
def z0 : cZ := (fun _ => 0, fun _ _ => 0, fun _ _ => none, fun _ _ => 0)
abbrev cA (g : gT) (qq ad ea : Nat → Nat) (h : cH) (X : va_W) (sz : Nat) : Nat → Prop := va_A (cw g qq ad ea h z0 X) sz
def cPc (g : gT) (qq ad ea : Nat → Nat) (h : cH) (X : va_W) (z : cZ) (vs : List Value) (sz : Nat) : Array Value → State → Prop := va_Pc vs (fun U => U.heap.size = sz ∧ kK g U ∧ va_P g.1 classes (cw g qq ad ea h z X) U.heap ∧ va_D (fun _ => True) (cw g qq ad ea h z X))
def cQn (g : gT) (qq ad ea : Nat → Nat) (h : cH) (X : va_W) (rv : Option Value) (X' : va_W) (z' : cZ) (sz : Nat) : Array Value → State → Outcome → State → Prop := fun _ st oc t => (oc = .returned rv ∧ va_P g.1 classes (cw g qq ad ea h z' X') t.heap) ∧ va_F (cA g qq ad ea h X sz) st t
/-- the contract of a method that makes nothing -/
def cMet (l : Launch) (y : MethodName) (cc : ByteArray) (maxL : Nat) (ret : Option FieldType) (rm : Room) (g : gT) (qq ad ea : Nat → Nat) (h : cH) (X : va_W) (z : cZ) (vs : List Value) (rv : Option Value) (X' : va_W) (z' : cZ) : Prop :=
  ∀ sz : Nat, Met l y (.code y cc maxL ret :: gw) rm (cPc g qq ad ea h X z vs sz) (cQn g qq ad ea h X rv X' z' sz) rm.cells rm.slots (cA g qq ad ea h X sz)
theorem cPc_blind {g : gT} {qq ad ea : Nat → Nat} {h : cH} {X : va_W} {z : cZ} {vs : List Value} {sz : Nat} : FrameBlind (cPc g qq ad ea h X z vs sz) := fun a U gf mk w => ⟨w.1, w.2.1, kK.same (s := U) (U := U.calling gf mk a) rfl w.2.2.1, w.2.2.2.1, w.2.2.2.2⟩
abbrev cG (p : Program) (l : Launch) (e : Env) (R : Room) (s : State) (m : MethodId) (args : Array Value) (below : List Frame) (meth : Method) (c : Code) (g : gT) (qq ad ea : Nat → Nat) (h : cH) (X : va_W) (rv : Option Value) (X' : va_W) (z' : cZ) (H : Heap) (locs : List Loc) (cells slots : Nat) (f : JFrame) : Prop :=
  W p l e R s m args below meth c H locs cells slots (MQ below (cQn g qq ad ea h X rv X' z' s.heap.size) args s R.cells R.slots (cA g qq ad ea h X s.heap.size)) f
theorem c_entry {l : Launch} {y : MethodName} {cc : ByteArray} {maxL : Nat} {ret : Option FieldType} {rm : Room} {g : gT} {qq ad ea : Nat → Nat} {h : cH} {X X' : va_W} {z z' : cZ} {vs : List Value} {rv : Option Value} (hy : plainName y.cls = true) (hn : (lg_sl vs).length ≤ maxL)
    (body : ∀ (p : Program) (e : Env) (s : State) (m : MethodId) (args : Array Value) (below : List Frame) (meth : Method) (c : Code) (ls : Array Slot), mCx p m c cc maxL s args g y.cls → meth.sig.returnType = ret → meth.locks = false → meth.name = y.name → lv_has ls maxL (lv_args 0 vs) → cWd g (cA g qq ad ea h X s.heap.size) s.heap qq ad ea h X z s.heap [] → cG p l e rm s m args below meth c g qq ad ea h X rv X' z' s.heap [] 0 0 (F0 m 0 ls [])) :
    cMet l y cc maxL ret rm g qq ad ea h X z vs rv X' z' := by
  intro sz
  refine Met.ofW (cc := cc) (maxL := maxL) (ret := ret) hy rfl ?_
  intro p e s m args below meth c s₁ B hml hv
  obtain ⟨rfl, hsz, hK, hP, hD0⟩ := hv
  subst hsz
  have hts := atoms_spec (ws := Cond.code y cc maxL ret :: gw) B.pre
  have hown : s.vm.findClass y.cls = some m.cls := findClass_of_methodNamed B.named
  have hl := lv_entry vs (n := maxL) hn
  rw [lg_entry_eq]
  have hAe : cA g qq ad ea h X s.heap.size = va_A (cw g qq ad ea h z X) s.heap.size := va_A_map (cw_map rfl)
  exact body p e s m vs.toArray below meth c _ ⟨⟨B.exec, B.bytes, hml, hown, fun w hw => hts w (List.mem_cons_of_mem _ hw)⟩, hK⟩ B.returns B.notSynchronized (name_of_methodNamed B.named B.method).1 hl ⟨hP, by rw [hAe]; exact hD0.self, va_S.rf, fun y hy => Or.inr hy⟩
theorem cw_ev {g : gT} {qq ad ea : Nat → Nat} {h : cH} {z : cZ} {X : va_W} {j : Nat} (hj : j < h.2.1) : (cw g qq ad ea h z X)[j + 10]? = some (cev ea z j) := by
  show (cpool ea z h.2.1 ++ X)[j]? = _
  rw [List.getElem?_append_left (by simp [cpool]; exact hj)]
  simp [cpool, hj]
theorem cev_ne {ea : Nat → Nat} {z : cZ} {i j k : Nat} {x : Int32} (hij : ¬ i = j) : cev ea (zE z j k x) i = cev ea z i := by
  simp [cev, cevf, zE, ze, upe, hij]
theorem cw_evset {g : gT} {qq ad ea : Nat → Nat} {h : cH} {z : cZ} {X : va_W} {j k : Nat} {x : Int32} : (cw g qq ad ea h z X).set (j + 10) (cev ea (zE z j k x) j) = (if j < h.2.1 then cw g qq ad ea h (zE z j k x) X else cw g qq ad ea h z (X.set (j - h.2.1) (cev ea (zE z j k x) j))) := by
  by_cases hj : j < h.2.1
  · rw [if_pos hj]
    have e : (cpool ea z h.2.1 ++ X).set j (cev ea (zE z j k x) j) = cpool ea (zE z j k x) h.2.1 ++ X := by
      rw [List.set_append_left _ _ (by simp [cpool]; exact hj)]
      congr 1
      apply List.ext_getElem?
      intro i
      by_cases hi : i = j
      · subst hi
        rw [List.getElem?_set_self (by simp [cpool]; exact hj)]
        simp [cpool, hj]
      · rw [List.getElem?_set_ne (Ne.symm hi)]
        by_cases hl : i < h.2.1
        · simp [cpool, hl, cev_ne hi]
        · simp [cpool, hl]
    show _ :: _ :: _ :: _ :: _ :: _ :: _ :: _ :: _ :: _ :: ((cpool ea z h.2.1 ++ X).set j (cev ea (zE z j k x) j)) = _
    rw [e]
    rfl
  · rw [if_neg hj]
    show _ :: _ :: _ :: _ :: _ :: _ :: _ :: _ :: _ :: _ :: ((cpool ea z h.2.1 ++ X).set j (cev ea (zE z j k x) j)) = _
    rw [List.set_append_right _ _ (by simp [cpool]; omega)]
    simp only [cpool, List.length_map, List.length_range]
    rfl
theorem cw_x {g : gT} {qq ad ea : Nat → Nat} {h : cH} {z : cZ} {X : va_W} {x : Nat × va_E} : (cw g qq ad ea h z (x :: X))[h.2.1 + 10]? = some x := by
  show (cpool ea z h.2.1 ++ x :: X)[h.2.1]? = _
  rw [List.getElem?_append_right (by simp [cpool])]
  simp [cpool]
theorem cw_xset {g : gT} {qq ad ea : Nat → Nat} {h : cH} {z : cZ} {X : va_W} {x x' : Nat × va_E} : (cw g qq ad ea h z (x :: X)).set (h.2.1 + 10) x' = cw g qq ad ea h z (x' :: X) := by
  show _ :: _ :: _ :: _ :: _ :: _ :: _ :: _ :: _ :: _ :: ((cpool ea z h.2.1 ++ x :: X).set h.2.1 x') = _
  rw [List.set_append_right _ _ (by simp [cpool])]
  simp only [cpool, List.length_map, List.length_range, Nat.sub_self, List.set_cons_zero]
  rfl
theorem rf_cat (r : Option Nat) : (va_rf r).category = 1 := by cases r <;> rfl
theorem gw_81 : (Jvm.Cond.fieldLink "MidiDesk$Bytes" (9 : Nat) "MidiDesk$Bytes" "most" "I") ∈ gw := gw_in 81 (by decide +kernel) (by decide +kernel)
theorem gw_82 : (Jvm.Cond.fieldLink "MidiDesk$Bytes" (15 : Nat) "MidiDesk$Bytes" "row" "[I") ∈ gw := gw_in 82 (by decide +kernel) (by decide +kernel)
theorem gw_83 : (Jvm.Cond.fieldLink "MidiDesk$Bytes" (19 : Nat) "MidiDesk$Bytes" "size" "I") ∈ gw := gw_in 83 (by decide +kernel) (by decide +kernel)
theorem gw_84 : (Jvm.Cond.laysFinal "MidiDesk$Bytes" "MidiDesk$Bytes" "most" "I") ∈ gw := gw_in 84 (by decide +kernel) (by decide +kernel)
theorem gw_86 : (Jvm.Cond.lays "MidiDesk$Bytes" "MidiDesk$Bytes" "row" "[I") ∈ gw := gw_in 86 (by decide +kernel) (by decide +kernel)
theorem gw_88 : (Jvm.Cond.lays "MidiDesk$Bytes" "MidiDesk$Bytes" "size" "I") ∈ gw := gw_in 88 (by decide +kernel) (by decide +kernel)
theorem gw_102 : (Jvm.Cond.fieldLink "MidiDesk$Score" (14 : Nat) "MidiDesk$Score" "data" "LMidiDesk$Bytes;") ∈ gw := gw_in 102 (by decide +kernel) (by decide +kernel)
theorem gw_106 : (Jvm.Cond.fieldLink "MidiDesk$Score" (29 : Nat) "MidiDesk$Score" "present" "Z") ∈ gw := gw_in 106 (by decide +kernel) (by decide +kernel)
theorem gw_111 : (Jvm.Cond.fieldLink "MidiDesk$Score" (116 : Nat) "MidiDesk$Score" "format" "I") ∈ gw := gw_in 111 (by decide +kernel) (by decide +kernel)
theorem gw_117 : (Jvm.Cond.fieldLink "MidiDesk$Score" (103 : Nat) "MidiDesk$Score" "division" "I") ∈ gw := gw_in 117 (by decide +kernel) (by decide +kernel)
theorem gw_119 : (Jvm.Cond.fieldLink "MidiDesk$Score" (22 : Nat) "MidiDesk$Score" "row" "[LMidiDesk$Event;") ∈ gw := gw_in 119 (by decide +kernel) (by decide +kernel)
theorem gw_120 : (Jvm.Cond.fieldLink "MidiDesk$Score" (26 : Nat) "MidiDesk$Score" "spare" "[LMidiDesk$Event;") ∈ gw := gw_in 120 (by decide +kernel) (by decide +kernel)
theorem gw_121 : (Jvm.Cond.fieldLink "MidiDesk$Score" (33 : Nat) "MidiDesk$Score" "size" "I") ∈ gw := gw_in 121 (by decide +kernel) (by decide +kernel)
theorem gw_124 : (Jvm.Cond.laysFinal "MidiDesk$Score" "MidiDesk$Score" "data" "LMidiDesk$Bytes;") ∈ gw := gw_in 124 (by decide +kernel) (by decide +kernel)
theorem gw_126 : (Jvm.Cond.lays "MidiDesk$Score" "MidiDesk$Score" "present" "Z") ∈ gw := gw_in 126 (by decide +kernel) (by decide +kernel)
theorem gw_128 : (Jvm.Cond.lays "MidiDesk$Score" "MidiDesk$Score" "format" "I") ∈ gw := gw_in 128 (by decide +kernel) (by decide +kernel)
theorem gw_130 : (Jvm.Cond.lays "MidiDesk$Score" "MidiDesk$Score" "tracks" "I") ∈ gw := gw_in 130 (by decide +kernel) (by decide +kernel)
theorem gw_132 : (Jvm.Cond.lays "MidiDesk$Score" "MidiDesk$Score" "division" "I") ∈ gw := gw_in 132 (by decide +kernel) (by decide +kernel)
theorem gw_134 : (Jvm.Cond.lays "MidiDesk$Score" "MidiDesk$Score" "row" "[LMidiDesk$Event;") ∈ gw := gw_in 134 (by decide +kernel) (by decide +kernel)
theorem gw_136 : (Jvm.Cond.lays "MidiDesk$Score" "MidiDesk$Score" "spare" "[LMidiDesk$Event;") ∈ gw := gw_in 136 (by decide +kernel) (by decide +kernel)
theorem gw_138 : (Jvm.Cond.lays "MidiDesk$Score" "MidiDesk$Score" "size" "I") ∈ gw := gw_in 138 (by decide +kernel) (by decide +kernel)
theorem gw_141 : (Jvm.Cond.fieldLink "MidiDesk" (14 : Nat) "MidiDesk" "input" "LMidiDesk$Bytes;") ∈ gw := gw_in 141 (by decide +kernel) (by decide +kernel)
theorem gw_142 : (Jvm.Cond.fieldLink "MidiDesk" (18 : Nat) "MidiDesk" "output" "LMidiDesk$Bytes;") ∈ gw := gw_in 142 (by decide +kernel) (by decide +kernel)
theorem gw_143 : (Jvm.Cond.fieldLink "MidiDesk" (24 : Nat) "MidiDesk" "score" "LMidiDesk$Score;") ∈ gw := gw_in 143 (by decide +kernel) (by decide +kernel)
theorem gw_144 : (Jvm.Cond.laysFinal "MidiDesk" "MidiDesk" "input" "LMidiDesk$Bytes;") ∈ gw := gw_in 144 (by decide +kernel) (by decide +kernel)
theorem gw_146 : (Jvm.Cond.laysFinal "MidiDesk" "MidiDesk" "output" "LMidiDesk$Bytes;") ∈ gw := gw_in 146 (by decide +kernel) (by decide +kernel)
theorem gw_148 : (Jvm.Cond.laysFinal "MidiDesk" "MidiDesk" "score" "LMidiDesk$Score;") ∈ gw := gw_in 148 (by decide +kernel) (by decide +kernel)
theorem gw_189 : (Jvm.Cond.fieldLink "MidiDesk$Parser" (9 : Nat) "MidiDesk$Parser" "input" "LMidiDesk$Bytes;") ∈ gw := gw_in 189 (by decide +kernel) (by decide +kernel)
theorem gw_190 : (Jvm.Cond.fieldLink "MidiDesk$Parser" (15 : Nat) "MidiDesk$Parser" "score" "LMidiDesk$Score;") ∈ gw := gw_in 190 (by decide +kernel) (by decide +kernel)
theorem gw_191 : (Jvm.Cond.fieldLink "MidiDesk$Parser" (40 : Nat) "MidiDesk$Parser" "pos" "I") ∈ gw := gw_in 191 (by decide +kernel) (by decide +kernel)
theorem gw_192 : (Jvm.Cond.fieldLink "MidiDesk$Parser" (30 : Nat) "MidiDesk$Parser" "end" "I") ∈ gw := gw_in 192 (by decide +kernel) (by decide +kernel)
theorem gw_193 : (Jvm.Cond.fieldLink "MidiDesk$Parser" (37 : Nat) "MidiDesk$Parser" "fault" "I") ∈ gw := gw_in 193 (by decide +kernel) (by decide +kernel)
theorem gw_194 : (Jvm.Cond.fieldLink "MidiDesk$Parser" (50 : Nat) "MidiDesk$Parser" "tracksSeen" "I") ∈ gw := gw_in 194 (by decide +kernel) (by decide +kernel)
theorem gw_195 : (Jvm.Cond.fieldLink "MidiDesk$Parser" (93 : Nat) "MidiDesk$Parser" "tick" "I") ∈ gw := gw_in 195 (by decide +kernel) (by decide +kernel)
theorem gw_196 : (Jvm.Cond.fieldLink "MidiDesk$Parser" (96 : Nat) "MidiDesk$Parser" "running" "I") ∈ gw := gw_in 196 (by decide +kernel) (by decide +kernel)
theorem gw_197 : (Jvm.Cond.fieldLink "MidiDesk$Parser" (99 : Nat) "MidiDesk$Parser" "ended" "Z") ∈ gw := gw_in 197 (by decide +kernel) (by decide +kernel)
theorem gw_198 : (Jvm.Cond.fieldLink "MidiDesk$Parser" (133 : Nat) "MidiDesk$Parser" "first" "I") ∈ gw := gw_in 198 (by decide +kernel) (by decide +kernel)
theorem gw_199 : (Jvm.Cond.fieldLink "MidiDesk$Parser" (139 : Nat) "MidiDesk$Parser" "second" "I") ∈ gw := gw_in 199 (by decide +kernel) (by decide +kernel)
theorem gw_200 : (Jvm.Cond.fieldLink "MidiDesk$Parser" (145 : Nat) "MidiDesk$Parser" "start" "I") ∈ gw := gw_in 200 (by decide +kernel) (by decide +kernel)
theorem gw_201 : (Jvm.Cond.fieldLink "MidiDesk$Parser" (122 : Nat) "MidiDesk$Parser" "size" "I") ∈ gw := gw_in 201 (by decide +kernel) (by decide +kernel)
theorem gw_202 : (Jvm.Cond.laysFinal "MidiDesk$Parser" "MidiDesk$Parser" "input" "LMidiDesk$Bytes;") ∈ gw := gw_in 202 (by decide +kernel) (by decide +kernel)
theorem gw_204 : (Jvm.Cond.laysFinal "MidiDesk$Parser" "MidiDesk$Parser" "score" "LMidiDesk$Score;") ∈ gw := gw_in 204 (by decide +kernel) (by decide +kernel)
theorem gw_206 : (Jvm.Cond.lays "MidiDesk$Parser" "MidiDesk$Parser" "pos" "I") ∈ gw := gw_in 206 (by decide +kernel) (by decide +kernel)
theorem gw_208 : (Jvm.Cond.lays "MidiDesk$Parser" "MidiDesk$Parser" "end" "I") ∈ gw := gw_in 208 (by decide +kernel) (by decide +kernel)
theorem gw_210 : (Jvm.Cond.lays "MidiDesk$Parser" "MidiDesk$Parser" "fault" "I") ∈ gw := gw_in 210 (by decide +kernel) (by decide +kernel)
theorem gw_212 : (Jvm.Cond.lays "MidiDesk$Parser" "MidiDesk$Parser" "tracksSeen" "I") ∈ gw := gw_in 212 (by decide +kernel) (by decide +kernel)
theorem gw_214 : (Jvm.Cond.lays "MidiDesk$Parser" "MidiDesk$Parser" "tick" "I") ∈ gw := gw_in 214 (by decide +kernel) (by decide +kernel)
theorem gw_216 : (Jvm.Cond.lays "MidiDesk$Parser" "MidiDesk$Parser" "running" "I") ∈ gw := gw_in 216 (by decide +kernel) (by decide +kernel)
theorem gw_218 : (Jvm.Cond.lays "MidiDesk$Parser" "MidiDesk$Parser" "ended" "Z") ∈ gw := gw_in 218 (by decide +kernel) (by decide +kernel)
theorem gw_220 : (Jvm.Cond.lays "MidiDesk$Parser" "MidiDesk$Parser" "first" "I") ∈ gw := gw_in 220 (by decide +kernel) (by decide +kernel)
theorem gw_222 : (Jvm.Cond.lays "MidiDesk$Parser" "MidiDesk$Parser" "second" "I") ∈ gw := gw_in 222 (by decide +kernel) (by decide +kernel)
theorem gw_224 : (Jvm.Cond.lays "MidiDesk$Parser" "MidiDesk$Parser" "start" "I") ∈ gw := gw_in 224 (by decide +kernel) (by decide +kernel)
theorem gw_226 : (Jvm.Cond.lays "MidiDesk$Parser" "MidiDesk$Parser" "size" "I") ∈ gw := gw_in 226 (by decide +kernel) (by decide +kernel)
theorem gw_335 : (Jvm.Cond.fieldLink "MidiDesk$Event" (28 : Nat) "MidiDesk$Event" "tick" "I") ∈ gw := gw_in 335 (by decide +kernel) (by decide +kernel)
theorem gw_340 : (Jvm.Cond.fieldLink "MidiDesk$Event" (25 : Nat) "MidiDesk$Event" "track" "I") ∈ gw := gw_in 340 (by decide +kernel) (by decide +kernel)
theorem gw_343 : (Jvm.Cond.fieldLink "MidiDesk$Event" (9 : Nat) "MidiDesk$Event" "status" "I") ∈ gw := gw_in 343 (by decide +kernel) (by decide +kernel)
theorem gw_347 : (Jvm.Cond.fieldLink "MidiDesk$Event" (15 : Nat) "MidiDesk$Event" "first" "I") ∈ gw := gw_in 347 (by decide +kernel) (by decide +kernel)
theorem gw_354 : (Jvm.Cond.fieldLink "MidiDesk$Event" (18 : Nat) "MidiDesk$Event" "second" "I") ∈ gw := gw_in 354 (by decide +kernel) (by decide +kernel)
theorem gw_363 : (Jvm.Cond.lays "MidiDesk$Event" "MidiDesk$Event" "tick" "I") ∈ gw := gw_in 363 (by decide +kernel) (by decide +kernel)
theorem gw_365 : (Jvm.Cond.lays "MidiDesk$Event" "MidiDesk$Event" "track" "I") ∈ gw := gw_in 365 (by decide +kernel) (by decide +kernel)
theorem gw_367 : (Jvm.Cond.lays "MidiDesk$Event" "MidiDesk$Event" "status" "I") ∈ gw := gw_in 367 (by decide +kernel) (by decide +kernel)
theorem gw_369 : (Jvm.Cond.lays "MidiDesk$Event" "MidiDesk$Event" "first" "I") ∈ gw := gw_in 369 (by decide +kernel) (by decide +kernel)
theorem gw_371 : (Jvm.Cond.lays "MidiDesk$Event" "MidiDesk$Event" "second" "I") ∈ gw := gw_in 371 (by decide +kernel) (by decide +kernel)
theorem gw_373 : (Jvm.Cond.lays "MidiDesk$Event" "MidiDesk$Event" "start" "I") ∈ gw := gw_in 373 (by decide +kernel) (by decide +kernel)
theorem gw_375 : (Jvm.Cond.lays "MidiDesk$Event" "MidiDesk$Event" "size" "I") ∈ gw := gw_in 375 (by decide +kernel) (by decide +kernel)
theorem gw_657 : (Jvm.Cond.fieldLink "MidiDesk$Printer" (9 : Nat) "MidiDesk$Printer" "score" "LMidiDesk$Score;") ∈ gw := gw_in 657 (by decide +kernel) (by decide +kernel)
theorem gw_658 : (Jvm.Cond.fieldLink "MidiDesk$Printer" (15 : Nat) "MidiDesk$Printer" "output" "LMidiDesk$Bytes;") ∈ gw := gw_in 658 (by decide +kernel) (by decide +kernel)
theorem gw_659 : (Jvm.Cond.fieldLink "MidiDesk$Printer" (19 : Nat) "MidiDesk$Printer" "brief" "Z") ∈ gw := gw_in 659 (by decide +kernel) (by decide +kernel)
theorem gw_660 : (Jvm.Cond.fieldLink "MidiDesk$Printer" (46 : Nat) "MidiDesk$Printer" "tick" "I") ∈ gw := gw_in 660 (by decide +kernel) (by decide +kernel)
theorem gw_661 : (Jvm.Cond.fieldLink "MidiDesk$Printer" (49 : Nat) "MidiDesk$Printer" "running" "I") ∈ gw := gw_in 661 (by decide +kernel) (by decide +kernel)
theorem gw_662 : (Jvm.Cond.laysFinal "MidiDesk$Printer" "MidiDesk$Printer" "score" "LMidiDesk$Score;") ∈ gw := gw_in 662 (by decide +kernel) (by decide +kernel)
theorem gw_664 : (Jvm.Cond.laysFinal "MidiDesk$Printer" "MidiDesk$Printer" "output" "LMidiDesk$Bytes;") ∈ gw := gw_in 664 (by decide +kernel) (by decide +kernel)
theorem gw_666 : (Jvm.Cond.laysFinal "MidiDesk$Printer" "MidiDesk$Printer" "brief" "Z") ∈ gw := gw_in 666 (by decide +kernel) (by decide +kernel)
theorem gw_668 : (Jvm.Cond.lays "MidiDesk$Printer" "MidiDesk$Printer" "tick" "I") ∈ gw := gw_in 668 (by decide +kernel) (by decide +kernel)
theorem gw_670 : (Jvm.Cond.lays "MidiDesk$Printer" "MidiDesk$Printer" "running" "I") ∈ gw := gw_in 670 (by decide +kernel) (by decide +kernel)
theorem nw_52 : (Jvm.Cond.fieldLinkNest "MidiDesk$Printer" (96 : Nat) "MidiDesk$Score" "data" "LMidiDesk$Bytes;" "MidiDesk") ∈ nestw := List.mem_filter.mpr ⟨List.mem_of_getElem? (i := 52) (by decide +kernel), rfl⟩
theorem nw_53 : (Jvm.Cond.fieldLinkNest "MidiDesk" (70 : Nat) "MidiDesk$Score" "data" "LMidiDesk$Bytes;" "MidiDesk") ∈ nestw := List.mem_filter.mpr ⟨List.mem_of_getElem? (i := 53) (by decide +kernel), rfl⟩
theorem nw_54 : (Jvm.Cond.fieldLinkNest "MidiDesk$Parser" (161 : Nat) "MidiDesk$Score" "data" "LMidiDesk$Bytes;" "MidiDesk") ∈ nestw := List.mem_filter.mpr ⟨List.mem_of_getElem? (i := 54) (by decide +kernel), rfl⟩
theorem nw_56 : (Jvm.Cond.fieldLinkNest "MidiDesk$Parser" (63 : Nat) "MidiDesk$Score" "present" "Z" "MidiDesk") ∈ nestw := List.mem_filter.mpr ⟨List.mem_of_getElem? (i := 56) (by decide +kernel), rfl⟩
theorem nw_57 : (Jvm.Cond.fieldLinkNest "MidiDesk" (146 : Nat) "MidiDesk$Score" "present" "Z" "MidiDesk") ∈ nestw := List.mem_filter.mpr ⟨List.mem_of_getElem? (i := 57) (by decide +kernel), rfl⟩
theorem nw_58 : (Jvm.Cond.fieldLinkNest "MidiDesk$Parser" (85 : Nat) "MidiDesk$Score" "format" "I" "MidiDesk") ∈ nestw := List.mem_filter.mpr ⟨List.mem_of_getElem? (i := 58) (by decide +kernel), rfl⟩
theorem nw_59 : (Jvm.Cond.fieldLinkNest "MidiDesk" (153 : Nat) "MidiDesk$Score" "format" "I" "MidiDesk") ∈ nestw := List.mem_filter.mpr ⟨List.mem_of_getElem? (i := 59) (by decide +kernel), rfl⟩
theorem nw_61 : (Jvm.Cond.fieldLinkNest "MidiDesk$Printer" (23 : Nat) "MidiDesk$Score" "tracks" "I" "MidiDesk") ∈ nestw := List.mem_filter.mpr ⟨List.mem_of_getElem? (i := 61) (by decide +kernel), rfl⟩
theorem nw_62 : (Jvm.Cond.fieldLinkNest "MidiDesk$Parser" (53 : Nat) "MidiDesk$Score" "tracks" "I" "MidiDesk") ∈ nestw := List.mem_filter.mpr ⟨List.mem_of_getElem? (i := 62) (by decide +kernel), rfl⟩
theorem nw_63 : (Jvm.Cond.fieldLinkNest "MidiDesk" (121 : Nat) "MidiDesk$Score" "tracks" "I" "MidiDesk") ∈ nestw := List.mem_filter.mpr ⟨List.mem_of_getElem? (i := 63) (by decide +kernel), rfl⟩
theorem nw_64 : (Jvm.Cond.fieldLinkNest "MidiDesk$Printer" (39 : Nat) "MidiDesk$Score" "division" "I" "MidiDesk") ∈ nestw := List.mem_filter.mpr ⟨List.mem_of_getElem? (i := 64) (by decide +kernel), rfl⟩
theorem nw_65 : (Jvm.Cond.fieldLinkNest "MidiDesk$Parser" (88 : Nat) "MidiDesk$Score" "division" "I" "MidiDesk") ∈ nestw := List.mem_filter.mpr ⟨List.mem_of_getElem? (i := 65) (by decide +kernel), rfl⟩
theorem nw_67 : (Jvm.Cond.fieldLinkNest "MidiDesk" (156 : Nat) "MidiDesk$Score" "division" "I" "MidiDesk") ∈ nestw := List.mem_filter.mpr ⟨List.mem_of_getElem? (i := 67) (by decide +kernel), rfl⟩
theorem nw_71 : (Jvm.Cond.fieldLinkNest "MidiDesk$Printer" (57 : Nat) "MidiDesk$Score" "size" "I" "MidiDesk") ∈ nestw := List.mem_filter.mpr ⟨List.mem_of_getElem? (i := 71) (by decide +kernel), rfl⟩
theorem nw_72 : (Jvm.Cond.fieldLinkNest "MidiDesk" (139 : Nat) "MidiDesk$Score" "size" "I" "MidiDesk") ∈ nestw := List.mem_filter.mpr ⟨List.mem_of_getElem? (i := 72) (by decide +kernel), rfl⟩
theorem nw_282 : (Jvm.Cond.fieldLinkNest "MidiDesk$Printer" (81 : Nat) "MidiDesk$Event" "tick" "I" "MidiDesk") ∈ nestw := List.mem_filter.mpr ⟨List.mem_of_getElem? (i := 282) (by decide +kernel), rfl⟩
theorem nw_283 : (Jvm.Cond.fieldLinkNest "MidiDesk" (50 : Nat) "MidiDesk$Event" "tick" "I" "MidiDesk") ∈ nestw := List.mem_filter.mpr ⟨List.mem_of_getElem? (i := 283) (by decide +kernel), rfl⟩
theorem nw_285 : (Jvm.Cond.fieldLinkNest "MidiDesk$Score" (65 : Nat) "MidiDesk$Event" "tick" "I" "MidiDesk") ∈ nestw := List.mem_filter.mpr ⟨List.mem_of_getElem? (i := 285) (by decide +kernel), rfl⟩
theorem nw_286 : (Jvm.Cond.fieldLinkNest "MidiDesk$Parser" (152 : Nat) "MidiDesk$Event" "tick" "I" "MidiDesk") ∈ nestw := List.mem_filter.mpr ⟨List.mem_of_getElem? (i := 286) (by decide +kernel), rfl⟩
theorem nw_287 : (Jvm.Cond.fieldLinkNest "MidiDesk$Printer" (63 : Nat) "MidiDesk$Event" "track" "I" "MidiDesk") ∈ nestw := List.mem_filter.mpr ⟨List.mem_of_getElem? (i := 287) (by decide +kernel), rfl⟩
theorem nw_288 : (Jvm.Cond.fieldLinkNest "MidiDesk" (56 : Nat) "MidiDesk$Event" "track" "I" "MidiDesk") ∈ nestw := List.mem_filter.mpr ⟨List.mem_of_getElem? (i := 288) (by decide +kernel), rfl⟩
theorem nw_290 : (Jvm.Cond.fieldLinkNest "MidiDesk$Score" (100 : Nat) "MidiDesk$Event" "track" "I" "MidiDesk") ∈ nestw := List.mem_filter.mpr ⟨List.mem_of_getElem? (i := 290) (by decide +kernel), rfl⟩
theorem nw_291 : (Jvm.Cond.fieldLinkNest "MidiDesk$Parser" (155 : Nat) "MidiDesk$Event" "track" "I" "MidiDesk") ∈ nestw := List.mem_filter.mpr ⟨List.mem_of_getElem? (i := 291) (by decide +kernel), rfl⟩
theorem nw_293 : (Jvm.Cond.fieldLinkNest "MidiDesk$Printer" (82 : Nat) "MidiDesk$Event" "status" "I" "MidiDesk") ∈ nestw := List.mem_filter.mpr ⟨List.mem_of_getElem? (i := 293) (by decide +kernel), rfl⟩
theorem nw_294 : (Jvm.Cond.fieldLinkNest "MidiDesk" (59 : Nat) "MidiDesk$Event" "status" "I" "MidiDesk") ∈ nestw := List.mem_filter.mpr ⟨List.mem_of_getElem? (i := 294) (by decide +kernel), rfl⟩
theorem nw_295 : (Jvm.Cond.fieldLinkNest "MidiDesk$Parser" (157 : Nat) "MidiDesk$Event" "status" "I" "MidiDesk") ∈ nestw := List.mem_filter.mpr ⟨List.mem_of_getElem? (i := 295) (by decide +kernel), rfl⟩
theorem nw_297 : (Jvm.Cond.fieldLinkNest "MidiDesk$Printer" (89 : Nat) "MidiDesk$Event" "first" "I" "MidiDesk") ∈ nestw := List.mem_filter.mpr ⟨List.mem_of_getElem? (i := 297) (by decide +kernel), rfl⟩
theorem nw_298 : (Jvm.Cond.fieldLinkNest "MidiDesk" (62 : Nat) "MidiDesk$Event" "first" "I" "MidiDesk") ∈ nestw := List.mem_filter.mpr ⟨List.mem_of_getElem? (i := 298) (by decide +kernel), rfl⟩
theorem nw_299 : (Jvm.Cond.fieldLinkNest "MidiDesk$Score" (89 : Nat) "MidiDesk$Event" "first" "I" "MidiDesk") ∈ nestw := List.mem_filter.mpr ⟨List.mem_of_getElem? (i := 299) (by decide +kernel), rfl⟩
theorem nw_300 : (Jvm.Cond.fieldLinkNest "MidiDesk$Parser" (159 : Nat) "MidiDesk$Event" "first" "I" "MidiDesk") ∈ nestw := List.mem_filter.mpr ⟨List.mem_of_getElem? (i := 300) (by decide +kernel), rfl⟩
theorem nw_301 : (Jvm.Cond.fieldLinkNest "MidiDesk" (65 : Nat) "MidiDesk$Event" "second" "I" "MidiDesk") ∈ nestw := List.mem_filter.mpr ⟨List.mem_of_getElem? (i := 301) (by decide +kernel), rfl⟩
theorem nw_302 : (Jvm.Cond.fieldLinkNest "MidiDesk$Printer" (92 : Nat) "MidiDesk$Event" "second" "I" "MidiDesk") ∈ nestw := List.mem_filter.mpr ⟨List.mem_of_getElem? (i := 302) (by decide +kernel), rfl⟩
theorem nw_304 : (Jvm.Cond.fieldLinkNest "MidiDesk$Parser" (160 : Nat) "MidiDesk$Event" "second" "I" "MidiDesk") ∈ nestw := List.mem_filter.mpr ⟨List.mem_of_getElem? (i := 304) (by decide +kernel), rfl⟩
theorem nw_305 : (Jvm.Cond.fieldLinkNest "MidiDesk$Printer" (99 : Nat) "MidiDesk$Event" "start" "I" "MidiDesk") ∈ nestw := List.mem_filter.mpr ⟨List.mem_of_getElem? (i := 305) (by decide +kernel), rfl⟩
theorem nw_306 : (Jvm.Cond.fieldLinkNest "MidiDesk" (73 : Nat) "MidiDesk$Event" "start" "I" "MidiDesk") ∈ nestw := List.mem_filter.mpr ⟨List.mem_of_getElem? (i := 306) (by decide +kernel), rfl⟩
theorem nw_307 : (Jvm.Cond.fieldLinkNest "MidiDesk$Parser" (164 : Nat) "MidiDesk$Event" "start" "I" "MidiDesk") ∈ nestw := List.mem_filter.mpr ⟨List.mem_of_getElem? (i := 307) (by decide +kernel), rfl⟩
theorem nw_308 : (Jvm.Cond.fieldLinkNest "MidiDesk$Score" (123 : Nat) "MidiDesk$Event" "start" "I" "MidiDesk") ∈ nestw := List.mem_filter.mpr ⟨List.mem_of_getElem? (i := 308) (by decide +kernel), rfl⟩
theorem nw_309 : (Jvm.Cond.fieldLinkNest "MidiDesk" (68 : Nat) "MidiDesk$Event" "size" "I" "MidiDesk") ∈ nestw := List.mem_filter.mpr ⟨List.mem_of_getElem? (i := 309) (by decide +kernel), rfl⟩
theorem nw_310 : (Jvm.Cond.fieldLinkNest "MidiDesk$Printer" (95 : Nat) "MidiDesk$Event" "size" "I" "MidiDesk") ∈ nestw := List.mem_filter.mpr ⟨List.mem_of_getElem? (i := 310) (by decide +kernel), rfl⟩
theorem nw_311 : (Jvm.Cond.fieldLinkNest "MidiDesk$Parser" (165 : Nat) "MidiDesk$Event" "size" "I" "MidiDesk") ∈ nestw := List.mem_filter.mpr ⟨List.mem_of_getElem? (i := 311) (by decide +kernel), rfl⟩
theorem i_Bytes : ∀ w ∈ u_ws R_Bytes F_Bytes 3, w ∈ gw := List.forall_mem_cons.mpr ⟨gw_84, List.forall_mem_cons.mpr ⟨gw_86, List.forall_mem_cons.mpr ⟨gw_88, fun _ h => absurd h List.not_mem_nil⟩⟩⟩
theorem i_Event : ∀ w ∈ u_ws R_Event F_Event 7, w ∈ gw := List.forall_mem_cons.mpr ⟨gw_363, List.forall_mem_cons.mpr ⟨gw_365, List.forall_mem_cons.mpr ⟨gw_367, List.forall_mem_cons.mpr ⟨gw_369, List.forall_mem_cons.mpr ⟨gw_371, List.forall_mem_cons.mpr ⟨gw_373, List.forall_mem_cons.mpr ⟨gw_375, fun _ h => absurd h List.not_mem_nil⟩⟩⟩⟩⟩⟩⟩
theorem i_Parser : ∀ w ∈ u_ws R_Parser F_Parser 13, w ∈ gw := List.forall_mem_cons.mpr ⟨gw_202, List.forall_mem_cons.mpr ⟨gw_204, List.forall_mem_cons.mpr ⟨gw_206, List.forall_mem_cons.mpr ⟨gw_208, List.forall_mem_cons.mpr ⟨gw_210, List.forall_mem_cons.mpr ⟨gw_212, List.forall_mem_cons.mpr ⟨gw_214, List.forall_mem_cons.mpr ⟨gw_216, List.forall_mem_cons.mpr ⟨gw_218, List.forall_mem_cons.mpr ⟨gw_220, List.forall_mem_cons.mpr ⟨gw_222, List.forall_mem_cons.mpr ⟨gw_224, List.forall_mem_cons.mpr ⟨gw_226, fun _ h => absurd h List.not_mem_nil⟩⟩⟩⟩⟩⟩⟩⟩⟩⟩⟩⟩⟩
theorem i_Printer : ∀ w ∈ u_ws R_Printer F_Printer 5, w ∈ gw := List.forall_mem_cons.mpr ⟨gw_662, List.forall_mem_cons.mpr ⟨gw_664, List.forall_mem_cons.mpr ⟨gw_666, List.forall_mem_cons.mpr ⟨gw_668, List.forall_mem_cons.mpr ⟨gw_670, fun _ h => absurd h List.not_mem_nil⟩⟩⟩⟩⟩
theorem i_Score : ∀ w ∈ u_ws R_Score F_Score 8, w ∈ gw := List.forall_mem_cons.mpr ⟨gw_124, List.forall_mem_cons.mpr ⟨gw_126, List.forall_mem_cons.mpr ⟨gw_128, List.forall_mem_cons.mpr ⟨gw_130, List.forall_mem_cons.mpr ⟨gw_132, List.forall_mem_cons.mpr ⟨gw_134, List.forall_mem_cons.mpr ⟨gw_136, List.forall_mem_cons.mpr ⟨gw_138, fun _ h => absurd h List.not_mem_nil⟩⟩⟩⟩⟩⟩⟩⟩
theorem i_Desk : ∀ w ∈ u_ws R_Desk F_Desk 3, w ∈ gw := List.forall_mem_cons.mpr ⟨gw_144, List.forall_mem_cons.mpr ⟨gw_146, List.forall_mem_cons.mpr ⟨gw_148, fun _ h => absurd h List.not_mem_nil⟩⟩⟩
end
section
section CR
variable {p : Program} {l : Launch} {e : Env} {R : Room} {s : State} {m : MethodId} {args : Array Value} {below : List Frame} {meth : Method} {c : Code} {H : Heap} {locs : List Loc} {cells slots : Nat} {Q : State → Prop} {cc : ByteArray} {nL pc : Nat} {ls : Array Slot} {rest : List Value} {g : gT} {A : Nat → Prop} {H0 : Heap} {qq ad ea : Nat → Nat} {X : va_W} {h : cH} {z : cZ} {own : String}
theorem c_free {X' : va_W} {sz : Nat} (hX : X'.map Prod.fst = X.map Prod.fst) (hw : cWd g A H0 qq ad ea h X z H locs) (hs : H.size = sz) : ∀ y, cA g qq ad ea h X' sz y → A y := by
  subst hs
  intro y hy
  have e : va_A (cw g qq ad ea h z0 X') H.size = va_A (cw g qq ad ea h z X) H.size := va_A_map (cw_map hX)
  rw [show cA g qq ad ea h X' H.size = _ from e] at hy
  rcases hy with ⟨k, x, hk⟩ | hy
  · exact hw.2.1.2 k (y, x) hk
  · exact hw.2.2.2 y (Nat.le_trans hw.2.2.1.1 hy)
theorem c_pre {vs : List Value} (hk : kK g s) (hw : cWd g A H0 qq ad ea h X z H locs) : ∀ U : State, U.heap = H → s.WarmedH U.vm → cPc g qq ad ea h X z vs H.size vs.toArray U := fun U hU hW => ⟨rfl, by rw [hU], kK.moved hW hk, by rw [hU]; exact hw.1, hw.2.1.weaken (fun _ _ _ _ => trivial)⟩
theorem c_callV {y : MethodName} {bytes : ByteArray} {maxL index n b : Nat} {ret : Option FieldType} {rm : Room} {As : List Value} {rv : Option Value} {X' : va_W} {z' : cZ} {st0 : List Value} {CN : String} (C : mCx p m c cc nL s args g own) (hl : ls.size = nL) (hw : cWd g A H0 qq ad ea h X z H locs)
    (hM : cMet l y bytes maxL ret rm g qq ad ea h X z (.ref b :: As) rv X' z') (hX : X.map Prod.fst = X'.map Prod.fst) (hcw : CallW R s args own CN index y bytes maxL ret (Cond.code y bytes maxL ret :: gw) rm rm.cells rm.slots n) (hrc : ∃ cellB : Cell, H[b]? = some cellB ∧ cellB.vm.isStatics = false ∧ s.vm.findClass CN = some cellB.cls)
    (hn : As.length = n) (hst : st0 = As.reverse ++ .ref b :: rest) (hr : (rest.map fun v => v.category).sum ≤ 8) (hdg : decode cc pc = .ok (.invokevirtual index, 3)) (hf : cells + rm.cells ≤ R.cells ∧ slots + rm.slots ≤ R.slots)
    (kk : ∀ (H1 : Heap) (locs1 : List Loc), cWd g A H0 qq ad ea h X' z' H1 locs1 → W p l e R s m args below meth c H1 locs1 (cells + rm.cells) (slots + rm.slots) Q (F0 m (pc + 3) ls (rv.toList ++ rest))) : W p l e R s m args below meth c H locs cells slots Q (F0 m pc ls st0) := by
  refine x_call (B := fun t => va_P g.1 classes (cw g qq ad ea h z' X') t) (rv := rv) (va_runV (As := As) (rest := rest) C.1 (hM H.size) hcw ⟨cPc_blind, hrc, c_pre C.2 hw⟩ rfl hn hl hst (lv_room hr) hdg hf) hw.2.2.1 (fun y _ w => c_free rfl hw rfl y w) (c_free rfl hw rfl) (fun H1 locs1 hB hS => kk H1 locs1 ⟨hB, va_D_map (cw_map hX) hw.2.1, hS, hw.2.2.2⟩)
theorem c_callS {y : MethodName} {bytes : ByteArray} {maxL index n : Nat} {ret : Option FieldType} {rm : Room} {As : List Value} {rv : Option Value} {z' : cZ} {st0 : List Value} (C : mCx p m c cc nL s args g own) (hl : ls.size = nL) (hw : cWd g A H0 qq ad ea h X z H locs)
    (hM : cMet l y bytes maxL ret rm g qq ad ea h X z As rv X z') (hcw : CallB R s args own index y bytes maxL ret (Cond.code y bytes maxL ret :: gw) rm rm.cells rm.slots n ∧ (Cond.static y).before args s = true)
    (hn : As.length = n) (hst : st0 = As.reverse ++ rest) (hr : (rest.map fun v => v.category).sum ≤ 8) (hdg : decode cc pc = .ok (.invokestatic index, 3)) (hf : cells + rm.cells ≤ R.cells ∧ slots + rm.slots ≤ R.slots)
    (kk : ∀ (H1 : Heap) (locs1 : List Loc), cWd g A H0 qq ad ea h X z' H1 locs1 → W p l e R s m args below meth c H1 locs1 (cells + rm.cells) (slots + rm.slots) Q (F0 m (pc + 3) ls (rv.toList ++ rest))) : W p l e R s m args below meth c H locs cells slots Q (F0 m pc ls st0) := by
  refine x_call (B := fun t => va_P g.1 classes (cw g qq ad ea h z' X) t) (rv := rv) (va_runS (As := As) (rest := rest) C.1 (hM H.size) hcw ⟨cPc_blind, c_pre C.2 hw⟩ rfl hn hl hst (lv_room hr) hdg hf) hw.2.2.1 (fun y _ w => c_free rfl hw rfl y w) (c_free rfl hw rfl) (fun H1 locs1 hB hS => kk H1 locs1 ⟨hB, va_D_map (cw_map rfl) hw.2.1, hS, hw.2.2.2⟩)
theorem c_callSN {y : MethodName} {bytes : ByteArray} {maxL index n : Nat} {ret : Option FieldType} {rm : Room} {As : List Value} {rv : Option Value} {z' : cZ} {st0 : List Value} (C : mCx p m c cc nL s args g own) (hl : ls.size = nL) (hw : cWd g A H0 qq ad ea h X z H locs)
    (hM : cMet l y bytes maxL ret rm g qq ad ea h X z As rv X z') (h5 : Cond.code y bytes maxL ret ∈ gw) (hnw : Cond.methodLinkNest own index y "MidiDesk" ∈ nestw) (hsi : Cond.static y ∈ gw) (hii : Cond.initialized y.cls ∈ gw) (hd : y.cls ≠ "java/lang/invoke/MethodHandle" ∧ y.cls ≠ "java/lang/invoke/VarHandle" ∧ (parseMethodDescriptor y.desc).map (fun d => d.parameters.length) = some n) (hR : rm.frames + 1 ≤ R.frames ∧ 8 + (maxL + 11) + rm.locals ≤ R.locals)
    (hn : As.length = n) (hst : st0 = As.reverse ++ rest) (hr : (rest.map fun v => v.category).sum ≤ 8) (hdg : decode cc pc = .ok (.invokestatic index, 3)) (hf : cells + rm.cells ≤ R.cells ∧ slots + rm.slots ≤ R.slots)
    (kk : ∀ (H1 : Heap) (locs1 : List Loc), cWd g A H0 qq ad ea h X z' H1 locs1 → W p l e R s m args below meth c H1 locs1 (cells + rm.cells) (slots + rm.slots) Q (F0 m (pc + 3) ls (rv.toList ++ rest))) : W p l e R s m args below meth c H locs cells slots Q (F0 m pc ls st0) := by
  refine x_call (B := fun t => va_P g.1 classes (cw g qq ad ea h z' X) t) (rv := rv) (va_runSN (As := As) (rest := rest) C.1 (hM H.size) ⟨va_cnB (host := "MidiDesk") n C.1.2.2.2.2 (gw_GI h5) rfl rfl rfl (C.2.2.1 _ hnw) (C.1.2.2.2.2 _ hii) hd hR, C.1.2.2.2.2 _ hsi, trivial⟩ ⟨cPc_blind, c_pre C.2 hw⟩ rfl hn hl hst (lv_room hr) hdg hf) hw.2.2.1 (fun y _ w => c_free rfl hw rfl y w) (c_free rfl hw rfl) (fun H1 locs1 hB hS => kk H1 locs1 ⟨hB, va_D_map (cw_map rfl) hw.2.1, hS, hw.2.2.2⟩)
theorem c_recvE {j : Nat} (hk : kK g s) (hj : j < h.2.1) (hw : cWd g A H0 qq ad ea h X z H locs) : ∃ cellB : Cell, H[ea j]? = some cellB ∧ cellB.vm.isStatics = false ∧ s.vm.findClass "MidiDesk$Event" = some cellB.cls := va_recv (ci := 1) (q0 := j + 10) hk.1 hw.1 rfl (cw_ev hj)
theorem c_recvX {qp ci : Nat} {fs : List Value} {CN : String} {T : u_T} {N : Nat} (hk : kK g s) (hc : classes[ci]? = some (CN, T, N)) (hw : cWd g A H0 qq ad ea h ((qp, .inr (ci, fs)) :: X) z H locs) : ∃ cellB : Cell, H[qp]? = some cellB ∧ cellB.vm.isStatics = false ∧ s.vm.findClass CN = some cellB.cls := va_recv (ci := ci) (q0 := h.2.1 + 10) hk.1 hw.1 hc cw_x
theorem c_recv_desk (hk : kK g s) (hw : cWd g A H0 qq ad ea h X z H locs) : ∃ cellB : Cell, H[qq 0]? = some cellB ∧ cellB.vm.isStatics = false ∧ s.vm.findClass "MidiDesk" = some cellB.cls := va_recv (ci := 5) (q0 := 0) hk.1 hw.1 rfl rfl
theorem c_recv_B0 (hk : kK g s) (hw : cWd g A H0 qq ad ea h X z H locs) : ∃ cellB : Cell, H[qq 1]? = some cellB ∧ cellB.vm.isStatics = false ∧ s.vm.findClass "MidiDesk$Bytes" = some cellB.cls := va_recv (ci := 0) (q0 := 1) hk.1 hw.1 rfl rfl
theorem c_recv_B1 (hk : kK g s) (hw : cWd g A H0 qq ad ea h X z H locs) : ∃ cellB : Cell, H[qq 2]? = some cellB ∧ cellB.vm.isStatics = false ∧ s.vm.findClass "MidiDesk$Bytes" = some cellB.cls := va_recv (ci := 0) (q0 := 2) hk.1 hw.1 rfl rfl
theorem c_recv_B2 (hk : kK g s) (hw : cWd g A H0 qq ad ea h X z H locs) : ∃ cellB : Cell, H[qq 3]? = some cellB ∧ cellB.vm.isStatics = false ∧ s.vm.findClass "MidiDesk$Bytes" = some cellB.cls := va_recv (ci := 0) (q0 := 3) hk.1 hw.1 rfl rfl
theorem c_recv_score (hk : kK g s) (hw : cWd g A H0 qq ad ea h X z H locs) : ∃ cellB : Cell, H[qq 4]? = some cellB ∧ cellB.vm.isStatics = false ∧ s.vm.findClass "MidiDesk$Score" = some cellB.cls := va_recv (ci := 4) (q0 := 4) hk.1 hw.1 rfl rfl
theorem c_aload_n {k : Fin 4} {i : Nat} {x : Option Nat} (hexec : p.tables.exec = Jvm.exec) (hb : c.code = cc) (hdg : decode cc pc = .ok (.aload_n k, 1)) (hi : (k : Nat) = i) (hl : ls[i]? = some (.val (va_rf x))) (kk : W p l e R s m args below meth c H locs cells slots Q (F0 m (pc + 1) ls (va_rf x :: rest))) : W p l e R s m args below meth c H locs cells slots Q (F0 m pc ls rest) := by
  cases x with
  | none => exact lv_aload_nN hexec hb hdg hi hl kk
  | some a => exact lv_aload_n hexec hb hdg hi hl kk
theorem c_aload {i : Nat} {x : Option Nat} (hexec : p.tables.exec = Jvm.exec) (hb : c.code = cc) (hdg : decode cc pc = .ok (.aload i, 2)) (hl : ls[i]? = some (.val (va_rf x))) (kk : W p l e R s m args below meth c H locs cells slots Q (F0 m (pc + 2) ls (va_rf x :: rest))) : W p l e R s m args below meth c H locs cells slots Q (F0 m pc ls rest) := by
  cases x with
  | none => exact lv_aloadN hexec hb hdg hl kk
  | some a => exact lv_aload hexec hb hdg hl kk
theorem c_astore_n {k : Fin 4} {i nL : Nat} {x : Option Nat} {lv lv' : List (Nat × Value)} (hexec : p.tables.exec = Jvm.exec) (hb : c.code = cc) (hdg : decode cc pc = .ok (.astore_n k, 1)) (hi : (k : Nat) = i) (h : lv_has ls nL lv) (hn : i < nL) (hl : (i, va_rf x) :: lv.filter (fun q => !(q.1 == i) && !(q.1 + 1 == i && q.2.category == 2)) = lv')
    (kk : ∀ ls' : Array Slot, lv_has ls' nL lv' → W p l e R s m args below meth c H locs cells slots Q (F0 m (pc + 1) ls' rest)) : W p l e R s m args below meth c H locs cells slots Q (F0 m pc ls (va_rf x :: rest)) := by
  cases x with
  | none => exact lv_astore_nN hexec hb hdg hi h hn hl kk
  | some a => exact lv_astore_n hexec hb hdg hi h hn hl kk
theorem c_astore {i nL : Nat} {x : Option Nat} {lv lv' : List (Nat × Value)} (hexec : p.tables.exec = Jvm.exec) (hb : c.code = cc) (hdg : decode cc pc = .ok (.astore i, 2)) (h : lv_has ls nL lv) (hn : i < nL) (hl : (i, va_rf x) :: lv.filter (fun q => !(q.1 == i) && !(q.1 + 1 == i && q.2.category == 2)) = lv')
    (kk : ∀ ls' : Array Slot, lv_has ls' nL lv' → W p l e R s m args below meth c H locs cells slots Q (F0 m (pc + 2) ls' rest)) : W p l e R s m args below meth c H locs cells slots Q (F0 m pc ls (va_rf x :: rest)) := by
  cases x with
  | none => exact lv_astoreN hexec hb hdg h hn hl kk
  | some a => exact lv_astore hexec hb hdg h hn hl kk
theorem c_ifnull {x : Option Nat} {off : Int} {tgt : Nat} (hexec : p.tables.exec = Jvm.exec) (hb : c.code = cc) (hdg : decode cc pc = .ok (.ifnull off, 3)) (ht : (pc : Int) + off = (tgt : Int)) (kt : x = none → W p l e R s m args below meth c H locs cells slots Q (F0 m tgt ls rest)) (kf : ¬ x = none → W p l e R s m args below meth c H locs cells slots Q (F0 m (pc + 3) ls rest)) : W p l e R s m args below meth c H locs cells slots Q (F0 m pc ls (va_rf (Option.map ea x) :: rest)) := by
  cases x with
  | none => exact lv_ifnullN hexec hb hdg ht (kt rfl)
  | some a => exact lv_ifnull hexec hb hdg (kf (fun w => by cases w))
theorem c_ifnonnull {x : Option Nat} {off : Int} {tgt : Nat} (hexec : p.tables.exec = Jvm.exec) (hb : c.code = cc) (hdg : decode cc pc = .ok (.ifnonnull off, 3)) (ht : (pc : Int) + off = (tgt : Int)) (kt : ¬ x = none → W p l e R s m args below meth c H locs cells slots Q (F0 m tgt ls rest)) (kf : x = none → W p l e R s m args below meth c H locs cells slots Q (F0 m (pc + 3) ls rest)) : W p l e R s m args below meth c H locs cells slots Q (F0 m pc ls (va_rf (Option.map ea x) :: rest)) := by
  cases x with
  | none => exact lv_ifnonnullN hexec hb hdg (kf rfl)
  | some a => exact lv_ifnonnull hexec hb hdg ht (kt (fun w => by cases w))
theorem c_null (hexec : p.tables.exec = Jvm.exec) (hb : c.code = cc) (hdg : decode cc pc = .ok (.aconst_null, 1)) (kk : W p l e R s m args below meth c H locs cells slots Q (F0 m (pc + 1) ls (va_rf (Option.map ea none) :: rest))) : W p l e R s m args below meth c H locs cells slots Q (F0 m pc ls rest) := lv_null hexec hb hdg kk
theorem cg_Desk_Desk_input (C : mCx p m c cc nL s args g "MidiDesk") (hw : cWd g A H0 qq ad ea h X z H locs) (hdg : decode cc pc = .ok (.getfield 14, 3)) (kk : W p l e R s m args below meth c H locs cells slots Q (F0 m (pc + 3) ls (.ref (qq 1) :: rest))) : W p l e R s m args below meth c H locs cells slots Q (F0 m pc ls (.ref (qq 0) :: rest)) := 
  va_get (ci := 5) (C := R_Desk) (T := F_Desk) (N := 3) C.1.1 C.1.2.1 C.1.2.2.2.2 i_Desk C.1.2.2.2.1 C.2.1 hw.1 0 rfl rfl 0 (by decide) (C.1.2.2.2.2 _ gw_141) (fun _ w => w) rfl hdg kk
theorem cg_Desk_Desk_output (C : mCx p m c cc nL s args g "MidiDesk") (hw : cWd g A H0 qq ad ea h X z H locs) (hdg : decode cc pc = .ok (.getfield 18, 3)) (kk : W p l e R s m args below meth c H locs cells slots Q (F0 m (pc + 3) ls (.ref (qq 2) :: rest))) : W p l e R s m args below meth c H locs cells slots Q (F0 m pc ls (.ref (qq 0) :: rest)) := 
  va_get (ci := 5) (C := R_Desk) (T := F_Desk) (N := 3) C.1.1 C.1.2.1 C.1.2.2.2.2 i_Desk C.1.2.2.2.1 C.2.1 hw.1 0 rfl rfl 1 (by decide) (C.1.2.2.2.2 _ gw_142) (fun _ w => w) rfl hdg kk
theorem cg_Desk_Desk_score (C : mCx p m c cc nL s args g "MidiDesk") (hw : cWd g A H0 qq ad ea h X z H locs) (hdg : decode cc pc = .ok (.getfield 24, 3)) (kk : W p l e R s m args below meth c H locs cells slots Q (F0 m (pc + 3) ls (.ref (qq 4) :: rest))) : W p l e R s m args below meth c H locs cells slots Q (F0 m pc ls (.ref (qq 0) :: rest)) := 
  va_get (ci := 5) (C := R_Desk) (T := F_Desk) (N := 3) C.1.1 C.1.2.1 C.1.2.2.2.2 i_Desk C.1.2.2.2.1 C.2.1 hw.1 0 rfl rfl 2 (by decide) (C.1.2.2.2.2 _ gw_143) (fun _ w => w) rfl hdg kk
theorem cg_Desk_Event_first {o : Option Nat} {j : Nat} (C : mCx p m c cc nL s args g "MidiDesk") (hw : cWd g A H0 qq ad ea h X z H locs) (ho : o = some j) (hj : j < h.2.1) (hdg : decode cc pc = .ok (.getfield 62, 3)) (kk : W p l e R s m args below meth c H locs cells slots Q (F0 m (pc + 3) ls (.int (ze z j 3) :: rest))) : W p l e R s m args below meth c H locs cells slots Q (F0 m pc ls (va_rf (Option.map ea o) :: rest)) := by
  subst ho
  exact va_getN (ci := 1) (C := R_Event) (T := F_Event) (N := 7) C.1.1 C.1.2.1 C.1.2.2.2.2 i_Event C.1.2.2.2.1 C.2.1 hw.1 (j + 10) (cw_ev hj) rfl 3 (by decide) (va_Nw.use rfl (C.2.2.1 _ nw_298)) (fun _ w => w) rfl hdg kk
theorem cgt_Desk_Event_first {j : Nat} (C : mCx p m c cc nL s args g "MidiDesk") (hw : cWd g A H0 qq ad ea h X z H locs) (hj : j < h.2.1) (hdg : decode cc pc = .ok (.getfield 62, 3)) (kk : W p l e R s m args below meth c H locs cells slots Q (F0 m (pc + 3) ls (.int (ze z j 3) :: rest))) : W p l e R s m args below meth c H locs cells slots Q (F0 m pc ls (.ref (ea j) :: rest)) := cg_Desk_Event_first (o := some j) C hw rfl hj hdg kk
theorem cg_Desk_Event_second {o : Option Nat} {j : Nat} (C : mCx p m c cc nL s args g "MidiDesk") (hw : cWd g A H0 qq ad ea h X z H locs) (ho : o = some j) (hj : j < h.2.1) (hdg : decode cc pc = .ok (.getfield 65, 3)) (kk : W p l e R s m args below meth c H locs cells slots Q (F0 m (pc + 3) ls (.int (ze z j 4) :: rest))) : W p l e R s m args below meth c H locs cells slots Q (F0 m pc ls (va_rf (Option.map ea o) :: rest)) := by
  subst ho
  exact va_getN (ci := 1) (C := R_Event) (T := F_Event) (N := 7) C.1.1 C.1.2.1 C.1.2.2.2.2 i_Event C.1.2.2.2.1 C.2.1 hw.1 (j + 10) (cw_ev hj) rfl 4 (by decide) (va_Nw.use rfl (C.2.2.1 _ nw_301)) (fun _ w => w) rfl hdg kk
theorem cgt_Desk_Event_second {j : Nat} (C : mCx p m c cc nL s args g "MidiDesk") (hw : cWd g A H0 qq ad ea h X z H locs) (hj : j < h.2.1) (hdg : decode cc pc = .ok (.getfield 65, 3)) (kk : W p l e R s m args below meth c H locs cells slots Q (F0 m (pc + 3) ls (.int (ze z j 4) :: rest))) : W p l e R s m args below meth c H locs cells slots Q (F0 m pc ls (.ref (ea j) :: rest)) := cg_Desk_Event_second (o := some j) C hw rfl hj hdg kk
theorem cg_Desk_Event_size {o : Option Nat} {j : Nat} (C : mCx p m c cc nL s args g "MidiDesk") (hw : cWd g A H0 qq ad ea h X z H locs) (ho : o = some j) (hj : j < h.2.1) (hdg : decode cc pc = .ok (.getfield 68, 3)) (kk : W p l e R s m args below meth c H locs cells slots Q (F0 m (pc + 3) ls (.int (ze z j 6) :: rest))) : W p l e R s m args below meth c H locs cells slots Q (F0 m pc ls (va_rf (Option.map ea o) :: rest)) := by
  subst ho
  exact va_getN (ci := 1) (C := R_Event) (T := F_Event) (N := 7) C.1.1 C.1.2.1 C.1.2.2.2.2 i_Event C.1.2.2.2.1 C.2.1 hw.1 (j + 10) (cw_ev hj) rfl 6 (by decide) (va_Nw.use rfl (C.2.2.1 _ nw_309)) (fun _ w => w) rfl hdg kk
theorem cgt_Desk_Event_size {j : Nat} (C : mCx p m c cc nL s args g "MidiDesk") (hw : cWd g A H0 qq ad ea h X z H locs) (hj : j < h.2.1) (hdg : decode cc pc = .ok (.getfield 68, 3)) (kk : W p l e R s m args below meth c H locs cells slots Q (F0 m (pc + 3) ls (.int (ze z j 6) :: rest))) : W p l e R s m args below meth c H locs cells slots Q (F0 m pc ls (.ref (ea j) :: rest)) := cg_Desk_Event_size (o := some j) C hw rfl hj hdg kk
theorem cg_Desk_Event_start {o : Option Nat} {j : Nat} (C : mCx p m c cc nL s args g "MidiDesk") (hw : cWd g A H0 qq ad ea h X z H locs) (ho : o = some j) (hj : j < h.2.1) (hdg : decode cc pc = .ok (.getfield 73, 3)) (kk : W p l e R s m args below meth c H locs cells slots Q (F0 m (pc + 3) ls (.int (ze z j 5) :: rest))) : W p l e R s m args below meth c H locs cells slots Q (F0 m pc ls (va_rf (Option.map ea o) :: rest)) := by
  subst ho
  exact va_getN (ci := 1) (C := R_Event) (T := F_Event) (N := 7) C.1.1 C.1.2.1 C.1.2.2.2.2 i_Event C.1.2.2.2.1 C.2.1 hw.1 (j + 10) (cw_ev hj) rfl 5 (by decide) (va_Nw.use rfl (C.2.2.1 _ nw_306)) (fun _ w => w) rfl hdg kk
theorem cgt_Desk_Event_start {j : Nat} (C : mCx p m c cc nL s args g "MidiDesk") (hw : cWd g A H0 qq ad ea h X z H locs) (hj : j < h.2.1) (hdg : decode cc pc = .ok (.getfield 73, 3)) (kk : W p l e R s m args below meth c H locs cells slots Q (F0 m (pc + 3) ls (.int (ze z j 5) :: rest))) : W p l e R s m args below meth c H locs cells slots Q (F0 m pc ls (.ref (ea j) :: rest)) := cg_Desk_Event_start (o := some j) C hw rfl hj hdg kk
theorem cg_Desk_Event_status {o : Option Nat} {j : Nat} (C : mCx p m c cc nL s args g "MidiDesk") (hw : cWd g A H0 qq ad ea h X z H locs) (ho : o = some j) (hj : j < h.2.1) (hdg : decode cc pc = .ok (.getfield 59, 3)) (kk : W p l e R s m args below meth c H locs cells slots Q (F0 m (pc + 3) ls (.int (ze z j 2) :: rest))) : W p l e R s m args below meth c H locs cells slots Q (F0 m pc ls (va_rf (Option.map ea o) :: rest)) := by
  subst ho
  exact va_getN (ci := 1) (C := R_Event) (T := F_Event) (N := 7) C.1.1 C.1.2.1 C.1.2.2.2.2 i_Event C.1.2.2.2.1 C.2.1 hw.1 (j + 10) (cw_ev hj) rfl 2 (by decide) (va_Nw.use rfl (C.2.2.1 _ nw_294)) (fun _ w => w) rfl hdg kk
theorem cgt_Desk_Event_status {j : Nat} (C : mCx p m c cc nL s args g "MidiDesk") (hw : cWd g A H0 qq ad ea h X z H locs) (hj : j < h.2.1) (hdg : decode cc pc = .ok (.getfield 59, 3)) (kk : W p l e R s m args below meth c H locs cells slots Q (F0 m (pc + 3) ls (.int (ze z j 2) :: rest))) : W p l e R s m args below meth c H locs cells slots Q (F0 m pc ls (.ref (ea j) :: rest)) := cg_Desk_Event_status (o := some j) C hw rfl hj hdg kk
theorem cg_Desk_Event_tick {o : Option Nat} {j : Nat} (C : mCx p m c cc nL s args g "MidiDesk") (hw : cWd g A H0 qq ad ea h X z H locs) (ho : o = some j) (hj : j < h.2.1) (hdg : decode cc pc = .ok (.getfield 50, 3)) (kk : W p l e R s m args below meth c H locs cells slots Q (F0 m (pc + 3) ls (.int (ze z j 0) :: rest))) : W p l e R s m args below meth c H locs cells slots Q (F0 m pc ls (va_rf (Option.map ea o) :: rest)) := by
  subst ho
  exact va_getN (ci := 1) (C := R_Event) (T := F_Event) (N := 7) C.1.1 C.1.2.1 C.1.2.2.2.2 i_Event C.1.2.2.2.1 C.2.1 hw.1 (j + 10) (cw_ev hj) rfl 0 (by decide) (va_Nw.use rfl (C.2.2.1 _ nw_283)) (fun _ w => w) rfl hdg kk
theorem cgt_Desk_Event_tick {j : Nat} (C : mCx p m c cc nL s args g "MidiDesk") (hw : cWd g A H0 qq ad ea h X z H locs) (hj : j < h.2.1) (hdg : decode cc pc = .ok (.getfield 50, 3)) (kk : W p l e R s m args below meth c H locs cells slots Q (F0 m (pc + 3) ls (.int (ze z j 0) :: rest))) : W p l e R s m args below meth c H locs cells slots Q (F0 m pc ls (.ref (ea j) :: rest)) := cg_Desk_Event_tick (o := some j) C hw rfl hj hdg kk
theorem cg_Desk_Event_track {o : Option Nat} {j : Nat} (C : mCx p m c cc nL s args g "MidiDesk") (hw : cWd g A H0 qq ad ea h X z H locs) (ho : o = some j) (hj : j < h.2.1) (hdg : decode cc pc = .ok (.getfield 56, 3)) (kk : W p l e R s m args below meth c H locs cells slots Q (F0 m (pc + 3) ls (.int (ze z j 1) :: rest))) : W p l e R s m args below meth c H locs cells slots Q (F0 m pc ls (va_rf (Option.map ea o) :: rest)) := by
  subst ho
  exact va_getN (ci := 1) (C := R_Event) (T := F_Event) (N := 7) C.1.1 C.1.2.1 C.1.2.2.2.2 i_Event C.1.2.2.2.1 C.2.1 hw.1 (j + 10) (cw_ev hj) rfl 1 (by decide) (va_Nw.use rfl (C.2.2.1 _ nw_288)) (fun _ w => w) rfl hdg kk
theorem cgt_Desk_Event_track {j : Nat} (C : mCx p m c cc nL s args g "MidiDesk") (hw : cWd g A H0 qq ad ea h X z H locs) (hj : j < h.2.1) (hdg : decode cc pc = .ok (.getfield 56, 3)) (kk : W p l e R s m args below meth c H locs cells slots Q (F0 m (pc + 3) ls (.int (ze z j 1) :: rest))) : W p l e R s m args below meth c H locs cells slots Q (F0 m pc ls (.ref (ea j) :: rest)) := cg_Desk_Event_track (o := some j) C hw rfl hj hdg kk
theorem cg_Desk_Score_data (C : mCx p m c cc nL s args g "MidiDesk") (hw : cWd g A H0 qq ad ea h X z H locs) (hdg : decode cc pc = .ok (.getfield 70, 3)) (kk : W p l e R s m args below meth c H locs cells slots Q (F0 m (pc + 3) ls (.ref (qq 3) :: rest))) : W p l e R s m args below meth c H locs cells slots Q (F0 m pc ls (.ref (qq 4) :: rest)) := 
  va_getN (ci := 4) (C := R_Score) (T := F_Score) (N := 8) C.1.1 C.1.2.1 C.1.2.2.2.2 i_Score C.1.2.2.2.1 C.2.1 hw.1 4 rfl rfl 0 (by decide) (va_Nw.use rfl (C.2.2.1 _ nw_53)) (fun _ w => w) rfl hdg kk
theorem cg_Desk_Score_division (C : mCx p m c cc nL s args g "MidiDesk") (hw : cWd g A H0 qq ad ea h X z H locs) (hdg : decode cc pc = .ok (.getfield 156, 3)) (kk : W p l e R s m args below meth c H locs cells slots Q (F0 m (pc + 3) ls (.int (zi z 6) :: rest))) : W p l e R s m args below meth c H locs cells slots Q (F0 m pc ls (.ref (qq 4) :: rest)) := 
  va_getN (ci := 4) (C := R_Score) (T := F_Score) (N := 8) C.1.1 C.1.2.1 C.1.2.2.2.2 i_Score C.1.2.2.2.1 C.2.1 hw.1 4 rfl rfl 4 (by decide) (va_Nw.use rfl (C.2.2.1 _ nw_67)) (fun _ w => w) rfl hdg kk
theorem cg_Desk_Score_format (C : mCx p m c cc nL s args g "MidiDesk") (hw : cWd g A H0 qq ad ea h X z H locs) (hdg : decode cc pc = .ok (.getfield 153, 3)) (kk : W p l e R s m args below meth c H locs cells slots Q (F0 m (pc + 3) ls (.int (zi z 4) :: rest))) : W p l e R s m args below meth c H locs cells slots Q (F0 m pc ls (.ref (qq 4) :: rest)) := 
  va_getN (ci := 4) (C := R_Score) (T := F_Score) (N := 8) C.1.1 C.1.2.1 C.1.2.2.2.2 i_Score C.1.2.2.2.1 C.2.1 hw.1 4 rfl rfl 2 (by decide) (va_Nw.use rfl (C.2.2.1 _ nw_59)) (fun _ w => w) rfl hdg kk
theorem cg_Desk_Score_present (C : mCx p m c cc nL s args g "MidiDesk") (hw : cWd g A H0 qq ad ea h X z H locs) (hdg : decode cc pc = .ok (.getfield 146, 3)) (kk : W p l e R s m args below meth c H locs cells slots Q (F0 m (pc + 3) ls (.int (zi z 3) :: rest))) : W p l e R s m args below meth c H locs cells slots Q (F0 m pc ls (.ref (qq 4) :: rest)) := 
  va_getN (ci := 4) (C := R_Score) (T := F_Score) (N := 8) C.1.1 C.1.2.1 C.1.2.2.2.2 i_Score C.1.2.2.2.1 C.2.1 hw.1 4 rfl rfl 1 (by decide) (va_Nw.use rfl (C.2.2.1 _ nw_57)) (fun _ w => w) rfl hdg kk
theorem cg_Desk_Score_size (C : mCx p m c cc nL s args g "MidiDesk") (hw : cWd g A H0 qq ad ea h X z H locs) (hdg : decode cc pc = .ok (.getfield 139, 3)) (kk : W p l e R s m args below meth c H locs cells slots Q (F0 m (pc + 3) ls (.int (zi z 7) :: rest))) : W p l e R s m args below meth c H locs cells slots Q (F0 m pc ls (.ref (qq 4) :: rest)) := 
  va_getN (ci := 4) (C := R_Score) (T := F_Score) (N := 8) C.1.1 C.1.2.1 C.1.2.2.2.2 i_Score C.1.2.2.2.1 C.2.1 hw.1 4 rfl rfl 7 (by decide) (va_Nw.use rfl (C.2.2.1 _ nw_72)) (fun _ w => w) rfl hdg kk
theorem cg_Desk_Score_tracks (C : mCx p m c cc nL s args g "MidiDesk") (hw : cWd g A H0 qq ad ea h X z H locs) (hdg : decode cc pc = .ok (.getfield 121, 3)) (kk : W p l e R s m args below meth c H locs cells slots Q (F0 m (pc + 3) ls (.int (zi z 5) :: rest))) : W p l e R s m args below meth c H locs cells slots Q (F0 m pc ls (.ref (qq 4) :: rest)) := 
  va_getN (ci := 4) (C := R_Score) (T := F_Score) (N := 8) C.1.1 C.1.2.1 C.1.2.2.2.2 i_Score C.1.2.2.2.1 C.2.1 hw.1 4 rfl rfl 3 (by decide) (va_Nw.use rfl (C.2.2.1 _ nw_63)) (fun _ w => w) rfl hdg kk
theorem cg_Bytes_Bytes_most_B0 (C : mCx p m c cc nL s args g "MidiDesk$Bytes") (hw : cWd g A H0 qq ad ea h X z H locs) (hdg : decode cc pc = .ok (.getfield 9, 3)) (kk : W p l e R s m args below meth c H locs cells slots Q (F0 m (pc + 3) ls (.int 12000 :: rest))) : W p l e R s m args below meth c H locs cells slots Q (F0 m pc ls (.ref (qq 1) :: rest)) := 
  va_get (ci := 0) (C := R_Bytes) (T := F_Bytes) (N := 3) C.1.1 C.1.2.1 C.1.2.2.2.2 i_Bytes C.1.2.2.2.1 C.2.1 hw.1 1 rfl rfl 0 (by decide) (C.1.2.2.2.2 _ gw_81) (fun _ w => w) rfl hdg kk
theorem cg_Bytes_Bytes_most_B1 (C : mCx p m c cc nL s args g "MidiDesk$Bytes") (hw : cWd g A H0 qq ad ea h X z H locs) (hdg : decode cc pc = .ok (.getfield 9, 3)) (kk : W p l e R s m args below meth c H locs cells slots Q (F0 m (pc + 3) ls (.int 16384 :: rest))) : W p l e R s m args below meth c H locs cells slots Q (F0 m pc ls (.ref (qq 2) :: rest)) := 
  va_get (ci := 0) (C := R_Bytes) (T := F_Bytes) (N := 3) C.1.1 C.1.2.1 C.1.2.2.2.2 i_Bytes C.1.2.2.2.1 C.2.1 hw.1 2 rfl rfl 0 (by decide) (C.1.2.2.2.2 _ gw_81) (fun _ w => w) rfl hdg kk
theorem cg_Bytes_Bytes_most_B2 (C : mCx p m c cc nL s args g "MidiDesk$Bytes") (hw : cWd g A H0 qq ad ea h X z H locs) (hdg : decode cc pc = .ok (.getfield 9, 3)) (kk : W p l e R s m args below meth c H locs cells slots Q (F0 m (pc + 3) ls (.int 8000 :: rest))) : W p l e R s m args below meth c H locs cells slots Q (F0 m pc ls (.ref (qq 3) :: rest)) := 
  va_get (ci := 0) (C := R_Bytes) (T := F_Bytes) (N := 3) C.1.1 C.1.2.1 C.1.2.2.2.2 i_Bytes C.1.2.2.2.1 C.2.1 hw.1 3 rfl rfl 0 (by decide) (C.1.2.2.2.2 _ gw_81) (fun _ w => w) rfl hdg kk
theorem cg_Bytes_Bytes_row_B0 (C : mCx p m c cc nL s args g "MidiDesk$Bytes") (hw : cWd g A H0 qq ad ea h X z H locs) (hdg : decode cc pc = .ok (.getfield 15, 3)) (kk : W p l e R s m args below meth c H locs cells slots Q (F0 m (pc + 3) ls (.ref (ad 0) :: rest))) : W p l e R s m args below meth c H locs cells slots Q (F0 m pc ls (.ref (qq 1) :: rest)) := 
  va_get (ci := 0) (C := R_Bytes) (T := F_Bytes) (N := 3) C.1.1 C.1.2.1 C.1.2.2.2.2 i_Bytes C.1.2.2.2.1 C.2.1 hw.1 1 rfl rfl 1 (by decide) (C.1.2.2.2.2 _ gw_82) (fun _ w => w) rfl hdg kk
theorem cg_Bytes_Bytes_row_B1 (C : mCx p m c cc nL s args g "MidiDesk$Bytes") (hw : cWd g A H0 qq ad ea h X z H locs) (hdg : decode cc pc = .ok (.getfield 15, 3)) (kk : W p l e R s m args below meth c H locs cells slots Q (F0 m (pc + 3) ls (.ref (ad 1) :: rest))) : W p l e R s m args below meth c H locs cells slots Q (F0 m pc ls (.ref (qq 2) :: rest)) := 
  va_get (ci := 0) (C := R_Bytes) (T := F_Bytes) (N := 3) C.1.1 C.1.2.1 C.1.2.2.2.2 i_Bytes C.1.2.2.2.1 C.2.1 hw.1 2 rfl rfl 1 (by decide) (C.1.2.2.2.2 _ gw_82) (fun _ w => w) rfl hdg kk
theorem cg_Bytes_Bytes_row_B2 (C : mCx p m c cc nL s args g "MidiDesk$Bytes") (hw : cWd g A H0 qq ad ea h X z H locs) (hdg : decode cc pc = .ok (.getfield 15, 3)) (kk : W p l e R s m args below meth c H locs cells slots Q (F0 m (pc + 3) ls (.ref (ad 2) :: rest))) : W p l e R s m args below meth c H locs cells slots Q (F0 m pc ls (.ref (qq 3) :: rest)) := 
  va_get (ci := 0) (C := R_Bytes) (T := F_Bytes) (N := 3) C.1.1 C.1.2.1 C.1.2.2.2.2 i_Bytes C.1.2.2.2.1 C.2.1 hw.1 3 rfl rfl 1 (by decide) (C.1.2.2.2.2 _ gw_82) (fun _ w => w) rfl hdg kk
theorem cg_Bytes_Bytes_size_B0 (C : mCx p m c cc nL s args g "MidiDesk$Bytes") (hw : cWd g A H0 qq ad ea h X z H locs) (hdg : decode cc pc = .ok (.getfield 19, 3)) (kk : W p l e R s m args below meth c H locs cells slots Q (F0 m (pc + 3) ls (.int (zi z 0) :: rest))) : W p l e R s m args below meth c H locs cells slots Q (F0 m pc ls (.ref (qq 1) :: rest)) := 
  va_get (ci := 0) (C := R_Bytes) (T := F_Bytes) (N := 3) C.1.1 C.1.2.1 C.1.2.2.2.2 i_Bytes C.1.2.2.2.1 C.2.1 hw.1 1 rfl rfl 2 (by decide) (C.1.2.2.2.2 _ gw_83) (fun _ w => w) rfl hdg kk
theorem cp_Bytes_Bytes_size_B0 {x : Int32} (C : mCx p m c cc nL s args g "MidiDesk$Bytes") (hw : cWd g A H0 qq ad ea h X z H locs) (hdg : decode cc pc = .ok (.putfield 19, 3)) (kk : ∀ (H1 : Heap) (locs1 : List Loc), cWd g A H0 qq ad ea h X (zU z 0 x) H1 locs1 → W p l e R s m args below meth c H1 locs1 cells slots Q (F0 m (pc + 3) ls rest)) : W p l e R s m args below meth c H locs cells slots Q (F0 m pc ls (.int x :: .ref (qq 1) :: rest)) := by
  exact va_put (ci := 0) (ty := .int) (v := .int x) (C := R_Bytes) (T := F_Bytes) (N := 3) C.1.1 C.1.2.1 C.1.2.2.2.2 i_Bytes t_Bytes t_Bytes_ok n_Bytes C.1.2.2.2.1 C.2.1 hw.1 hw.2.1 hw.2.2.1 1 rfl rfl 2 (by decide) (C.1.2.2.2.2 _ gw_83) (fun _ w => w) rfl (by decide +kernel) rfl rfl (Nat.le_of_ble_eq_true rfl) hdg (fun H1 locs1 hP hD hS => kk H1 locs1 ⟨hP, hD, hS, hw.2.2.2⟩)
theorem cg_Bytes_Bytes_size_B1 (C : mCx p m c cc nL s args g "MidiDesk$Bytes") (hw : cWd g A H0 qq ad ea h X z H locs) (hdg : decode cc pc = .ok (.getfield 19, 3)) (kk : W p l e R s m args below meth c H locs cells slots Q (F0 m (pc + 3) ls (.int (zi z 1) :: rest))) : W p l e R s m args below meth c H locs cells slots Q (F0 m pc ls (.ref (qq 2) :: rest)) := 
  va_get (ci := 0) (C := R_Bytes) (T := F_Bytes) (N := 3) C.1.1 C.1.2.1 C.1.2.2.2.2 i_Bytes C.1.2.2.2.1 C.2.1 hw.1 2 rfl rfl 2 (by decide) (C.1.2.2.2.2 _ gw_83) (fun _ w => w) rfl hdg kk
theorem cp_Bytes_Bytes_size_B1 {x : Int32} (C : mCx p m c cc nL s args g "MidiDesk$Bytes") (hw : cWd g A H0 qq ad ea h X z H locs) (hdg : decode cc pc = .ok (.putfield 19, 3)) (kk : ∀ (H1 : Heap) (locs1 : List Loc), cWd g A H0 qq ad ea h X (zU z 1 x) H1 locs1 → W p l e R s m args below meth c H1 locs1 cells slots Q (F0 m (pc + 3) ls rest)) : W p l e R s m args below meth c H locs cells slots Q (F0 m pc ls (.int x :: .ref (qq 2) :: rest)) := by
  exact va_put (ci := 0) (ty := .int) (v := .int x) (C := R_Bytes) (T := F_Bytes) (N := 3) C.1.1 C.1.2.1 C.1.2.2.2.2 i_Bytes t_Bytes t_Bytes_ok n_Bytes C.1.2.2.2.1 C.2.1 hw.1 hw.2.1 hw.2.2.1 2 rfl rfl 2 (by decide) (C.1.2.2.2.2 _ gw_83) (fun _ w => w) rfl (by decide +kernel) rfl rfl (Nat.le_of_ble_eq_true rfl) hdg (fun H1 locs1 hP hD hS => kk H1 locs1 ⟨hP, hD, hS, hw.2.2.2⟩)
theorem cg_Bytes_Bytes_size_B2 (C : mCx p m c cc nL s args g "MidiDesk$Bytes") (hw : cWd g A H0 qq ad ea h X z H locs) (hdg : decode cc pc = .ok (.getfield 19, 3)) (kk : W p l e R s m args below meth c H locs cells slots Q (F0 m (pc + 3) ls (.int (zi z 2) :: rest))) : W p l e R s m args below meth c H locs cells slots Q (F0 m pc ls (.ref (qq 3) :: rest)) := 
  va_get (ci := 0) (C := R_Bytes) (T := F_Bytes) (N := 3) C.1.1 C.1.2.1 C.1.2.2.2.2 i_Bytes C.1.2.2.2.1 C.2.1 hw.1 3 rfl rfl 2 (by decide) (C.1.2.2.2.2 _ gw_83) (fun _ w => w) rfl hdg kk
theorem cp_Bytes_Bytes_size_B2 {x : Int32} (C : mCx p m c cc nL s args g "MidiDesk$Bytes") (hw : cWd g A H0 qq ad ea h X z H locs) (hdg : decode cc pc = .ok (.putfield 19, 3)) (kk : ∀ (H1 : Heap) (locs1 : List Loc), cWd g A H0 qq ad ea h X (zU z 2 x) H1 locs1 → W p l e R s m args below meth c H1 locs1 cells slots Q (F0 m (pc + 3) ls rest)) : W p l e R s m args below meth c H locs cells slots Q (F0 m pc ls (.int x :: .ref (qq 3) :: rest)) := by
  exact va_put (ci := 0) (ty := .int) (v := .int x) (C := R_Bytes) (T := F_Bytes) (N := 3) C.1.1 C.1.2.1 C.1.2.2.2.2 i_Bytes t_Bytes t_Bytes_ok n_Bytes C.1.2.2.2.1 C.2.1 hw.1 hw.2.1 hw.2.2.1 3 rfl rfl 2 (by decide) (C.1.2.2.2.2 _ gw_83) (fun _ w => w) rfl (by decide +kernel) rfl rfl (Nat.le_of_ble_eq_true rfl) hdg (fun H1 locs1 hP hD hS => kk H1 locs1 ⟨hP, hD, hS, hw.2.2.2⟩)
theorem cg_Event_Event_first {o : Option Nat} {j : Nat} (C : mCx p m c cc nL s args g "MidiDesk$Event") (hw : cWd g A H0 qq ad ea h X z H locs) (ho : o = some j) (hj : j < h.2.1) (hdg : decode cc pc = .ok (.getfield 15, 3)) (kk : W p l e R s m args below meth c H locs cells slots Q (F0 m (pc + 3) ls (.int (ze z j 3) :: rest))) : W p l e R s m args below meth c H locs cells slots Q (F0 m pc ls (va_rf (Option.map ea o) :: rest)) := by
  subst ho
  exact va_get (ci := 1) (C := R_Event) (T := F_Event) (N := 7) C.1.1 C.1.2.1 C.1.2.2.2.2 i_Event C.1.2.2.2.1 C.2.1 hw.1 (j + 10) (cw_ev hj) rfl 3 (by decide) (C.1.2.2.2.2 _ gw_347) (fun _ w => w) rfl hdg kk
theorem cgt_Event_Event_first {j : Nat} (C : mCx p m c cc nL s args g "MidiDesk$Event") (hw : cWd g A H0 qq ad ea h X z H locs) (hj : j < h.2.1) (hdg : decode cc pc = .ok (.getfield 15, 3)) (kk : W p l e R s m args below meth c H locs cells slots Q (F0 m (pc + 3) ls (.int (ze z j 3) :: rest))) : W p l e R s m args below meth c H locs cells slots Q (F0 m pc ls (.ref (ea j) :: rest)) := cg_Event_Event_first (o := some j) C hw rfl hj hdg kk
theorem cg_Event_Event_second {o : Option Nat} {j : Nat} (C : mCx p m c cc nL s args g "MidiDesk$Event") (hw : cWd g A H0 qq ad ea h X z H locs) (ho : o = some j) (hj : j < h.2.1) (hdg : decode cc pc = .ok (.getfield 18, 3)) (kk : W p l e R s m args below meth c H locs cells slots Q (F0 m (pc + 3) ls (.int (ze z j 4) :: rest))) : W p l e R s m args below meth c H locs cells slots Q (F0 m pc ls (va_rf (Option.map ea o) :: rest)) := by
  subst ho
  exact va_get (ci := 1) (C := R_Event) (T := F_Event) (N := 7) C.1.1 C.1.2.1 C.1.2.2.2.2 i_Event C.1.2.2.2.1 C.2.1 hw.1 (j + 10) (cw_ev hj) rfl 4 (by decide) (C.1.2.2.2.2 _ gw_354) (fun _ w => w) rfl hdg kk
theorem cgt_Event_Event_second {j : Nat} (C : mCx p m c cc nL s args g "MidiDesk$Event") (hw : cWd g A H0 qq ad ea h X z H locs) (hj : j < h.2.1) (hdg : decode cc pc = .ok (.getfield 18, 3)) (kk : W p l e R s m args below meth c H locs cells slots Q (F0 m (pc + 3) ls (.int (ze z j 4) :: rest))) : W p l e R s m args below meth c H locs cells slots Q (F0 m pc ls (.ref (ea j) :: rest)) := cg_Event_Event_second (o := some j) C hw rfl hj hdg kk
theorem cg_Event_Event_status {o : Option Nat} {j : Nat} (C : mCx p m c cc nL s args g "MidiDesk$Event") (hw : cWd g A H0 qq ad ea h X z H locs) (ho : o = some j) (hj : j < h.2.1) (hdg : decode cc pc = .ok (.getfield 9, 3)) (kk : W p l e R s m args below meth c H locs cells slots Q (F0 m (pc + 3) ls (.int (ze z j 2) :: rest))) : W p l e R s m args below meth c H locs cells slots Q (F0 m pc ls (va_rf (Option.map ea o) :: rest)) := by
  subst ho
  exact va_get (ci := 1) (C := R_Event) (T := F_Event) (N := 7) C.1.1 C.1.2.1 C.1.2.2.2.2 i_Event C.1.2.2.2.1 C.2.1 hw.1 (j + 10) (cw_ev hj) rfl 2 (by decide) (C.1.2.2.2.2 _ gw_343) (fun _ w => w) rfl hdg kk
theorem cgt_Event_Event_status {j : Nat} (C : mCx p m c cc nL s args g "MidiDesk$Event") (hw : cWd g A H0 qq ad ea h X z H locs) (hj : j < h.2.1) (hdg : decode cc pc = .ok (.getfield 9, 3)) (kk : W p l e R s m args below meth c H locs cells slots Q (F0 m (pc + 3) ls (.int (ze z j 2) :: rest))) : W p l e R s m args below meth c H locs cells slots Q (F0 m pc ls (.ref (ea j) :: rest)) := cg_Event_Event_status (o := some j) C hw rfl hj hdg kk
theorem cg_Event_Event_tick {o : Option Nat} {j : Nat} (C : mCx p m c cc nL s args g "MidiDesk$Event") (hw : cWd g A H0 qq ad ea h X z H locs) (ho : o = some j) (hj : j < h.2.1) (hdg : decode cc pc = .ok (.getfield 28, 3)) (kk : W p l e R s m args below meth c H locs cells slots Q (F0 m (pc + 3) ls (.int (ze z j 0) :: rest))) : W p l e R s m args below meth c H locs cells slots Q (F0 m pc ls (va_rf (Option.map ea o) :: rest)) := by
  subst ho
  exact va_get (ci := 1) (C := R_Event) (T := F_Event) (N := 7) C.1.1 C.1.2.1 C.1.2.2.2.2 i_Event C.1.2.2.2.1 C.2.1 hw.1 (j + 10) (cw_ev hj) rfl 0 (by decide) (C.1.2.2.2.2 _ gw_335) (fun _ w => w) rfl hdg kk
theorem cgt_Event_Event_tick {j : Nat} (C : mCx p m c cc nL s args g "MidiDesk$Event") (hw : cWd g A H0 qq ad ea h X z H locs) (hj : j < h.2.1) (hdg : decode cc pc = .ok (.getfield 28, 3)) (kk : W p l e R s m args below meth c H locs cells slots Q (F0 m (pc + 3) ls (.int (ze z j 0) :: rest))) : W p l e R s m args below meth c H locs cells slots Q (F0 m pc ls (.ref (ea j) :: rest)) := cg_Event_Event_tick (o := some j) C hw rfl hj hdg kk
theorem cg_Event_Event_track {o : Option Nat} {j : Nat} (C : mCx p m c cc nL s args g "MidiDesk$Event") (hw : cWd g A H0 qq ad ea h X z H locs) (ho : o = some j) (hj : j < h.2.1) (hdg : decode cc pc = .ok (.getfield 25, 3)) (kk : W p l e R s m args below meth c H locs cells slots Q (F0 m (pc + 3) ls (.int (ze z j 1) :: rest))) : W p l e R s m args below meth c H locs cells slots Q (F0 m pc ls (va_rf (Option.map ea o) :: rest)) := by
  subst ho
  exact va_get (ci := 1) (C := R_Event) (T := F_Event) (N := 7) C.1.1 C.1.2.1 C.1.2.2.2.2 i_Event C.1.2.2.2.1 C.2.1 hw.1 (j + 10) (cw_ev hj) rfl 1 (by decide) (C.1.2.2.2.2 _ gw_340) (fun _ w => w) rfl hdg kk
theorem cgt_Event_Event_track {j : Nat} (C : mCx p m c cc nL s args g "MidiDesk$Event") (hw : cWd g A H0 qq ad ea h X z H locs) (hj : j < h.2.1) (hdg : decode cc pc = .ok (.getfield 25, 3)) (kk : W p l e R s m args below meth c H locs cells slots Q (F0 m (pc + 3) ls (.int (ze z j 1) :: rest))) : W p l e R s m args below meth c H locs cells slots Q (F0 m pc ls (.ref (ea j) :: rest)) := cg_Event_Event_track (o := some j) C hw rfl hj hdg kk
theorem cp_Parser_Event_first {o : Option Nat} {j : Nat} {x : Int32} (C : mCx p m c cc nL s args g "MidiDesk$Parser") (hw : cWd g A H0 qq ad ea h X z H locs) (ho : o = some j) (hj : j < h.2.1) (hdg : decode cc pc = .ok (.putfield 159, 3)) (kk : ∀ (H1 : Heap) (locs1 : List Loc), cWd g A H0 qq ad ea h X (zE z j 3 x) H1 locs1 → W p l e R s m args below meth c H1 locs1 cells slots Q (F0 m (pc + 3) ls rest)) : W p l e R s m args below meth c H locs cells slots Q (F0 m pc ls (.int x :: va_rf (Option.map ea o) :: rest)) := by
  subst ho
  refine va_putN (ci := 1) (ty := .int) (v := .int x) (C := R_Event) (T := F_Event) (N := 7) C.1.1 C.1.2.1 C.1.2.2.2.2 i_Event t_Event t_Event_ok n_Event C.1.2.2.2.1 C.2.1 hw.1 hw.2.1 hw.2.2.1 (j + 10) (cw_ev hj) rfl 3 (by decide) (va_Nw.use rfl (C.2.2.1 _ nw_300)) (fun _ w => w) rfl (by decide +kernel) rfl rfl (Nat.le_of_ble_eq_true rfl) hdg (fun H1 locs1 hP hD hS => ?_)
  have e : (cw g qq ad ea h z X).set (j + 10) (ea j, .inr (1, (cevf z j).set 3 (.int x))) = cw g qq ad ea h (zE z j 3 x) X := by
    have e1 : (ea j, Sum.inr (1, (cevf z j).set 3 (.int x))) = cev ea (zE z j 3 x) j := by simp [cev, cevf, zE, ze, upe]
    rw [e1, cw_evset, if_pos hj]
  rw [e] at hP hD
  exact kk H1 locs1 ⟨hP, hD, hS, hw.2.2.2⟩
theorem cp_Parser_Event_second {o : Option Nat} {j : Nat} {x : Int32} (C : mCx p m c cc nL s args g "MidiDesk$Parser") (hw : cWd g A H0 qq ad ea h X z H locs) (ho : o = some j) (hj : j < h.2.1) (hdg : decode cc pc = .ok (.putfield 160, 3)) (kk : ∀ (H1 : Heap) (locs1 : List Loc), cWd g A H0 qq ad ea h X (zE z j 4 x) H1 locs1 → W p l e R s m args below meth c H1 locs1 cells slots Q (F0 m (pc + 3) ls rest)) : W p l e R s m args below meth c H locs cells slots Q (F0 m pc ls (.int x :: va_rf (Option.map ea o) :: rest)) := by
  subst ho
  refine va_putN (ci := 1) (ty := .int) (v := .int x) (C := R_Event) (T := F_Event) (N := 7) C.1.1 C.1.2.1 C.1.2.2.2.2 i_Event t_Event t_Event_ok n_Event C.1.2.2.2.1 C.2.1 hw.1 hw.2.1 hw.2.2.1 (j + 10) (cw_ev hj) rfl 4 (by decide) (va_Nw.use rfl (C.2.2.1 _ nw_304)) (fun _ w => w) rfl (by decide +kernel) rfl rfl (Nat.le_of_ble_eq_true rfl) hdg (fun H1 locs1 hP hD hS => ?_)
  have e : (cw g qq ad ea h z X).set (j + 10) (ea j, .inr (1, (cevf z j).set 4 (.int x))) = cw g qq ad ea h (zE z j 4 x) X := by
    have e1 : (ea j, Sum.inr (1, (cevf z j).set 4 (.int x))) = cev ea (zE z j 4 x) j := by simp [cev, cevf, zE, ze, upe]
    rw [e1, cw_evset, if_pos hj]
  rw [e] at hP hD
  exact kk H1 locs1 ⟨hP, hD, hS, hw.2.2.2⟩
theorem cp_Parser_Event_size {o : Option Nat} {j : Nat} {x : Int32} (C : mCx p m c cc nL s args g "MidiDesk$Parser") (hw : cWd g A H0 qq ad ea h X z H locs) (ho : o = some j) (hj : j < h.2.1) (hdg : decode cc pc = .ok (.putfield 165, 3)) (kk : ∀ (H1 : Heap) (locs1 : List Loc), cWd g A H0 qq ad ea h X (zE z j 6 x) H1 locs1 → W p l e R s m args below meth c H1 locs1 cells slots Q (F0 m (pc + 3) ls rest)) : W p l e R s m args below meth c H locs cells slots Q (F0 m pc ls (.int x :: va_rf (Option.map ea o) :: rest)) := by
  subst ho
  refine va_putN (ci := 1) (ty := .int) (v := .int x) (C := R_Event) (T := F_Event) (N := 7) C.1.1 C.1.2.1 C.1.2.2.2.2 i_Event t_Event t_Event_ok n_Event C.1.2.2.2.1 C.2.1 hw.1 hw.2.1 hw.2.2.1 (j + 10) (cw_ev hj) rfl 6 (by decide) (va_Nw.use rfl (C.2.2.1 _ nw_311)) (fun _ w => w) rfl (by decide +kernel) rfl rfl (Nat.le_of_ble_eq_true rfl) hdg (fun H1 locs1 hP hD hS => ?_)
  have e : (cw g qq ad ea h z X).set (j + 10) (ea j, .inr (1, (cevf z j).set 6 (.int x))) = cw g qq ad ea h (zE z j 6 x) X := by
    have e1 : (ea j, Sum.inr (1, (cevf z j).set 6 (.int x))) = cev ea (zE z j 6 x) j := by simp [cev, cevf, zE, ze, upe]
    rw [e1, cw_evset, if_pos hj]
  rw [e] at hP hD
  exact kk H1 locs1 ⟨hP, hD, hS, hw.2.2.2⟩
theorem cp_Parser_Event_start {o : Option Nat} {j : Nat} {x : Int32} (C : mCx p m c cc nL s args g "MidiDesk$Parser") (hw : cWd g A H0 qq ad ea h X z H locs) (ho : o = some j) (hj : j < h.2.1) (hdg : decode cc pc = .ok (.putfield 164, 3)) (kk : ∀ (H1 : Heap) (locs1 : List Loc), cWd g A H0 qq ad ea h X (zE z j 5 x) H1 locs1 → W p l e R s m args below meth c H1 locs1 cells slots Q (F0 m (pc + 3) ls rest)) : W p l e R s m args below meth c H locs cells slots Q (F0 m pc ls (.int x :: va_rf (Option.map ea o) :: rest)) := by
  subst ho
  refine va_putN (ci := 1) (ty := .int) (v := .int x) (C := R_Event) (T := F_Event) (N := 7) C.1.1 C.1.2.1 C.1.2.2.2.2 i_Event t_Event t_Event_ok n_Event C.1.2.2.2.1 C.2.1 hw.1 hw.2.1 hw.2.2.1 (j + 10) (cw_ev hj) rfl 5 (by decide) (va_Nw.use rfl (C.2.2.1 _ nw_307)) (fun _ w => w) rfl (by decide +kernel) rfl rfl (Nat.le_of_ble_eq_true rfl) hdg (fun H1 locs1 hP hD hS => ?_)
  have e : (cw g qq ad ea h z X).set (j + 10) (ea j, .inr (1, (cevf z j).set 5 (.int x))) = cw g qq ad ea h (zE z j 5 x) X := by
    have e1 : (ea j, Sum.inr (1, (cevf z j).set 5 (.int x))) = cev ea (zE z j 5 x) j := by simp [cev, cevf, zE, ze, upe]
    rw [e1, cw_evset, if_pos hj]
  rw [e] at hP hD
  exact kk H1 locs1 ⟨hP, hD, hS, hw.2.2.2⟩
theorem cp_Parser_Event_status {o : Option Nat} {j : Nat} {x : Int32} (C : mCx p m c cc nL s args g "MidiDesk$Parser") (hw : cWd g A H0 qq ad ea h X z H locs) (ho : o = some j) (hj : j < h.2.1) (hdg : decode cc pc = .ok (.putfield 157, 3)) (kk : ∀ (H1 : Heap) (locs1 : List Loc), cWd g A H0 qq ad ea h X (zE z j 2 x) H1 locs1 → W p l e R s m args below meth c H1 locs1 cells slots Q (F0 m (pc + 3) ls rest)) : W p l e R s m args below meth c H locs cells slots Q (F0 m pc ls (.int x :: va_rf (Option.map ea o) :: rest)) := by
  subst ho
  refine va_putN (ci := 1) (ty := .int) (v := .int x) (C := R_Event) (T := F_Event) (N := 7) C.1.1 C.1.2.1 C.1.2.2.2.2 i_Event t_Event t_Event_ok n_Event C.1.2.2.2.1 C.2.1 hw.1 hw.2.1 hw.2.2.1 (j + 10) (cw_ev hj) rfl 2 (by decide) (va_Nw.use rfl (C.2.2.1 _ nw_295)) (fun _ w => w) rfl (by decide +kernel) rfl rfl (Nat.le_of_ble_eq_true rfl) hdg (fun H1 locs1 hP hD hS => ?_)
  have e : (cw g qq ad ea h z X).set (j + 10) (ea j, .inr (1, (cevf z j).set 2 (.int x))) = cw g qq ad ea h (zE z j 2 x) X := by
    have e1 : (ea j, Sum.inr (1, (cevf z j).set 2 (.int x))) = cev ea (zE z j 2 x) j := by simp [cev, cevf, zE, ze, upe]
    rw [e1, cw_evset, if_pos hj]
  rw [e] at hP hD
  exact kk H1 locs1 ⟨hP, hD, hS, hw.2.2.2⟩
theorem cp_Parser_Event_tick {o : Option Nat} {j : Nat} {x : Int32} (C : mCx p m c cc nL s args g "MidiDesk$Parser") (hw : cWd g A H0 qq ad ea h X z H locs) (ho : o = some j) (hj : j < h.2.1) (hdg : decode cc pc = .ok (.putfield 152, 3)) (kk : ∀ (H1 : Heap) (locs1 : List Loc), cWd g A H0 qq ad ea h X (zE z j 0 x) H1 locs1 → W p l e R s m args below meth c H1 locs1 cells slots Q (F0 m (pc + 3) ls rest)) : W p l e R s m args below meth c H locs cells slots Q (F0 m pc ls (.int x :: va_rf (Option.map ea o) :: rest)) := by
  subst ho
  refine va_putN (ci := 1) (ty := .int) (v := .int x) (C := R_Event) (T := F_Event) (N := 7) C.1.1 C.1.2.1 C.1.2.2.2.2 i_Event t_Event t_Event_ok n_Event C.1.2.2.2.1 C.2.1 hw.1 hw.2.1 hw.2.2.1 (j + 10) (cw_ev hj) rfl 0 (by decide) (va_Nw.use rfl (C.2.2.1 _ nw_286)) (fun _ w => w) rfl (by decide +kernel) rfl rfl (Nat.le_of_ble_eq_true rfl) hdg (fun H1 locs1 hP hD hS => ?_)
  have e : (cw g qq ad ea h z X).set (j + 10) (ea j, .inr (1, (cevf z j).set 0 (.int x))) = cw g qq ad ea h (zE z j 0 x) X := by
    have e1 : (ea j, Sum.inr (1, (cevf z j).set 0 (.int x))) = cev ea (zE z j 0 x) j := by simp [cev, cevf, zE, ze, upe]
    rw [e1, cw_evset, if_pos hj]
  rw [e] at hP hD
  exact kk H1 locs1 ⟨hP, hD, hS, hw.2.2.2⟩
theorem cp_Parser_Event_track {o : Option Nat} {j : Nat} {x : Int32} (C : mCx p m c cc nL s args g "MidiDesk$Parser") (hw : cWd g A H0 qq ad ea h X z H locs) (ho : o = some j) (hj : j < h.2.1) (hdg : decode cc pc = .ok (.putfield 155, 3)) (kk : ∀ (H1 : Heap) (locs1 : List Loc), cWd g A H0 qq ad ea h X (zE z j 1 x) H1 locs1 → W p l e R s m args below meth c H1 locs1 cells slots Q (F0 m (pc + 3) ls rest)) : W p l e R s m args below meth c H locs cells slots Q (F0 m pc ls (.int x :: va_rf (Option.map ea o) :: rest)) := by
  subst ho
  refine va_putN (ci := 1) (ty := .int) (v := .int x) (C := R_Event) (T := F_Event) (N := 7) C.1.1 C.1.2.1 C.1.2.2.2.2 i_Event t_Event t_Event_ok n_Event C.1.2.2.2.1 C.2.1 hw.1 hw.2.1 hw.2.2.1 (j + 10) (cw_ev hj) rfl 1 (by decide) (va_Nw.use rfl (C.2.2.1 _ nw_291)) (fun _ w => w) rfl (by decide +kernel) rfl rfl (Nat.le_of_ble_eq_true rfl) hdg (fun H1 locs1 hP hD hS => ?_)
  have e : (cw g qq ad ea h z X).set (j + 10) (ea j, .inr (1, (cevf z j).set 1 (.int x))) = cw g qq ad ea h (zE z j 1 x) X := by
    have e1 : (ea j, Sum.inr (1, (cevf z j).set 1 (.int x))) = cev ea (zE z j 1 x) j := by simp [cev, cevf, zE, ze, upe]
    rw [e1, cw_evset, if_pos hj]
  rw [e] at hP hD
  exact kk H1 locs1 ⟨hP, hD, hS, hw.2.2.2⟩
theorem cg_Parser_Parser_end (C : mCx p m c cc nL s args g "MidiDesk$Parser") {qp : Nat} {pv : Nat → Int32} (hw : cWd g A H0 qq ad ea h (pcell qp qq pv :: X) z H locs) (hdg : decode cc pc = .ok (.getfield 30, 3)) (kk : W p l e R s m args below meth c H locs cells slots Q (F0 m (pc + 3) ls (.int (pv 1) :: rest))) : W p l e R s m args below meth c H locs cells slots Q (F0 m pc ls (.ref qp :: rest)) := 
  va_get (ci := 2) (C := R_Parser) (T := F_Parser) (N := 13) C.1.1 C.1.2.1 C.1.2.2.2.2 i_Parser C.1.2.2.2.1 C.2.1 hw.1 (h.2.1 + 10) cw_x rfl 3 (by decide) (C.1.2.2.2.2 _ gw_192) (fun _ w => w) rfl hdg kk
theorem cp_Parser_Parser_end {x : Int32} (C : mCx p m c cc nL s args g "MidiDesk$Parser") {qp : Nat} {pv : Nat → Int32} (hw : cWd g A H0 qq ad ea h (pcell qp qq pv :: X) z H locs) (hdg : decode cc pc = .ok (.putfield 30, 3)) (kk : ∀ (H1 : Heap) (locs1 : List Loc), cWd g A H0 qq ad ea h (pcell qp qq (upd pv 1 x) :: X) z H1 locs1 → W p l e R s m args below meth c H1 locs1 cells slots Q (F0 m (pc + 3) ls rest)) : W p l e R s m args below meth c H locs cells slots Q (F0 m pc ls (.int x :: .ref qp :: rest)) := by
  refine va_put (ci := 2) (ty := .int) (v := .int x) (C := R_Parser) (T := F_Parser) (N := 13) C.1.1 C.1.2.1 C.1.2.2.2.2 i_Parser t_Parser t_Parser_ok n_Parser C.1.2.2.2.1 C.2.1 hw.1 hw.2.1 hw.2.2.1 (h.2.1 + 10) cw_x rfl 3 (by decide) (C.1.2.2.2.2 _ gw_192) (fun _ w => w) rfl (by decide +kernel) rfl rfl (Nat.le_of_ble_eq_true rfl) hdg (fun H1 locs1 hP hD hS => ?_)
  rw [cw_xset] at hP hD
  exact kk H1 locs1 ⟨hP, hD, hS, hw.2.2.2⟩
theorem cg_Parser_Parser_ended (C : mCx p m c cc nL s args g "MidiDesk$Parser") {qp : Nat} {pv : Nat → Int32} (hw : cWd g A H0 qq ad ea h (pcell qp qq pv :: X) z H locs) (hdg : decode cc pc = .ok (.getfield 99, 3)) (kk : W p l e R s m args below meth c H locs cells slots Q (F0 m (pc + 3) ls (.int (pv 6) :: rest))) : W p l e R s m args below meth c H locs cells slots Q (F0 m pc ls (.ref qp :: rest)) := 
  va_get (ci := 2) (C := R_Parser) (T := F_Parser) (N := 13) C.1.1 C.1.2.1 C.1.2.2.2.2 i_Parser C.1.2.2.2.1 C.2.1 hw.1 (h.2.1 + 10) cw_x rfl 8 (by decide) (C.1.2.2.2.2 _ gw_197) (fun _ w => w) rfl hdg kk
theorem cp_Parser_Parser_ended {x : Int32} (C : mCx p m c cc nL s args g "MidiDesk$Parser") {qp : Nat} {pv : Nat → Int32} (hw : cWd g A H0 qq ad ea h (pcell qp qq pv :: X) z H locs) (hz : x = 0 ∨ x = 1) (hdg : decode cc pc = .ok (.putfield 99, 3)) (kk : ∀ (H1 : Heap) (locs1 : List Loc), cWd g A H0 qq ad ea h (pcell qp qq (upd pv 6 x) :: X) z H1 locs1 → W p l e R s m args below meth c H1 locs1 cells slots Q (F0 m (pc + 3) ls rest)) : W p l e R s m args below meth c H locs cells slots Q (F0 m pc ls (.int x :: .ref qp :: rest)) := by
  refine va_put (ci := 2) (ty := .boolean) (v := .int x) (C := R_Parser) (T := F_Parser) (N := 13) C.1.1 C.1.2.1 C.1.2.2.2.2 i_Parser t_Parser t_Parser_ok n_Parser C.1.2.2.2.1 C.2.1 hw.1 hw.2.1 hw.2.2.1 (h.2.1 + 10) cw_x rfl 8 (by decide) (C.1.2.2.2.2 _ gw_197) (fun _ w => w) rfl (by decide +kernel) (by rcases hz with rfl | rfl <;> rfl) (by rcases hz with rfl | rfl <;> rfl) (Nat.le_of_ble_eq_true rfl) hdg (fun H1 locs1 hP hD hS => ?_)
  rw [cw_xset] at hP hD
  exact kk H1 locs1 ⟨hP, hD, hS, hw.2.2.2⟩
theorem cg_Parser_Parser_fault (C : mCx p m c cc nL s args g "MidiDesk$Parser") {qp : Nat} {pv : Nat → Int32} (hw : cWd g A H0 qq ad ea h (pcell qp qq pv :: X) z H locs) (hdg : decode cc pc = .ok (.getfield 37, 3)) (kk : W p l e R s m args below meth c H locs cells slots Q (F0 m (pc + 3) ls (.int (pv 2) :: rest))) : W p l e R s m args below meth c H locs cells slots Q (F0 m pc ls (.ref qp :: rest)) := 
  va_get (ci := 2) (C := R_Parser) (T := F_Parser) (N := 13) C.1.1 C.1.2.1 C.1.2.2.2.2 i_Parser C.1.2.2.2.1 C.2.1 hw.1 (h.2.1 + 10) cw_x rfl 4 (by decide) (C.1.2.2.2.2 _ gw_193) (fun _ w => w) rfl hdg kk
theorem cp_Parser_Parser_fault {x : Int32} (C : mCx p m c cc nL s args g "MidiDesk$Parser") {qp : Nat} {pv : Nat → Int32} (hw : cWd g A H0 qq ad ea h (pcell qp qq pv :: X) z H locs) (hdg : decode cc pc = .ok (.putfield 37, 3)) (kk : ∀ (H1 : Heap) (locs1 : List Loc), cWd g A H0 qq ad ea h (pcell qp qq (upd pv 2 x) :: X) z H1 locs1 → W p l e R s m args below meth c H1 locs1 cells slots Q (F0 m (pc + 3) ls rest)) : W p l e R s m args below meth c H locs cells slots Q (F0 m pc ls (.int x :: .ref qp :: rest)) := by
  refine va_put (ci := 2) (ty := .int) (v := .int x) (C := R_Parser) (T := F_Parser) (N := 13) C.1.1 C.1.2.1 C.1.2.2.2.2 i_Parser t_Parser t_Parser_ok n_Parser C.1.2.2.2.1 C.2.1 hw.1 hw.2.1 hw.2.2.1 (h.2.1 + 10) cw_x rfl 4 (by decide) (C.1.2.2.2.2 _ gw_193) (fun _ w => w) rfl (by decide +kernel) rfl rfl (Nat.le_of_ble_eq_true rfl) hdg (fun H1 locs1 hP hD hS => ?_)
  rw [cw_xset] at hP hD
  exact kk H1 locs1 ⟨hP, hD, hS, hw.2.2.2⟩
theorem cg_Parser_Parser_first (C : mCx p m c cc nL s args g "MidiDesk$Parser") {qp : Nat} {pv : Nat → Int32} (hw : cWd g A H0 qq ad ea h (pcell qp qq pv :: X) z H locs) (hdg : decode cc pc = .ok (.getfield 133, 3)) (kk : W p l e R s m args below meth c H locs cells slots Q (F0 m (pc + 3) ls (.int (pv 7) :: rest))) : W p l e R s m args below meth c H locs cells slots Q (F0 m pc ls (.ref qp :: rest)) := 
  va_get (ci := 2) (C := R_Parser) (T := F_Parser) (N := 13) C.1.1 C.1.2.1 C.1.2.2.2.2 i_Parser C.1.2.2.2.1 C.2.1 hw.1 (h.2.1 + 10) cw_x rfl 9 (by decide) (C.1.2.2.2.2 _ gw_198) (fun _ w => w) rfl hdg kk
theorem cp_Parser_Parser_first {x : Int32} (C : mCx p m c cc nL s args g "MidiDesk$Parser") {qp : Nat} {pv : Nat → Int32} (hw : cWd g A H0 qq ad ea h (pcell qp qq pv :: X) z H locs) (hdg : decode cc pc = .ok (.putfield 133, 3)) (kk : ∀ (H1 : Heap) (locs1 : List Loc), cWd g A H0 qq ad ea h (pcell qp qq (upd pv 7 x) :: X) z H1 locs1 → W p l e R s m args below meth c H1 locs1 cells slots Q (F0 m (pc + 3) ls rest)) : W p l e R s m args below meth c H locs cells slots Q (F0 m pc ls (.int x :: .ref qp :: rest)) := by
  refine va_put (ci := 2) (ty := .int) (v := .int x) (C := R_Parser) (T := F_Parser) (N := 13) C.1.1 C.1.2.1 C.1.2.2.2.2 i_Parser t_Parser t_Parser_ok n_Parser C.1.2.2.2.1 C.2.1 hw.1 hw.2.1 hw.2.2.1 (h.2.1 + 10) cw_x rfl 9 (by decide) (C.1.2.2.2.2 _ gw_198) (fun _ w => w) rfl (by decide +kernel) rfl rfl (Nat.le_of_ble_eq_true rfl) hdg (fun H1 locs1 hP hD hS => ?_)
  rw [cw_xset] at hP hD
  exact kk H1 locs1 ⟨hP, hD, hS, hw.2.2.2⟩
theorem cg_Parser_Parser_input (C : mCx p m c cc nL s args g "MidiDesk$Parser") {qp : Nat} {pv : Nat → Int32} (hw : cWd g A H0 qq ad ea h (pcell qp qq pv :: X) z H locs) (hdg : decode cc pc = .ok (.getfield 9, 3)) (kk : W p l e R s m args below meth c H locs cells slots Q (F0 m (pc + 3) ls (.ref (qq 1) :: rest))) : W p l e R s m args below meth c H locs cells slots Q (F0 m pc ls (.ref qp :: rest)) := 
  va_get (ci := 2) (C := R_Parser) (T := F_Parser) (N := 13) C.1.1 C.1.2.1 C.1.2.2.2.2 i_Parser C.1.2.2.2.1 C.2.1 hw.1 (h.2.1 + 10) cw_x rfl 0 (by decide) (C.1.2.2.2.2 _ gw_189) (fun _ w => w) rfl hdg kk
theorem cg_Parser_Parser_pos (C : mCx p m c cc nL s args g "MidiDesk$Parser") {qp : Nat} {pv : Nat → Int32} (hw : cWd g A H0 qq ad ea h (pcell qp qq pv :: X) z H locs) (hdg : decode cc pc = .ok (.getfield 40, 3)) (kk : W p l e R s m args below meth c H locs cells slots Q (F0 m (pc + 3) ls (.int (pv 0) :: rest))) : W p l e R s m args below meth c H locs cells slots Q (F0 m pc ls (.ref qp :: rest)) := 
  va_get (ci := 2) (C := R_Parser) (T := F_Parser) (N := 13) C.1.1 C.1.2.1 C.1.2.2.2.2 i_Parser C.1.2.2.2.1 C.2.1 hw.1 (h.2.1 + 10) cw_x rfl 2 (by decide) (C.1.2.2.2.2 _ gw_191) (fun _ w => w) rfl hdg kk
theorem cp_Parser_Parser_pos {x : Int32} (C : mCx p m c cc nL s args g "MidiDesk$Parser") {qp : Nat} {pv : Nat → Int32} (hw : cWd g A H0 qq ad ea h (pcell qp qq pv :: X) z H locs) (hdg : decode cc pc = .ok (.putfield 40, 3)) (kk : ∀ (H1 : Heap) (locs1 : List Loc), cWd g A H0 qq ad ea h (pcell qp qq (upd pv 0 x) :: X) z H1 locs1 → W p l e R s m args below meth c H1 locs1 cells slots Q (F0 m (pc + 3) ls rest)) : W p l e R s m args below meth c H locs cells slots Q (F0 m pc ls (.int x :: .ref qp :: rest)) := by
  refine va_put (ci := 2) (ty := .int) (v := .int x) (C := R_Parser) (T := F_Parser) (N := 13) C.1.1 C.1.2.1 C.1.2.2.2.2 i_Parser t_Parser t_Parser_ok n_Parser C.1.2.2.2.1 C.2.1 hw.1 hw.2.1 hw.2.2.1 (h.2.1 + 10) cw_x rfl 2 (by decide) (C.1.2.2.2.2 _ gw_191) (fun _ w => w) rfl (by decide +kernel) rfl rfl (Nat.le_of_ble_eq_true rfl) hdg (fun H1 locs1 hP hD hS => ?_)
  rw [cw_xset] at hP hD
  exact kk H1 locs1 ⟨hP, hD, hS, hw.2.2.2⟩
theorem cg_Parser_Parser_running (C : mCx p m c cc nL s args g "MidiDesk$Parser") {qp : Nat} {pv : Nat → Int32} (hw : cWd g A H0 qq ad ea h (pcell qp qq pv :: X) z H locs) (hdg : decode cc pc = .ok (.getfield 96, 3)) (kk : W p l e R s m args below meth c H locs cells slots Q (F0 m (pc + 3) ls (.int (pv 5) :: rest))) : W p l e R s m args below meth c H locs cells slots Q (F0 m pc ls (.ref qp :: rest)) := 
  va_get (ci := 2) (C := R_Parser) (T := F_Parser) (N := 13) C.1.1 C.1.2.1 C.1.2.2.2.2 i_Parser C.1.2.2.2.1 C.2.1 hw.1 (h.2.1 + 10) cw_x rfl 7 (by decide) (C.1.2.2.2.2 _ gw_196) (fun _ w => w) rfl hdg kk
theorem cp_Parser_Parser_running {x : Int32} (C : mCx p m c cc nL s args g "MidiDesk$Parser") {qp : Nat} {pv : Nat → Int32} (hw : cWd g A H0 qq ad ea h (pcell qp qq pv :: X) z H locs) (hdg : decode cc pc = .ok (.putfield 96, 3)) (kk : ∀ (H1 : Heap) (locs1 : List Loc), cWd g A H0 qq ad ea h (pcell qp qq (upd pv 5 x) :: X) z H1 locs1 → W p l e R s m args below meth c H1 locs1 cells slots Q (F0 m (pc + 3) ls rest)) : W p l e R s m args below meth c H locs cells slots Q (F0 m pc ls (.int x :: .ref qp :: rest)) := by
  refine va_put (ci := 2) (ty := .int) (v := .int x) (C := R_Parser) (T := F_Parser) (N := 13) C.1.1 C.1.2.1 C.1.2.2.2.2 i_Parser t_Parser t_Parser_ok n_Parser C.1.2.2.2.1 C.2.1 hw.1 hw.2.1 hw.2.2.1 (h.2.1 + 10) cw_x rfl 7 (by decide) (C.1.2.2.2.2 _ gw_196) (fun _ w => w) rfl (by decide +kernel) rfl rfl (Nat.le_of_ble_eq_true rfl) hdg (fun H1 locs1 hP hD hS => ?_)
  rw [cw_xset] at hP hD
  exact kk H1 locs1 ⟨hP, hD, hS, hw.2.2.2⟩
theorem cg_Parser_Parser_score (C : mCx p m c cc nL s args g "MidiDesk$Parser") {qp : Nat} {pv : Nat → Int32} (hw : cWd g A H0 qq ad ea h (pcell qp qq pv :: X) z H locs) (hdg : decode cc pc = .ok (.getfield 15, 3)) (kk : W p l e R s m args below meth c H locs cells slots Q (F0 m (pc + 3) ls (.ref (qq 4) :: rest))) : W p l e R s m args below meth c H locs cells slots Q (F0 m pc ls (.ref qp :: rest)) := 
  va_get (ci := 2) (C := R_Parser) (T := F_Parser) (N := 13) C.1.1 C.1.2.1 C.1.2.2.2.2 i_Parser C.1.2.2.2.1 C.2.1 hw.1 (h.2.1 + 10) cw_x rfl 1 (by decide) (C.1.2.2.2.2 _ gw_190) (fun _ w => w) rfl hdg kk
theorem cg_Parser_Parser_second (C : mCx p m c cc nL s args g "MidiDesk$Parser") {qp : Nat} {pv : Nat → Int32} (hw : cWd g A H0 qq ad ea h (pcell qp qq pv :: X) z H locs) (hdg : decode cc pc = .ok (.getfield 139, 3)) (kk : W p l e R s m args below meth c H locs cells slots Q (F0 m (pc + 3) ls (.int (pv 8) :: rest))) : W p l e R s m args below meth c H locs cells slots Q (F0 m pc ls (.ref qp :: rest)) := 
  va_get (ci := 2) (C := R_Parser) (T := F_Parser) (N := 13) C.1.1 C.1.2.1 C.1.2.2.2.2 i_Parser C.1.2.2.2.1 C.2.1 hw.1 (h.2.1 + 10) cw_x rfl 10 (by decide) (C.1.2.2.2.2 _ gw_199) (fun _ w => w) rfl hdg kk
theorem cp_Parser_Parser_second {x : Int32} (C : mCx p m c cc nL s args g "MidiDesk$Parser") {qp : Nat} {pv : Nat → Int32} (hw : cWd g A H0 qq ad ea h (pcell qp qq pv :: X) z H locs) (hdg : decode cc pc = .ok (.putfield 139, 3)) (kk : ∀ (H1 : Heap) (locs1 : List Loc), cWd g A H0 qq ad ea h (pcell qp qq (upd pv 8 x) :: X) z H1 locs1 → W p l e R s m args below meth c H1 locs1 cells slots Q (F0 m (pc + 3) ls rest)) : W p l e R s m args below meth c H locs cells slots Q (F0 m pc ls (.int x :: .ref qp :: rest)) := by
  refine va_put (ci := 2) (ty := .int) (v := .int x) (C := R_Parser) (T := F_Parser) (N := 13) C.1.1 C.1.2.1 C.1.2.2.2.2 i_Parser t_Parser t_Parser_ok n_Parser C.1.2.2.2.1 C.2.1 hw.1 hw.2.1 hw.2.2.1 (h.2.1 + 10) cw_x rfl 10 (by decide) (C.1.2.2.2.2 _ gw_199) (fun _ w => w) rfl (by decide +kernel) rfl rfl (Nat.le_of_ble_eq_true rfl) hdg (fun H1 locs1 hP hD hS => ?_)
  rw [cw_xset] at hP hD
  exact kk H1 locs1 ⟨hP, hD, hS, hw.2.2.2⟩
theorem cg_Parser_Parser_size (C : mCx p m c cc nL s args g "MidiDesk$Parser") {qp : Nat} {pv : Nat → Int32} (hw : cWd g A H0 qq ad ea h (pcell qp qq pv :: X) z H locs) (hdg : decode cc pc = .ok (.getfield 122, 3)) (kk : W p l e R s m args below meth c H locs cells slots Q (F0 m (pc + 3) ls (.int (pv 10) :: rest))) : W p l e R s m args below meth c H locs cells slots Q (F0 m pc ls (.ref qp :: rest)) := 
  va_get (ci := 2) (C := R_Parser) (T := F_Parser) (N := 13) C.1.1 C.1.2.1 C.1.2.2.2.2 i_Parser C.1.2.2.2.1 C.2.1 hw.1 (h.2.1 + 10) cw_x rfl 12 (by decide) (C.1.2.2.2.2 _ gw_201) (fun _ w => w) rfl hdg kk
theorem cp_Parser_Parser_size {x : Int32} (C : mCx p m c cc nL s args g "MidiDesk$Parser") {qp : Nat} {pv : Nat → Int32} (hw : cWd g A H0 qq ad ea h (pcell qp qq pv :: X) z H locs) (hdg : decode cc pc = .ok (.putfield 122, 3)) (kk : ∀ (H1 : Heap) (locs1 : List Loc), cWd g A H0 qq ad ea h (pcell qp qq (upd pv 10 x) :: X) z H1 locs1 → W p l e R s m args below meth c H1 locs1 cells slots Q (F0 m (pc + 3) ls rest)) : W p l e R s m args below meth c H locs cells slots Q (F0 m pc ls (.int x :: .ref qp :: rest)) := by
  refine va_put (ci := 2) (ty := .int) (v := .int x) (C := R_Parser) (T := F_Parser) (N := 13) C.1.1 C.1.2.1 C.1.2.2.2.2 i_Parser t_Parser t_Parser_ok n_Parser C.1.2.2.2.1 C.2.1 hw.1 hw.2.1 hw.2.2.1 (h.2.1 + 10) cw_x rfl 12 (by decide) (C.1.2.2.2.2 _ gw_201) (fun _ w => w) rfl (by decide +kernel) rfl rfl (Nat.le_of_ble_eq_true rfl) hdg (fun H1 locs1 hP hD hS => ?_)
  rw [cw_xset] at hP hD
  exact kk H1 locs1 ⟨hP, hD, hS, hw.2.2.2⟩
theorem cg_Parser_Parser_start (C : mCx p m c cc nL s args g "MidiDesk$Parser") {qp : Nat} {pv : Nat → Int32} (hw : cWd g A H0 qq ad ea h (pcell qp qq pv :: X) z H locs) (hdg : decode cc pc = .ok (.getfield 145, 3)) (kk : W p l e R s m args below meth c H locs cells slots Q (F0 m (pc + 3) ls (.int (pv 9) :: rest))) : W p l e R s m args below meth c H locs cells slots Q (F0 m pc ls (.ref qp :: rest)) := 
  va_get (ci := 2) (C := R_Parser) (T := F_Parser) (N := 13) C.1.1 C.1.2.1 C.1.2.2.2.2 i_Parser C.1.2.2.2.1 C.2.1 hw.1 (h.2.1 + 10) cw_x rfl 11 (by decide) (C.1.2.2.2.2 _ gw_200) (fun _ w => w) rfl hdg kk
theorem cp_Parser_Parser_start {x : Int32} (C : mCx p m c cc nL s args g "MidiDesk$Parser") {qp : Nat} {pv : Nat → Int32} (hw : cWd g A H0 qq ad ea h (pcell qp qq pv :: X) z H locs) (hdg : decode cc pc = .ok (.putfield 145, 3)) (kk : ∀ (H1 : Heap) (locs1 : List Loc), cWd g A H0 qq ad ea h (pcell qp qq (upd pv 9 x) :: X) z H1 locs1 → W p l e R s m args below meth c H1 locs1 cells slots Q (F0 m (pc + 3) ls rest)) : W p l e R s m args below meth c H locs cells slots Q (F0 m pc ls (.int x :: .ref qp :: rest)) := by
  refine va_put (ci := 2) (ty := .int) (v := .int x) (C := R_Parser) (T := F_Parser) (N := 13) C.1.1 C.1.2.1 C.1.2.2.2.2 i_Parser t_Parser t_Parser_ok n_Parser C.1.2.2.2.1 C.2.1 hw.1 hw.2.1 hw.2.2.1 (h.2.1 + 10) cw_x rfl 11 (by decide) (C.1.2.2.2.2 _ gw_200) (fun _ w => w) rfl (by decide +kernel) rfl rfl (Nat.le_of_ble_eq_true rfl) hdg (fun H1 locs1 hP hD hS => ?_)
  rw [cw_xset] at hP hD
  exact kk H1 locs1 ⟨hP, hD, hS, hw.2.2.2⟩
theorem cg_Parser_Parser_tick (C : mCx p m c cc nL s args g "MidiDesk$Parser") {qp : Nat} {pv : Nat → Int32} (hw : cWd g A H0 qq ad ea h (pcell qp qq pv :: X) z H locs) (hdg : decode cc pc = .ok (.getfield 93, 3)) (kk : W p l e R s m args below meth c H locs cells slots Q (F0 m (pc + 3) ls (.int (pv 4) :: rest))) : W p l e R s m args below meth c H locs cells slots Q (F0 m pc ls (.ref qp :: rest)) := 
  va_get (ci := 2) (C := R_Parser) (T := F_Parser) (N := 13) C.1.1 C.1.2.1 C.1.2.2.2.2 i_Parser C.1.2.2.2.1 C.2.1 hw.1 (h.2.1 + 10) cw_x rfl 6 (by decide) (C.1.2.2.2.2 _ gw_195) (fun _ w => w) rfl hdg kk
theorem cp_Parser_Parser_tick {x : Int32} (C : mCx p m c cc nL s args g "MidiDesk$Parser") {qp : Nat} {pv : Nat → Int32} (hw : cWd g A H0 qq ad ea h (pcell qp qq pv :: X) z H locs) (hdg : decode cc pc = .ok (.putfield 93, 3)) (kk : ∀ (H1 : Heap) (locs1 : List Loc), cWd g A H0 qq ad ea h (pcell qp qq (upd pv 4 x) :: X) z H1 locs1 → W p l e R s m args below meth c H1 locs1 cells slots Q (F0 m (pc + 3) ls rest)) : W p l e R s m args below meth c H locs cells slots Q (F0 m pc ls (.int x :: .ref qp :: rest)) := by
  refine va_put (ci := 2) (ty := .int) (v := .int x) (C := R_Parser) (T := F_Parser) (N := 13) C.1.1 C.1.2.1 C.1.2.2.2.2 i_Parser t_Parser t_Parser_ok n_Parser C.1.2.2.2.1 C.2.1 hw.1 hw.2.1 hw.2.2.1 (h.2.1 + 10) cw_x rfl 6 (by decide) (C.1.2.2.2.2 _ gw_195) (fun _ w => w) rfl (by decide +kernel) rfl rfl (Nat.le_of_ble_eq_true rfl) hdg (fun H1 locs1 hP hD hS => ?_)
  rw [cw_xset] at hP hD
  exact kk H1 locs1 ⟨hP, hD, hS, hw.2.2.2⟩
theorem cg_Parser_Parser_tracksSeen (C : mCx p m c cc nL s args g "MidiDesk$Parser") {qp : Nat} {pv : Nat → Int32} (hw : cWd g A H0 qq ad ea h (pcell qp qq pv :: X) z H locs) (hdg : decode cc pc = .ok (.getfield 50, 3)) (kk : W p l e R s m args below meth c H locs cells slots Q (F0 m (pc + 3) ls (.int (pv 3) :: rest))) : W p l e R s m args below meth c H locs cells slots Q (F0 m pc ls (.ref qp :: rest)) := 
  va_get (ci := 2) (C := R_Parser) (T := F_Parser) (N := 13) C.1.1 C.1.2.1 C.1.2.2.2.2 i_Parser C.1.2.2.2.1 C.2.1 hw.1 (h.2.1 + 10) cw_x rfl 5 (by decide) (C.1.2.2.2.2 _ gw_194) (fun _ w => w) rfl hdg kk
theorem cp_Parser_Parser_tracksSeen {x : Int32} (C : mCx p m c cc nL s args g "MidiDesk$Parser") {qp : Nat} {pv : Nat → Int32} (hw : cWd g A H0 qq ad ea h (pcell qp qq pv :: X) z H locs) (hdg : decode cc pc = .ok (.putfield 50, 3)) (kk : ∀ (H1 : Heap) (locs1 : List Loc), cWd g A H0 qq ad ea h (pcell qp qq (upd pv 3 x) :: X) z H1 locs1 → W p l e R s m args below meth c H1 locs1 cells slots Q (F0 m (pc + 3) ls rest)) : W p l e R s m args below meth c H locs cells slots Q (F0 m pc ls (.int x :: .ref qp :: rest)) := by
  refine va_put (ci := 2) (ty := .int) (v := .int x) (C := R_Parser) (T := F_Parser) (N := 13) C.1.1 C.1.2.1 C.1.2.2.2.2 i_Parser t_Parser t_Parser_ok n_Parser C.1.2.2.2.1 C.2.1 hw.1 hw.2.1 hw.2.2.1 (h.2.1 + 10) cw_x rfl 5 (by decide) (C.1.2.2.2.2 _ gw_194) (fun _ w => w) rfl (by decide +kernel) rfl rfl (Nat.le_of_ble_eq_true rfl) hdg (fun H1 locs1 hP hD hS => ?_)
  rw [cw_xset] at hP hD
  exact kk H1 locs1 ⟨hP, hD, hS, hw.2.2.2⟩
theorem cg_Parser_Score_data (C : mCx p m c cc nL s args g "MidiDesk$Parser") (hw : cWd g A H0 qq ad ea h X z H locs) (hdg : decode cc pc = .ok (.getfield 161, 3)) (kk : W p l e R s m args below meth c H locs cells slots Q (F0 m (pc + 3) ls (.ref (qq 3) :: rest))) : W p l e R s m args below meth c H locs cells slots Q (F0 m pc ls (.ref (qq 4) :: rest)) := 
  va_getN (ci := 4) (C := R_Score) (T := F_Score) (N := 8) C.1.1 C.1.2.1 C.1.2.2.2.2 i_Score C.1.2.2.2.1 C.2.1 hw.1 4 rfl rfl 0 (by decide) (va_Nw.use rfl (C.2.2.1 _ nw_54)) (fun _ w => w) rfl hdg kk
theorem cp_Parser_Score_division {x : Int32} (C : mCx p m c cc nL s args g "MidiDesk$Parser") (hw : cWd g A H0 qq ad ea h X z H locs) (hdg : decode cc pc = .ok (.putfield 88, 3)) (kk : ∀ (H1 : Heap) (locs1 : List Loc), cWd g A H0 qq ad ea h X (zU z 6 x) H1 locs1 → W p l e R s m args below meth c H1 locs1 cells slots Q (F0 m (pc + 3) ls rest)) : W p l e R s m args below meth c H locs cells slots Q (F0 m pc ls (.int x :: .ref (qq 4) :: rest)) := by
  exact va_putN (ci := 4) (ty := .int) (v := .int x) (C := R_Score) (T := F_Score) (N := 8) C.1.1 C.1.2.1 C.1.2.2.2.2 i_Score t_Score t_Score_ok n_Score C.1.2.2.2.1 C.2.1 hw.1 hw.2.1 hw.2.2.1 4 rfl rfl 4 (by decide) (va_Nw.use rfl (C.2.2.1 _ nw_65)) (fun _ w => w) rfl (by decide +kernel) rfl rfl (Nat.le_of_ble_eq_true rfl) hdg (fun H1 locs1 hP hD hS => kk H1 locs1 ⟨hP, hD, hS, hw.2.2.2⟩)
theorem cp_Parser_Score_format {x : Int32} (C : mCx p m c cc nL s args g "MidiDesk$Parser") (hw : cWd g A H0 qq ad ea h X z H locs) (hdg : decode cc pc = .ok (.putfield 85, 3)) (kk : ∀ (H1 : Heap) (locs1 : List Loc), cWd g A H0 qq ad ea h X (zU z 4 x) H1 locs1 → W p l e R s m args below meth c H1 locs1 cells slots Q (F0 m (pc + 3) ls rest)) : W p l e R s m args below meth c H locs cells slots Q (F0 m pc ls (.int x :: .ref (qq 4) :: rest)) := by
  exact va_putN (ci := 4) (ty := .int) (v := .int x) (C := R_Score) (T := F_Score) (N := 8) C.1.1 C.1.2.1 C.1.2.2.2.2 i_Score t_Score t_Score_ok n_Score C.1.2.2.2.1 C.2.1 hw.1 hw.2.1 hw.2.2.1 4 rfl rfl 2 (by decide) (va_Nw.use rfl (C.2.2.1 _ nw_58)) (fun _ w => w) rfl (by decide +kernel) rfl rfl (Nat.le_of_ble_eq_true rfl) hdg (fun H1 locs1 hP hD hS => kk H1 locs1 ⟨hP, hD, hS, hw.2.2.2⟩)
theorem cp_Parser_Score_present {x : Int32} (C : mCx p m c cc nL s args g "MidiDesk$Parser") (hw : cWd g A H0 qq ad ea h X z H locs) (hz : x = 0 ∨ x = 1) (hdg : decode cc pc = .ok (.putfield 63, 3)) (kk : ∀ (H1 : Heap) (locs1 : List Loc), cWd g A H0 qq ad ea h X (zU z 3 x) H1 locs1 → W p l e R s m args below meth c H1 locs1 cells slots Q (F0 m (pc + 3) ls rest)) : W p l e R s m args below meth c H locs cells slots Q (F0 m pc ls (.int x :: .ref (qq 4) :: rest)) := by
  exact va_putN (ci := 4) (ty := .boolean) (v := .int x) (C := R_Score) (T := F_Score) (N := 8) C.1.1 C.1.2.1 C.1.2.2.2.2 i_Score t_Score t_Score_ok n_Score C.1.2.2.2.1 C.2.1 hw.1 hw.2.1 hw.2.2.1 4 rfl rfl 1 (by decide) (va_Nw.use rfl (C.2.2.1 _ nw_56)) (fun _ w => w) rfl (by decide +kernel) (by rcases hz with rfl | rfl <;> rfl) (by rcases hz with rfl | rfl <;> rfl) (Nat.le_of_ble_eq_true rfl) hdg (fun H1 locs1 hP hD hS => kk H1 locs1 ⟨hP, hD, hS, hw.2.2.2⟩)
theorem cg_Parser_Score_tracks (C : mCx p m c cc nL s args g "MidiDesk$Parser") (hw : cWd g A H0 qq ad ea h X z H locs) (hdg : decode cc pc = .ok (.getfield 53, 3)) (kk : W p l e R s m args below meth c H locs cells slots Q (F0 m (pc + 3) ls (.int (zi z 5) :: rest))) : W p l e R s m args below meth c H locs cells slots Q (F0 m pc ls (.ref (qq 4) :: rest)) := 
  va_getN (ci := 4) (C := R_Score) (T := F_Score) (N := 8) C.1.1 C.1.2.1 C.1.2.2.2.2 i_Score C.1.2.2.2.1 C.2.1 hw.1 4 rfl rfl 3 (by decide) (va_Nw.use rfl (C.2.2.1 _ nw_62)) (fun _ w => w) rfl hdg kk
theorem cp_Parser_Score_tracks {x : Int32} (C : mCx p m c cc nL s args g "MidiDesk$Parser") (hw : cWd g A H0 qq ad ea h X z H locs) (hdg : decode cc pc = .ok (.putfield 53, 3)) (kk : ∀ (H1 : Heap) (locs1 : List Loc), cWd g A H0 qq ad ea h X (zU z 5 x) H1 locs1 → W p l e R s m args below meth c H1 locs1 cells slots Q (F0 m (pc + 3) ls rest)) : W p l e R s m args below meth c H locs cells slots Q (F0 m pc ls (.int x :: .ref (qq 4) :: rest)) := by
  exact va_putN (ci := 4) (ty := .int) (v := .int x) (C := R_Score) (T := F_Score) (N := 8) C.1.1 C.1.2.1 C.1.2.2.2.2 i_Score t_Score t_Score_ok n_Score C.1.2.2.2.1 C.2.1 hw.1 hw.2.1 hw.2.2.1 4 rfl rfl 3 (by decide) (va_Nw.use rfl (C.2.2.1 _ nw_62)) (fun _ w => w) rfl (by decide +kernel) rfl rfl (Nat.le_of_ble_eq_true rfl) hdg (fun H1 locs1 hP hD hS => kk H1 locs1 ⟨hP, hD, hS, hw.2.2.2⟩)
theorem cg_Printer_Event_first {o : Option Nat} {j : Nat} (C : mCx p m c cc nL s args g "MidiDesk$Printer") (hw : cWd g A H0 qq ad ea h X z H locs) (ho : o = some j) (hj : j < h.2.1) (hdg : decode cc pc = .ok (.getfield 89, 3)) (kk : W p l e R s m args below meth c H locs cells slots Q (F0 m (pc + 3) ls (.int (ze z j 3) :: rest))) : W p l e R s m args below meth c H locs cells slots Q (F0 m pc ls (va_rf (Option.map ea o) :: rest)) := by
  subst ho
  exact va_getN (ci := 1) (C := R_Event) (T := F_Event) (N := 7) C.1.1 C.1.2.1 C.1.2.2.2.2 i_Event C.1.2.2.2.1 C.2.1 hw.1 (j + 10) (cw_ev hj) rfl 3 (by decide) (va_Nw.use rfl (C.2.2.1 _ nw_297)) (fun _ w => w) rfl hdg kk
theorem cgt_Printer_Event_first {j : Nat} (C : mCx p m c cc nL s args g "MidiDesk$Printer") (hw : cWd g A H0 qq ad ea h X z H locs) (hj : j < h.2.1) (hdg : decode cc pc = .ok (.getfield 89, 3)) (kk : W p l e R s m args below meth c H locs cells slots Q (F0 m (pc + 3) ls (.int (ze z j 3) :: rest))) : W p l e R s m args below meth c H locs cells slots Q (F0 m pc ls (.ref (ea j) :: rest)) := cg_Printer_Event_first (o := some j) C hw rfl hj hdg kk
theorem cg_Printer_Event_second {o : Option Nat} {j : Nat} (C : mCx p m c cc nL s args g "MidiDesk$Printer") (hw : cWd g A H0 qq ad ea h X z H locs) (ho : o = some j) (hj : j < h.2.1) (hdg : decode cc pc = .ok (.getfield 92, 3)) (kk : W p l e R s m args below meth c H locs cells slots Q (F0 m (pc + 3) ls (.int (ze z j 4) :: rest))) : W p l e R s m args below meth c H locs cells slots Q (F0 m pc ls (va_rf (Option.map ea o) :: rest)) := by
  subst ho
  exact va_getN (ci := 1) (C := R_Event) (T := F_Event) (N := 7) C.1.1 C.1.2.1 C.1.2.2.2.2 i_Event C.1.2.2.2.1 C.2.1 hw.1 (j + 10) (cw_ev hj) rfl 4 (by decide) (va_Nw.use rfl (C.2.2.1 _ nw_302)) (fun _ w => w) rfl hdg kk
theorem cgt_Printer_Event_second {j : Nat} (C : mCx p m c cc nL s args g "MidiDesk$Printer") (hw : cWd g A H0 qq ad ea h X z H locs) (hj : j < h.2.1) (hdg : decode cc pc = .ok (.getfield 92, 3)) (kk : W p l e R s m args below meth c H locs cells slots Q (F0 m (pc + 3) ls (.int (ze z j 4) :: rest))) : W p l e R s m args below meth c H locs cells slots Q (F0 m pc ls (.ref (ea j) :: rest)) := cg_Printer_Event_second (o := some j) C hw rfl hj hdg kk
theorem cg_Printer_Event_size {o : Option Nat} {j : Nat} (C : mCx p m c cc nL s args g "MidiDesk$Printer") (hw : cWd g A H0 qq ad ea h X z H locs) (ho : o = some j) (hj : j < h.2.1) (hdg : decode cc pc = .ok (.getfield 95, 3)) (kk : W p l e R s m args below meth c H locs cells slots Q (F0 m (pc + 3) ls (.int (ze z j 6) :: rest))) : W p l e R s m args below meth c H locs cells slots Q (F0 m pc ls (va_rf (Option.map ea o) :: rest)) := by
  subst ho
  exact va_getN (ci := 1) (C := R_Event) (T := F_Event) (N := 7) C.1.1 C.1.2.1 C.1.2.2.2.2 i_Event C.1.2.2.2.1 C.2.1 hw.1 (j + 10) (cw_ev hj) rfl 6 (by decide) (va_Nw.use rfl (C.2.2.1 _ nw_310)) (fun _ w => w) rfl hdg kk
theorem cgt_Printer_Event_size {j : Nat} (C : mCx p m c cc nL s args g "MidiDesk$Printer") (hw : cWd g A H0 qq ad ea h X z H locs) (hj : j < h.2.1) (hdg : decode cc pc = .ok (.getfield 95, 3)) (kk : W p l e R s m args below meth c H locs cells slots Q (F0 m (pc + 3) ls (.int (ze z j 6) :: rest))) : W p l e R s m args below meth c H locs cells slots Q (F0 m pc ls (.ref (ea j) :: rest)) := cg_Printer_Event_size (o := some j) C hw rfl hj hdg kk
theorem cg_Printer_Event_start {o : Option Nat} {j : Nat} (C : mCx p m c cc nL s args g "MidiDesk$Printer") (hw : cWd g A H0 qq ad ea h X z H locs) (ho : o = some j) (hj : j < h.2.1) (hdg : decode cc pc = .ok (.getfield 99, 3)) (kk : W p l e R s m args below meth c H locs cells slots Q (F0 m (pc + 3) ls (.int (ze z j 5) :: rest))) : W p l e R s m args below meth c H locs cells slots Q (F0 m pc ls (va_rf (Option.map ea o) :: rest)) := by
  subst ho
  exact va_getN (ci := 1) (C := R_Event) (T := F_Event) (N := 7) C.1.1 C.1.2.1 C.1.2.2.2.2 i_Event C.1.2.2.2.1 C.2.1 hw.1 (j + 10) (cw_ev hj) rfl 5 (by decide) (va_Nw.use rfl (C.2.2.1 _ nw_305)) (fun _ w => w) rfl hdg kk
theorem cgt_Printer_Event_start {j : Nat} (C : mCx p m c cc nL s args g "MidiDesk$Printer") (hw : cWd g A H0 qq ad ea h X z H locs) (hj : j < h.2.1) (hdg : decode cc pc = .ok (.getfield 99, 3)) (kk : W p l e R s m args below meth c H locs cells slots Q (F0 m (pc + 3) ls (.int (ze z j 5) :: rest))) : W p l e R s m args below meth c H locs cells slots Q (F0 m pc ls (.ref (ea j) :: rest)) := cg_Printer_Event_start (o := some j) C hw rfl hj hdg kk
theorem cg_Printer_Event_status {o : Option Nat} {j : Nat} (C : mCx p m c cc nL s args g "MidiDesk$Printer") (hw : cWd g A H0 qq ad ea h X z H locs) (ho : o = some j) (hj : j < h.2.1) (hdg : decode cc pc = .ok (.getfield 82, 3)) (kk : W p l e R s m args below meth c H locs cells slots Q (F0 m (pc + 3) ls (.int (ze z j 2) :: rest))) : W p l e R s m args below meth c H locs cells slots Q (F0 m pc ls (va_rf (Option.map ea o) :: rest)) := by
  subst ho
  exact va_getN (ci := 1) (C := R_Event) (T := F_Event) (N := 7) C.1.1 C.1.2.1 C.1.2.2.2.2 i_Event C.1.2.2.2.1 C.2.1 hw.1 (j + 10) (cw_ev hj) rfl 2 (by decide) (va_Nw.use rfl (C.2.2.1 _ nw_293)) (fun _ w => w) rfl hdg kk
theorem cgt_Printer_Event_status {j : Nat} (C : mCx p m c cc nL s args g "MidiDesk$Printer") (hw : cWd g A H0 qq ad ea h X z H locs) (hj : j < h.2.1) (hdg : decode cc pc = .ok (.getfield 82, 3)) (kk : W p l e R s m args below meth c H locs cells slots Q (F0 m (pc + 3) ls (.int (ze z j 2) :: rest))) : W p l e R s m args below meth c H locs cells slots Q (F0 m pc ls (.ref (ea j) :: rest)) := cg_Printer_Event_status (o := some j) C hw rfl hj hdg kk
theorem cg_Printer_Event_tick {o : Option Nat} {j : Nat} (C : mCx p m c cc nL s args g "MidiDesk$Printer") (hw : cWd g A H0 qq ad ea h X z H locs) (ho : o = some j) (hj : j < h.2.1) (hdg : decode cc pc = .ok (.getfield 81, 3)) (kk : W p l e R s m args below meth c H locs cells slots Q (F0 m (pc + 3) ls (.int (ze z j 0) :: rest))) : W p l e R s m args below meth c H locs cells slots Q (F0 m pc ls (va_rf (Option.map ea o) :: rest)) := by
  subst ho
  exact va_getN (ci := 1) (C := R_Event) (T := F_Event) (N := 7) C.1.1 C.1.2.1 C.1.2.2.2.2 i_Event C.1.2.2.2.1 C.2.1 hw.1 (j + 10) (cw_ev hj) rfl 0 (by decide) (va_Nw.use rfl (C.2.2.1 _ nw_282)) (fun _ w => w) rfl hdg kk
theorem cgt_Printer_Event_tick {j : Nat} (C : mCx p m c cc nL s args g "MidiDesk$Printer") (hw : cWd g A H0 qq ad ea h X z H locs) (hj : j < h.2.1) (hdg : decode cc pc = .ok (.getfield 81, 3)) (kk : W p l e R s m args below meth c H locs cells slots Q (F0 m (pc + 3) ls (.int (ze z j 0) :: rest))) : W p l e R s m args below meth c H locs cells slots Q (F0 m pc ls (.ref (ea j) :: rest)) := cg_Printer_Event_tick (o := some j) C hw rfl hj hdg kk
theorem cg_Printer_Event_track {o : Option Nat} {j : Nat} (C : mCx p m c cc nL s args g "MidiDesk$Printer") (hw : cWd g A H0 qq ad ea h X z H locs) (ho : o = some j) (hj : j < h.2.1) (hdg : decode cc pc = .ok (.getfield 63, 3)) (kk : W p l e R s m args below meth c H locs cells slots Q (F0 m (pc + 3) ls (.int (ze z j 1) :: rest))) : W p l e R s m args below meth c H locs cells slots Q (F0 m pc ls (va_rf (Option.map ea o) :: rest)) := by
  subst ho
  exact va_getN (ci := 1) (C := R_Event) (T := F_Event) (N := 7) C.1.1 C.1.2.1 C.1.2.2.2.2 i_Event C.1.2.2.2.1 C.2.1 hw.1 (j + 10) (cw_ev hj) rfl 1 (by decide) (va_Nw.use rfl (C.2.2.1 _ nw_287)) (fun _ w => w) rfl hdg kk
theorem cgt_Printer_Event_track {j : Nat} (C : mCx p m c cc nL s args g "MidiDesk$Printer") (hw : cWd g A H0 qq ad ea h X z H locs) (hj : j < h.2.1) (hdg : decode cc pc = .ok (.getfield 63, 3)) (kk : W p l e R s m args below meth c H locs cells slots Q (F0 m (pc + 3) ls (.int (ze z j 1) :: rest))) : W p l e R s m args below meth c H locs cells slots Q (F0 m pc ls (.ref (ea j) :: rest)) := cg_Printer_Event_track (o := some j) C hw rfl hj hdg kk
theorem cg_Printer_Printer_brief (C : mCx p m c cc nL s args g "MidiDesk$Printer") {qp : Nat} {pv : Nat → Int32} (hw : cWd g A H0 qq ad ea h (tcell qp qq pv :: X) z H locs) (hdg : decode cc pc = .ok (.getfield 19, 3)) (kk : W p l e R s m args below meth c H locs cells slots Q (F0 m (pc + 3) ls (.int (pv 0) :: rest))) : W p l e R s m args below meth c H locs cells slots Q (F0 m pc ls (.ref qp :: rest)) := 
  va_get (ci := 3) (C := R_Printer) (T := F_Printer) (N := 5) C.1.1 C.1.2.1 C.1.2.2.2.2 i_Printer C.1.2.2.2.1 C.2.1 hw.1 (h.2.1 + 10) cw_x rfl 2 (by decide) (C.1.2.2.2.2 _ gw_659) (fun _ w => w) rfl hdg kk
theorem cg_Printer_Printer_output (C : mCx p m c cc nL s args g "MidiDesk$Printer") {qp : Nat} {pv : Nat → Int32} (hw : cWd g A H0 qq ad ea h (tcell qp qq pv :: X) z H locs) (hdg : decode cc pc = .ok (.getfield 15, 3)) (kk : W p l e R s m args below meth c H locs cells slots Q (F0 m (pc + 3) ls (.ref (qq 2) :: rest))) : W p l e R s m args below meth c H locs cells slots Q (F0 m pc ls (.ref qp :: rest)) := 
  va_get (ci := 3) (C := R_Printer) (T := F_Printer) (N := 5) C.1.1 C.1.2.1 C.1.2.2.2.2 i_Printer C.1.2.2.2.1 C.2.1 hw.1 (h.2.1 + 10) cw_x rfl 1 (by decide) (C.1.2.2.2.2 _ gw_658) (fun _ w => w) rfl hdg kk
theorem cg_Printer_Printer_running (C : mCx p m c cc nL s args g "MidiDesk$Printer") {qp : Nat} {pv : Nat → Int32} (hw : cWd g A H0 qq ad ea h (tcell qp qq pv :: X) z H locs) (hdg : decode cc pc = .ok (.getfield 49, 3)) (kk : W p l e R s m args below meth c H locs cells slots Q (F0 m (pc + 3) ls (.int (pv 2) :: rest))) : W p l e R s m args below meth c H locs cells slots Q (F0 m pc ls (.ref qp :: rest)) := 
  va_get (ci := 3) (C := R_Printer) (T := F_Printer) (N := 5) C.1.1 C.1.2.1 C.1.2.2.2.2 i_Printer C.1.2.2.2.1 C.2.1 hw.1 (h.2.1 + 10) cw_x rfl 4 (by decide) (C.1.2.2.2.2 _ gw_661) (fun _ w => w) rfl hdg kk
theorem cp_Printer_Printer_running {x : Int32} (C : mCx p m c cc nL s args g "MidiDesk$Printer") {qp : Nat} {pv : Nat → Int32} (hw : cWd g A H0 qq ad ea h (tcell qp qq pv :: X) z H locs) (hdg : decode cc pc = .ok (.putfield 49, 3)) (kk : ∀ (H1 : Heap) (locs1 : List Loc), cWd g A H0 qq ad ea h (tcell qp qq (upd pv 2 x) :: X) z H1 locs1 → W p l e R s m args below meth c H1 locs1 cells slots Q (F0 m (pc + 3) ls rest)) : W p l e R s m args below meth c H locs cells slots Q (F0 m pc ls (.int x :: .ref qp :: rest)) := by
  refine va_put (ci := 3) (ty := .int) (v := .int x) (C := R_Printer) (T := F_Printer) (N := 5) C.1.1 C.1.2.1 C.1.2.2.2.2 i_Printer t_Printer t_Printer_ok n_Printer C.1.2.2.2.1 C.2.1 hw.1 hw.2.1 hw.2.2.1 (h.2.1 + 10) cw_x rfl 4 (by decide) (C.1.2.2.2.2 _ gw_661) (fun _ w => w) rfl (by decide +kernel) rfl rfl (Nat.le_of_ble_eq_true rfl) hdg (fun H1 locs1 hP hD hS => ?_)
  rw [cw_xset] at hP hD
  exact kk H1 locs1 ⟨hP, hD, hS, hw.2.2.2⟩
theorem cg_Printer_Printer_score (C : mCx p m c cc nL s args g "MidiDesk$Printer") {qp : Nat} {pv : Nat → Int32} (hw : cWd g A H0 qq ad ea h (tcell qp qq pv :: X) z H locs) (hdg : decode cc pc = .ok (.getfield 9, 3)) (kk : W p l e R s m args below meth c H locs cells slots Q (F0 m (pc + 3) ls (.ref (qq 4) :: rest))) : W p l e R s m args below meth c H locs cells slots Q (F0 m pc ls (.ref qp :: rest)) := 
  va_get (ci := 3) (C := R_Printer) (T := F_Printer) (N := 5) C.1.1 C.1.2.1 C.1.2.2.2.2 i_Printer C.1.2.2.2.1 C.2.1 hw.1 (h.2.1 + 10) cw_x rfl 0 (by decide) (C.1.2.2.2.2 _ gw_657) (fun _ w => w) rfl hdg kk
theorem cg_Printer_Printer_tick (C : mCx p m c cc nL s args g "MidiDesk$Printer") {qp : Nat} {pv : Nat → Int32} (hw : cWd g A H0 qq ad ea h (tcell qp qq pv :: X) z H locs) (hdg : decode cc pc = .ok (.getfield 46, 3)) (kk : W p l e R s m args below meth c H locs cells slots Q (F0 m (pc + 3) ls (.int (pv 1) :: rest))) : W p l e R s m args below meth c H locs cells slots Q (F0 m pc ls (.ref qp :: rest)) := 
  va_get (ci := 3) (C := R_Printer) (T := F_Printer) (N := 5) C.1.1 C.1.2.1 C.1.2.2.2.2 i_Printer C.1.2.2.2.1 C.2.1 hw.1 (h.2.1 + 10) cw_x rfl 3 (by decide) (C.1.2.2.2.2 _ gw_660) (fun _ w => w) rfl hdg kk
theorem cp_Printer_Printer_tick {x : Int32} (C : mCx p m c cc nL s args g "MidiDesk$Printer") {qp : Nat} {pv : Nat → Int32} (hw : cWd g A H0 qq ad ea h (tcell qp qq pv :: X) z H locs) (hdg : decode cc pc = .ok (.putfield 46, 3)) (kk : ∀ (H1 : Heap) (locs1 : List Loc), cWd g A H0 qq ad ea h (tcell qp qq (upd pv 1 x) :: X) z H1 locs1 → W p l e R s m args below meth c H1 locs1 cells slots Q (F0 m (pc + 3) ls rest)) : W p l e R s m args below meth c H locs cells slots Q (F0 m pc ls (.int x :: .ref qp :: rest)) := by
  refine va_put (ci := 3) (ty := .int) (v := .int x) (C := R_Printer) (T := F_Printer) (N := 5) C.1.1 C.1.2.1 C.1.2.2.2.2 i_Printer t_Printer t_Printer_ok n_Printer C.1.2.2.2.1 C.2.1 hw.1 hw.2.1 hw.2.2.1 (h.2.1 + 10) cw_x rfl 3 (by decide) (C.1.2.2.2.2 _ gw_660) (fun _ w => w) rfl (by decide +kernel) rfl rfl (Nat.le_of_ble_eq_true rfl) hdg (fun H1 locs1 hP hD hS => ?_)
  rw [cw_xset] at hP hD
  exact kk H1 locs1 ⟨hP, hD, hS, hw.2.2.2⟩
theorem cg_Printer_Score_data (C : mCx p m c cc nL s args g "MidiDesk$Printer") (hw : cWd g A H0 qq ad ea h X z H locs) (hdg : decode cc pc = .ok (.getfield 96, 3)) (kk : W p l e R s m args below meth c H locs cells slots Q (F0 m (pc + 3) ls (.ref (qq 3) :: rest))) : W p l e R s m args below meth c H locs cells slots Q (F0 m pc ls (.ref (qq 4) :: rest)) := 
  va_getN (ci := 4) (C := R_Score) (T := F_Score) (N := 8) C.1.1 C.1.2.1 C.1.2.2.2.2 i_Score C.1.2.2.2.1 C.2.1 hw.1 4 rfl rfl 0 (by decide) (va_Nw.use rfl (C.2.2.1 _ nw_52)) (fun _ w => w) rfl hdg kk
theorem cg_Printer_Score_division (C : mCx p m c cc nL s args g "MidiDesk$Printer") (hw : cWd g A H0 qq ad ea h X z H locs) (hdg : decode cc pc = .ok (.getfield 39, 3)) (kk : W p l e R s m args below meth c H locs cells slots Q (F0 m (pc + 3) ls (.int (zi z 6) :: rest))) : W p l e R s m args below meth c H locs cells slots Q (F0 m pc ls (.ref (qq 4) :: rest)) := 
  va_getN (ci := 4) (C := R_Score) (T := F_Score) (N := 8) C.1.1 C.1.2.1 C.1.2.2.2.2 i_Score C.1.2.2.2.1 C.2.1 hw.1 4 rfl rfl 4 (by decide) (va_Nw.use rfl (C.2.2.1 _ nw_64)) (fun _ w => w) rfl hdg kk
theorem cg_Printer_Score_size (C : mCx p m c cc nL s args g "MidiDesk$Printer") (hw : cWd g A H0 qq ad ea h X z H locs) (hdg : decode cc pc = .ok (.getfield 57, 3)) (kk : W p l e R s m args below meth c H locs cells slots Q (F0 m (pc + 3) ls (.int (zi z 7) :: rest))) : W p l e R s m args below meth c H locs cells slots Q (F0 m pc ls (.ref (qq 4) :: rest)) := 
  va_getN (ci := 4) (C := R_Score) (T := F_Score) (N := 8) C.1.1 C.1.2.1 C.1.2.2.2.2 i_Score C.1.2.2.2.1 C.2.1 hw.1 4 rfl rfl 7 (by decide) (va_Nw.use rfl (C.2.2.1 _ nw_71)) (fun _ w => w) rfl hdg kk
theorem cg_Printer_Score_tracks (C : mCx p m c cc nL s args g "MidiDesk$Printer") (hw : cWd g A H0 qq ad ea h X z H locs) (hdg : decode cc pc = .ok (.getfield 23, 3)) (kk : W p l e R s m args below meth c H locs cells slots Q (F0 m (pc + 3) ls (.int (zi z 5) :: rest))) : W p l e R s m args below meth c H locs cells slots Q (F0 m pc ls (.ref (qq 4) :: rest)) := 
  va_getN (ci := 4) (C := R_Score) (T := F_Score) (N := 8) C.1.1 C.1.2.1 C.1.2.2.2.2 i_Score C.1.2.2.2.1 C.2.1 hw.1 4 rfl rfl 3 (by decide) (va_Nw.use rfl (C.2.2.1 _ nw_61)) (fun _ w => w) rfl hdg kk
theorem cg_Score_Event_first {o : Option Nat} {j : Nat} (C : mCx p m c cc nL s args g "MidiDesk$Score") (hw : cWd g A H0 qq ad ea h X z H locs) (ho : o = some j) (hj : j < h.2.1) (hdg : decode cc pc = .ok (.getfield 89, 3)) (kk : W p l e R s m args below meth c H locs cells slots Q (F0 m (pc + 3) ls (.int (ze z j 3) :: rest))) : W p l e R s m args below meth c H locs cells slots Q (F0 m pc ls (va_rf (Option.map ea o) :: rest)) := by
  subst ho
  exact va_getN (ci := 1) (C := R_Event) (T := F_Event) (N := 7) C.1.1 C.1.2.1 C.1.2.2.2.2 i_Event C.1.2.2.2.1 C.2.1 hw.1 (j + 10) (cw_ev hj) rfl 3 (by decide) (va_Nw.use rfl (C.2.2.1 _ nw_299)) (fun _ w => w) rfl hdg kk
theorem cgt_Score_Event_first {j : Nat} (C : mCx p m c cc nL s args g "MidiDesk$Score") (hw : cWd g A H0 qq ad ea h X z H locs) (hj : j < h.2.1) (hdg : decode cc pc = .ok (.getfield 89, 3)) (kk : W p l e R s m args below meth c H locs cells slots Q (F0 m (pc + 3) ls (.int (ze z j 3) :: rest))) : W p l e R s m args below meth c H locs cells slots Q (F0 m pc ls (.ref (ea j) :: rest)) := cg_Score_Event_first (o := some j) C hw rfl hj hdg kk
theorem cp_Score_Event_first {o : Option Nat} {j : Nat} {x : Int32} (C : mCx p m c cc nL s args g "MidiDesk$Score") (hw : cWd g A H0 qq ad ea h X z H locs) (ho : o = some j) (hj : j < h.2.1) (hdg : decode cc pc = .ok (.putfield 89, 3)) (kk : ∀ (H1 : Heap) (locs1 : List Loc), cWd g A H0 qq ad ea h X (zE z j 3 x) H1 locs1 → W p l e R s m args below meth c H1 locs1 cells slots Q (F0 m (pc + 3) ls rest)) : W p l e R s m args below meth c H locs cells slots Q (F0 m pc ls (.int x :: va_rf (Option.map ea o) :: rest)) := by
  subst ho
  refine va_putN (ci := 1) (ty := .int) (v := .int x) (C := R_Event) (T := F_Event) (N := 7) C.1.1 C.1.2.1 C.1.2.2.2.2 i_Event t_Event t_Event_ok n_Event C.1.2.2.2.1 C.2.1 hw.1 hw.2.1 hw.2.2.1 (j + 10) (cw_ev hj) rfl 3 (by decide) (va_Nw.use rfl (C.2.2.1 _ nw_299)) (fun _ w => w) rfl (by decide +kernel) rfl rfl (Nat.le_of_ble_eq_true rfl) hdg (fun H1 locs1 hP hD hS => ?_)
  have e : (cw g qq ad ea h z X).set (j + 10) (ea j, .inr (1, (cevf z j).set 3 (.int x))) = cw g qq ad ea h (zE z j 3 x) X := by
    have e1 : (ea j, Sum.inr (1, (cevf z j).set 3 (.int x))) = cev ea (zE z j 3 x) j := by simp [cev, cevf, zE, ze, upe]
    rw [e1, cw_evset, if_pos hj]
  rw [e] at hP hD
  exact kk H1 locs1 ⟨hP, hD, hS, hw.2.2.2⟩
theorem cg_Score_Event_start {o : Option Nat} {j : Nat} (C : mCx p m c cc nL s args g "MidiDesk$Score") (hw : cWd g A H0 qq ad ea h X z H locs) (ho : o = some j) (hj : j < h.2.1) (hdg : decode cc pc = .ok (.getfield 123, 3)) (kk : W p l e R s m args below meth c H locs cells slots Q (F0 m (pc + 3) ls (.int (ze z j 5) :: rest))) : W p l e R s m args below meth c H locs cells slots Q (F0 m pc ls (va_rf (Option.map ea o) :: rest)) := by
  subst ho
  exact va_getN (ci := 1) (C := R_Event) (T := F_Event) (N := 7) C.1.1 C.1.2.1 C.1.2.2.2.2 i_Event C.1.2.2.2.1 C.2.1 hw.1 (j + 10) (cw_ev hj) rfl 5 (by decide) (va_Nw.use rfl (C.2.2.1 _ nw_308)) (fun _ w => w) rfl hdg kk
theorem cgt_Score_Event_start {j : Nat} (C : mCx p m c cc nL s args g "MidiDesk$Score") (hw : cWd g A H0 qq ad ea h X z H locs) (hj : j < h.2.1) (hdg : decode cc pc = .ok (.getfield 123, 3)) (kk : W p l e R s m args below meth c H locs cells slots Q (F0 m (pc + 3) ls (.int (ze z j 5) :: rest))) : W p l e R s m args below meth c H locs cells slots Q (F0 m pc ls (.ref (ea j) :: rest)) := cg_Score_Event_start (o := some j) C hw rfl hj hdg kk
theorem cg_Score_Event_tick {o : Option Nat} {j : Nat} (C : mCx p m c cc nL s args g "MidiDesk$Score") (hw : cWd g A H0 qq ad ea h X z H locs) (ho : o = some j) (hj : j < h.2.1) (hdg : decode cc pc = .ok (.getfield 65, 3)) (kk : W p l e R s m args below meth c H locs cells slots Q (F0 m (pc + 3) ls (.int (ze z j 0) :: rest))) : W p l e R s m args below meth c H locs cells slots Q (F0 m pc ls (va_rf (Option.map ea o) :: rest)) := by
  subst ho
  exact va_getN (ci := 1) (C := R_Event) (T := F_Event) (N := 7) C.1.1 C.1.2.1 C.1.2.2.2.2 i_Event C.1.2.2.2.1 C.2.1 hw.1 (j + 10) (cw_ev hj) rfl 0 (by decide) (va_Nw.use rfl (C.2.2.1 _ nw_285)) (fun _ w => w) rfl hdg kk
theorem cgt_Score_Event_tick {j : Nat} (C : mCx p m c cc nL s args g "MidiDesk$Score") (hw : cWd g A H0 qq ad ea h X z H locs) (hj : j < h.2.1) (hdg : decode cc pc = .ok (.getfield 65, 3)) (kk : W p l e R s m args below meth c H locs cells slots Q (F0 m (pc + 3) ls (.int (ze z j 0) :: rest))) : W p l e R s m args below meth c H locs cells slots Q (F0 m pc ls (.ref (ea j) :: rest)) := cg_Score_Event_tick (o := some j) C hw rfl hj hdg kk
theorem cp_Score_Event_tick {o : Option Nat} {j : Nat} {x : Int32} (C : mCx p m c cc nL s args g "MidiDesk$Score") (hw : cWd g A H0 qq ad ea h X z H locs) (ho : o = some j) (hj : j < h.2.1) (hdg : decode cc pc = .ok (.putfield 65, 3)) (kk : ∀ (H1 : Heap) (locs1 : List Loc), cWd g A H0 qq ad ea h X (zE z j 0 x) H1 locs1 → W p l e R s m args below meth c H1 locs1 cells slots Q (F0 m (pc + 3) ls rest)) : W p l e R s m args below meth c H locs cells slots Q (F0 m pc ls (.int x :: va_rf (Option.map ea o) :: rest)) := by
  subst ho
  refine va_putN (ci := 1) (ty := .int) (v := .int x) (C := R_Event) (T := F_Event) (N := 7) C.1.1 C.1.2.1 C.1.2.2.2.2 i_Event t_Event t_Event_ok n_Event C.1.2.2.2.1 C.2.1 hw.1 hw.2.1 hw.2.2.1 (j + 10) (cw_ev hj) rfl 0 (by decide) (va_Nw.use rfl (C.2.2.1 _ nw_285)) (fun _ w => w) rfl (by decide +kernel) rfl rfl (Nat.le_of_ble_eq_true rfl) hdg (fun H1 locs1 hP hD hS => ?_)
  have e : (cw g qq ad ea h z X).set (j + 10) (ea j, .inr (1, (cevf z j).set 0 (.int x))) = cw g qq ad ea h (zE z j 0 x) X := by
    have e1 : (ea j, Sum.inr (1, (cevf z j).set 0 (.int x))) = cev ea (zE z j 0 x) j := by simp [cev, cevf, zE, ze, upe]
    rw [e1, cw_evset, if_pos hj]
  rw [e] at hP hD
  exact kk H1 locs1 ⟨hP, hD, hS, hw.2.2.2⟩
theorem cg_Score_Event_track {o : Option Nat} {j : Nat} (C : mCx p m c cc nL s args g "MidiDesk$Score") (hw : cWd g A H0 qq ad ea h X z H locs) (ho : o = some j) (hj : j < h.2.1) (hdg : decode cc pc = .ok (.getfield 100, 3)) (kk : W p l e R s m args below meth c H locs cells slots Q (F0 m (pc + 3) ls (.int (ze z j 1) :: rest))) : W p l e R s m args below meth c H locs cells slots Q (F0 m pc ls (va_rf (Option.map ea o) :: rest)) := by
  subst ho
  exact va_getN (ci := 1) (C := R_Event) (T := F_Event) (N := 7) C.1.1 C.1.2.1 C.1.2.2.2.2 i_Event C.1.2.2.2.1 C.2.1 hw.1 (j + 10) (cw_ev hj) rfl 1 (by decide) (va_Nw.use rfl (C.2.2.1 _ nw_290)) (fun _ w => w) rfl hdg kk
theorem cgt_Score_Event_track {j : Nat} (C : mCx p m c cc nL s args g "MidiDesk$Score") (hw : cWd g A H0 qq ad ea h X z H locs) (hj : j < h.2.1) (hdg : decode cc pc = .ok (.getfield 100, 3)) (kk : W p l e R s m args below meth c H locs cells slots Q (F0 m (pc + 3) ls (.int (ze z j 1) :: rest))) : W p l e R s m args below meth c H locs cells slots Q (F0 m pc ls (.ref (ea j) :: rest)) := cg_Score_Event_track (o := some j) C hw rfl hj hdg kk
theorem cg_Score_Score_data (C : mCx p m c cc nL s args g "MidiDesk$Score") (hw : cWd g A H0 qq ad ea h X z H locs) (hdg : decode cc pc = .ok (.getfield 14, 3)) (kk : W p l e R s m args below meth c H locs cells slots Q (F0 m (pc + 3) ls (.ref (qq 3) :: rest))) : W p l e R s m args below meth c H locs cells slots Q (F0 m pc ls (.ref (qq 4) :: rest)) := 
  va_get (ci := 4) (C := R_Score) (T := F_Score) (N := 8) C.1.1 C.1.2.1 C.1.2.2.2.2 i_Score C.1.2.2.2.1 C.2.1 hw.1 4 rfl rfl 0 (by decide) (C.1.2.2.2.2 _ gw_102) (fun _ w => w) rfl hdg kk
theorem cg_Score_Score_division (C : mCx p m c cc nL s args g "MidiDesk$Score") (hw : cWd g A H0 qq ad ea h X z H locs) (hdg : decode cc pc = .ok (.getfield 103, 3)) (kk : W p l e R s m args below meth c H locs cells slots Q (F0 m (pc + 3) ls (.int (zi z 6) :: rest))) : W p l e R s m args below meth c H locs cells slots Q (F0 m pc ls (.ref (qq 4) :: rest)) := 
  va_get (ci := 4) (C := R_Score) (T := F_Score) (N := 8) C.1.1 C.1.2.1 C.1.2.2.2.2 i_Score C.1.2.2.2.1 C.2.1 hw.1 4 rfl rfl 4 (by decide) (C.1.2.2.2.2 _ gw_117) (fun _ w => w) rfl hdg kk
theorem cg_Score_Score_format (C : mCx p m c cc nL s args g "MidiDesk$Score") (hw : cWd g A H0 qq ad ea h X z H locs) (hdg : decode cc pc = .ok (.getfield 116, 3)) (kk : W p l e R s m args below meth c H locs cells slots Q (F0 m (pc + 3) ls (.int (zi z 4) :: rest))) : W p l e R s m args below meth c H locs cells slots Q (F0 m pc ls (.ref (qq 4) :: rest)) := 
  va_get (ci := 4) (C := R_Score) (T := F_Score) (N := 8) C.1.1 C.1.2.1 C.1.2.2.2.2 i_Score C.1.2.2.2.1 C.2.1 hw.1 4 rfl rfl 2 (by decide) (C.1.2.2.2.2 _ gw_111) (fun _ w => w) rfl hdg kk
theorem cp_Score_Score_present {x : Int32} (C : mCx p m c cc nL s args g "MidiDesk$Score") (hw : cWd g A H0 qq ad ea h X z H locs) (hz : x = 0 ∨ x = 1) (hdg : decode cc pc = .ok (.putfield 29, 3)) (kk : ∀ (H1 : Heap) (locs1 : List Loc), cWd g A H0 qq ad ea h X (zU z 3 x) H1 locs1 → W p l e R s m args below meth c H1 locs1 cells slots Q (F0 m (pc + 3) ls rest)) : W p l e R s m args below meth c H locs cells slots Q (F0 m pc ls (.int x :: .ref (qq 4) :: rest)) := by
  exact va_put (ci := 4) (ty := .boolean) (v := .int x) (C := R_Score) (T := F_Score) (N := 8) C.1.1 C.1.2.1 C.1.2.2.2.2 i_Score t_Score t_Score_ok n_Score C.1.2.2.2.1 C.2.1 hw.1 hw.2.1 hw.2.2.1 4 rfl rfl 1 (by decide) (C.1.2.2.2.2 _ gw_106) (fun _ w => w) rfl (by decide +kernel) (by rcases hz with rfl | rfl <;> rfl) (by rcases hz with rfl | rfl <;> rfl) (Nat.le_of_ble_eq_true rfl) hdg (fun H1 locs1 hP hD hS => kk H1 locs1 ⟨hP, hD, hS, hw.2.2.2⟩)
theorem cg_Score_Score_row (C : mCx p m c cc nL s args g "MidiDesk$Score") (hw : cWd g A H0 qq ad ea h X z H locs) (hdg : decode cc pc = .ok (.getfield 22, 3)) (kk : W p l e R s m args below meth c H locs cells slots Q (F0 m (pc + 3) ls (.ref (ad 3) :: rest))) : W p l e R s m args below meth c H locs cells slots Q (F0 m pc ls (.ref (qq 4) :: rest)) := 
  va_get (ci := 4) (C := R_Score) (T := F_Score) (N := 8) C.1.1 C.1.2.1 C.1.2.2.2.2 i_Score C.1.2.2.2.1 C.2.1 hw.1 4 rfl rfl 5 (by decide) (C.1.2.2.2.2 _ gw_119) (fun _ w => w) rfl hdg kk
theorem cg_Score_Score_size (C : mCx p m c cc nL s args g "MidiDesk$Score") (hw : cWd g A H0 qq ad ea h X z H locs) (hdg : decode cc pc = .ok (.getfield 33, 3)) (kk : W p l e R s m args below meth c H locs cells slots Q (F0 m (pc + 3) ls (.int (zi z 7) :: rest))) : W p l e R s m args below meth c H locs cells slots Q (F0 m pc ls (.ref (qq 4) :: rest)) := 
  va_get (ci := 4) (C := R_Score) (T := F_Score) (N := 8) C.1.1 C.1.2.1 C.1.2.2.2.2 i_Score C.1.2.2.2.1 C.2.1 hw.1 4 rfl rfl 7 (by decide) (C.1.2.2.2.2 _ gw_121) (fun _ w => w) rfl hdg kk
theorem cp_Score_Score_size {x : Int32} (C : mCx p m c cc nL s args g "MidiDesk$Score") (hw : cWd g A H0 qq ad ea h X z H locs) (hdg : decode cc pc = .ok (.putfield 33, 3)) (kk : ∀ (H1 : Heap) (locs1 : List Loc), cWd g A H0 qq ad ea h X (zU z 7 x) H1 locs1 → W p l e R s m args below meth c H1 locs1 cells slots Q (F0 m (pc + 3) ls rest)) : W p l e R s m args below meth c H locs cells slots Q (F0 m pc ls (.int x :: .ref (qq 4) :: rest)) := by
  exact va_put (ci := 4) (ty := .int) (v := .int x) (C := R_Score) (T := F_Score) (N := 8) C.1.1 C.1.2.1 C.1.2.2.2.2 i_Score t_Score t_Score_ok n_Score C.1.2.2.2.1 C.2.1 hw.1 hw.2.1 hw.2.2.1 4 rfl rfl 7 (by decide) (C.1.2.2.2.2 _ gw_121) (fun _ w => w) rfl (by decide +kernel) rfl rfl (Nat.le_of_ble_eq_true rfl) hdg (fun H1 locs1 hP hD hS => kk H1 locs1 ⟨hP, hD, hS, hw.2.2.2⟩)
theorem cg_Score_Score_spare (C : mCx p m c cc nL s args g "MidiDesk$Score") (hw : cWd g A H0 qq ad ea h X z H locs) (hdg : decode cc pc = .ok (.getfield 26, 3)) (kk : W p l e R s m args below meth c H locs cells slots Q (F0 m (pc + 3) ls (.ref (ad 4) :: rest))) : W p l e R s m args below meth c H locs cells slots Q (F0 m pc ls (.ref (qq 4) :: rest)) := 
  va_get (ci := 4) (C := R_Score) (T := F_Score) (N := 8) C.1.1 C.1.2.1 C.1.2.2.2.2 i_Score C.1.2.2.2.1 C.2.1 hw.1 4 rfl rfl 6 (by decide) (C.1.2.2.2.2 _ gw_120) (fun _ w => w) rfl hdg kk
theorem ca_0 {i : Int32} (C : mCx p m c cc nL s args g own) (hw : cWd g A H0 qq ad ea h X z H locs) (hin : ¬ (i < 0 ∨ h.1 0 ≤ i.toNatClampNeg)) (hdg : decode cc pc = .ok (.iaload, 1)) (kk : W p l e R s m args below meth c H locs cells slots Q (F0 m (pc + 1) ls (.int (za z 0 i.toNatClampNeg) :: rest))) : W p l e R s m args below meth c H locs cells slots Q (F0 m pc ls (.int i :: .ref (ad 0) :: rest)) :=
  va_iald C.1.1 C.1.2.1 C.2.1 hw.1 5 0 rfl rfl hin hdg kk
theorem cs_0 {i x : Int32} (C : mCx p m c cc nL s args g own) (hw : cWd g A H0 qq ad ea h X z H locs) (hin : ¬ (i < 0 ∨ h.1 0 ≤ i.toNatClampNeg)) (hdg : decode cc pc = .ok (.iastore, 1)) (kk : ∀ (H1 : Heap) (locs1 : List Loc), cWd g A H0 qq ad ea h X (zA z 0 i.toNatClampNeg x) H1 locs1 → W p l e R s m args below meth c H1 locs1 cells slots Q (F0 m (pc + 1) ls rest)) : W p l e R s m args below meth c H locs cells slots Q (F0 m pc ls (.int x :: .int i :: .ref (ad 0) :: rest)) :=
  va_iast C.1.1 C.1.2.1 C.2.1 hw.1 hw.2.1 hw.2.2.1 5 0 rfl rfl hin hdg (fun H1 locs1 hP hD hS => kk H1 locs1 ⟨hP, hD, hS, hw.2.2.2⟩)
theorem ca_1 {i : Int32} (C : mCx p m c cc nL s args g own) (hw : cWd g A H0 qq ad ea h X z H locs) (hin : ¬ (i < 0 ∨ h.1 1 ≤ i.toNatClampNeg)) (hdg : decode cc pc = .ok (.iaload, 1)) (kk : W p l e R s m args below meth c H locs cells slots Q (F0 m (pc + 1) ls (.int (za z 1 i.toNatClampNeg) :: rest))) : W p l e R s m args below meth c H locs cells slots Q (F0 m pc ls (.int i :: .ref (ad 1) :: rest)) :=
  va_iald C.1.1 C.1.2.1 C.2.1 hw.1 6 0 rfl rfl hin hdg kk
theorem cs_1 {i x : Int32} (C : mCx p m c cc nL s args g own) (hw : cWd g A H0 qq ad ea h X z H locs) (hin : ¬ (i < 0 ∨ h.1 1 ≤ i.toNatClampNeg)) (hdg : decode cc pc = .ok (.iastore, 1)) (kk : ∀ (H1 : Heap) (locs1 : List Loc), cWd g A H0 qq ad ea h X (zA z 1 i.toNatClampNeg x) H1 locs1 → W p l e R s m args below meth c H1 locs1 cells slots Q (F0 m (pc + 1) ls rest)) : W p l e R s m args below meth c H locs cells slots Q (F0 m pc ls (.int x :: .int i :: .ref (ad 1) :: rest)) :=
  va_iast C.1.1 C.1.2.1 C.2.1 hw.1 hw.2.1 hw.2.2.1 6 0 rfl rfl hin hdg (fun H1 locs1 hP hD hS => kk H1 locs1 ⟨hP, hD, hS, hw.2.2.2⟩)
theorem ca_2 {i : Int32} (C : mCx p m c cc nL s args g own) (hw : cWd g A H0 qq ad ea h X z H locs) (hin : ¬ (i < 0 ∨ h.1 2 ≤ i.toNatClampNeg)) (hdg : decode cc pc = .ok (.iaload, 1)) (kk : W p l e R s m args below meth c H locs cells slots Q (F0 m (pc + 1) ls (.int (za z 2 i.toNatClampNeg) :: rest))) : W p l e R s m args below meth c H locs cells slots Q (F0 m pc ls (.int i :: .ref (ad 2) :: rest)) :=
  va_iald C.1.1 C.1.2.1 C.2.1 hw.1 7 0 rfl rfl hin hdg kk
theorem cs_2 {i x : Int32} (C : mCx p m c cc nL s args g own) (hw : cWd g A H0 qq ad ea h X z H locs) (hin : ¬ (i < 0 ∨ h.1 2 ≤ i.toNatClampNeg)) (hdg : decode cc pc = .ok (.iastore, 1)) (kk : ∀ (H1 : Heap) (locs1 : List Loc), cWd g A H0 qq ad ea h X (zA z 2 i.toNatClampNeg x) H1 locs1 → W p l e R s m args below meth c H1 locs1 cells slots Q (F0 m (pc + 1) ls rest)) : W p l e R s m args below meth c H locs cells slots Q (F0 m pc ls (.int x :: .int i :: .ref (ad 2) :: rest)) :=
  va_iast C.1.1 C.1.2.1 C.2.1 hw.1 hw.2.1 hw.2.2.1 7 0 rfl rfl hin hdg (fun H1 locs1 hP hD hS => kk H1 locs1 ⟨hP, hD, hS, hw.2.2.2⟩)
theorem cn_0 (C : mCx p m c cc nL s args g own) (hw : cWd g A H0 qq ad ea h X z H locs) (hdg : decode cc pc = .ok (.arraylength, 1)) (kk : W p l e R s m args below meth c H locs cells slots Q (F0 m (pc + 1) ls (.int (Int32.ofNat (h.1 0)) :: rest))) : W p l e R s m args below meth c H locs cells slots Q (F0 m pc ls (.ref (ad 0) :: rest)) :=
  va_alen C.1.1 C.1.2.1 C.2.1 hw.1 5 0 rfl (ty := .int) rfl rfl hdg kk
theorem cn_1 (C : mCx p m c cc nL s args g own) (hw : cWd g A H0 qq ad ea h X z H locs) (hdg : decode cc pc = .ok (.arraylength, 1)) (kk : W p l e R s m args below meth c H locs cells slots Q (F0 m (pc + 1) ls (.int (Int32.ofNat (h.1 1)) :: rest))) : W p l e R s m args below meth c H locs cells slots Q (F0 m pc ls (.ref (ad 1) :: rest)) :=
  va_alen C.1.1 C.1.2.1 C.2.1 hw.1 6 0 rfl (ty := .int) rfl rfl hdg kk
theorem cn_2 (C : mCx p m c cc nL s args g own) (hw : cWd g A H0 qq ad ea h X z H locs) (hdg : decode cc pc = .ok (.arraylength, 1)) (kk : W p l e R s m args below meth c H locs cells slots Q (F0 m (pc + 1) ls (.int (Int32.ofNat (h.1 2)) :: rest))) : W p l e R s m args below meth c H locs cells slots Q (F0 m pc ls (.ref (ad 2) :: rest)) :=
  va_alen C.1.1 C.1.2.1 C.2.1 hw.1 7 0 rfl (ty := .int) rfl rfl hdg kk
theorem cn_3 (C : mCx p m c cc nL s args g own) (hw : cWd g A H0 qq ad ea h X z H locs) (hdg : decode cc pc = .ok (.arraylength, 1)) (kk : W p l e R s m args below meth c H locs cells slots Q (F0 m (pc + 1) ls (.int (Int32.ofNat (h.1 3)) :: rest))) : W p l e R s m args below meth c H locs cells slots Q (F0 m pc ls (.ref (ad 3) :: rest)) :=
  va_alen C.1.1 C.1.2.1 C.2.1 hw.1 8 2 rfl (ty := .object "MidiDesk$Event") rfl rfl hdg kk
theorem cn_4 (C : mCx p m c cc nL s args g own) (hw : cWd g A H0 qq ad ea h X z H locs) (hdg : decode cc pc = .ok (.arraylength, 1)) (kk : W p l e R s m args below meth c H locs cells slots Q (F0 m (pc + 1) ls (.int (Int32.ofNat (h.1 4)) :: rest))) : W p l e R s m args below meth c H locs cells slots Q (F0 m pc ls (.ref (ad 4) :: rest)) :=
  va_alen C.1.1 C.1.2.1 C.2.1 hw.1 9 2 rfl (ty := .object "MidiDesk$Event") rfl rfl hdg kk
theorem cra_0 {i : Int32} (C : mCx p m c cc nL s args g own) (hw : cWd g A H0 qq ad ea h X z H locs) (hin : ¬ (i < 0 ∨ h.1 3 ≤ i.toNatClampNeg)) (hdg : decode cc pc = .ok (.aaload, 1)) (kk : W p l e R s m args below meth c H locs cells slots Q (F0 m (pc + 1) ls (va_rf (Option.map ea (zr z 0 i.toNatClampNeg)) :: rest))) : W p l e R s m args below meth c H locs cells slots Q (F0 m pc ls (.int i :: .ref (ad 3) :: rest)) :=
  va_aldq (C := "MidiDesk$Event") C.1.1 C.1.2.1 C.2.1 hw.1 8 2 rfl rfl hin hdg kk
theorem crs_0 {i : Int32} {o : Option Nat} (C : mCx p m c cc nL s args g own) (hw : cWd g A H0 qq ad ea h X z H locs) (hin : ¬ (i < 0 ∨ h.1 3 ≤ i.toNatClampNeg)) (ho : ¬ okr h.2.1 o = false) (hdg : decode cc pc = .ok (.aastore, 1)) (kk : ∀ (H1 : Heap) (locs1 : List Loc), cWd g A H0 qq ad ea h X (zR z 0 i.toNatClampNeg o) H1 locs1 → W p l e R s m args below meth c H1 locs1 cells slots Q (F0 m (pc + 1) ls rest)) : W p l e R s m args below meth c H locs cells slots Q (F0 m pc ls (va_rf (Option.map ea o) :: .int i :: .ref (ad 3) :: rest)) := by
  have e : va_up (fun t => Option.map ea (zr z 0 t)) i.toNatClampNeg (Option.map ea o) = (fun t => Option.map ea (zr (zR z 0 i.toNatClampNeg o) 0 t)) := by
    funext t
    by_cases ht : t = i.toNatClampNeg
    · subst ht; simp [va_up, zr, zR, upr]
    · simp [va_up, zr, zR, upr, ht]
  cases o with
  | none =>
    refine va_astqN (C := "MidiDesk$Event") C.1.1 C.1.2.1 C.2.1 hw.1 hw.2.1 hw.2.2.1 8 2 rfl rfl hin hdg (fun H1 locs1 hP hD hS => ?_)
    have e : va_up (fun t => Option.map ea (zr z 0 t)) i.toNatClampNeg none = _ := e
    rw [e] at hP hD
    exact kk H1 locs1 ⟨hP, hD, hS, hw.2.2.2⟩
  | some j =>
    have hj : j < h.2.1 := by simpa [okr] using ho
    refine va_astq (r := (R_Event, F_Event, 7)) C.1.1 C.1.2.1 C.2.1 hw.1 hw.2.1 hw.2.2.1 8 2 (j + 10) 1 rfl rfl (cw_ev hj) rfl hin hdg (fun H1 locs1 hP hD hS => ?_)
    have e : va_up (fun t => Option.map ea (zr z 0 t)) i.toNatClampNeg (some (ea j)) = _ := e
    have hP' := hP; have hD' := hD
    rw [e] at hP' hD'
    exact kk H1 locs1 ⟨hP', hD', hS, hw.2.2.2⟩
theorem cra_1 {i : Int32} (C : mCx p m c cc nL s args g own) (hw : cWd g A H0 qq ad ea h X z H locs) (hin : ¬ (i < 0 ∨ h.1 4 ≤ i.toNatClampNeg)) (hdg : decode cc pc = .ok (.aaload, 1)) (kk : W p l e R s m args below meth c H locs cells slots Q (F0 m (pc + 1) ls (va_rf (Option.map ea (zr z 1 i.toNatClampNeg)) :: rest))) : W p l e R s m args below meth c H locs cells slots Q (F0 m pc ls (.int i :: .ref (ad 4) :: rest)) :=
  va_aldq (C := "MidiDesk$Event") C.1.1 C.1.2.1 C.2.1 hw.1 9 2 rfl rfl hin hdg kk
theorem crs_1 {i : Int32} {o : Option Nat} (C : mCx p m c cc nL s args g own) (hw : cWd g A H0 qq ad ea h X z H locs) (hin : ¬ (i < 0 ∨ h.1 4 ≤ i.toNatClampNeg)) (ho : ¬ okr h.2.1 o = false) (hdg : decode cc pc = .ok (.aastore, 1)) (kk : ∀ (H1 : Heap) (locs1 : List Loc), cWd g A H0 qq ad ea h X (zR z 1 i.toNatClampNeg o) H1 locs1 → W p l e R s m args below meth c H1 locs1 cells slots Q (F0 m (pc + 1) ls rest)) : W p l e R s m args below meth c H locs cells slots Q (F0 m pc ls (va_rf (Option.map ea o) :: .int i :: .ref (ad 4) :: rest)) := by
  have e : va_up (fun t => Option.map ea (zr z 1 t)) i.toNatClampNeg (Option.map ea o) = (fun t => Option.map ea (zr (zR z 1 i.toNatClampNeg o) 1 t)) := by
    funext t
    by_cases ht : t = i.toNatClampNeg
    · subst ht; simp [va_up, zr, zR, upr]
    · simp [va_up, zr, zR, upr, ht]
  cases o with
  | none =>
    refine va_astqN (C := "MidiDesk$Event") C.1.1 C.1.2.1 C.2.1 hw.1 hw.2.1 hw.2.2.1 9 2 rfl rfl hin hdg (fun H1 locs1 hP hD hS => ?_)
    have e : va_up (fun t => Option.map ea (zr z 1 t)) i.toNatClampNeg none = _ := e
    rw [e] at hP hD
    exact kk H1 locs1 ⟨hP, hD, hS, hw.2.2.2⟩
  | some j =>
    have hj : j < h.2.1 := by simpa [okr] using ho
    refine va_astq (r := (R_Event, F_Event, 7)) C.1.1 C.1.2.1 C.2.1 hw.1 hw.2.1 hw.2.2.1 9 2 (j + 10) 1 rfl rfl (cw_ev hj) rfl hin hdg (fun H1 locs1 hP hD hS => ?_)
    have e : va_up (fun t => Option.map ea (zr z 1 t)) i.toNatClampNeg (some (ea j)) = _ := e
    have hP' := hP; have hD' := hD
    rw [e] at hP' hD'
    exact kk H1 locs1 ⟨hP', hD', hS, hw.2.2.2⟩
theorem c_retv {rv : Option Value} {X0 X' : va_W} {z' : cZ} (C : mCx p m c cc nL s args g own) (hr : meth.sig.returnType = none) (hlk : meth.locks = false) (hrv : rv = none) (hw : cWd g (cA g qq ad ea h X0 s.heap.size) s.heap qq ad ea h X z H locs) (hf : some z = some z') (hX : X = X') (hc : cells ≤ R.cells ∧ slots ≤ R.slots) (hdg : decode cc pc = .ok (.return_, 1)) : cG p l e R s m args below meth c g qq ad ea h X0 rv X' z' H locs cells slots (F0 m pc ls []) := by
  cases hf
  subst hrv
  subst hX
  refine W.widen (k := R.cells) (n := R.slots) hc.1 hc.2 ?_
  exact W.vret C.1.1 C.1.2.1 hr (fun t ht hW => ⟨⟨rfl, by rw [ht]; exact hw.1⟩, hw.2.2.1.F ht⟩) hw.2.2.1.2.2 hdg hlk
theorem c_reti {rv : Option Value} {X0 X' : va_W} {z' : cZ} {x r : Int32} (C : mCx p m c cc nL s args g own) (hr : meth.sig.returnType = some .int) (hlk : meth.locks = false) (hrv : rv = some (.int r)) (hw : cWd g (cA g qq ad ea h X0 s.heap.size) s.heap qq ad ea h X z H locs) (hf : some (x, z) = some (r, z')) (hX : X = X') (hc : cells ≤ R.cells ∧ slots ≤ R.slots) (hdg : decode cc pc = .ok (.ireturn, 1)) : cG p l e R s m args below meth c g qq ad ea h X0 rv X' z' H locs cells slots (F0 m pc ls [.int x]) := by
  cases hf
  subst hrv
  subst hX
  refine W.widen (k := R.cells) (n := R.slots) hc.1 hc.2 ?_
  exact W.iret C.1.1 C.1.2.1 hr (fun t ht hW => ⟨⟨rfl, by rw [ht]; exact hw.1⟩, hw.2.2.1.F ht⟩) hw.2.2.1.2.2 hdg hlk
theorem c_retz {rv : Option Value} {X0 X' : va_W} {z' : cZ} {x r : Int32} (C : mCx p m c cc nL s args g own) (hr : meth.sig.returnType = some .boolean) (hlk : meth.locks = false) (hrv : rv = some (.int r)) (hw : cWd g (cA g qq ad ea h X0 s.heap.size) s.heap qq ad ea h X z H locs) (hx : x = 0 ∨ x = 1) (hf : some (x, z) = some (r, z')) (hX : X = X') (hc : cells ≤ R.cells ∧ slots ≤ R.slots) (hdg : decode cc pc = .ok (.ireturn, 1)) : cG p l e R s m args below meth c g qq ad ea h X0 rv X' z' H locs cells slots (F0 m pc ls [.int x]) := by
  cases hf
  subst hrv
  subst hX
  refine W.widen (k := R.cells) (n := R.slots) hc.1 hc.2 ?_
  exact W.zret C.1.1 C.1.2.1 hr (by rcases hx with rfl | rfl <;> rfl) (fun t ht hW => ⟨⟨rfl, by rw [ht]; exact hw.1⟩, hw.2.2.1.F ht⟩) hw.2.2.1.2.2 hdg hlk
theorem c_retl {rv : Option Value} {X0 X' : va_W} {z' : cZ} {x r : Int64} (C : mCx p m c cc nL s args g own) (hr : meth.sig.returnType = some .long) (hlk : meth.locks = false) (hrv : rv = some (.long r)) (hw : cWd g (cA g qq ad ea h X0 s.heap.size) s.heap qq ad ea h X z H locs) (hf : some (x, z) = some (r, z')) (hX : X = X') (hc : cells ≤ R.cells ∧ slots ≤ R.slots) (hdg : decode cc pc = .ok (.lreturn, 1)) : cG p l e R s m args below meth c g qq ad ea h X0 rv X' z' H locs cells slots (F0 m pc ls [.long x]) := by
  cases hf
  subst hrv
  subst hX
  refine W.widen (k := R.cells) (n := R.slots) hc.1 hc.2 ?_
  exact W.lret C.1.1 C.1.2.1 hr (fun t ht hW => ⟨⟨rfl, by rw [ht]; exact hw.1⟩, hw.2.2.1.F ht⟩) hw.2.2.1.2.2 hdg hlk
theorem c_reto {rv : Option Value} {X0 X' : va_W} {z' : cZ} {x r : Option Nat} (C : mCx p m c cc nL s args g own) (hr : meth.sig.returnType = some (.object "MidiDesk$Event")) (hlk : meth.locks = false) (hrv : rv = some (va_rf (Option.map ea r))) (hw : cWd g (cA g qq ad ea h X0 s.heap.size) s.heap qq ad ea h X z H locs) (hf : some (x, z) = some (r, z')) (hX : X = X') (hc : cells ≤ R.cells ∧ slots ≤ R.slots) (hdg : decode cc pc = .ok (.areturn, 1)) : cG p l e R s m args below meth c g qq ad ea h X0 rv X' z' H locs cells slots (F0 m pc ls [va_rf (Option.map ea x)]) := by
  cases hf
  subst hrv
  subst hX
  refine W.widen (k := R.cells) (n := R.slots) hc.1 hc.2 ?_
  exact W.aret C.1.1 C.1.2.1 hr (Or.inl ⟨_, rfl⟩) (by cases x with | none => exact Or.inl rfl | some a => exact Or.inr ⟨_, rfl⟩) (fun t ht hW => ⟨⟨rfl, by rw [ht]; exact hw.1⟩, hw.2.2.1.F ht⟩) hw.2.2.1.2.2 hdg hlk
end CR
end
