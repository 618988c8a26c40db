section
-- ===== PART A: goes FIRST, ahead of the names: the tables' words, and 'selects' of the private methods out of them =====
/-- a private method of a class that the tables say can be made, by its rows of tables_1 -/
def lw_okq (q : MethodName × Nat) : Prop := (q.1.cls ≠ "java/lang/invoke/MethodHandle" ∧ q.1.cls ≠ "java/lang/invoke/VarHandle") ∧ Cond.instantiable q.1.cls q.2 ∈ tables_1 ∧ Cond.privateMethod q.1 ∈ tables_1 ∧ Cond.instanceMethod q.1 ∈ tables_1
theorem lw_p0 : lw_okq (⟨"MidiDesk$Parser", "head", "()V"⟩, 13) := ⟨⟨by decide +kernel, by decide +kernel⟩, List.mem_of_getElem? (i := 133) (by decide +kernel), List.mem_of_getElem? (i := 192) (by decide +kernel), List.mem_of_getElem? (i := 193) (by decide +kernel)⟩
theorem lw_p1 : lw_okq (⟨"MidiDesk$Parser", "fixed", "(I)J"⟩, 13) := ⟨⟨by decide +kernel, by decide +kernel⟩, List.mem_of_getElem? (i := 133) (by decide +kernel), List.mem_of_getElem? (i := 196) (by decide +kernel), List.mem_of_getElem? (i := 197) (by decide +kernel)⟩
theorem lw_p2 : lw_okq (⟨"MidiDesk$Parser", "expect", "(ZII)V"⟩, 13) := ⟨⟨by decide +kernel, by decide +kernel⟩, List.mem_of_getElem? (i := 133) (by decide +kernel), List.mem_of_getElem? (i := 200) (by decide +kernel), List.mem_of_getElem? (i := 201) (by decide +kernel)⟩
theorem lw_p3 : lw_okq (⟨"MidiDesk$Parser", "beginsTrack", "()Z"⟩, 13) := ⟨⟨by decide +kernel, by decide +kernel⟩, List.mem_of_getElem? (i := 133) (by decide +kernel), List.mem_of_getElem? (i := 214) (by decide +kernel), List.mem_of_getElem? (i := 215) (by decide +kernel)⟩
theorem lw_p4 : lw_okq (⟨"MidiDesk$Parser", "track", "()V"⟩, 13) := ⟨⟨by decide +kernel, by decide +kernel⟩, List.mem_of_getElem? (i := 133) (by decide +kernel), List.mem_of_getElem? (i := 219) (by decide +kernel), List.mem_of_getElem? (i := 220) (by decide +kernel)⟩
theorem lw_p5 : lw_okq (⟨"MidiDesk$Parser", "oneEvent", "()V"⟩, 13) := ⟨⟨by decide +kernel, by decide +kernel⟩, List.mem_of_getElem? (i := 133) (by decide +kernel), List.mem_of_getElem? (i := 223) (by decide +kernel), List.mem_of_getElem? (i := 224) (by decide +kernel)⟩
theorem lw_p6 : lw_okq (⟨"MidiDesk$Parser", "number", "()I"⟩, 13) := ⟨⟨by decide +kernel, by decide +kernel⟩, List.mem_of_getElem? (i := 133) (by decide +kernel), List.mem_of_getElem? (i := 227) (by decide +kernel), List.mem_of_getElem? (i := 228) (by decide +kernel)⟩
theorem lw_p7 : lw_okq (⟨"MidiDesk$Parser", "status", "()I"⟩, 13) := ⟨⟨by decide +kernel, by decide +kernel⟩, List.mem_of_getElem? (i := 133) (by decide +kernel), List.mem_of_getElem? (i := 232) (by decide +kernel), List.mem_of_getElem? (i := 233) (by decide +kernel)⟩
theorem lw_p8 : lw_okq (⟨"MidiDesk$Parser", "channelEvent", "(I)V"⟩, 13) := ⟨⟨by decide +kernel, by decide +kernel⟩, List.mem_of_getElem? (i := 133) (by decide +kernel), List.mem_of_getElem? (i := 236) (by decide +kernel), List.mem_of_getElem? (i := 237) (by decide +kernel)⟩
theorem lw_p9 : lw_okq (⟨"MidiDesk$Parser", "lowByte", "()I"⟩, 13) := ⟨⟨by decide +kernel, by decide +kernel⟩, List.mem_of_getElem? (i := 133) (by decide +kernel), List.mem_of_getElem? (i := 240) (by decide +kernel), List.mem_of_getElem? (i := 241) (by decide +kernel)⟩
theorem lw_p10 : lw_okq (⟨"MidiDesk$Parser", "metaEvent", "()V"⟩, 13) := ⟨⟨by decide +kernel, by decide +kernel⟩, List.mem_of_getElem? (i := 133) (by decide +kernel), List.mem_of_getElem? (i := 247) (by decide +kernel), List.mem_of_getElem? (i := 248) (by decide +kernel)⟩
theorem lw_p11 : lw_okq (⟨"MidiDesk$Parser", "passData", "()V"⟩, 13) := ⟨⟨by decide +kernel, by decide +kernel⟩, List.mem_of_getElem? (i := 133) (by decide +kernel), List.mem_of_getElem? (i := 251) (by decide +kernel), List.mem_of_getElem? (i := 252) (by decide +kernel)⟩
theorem lw_p12 : lw_okq (⟨"MidiDesk$Parser", "exclusiveEvent", "()V"⟩, 13) := ⟨⟨by decide +kernel, by decide +kernel⟩, List.mem_of_getElem? (i := 133) (by decide +kernel), List.mem_of_getElem? (i := 255) (by decide +kernel), List.mem_of_getElem? (i := 256) (by decide +kernel)⟩
theorem lw_p13 : lw_okq (⟨"MidiDesk$Parser", "keep", "(I)V"⟩, 13) := ⟨⟨by decide +kernel, by decide +kernel⟩, List.mem_of_getElem? (i := 133) (by decide +kernel), List.mem_of_getElem? (i := 267) (by decide +kernel), List.mem_of_getElem? (i := 268) (by decide +kernel)⟩
theorem lw_p14 : lw_okq (⟨"MidiDesk$Score", "mergeRuns", "(III)V"⟩, 8) := ⟨⟨by decide +kernel, by decide +kernel⟩, List.mem_of_getElem? (i := 42) (by decide +kernel), List.mem_of_getElem? (i := 334) (by decide +kernel), List.mem_of_getElem? (i := 335) (by decide +kernel)⟩
theorem lw_p15 : lw_okq (⟨"MidiDesk", "headValue", "(I)I"⟩, 3) := ⟨⟨by decide +kernel, by decide +kernel⟩, List.mem_of_getElem? (i := 17) (by decide +kernel), List.mem_of_getElem? (i := 405) (by decide +kernel), List.mem_of_getElem? (i := 406) (by decide +kernel)⟩
def lw_privs_1 : List (MethodName × Nat) := [(⟨"MidiDesk$Parser", "head", "()V"⟩, 13), (⟨"MidiDesk$Parser", "fixed", "(I)J"⟩, 13), (⟨"MidiDesk$Parser", "expect", "(ZII)V"⟩, 13), (⟨"MidiDesk$Parser", "beginsTrack", "()Z"⟩, 13), (⟨"MidiDesk$Parser", "track", "()V"⟩, 13), (⟨"MidiDesk$Parser", "oneEvent", "()V"⟩, 13), (⟨"MidiDesk$Parser", "number", "()I"⟩, 13), (⟨"MidiDesk$Parser", "status", "()I"⟩, 13), (⟨"MidiDesk$Parser", "channelEvent", "(I)V"⟩, 13), (⟨"MidiDesk$Parser", "lowByte", "()I"⟩, 13), (⟨"MidiDesk$Parser", "metaEvent", "()V"⟩, 13), (⟨"MidiDesk$Parser", "passData", "()V"⟩, 13), (⟨"MidiDesk$Parser", "exclusiveEvent", "()V"⟩, 13), (⟨"MidiDesk$Parser", "keep", "(I)V"⟩, 13), (⟨"MidiDesk$Score", "mergeRuns", "(III)V"⟩, 8), (⟨"MidiDesk", "headValue", "(I)I"⟩, 3)]
theorem lw_r1 : ∀ q ∈ lw_privs_1, lw_okq q := List.forall_mem_cons.mpr ⟨lw_p0, List.forall_mem_cons.mpr ⟨lw_p1, List.forall_mem_cons.mpr ⟨lw_p2, List.forall_mem_cons.mpr ⟨lw_p3, List.forall_mem_cons.mpr ⟨lw_p4, List.forall_mem_cons.mpr ⟨lw_p5, List.forall_mem_cons.mpr ⟨lw_p6, List.forall_mem_cons.mpr ⟨lw_p7, List.forall_mem_cons.mpr ⟨lw_p8, List.forall_mem_cons.mpr ⟨lw_p9, List.forall_mem_cons.mpr ⟨lw_p10, List.forall_mem_cons.mpr ⟨lw_p11, List.forall_mem_cons.mpr ⟨lw_p12, List.forall_mem_cons.mpr ⟨lw_p13, List.forall_mem_cons.mpr ⟨lw_p14, List.forall_mem_cons.mpr ⟨lw_p15, fun _ h => absurd h List.not_mem_nil⟩⟩⟩⟩⟩⟩⟩⟩⟩⟩⟩⟩⟩⟩⟩⟩
theorem lw_p16 : lw_okq (⟨"MidiDesk$Score", "hasFrames", "()Z"⟩, 8) := ⟨⟨by decide +kernel, by decide +kernel⟩, List.mem_of_getElem? (i := 42) (by decide +kernel), List.mem_of_getElem? (i := 413) (by decide +kernel), List.mem_of_getElem? (i := 414) (by decide +kernel)⟩
theorem lw_p17 : lw_okq (⟨"MidiDesk$Score", "frames", "()I"⟩, 8) := ⟨⟨by decide +kernel, by decide +kernel⟩, List.mem_of_getElem? (i := 42) (by decide +kernel), List.mem_of_getElem? (i := 417) (by decide +kernel), List.mem_of_getElem? (i := 418) (by decide +kernel)⟩
theorem lw_p18 : lw_okq (⟨"MidiDesk", "needList", "()V"⟩, 3) := ⟨⟨by decide +kernel, by decide +kernel⟩, List.mem_of_getElem? (i := 17) (by decide +kernel), List.mem_of_getElem? (i := 430) (by decide +kernel), List.mem_of_getElem? (i := 431) (by decide +kernel)⟩
theorem lw_p19 : lw_okq (⟨"java/lang/Throwable", "fillInStackTrace", "(I)Ljava/lang/Throwable;"⟩, 6) := ⟨⟨by decide +kernel, by decide +kernel⟩, List.mem_of_getElem? (i := 471) (by decide +kernel), List.mem_of_getElem? (i := 469) (by decide +kernel), List.mem_of_getElem? (i := 470) (by decide +kernel)⟩
theorem lw_p20 : lw_okq (⟨"MidiDesk", "needTick", "(I)V"⟩, 3) := ⟨⟨by decide +kernel, by decide +kernel⟩, List.mem_of_getElem? (i := 17) (by decide +kernel), List.mem_of_getElem? (i := 501) (by decide +kernel), List.mem_of_getElem? (i := 502) (by decide +kernel)⟩
theorem lw_p21 : lw_okq (⟨"MidiDesk$Score", "tempoOf", "(LMidiDesk$Event;)I"⟩, 8) := ⟨⟨by decide +kernel, by decide +kernel⟩, List.mem_of_getElem? (i := 42) (by decide +kernel), List.mem_of_getElem? (i := 529) (by decide +kernel), List.mem_of_getElem? (i := 530) (by decide +kernel)⟩
theorem lw_p22 : lw_okq (⟨"MidiDesk$Printer", "putFixed", "(II)V"⟩, 5) := ⟨⟨by decide +kernel, by decide +kernel⟩, List.mem_of_getElem? (i := 601) (by decide +kernel), List.mem_of_getElem? (i := 629) (by decide +kernel), List.mem_of_getElem? (i := 630) (by decide +kernel)⟩
theorem lw_p23 : lw_okq (⟨"MidiDesk$Printer", "putTrack", "(I)V"⟩, 5) := ⟨⟨by decide +kernel, by decide +kernel⟩, List.mem_of_getElem? (i := 601) (by decide +kernel), List.mem_of_getElem? (i := 634) (by decide +kernel), List.mem_of_getElem? (i := 635) (by decide +kernel)⟩
theorem lw_p24 : lw_okq (⟨"MidiDesk$Printer", "putEvent", "(LMidiDesk$Event;)V"⟩, 5) := ⟨⟨by decide +kernel, by decide +kernel⟩, List.mem_of_getElem? (i := 601) (by decide +kernel), List.mem_of_getElem? (i := 641) (by decide +kernel), List.mem_of_getElem? (i := 642) (by decide +kernel)⟩
theorem lw_p25 : lw_okq (⟨"MidiDesk$Printer", "putNumber", "(I)V"⟩, 5) := ⟨⟨by decide +kernel, by decide +kernel⟩, List.mem_of_getElem? (i := 601) (by decide +kernel), List.mem_of_getElem? (i := 645) (by decide +kernel), List.mem_of_getElem? (i := 646) (by decide +kernel)⟩
theorem lw_p26 : lw_okq (⟨"MidiDeskModel", "head", "()V"⟩, 25) := ⟨⟨by decide +kernel, by decide +kernel⟩, List.mem_of_getElem? (i := 658) (by decide +kernel), List.mem_of_getElem? (i := 754) (by decide +kernel), List.mem_of_getElem? (i := 755) (by decide +kernel)⟩
theorem lw_p27 : lw_okq (⟨"MidiDeskModel", "taken", "(I)J"⟩, 25) := ⟨⟨by decide +kernel, by decide +kernel⟩, List.mem_of_getElem? (i := 658) (by decide +kernel), List.mem_of_getElem? (i := 758) (by decide +kernel), List.mem_of_getElem? (i := 759) (by decide +kernel)⟩
theorem lw_p28 : lw_okq (⟨"MidiDeskModel", "fail", "(II)V"⟩, 25) := ⟨⟨by decide +kernel, by decide +kernel⟩, List.mem_of_getElem? (i := 658) (by decide +kernel), List.mem_of_getElem? (i := 762) (by decide +kernel), List.mem_of_getElem? (i := 763) (by decide +kernel)⟩
theorem lw_p29 : lw_okq (⟨"MidiDeskModel", "track", "(I)V"⟩, 25) := ⟨⟨by decide +kernel, by decide +kernel⟩, List.mem_of_getElem? (i := 658) (by decide +kernel), List.mem_of_getElem? (i := 773) (by decide +kernel), List.mem_of_getElem? (i := 774) (by decide +kernel)⟩
theorem lw_p30 : lw_okq (⟨"MidiDeskModel", "number", "()I"⟩, 25) := ⟨⟨by decide +kernel, by decide +kernel⟩, List.mem_of_getElem? (i := 658) (by decide +kernel), List.mem_of_getElem? (i := 777) (by decide +kernel), List.mem_of_getElem? (i := 778) (by decide +kernel)⟩
theorem lw_p31 : lw_okq (⟨"MidiDeskModel", "event", "(IIII)Z"⟩, 25) := ⟨⟨by decide +kernel, by decide +kernel⟩, List.mem_of_getElem? (i := 658) (by decide +kernel), List.mem_of_getElem? (i := 782) (by decide +kernel), List.mem_of_getElem? (i := 783) (by decide +kernel)⟩
def lw_privs_2 : List (MethodName × Nat) := [(⟨"MidiDesk$Score", "hasFrames", "()Z"⟩, 8), (⟨"MidiDesk$Score", "frames", "()I"⟩, 8), (⟨"MidiDesk", "needList", "()V"⟩, 3), (⟨"java/lang/Throwable", "fillInStackTrace", "(I)Ljava/lang/Throwable;"⟩, 6), (⟨"MidiDesk", "needTick", "(I)V"⟩, 3), (⟨"MidiDesk$Score", "tempoOf", "(LMidiDesk$Event;)I"⟩, 8), (⟨"MidiDesk$Printer", "putFixed", "(II)V"⟩, 5), (⟨"MidiDesk$Printer", "putTrack", "(I)V"⟩, 5), (⟨"MidiDesk$Printer", "putEvent", "(LMidiDesk$Event;)V"⟩, 5), (⟨"MidiDesk$Printer", "putNumber", "(I)V"⟩, 5), (⟨"MidiDeskModel", "head", "()V"⟩, 25), (⟨"MidiDeskModel", "taken", "(I)J"⟩, 25), (⟨"MidiDeskModel", "fail", "(II)V"⟩, 25), (⟨"MidiDeskModel", "track", "(I)V"⟩, 25), (⟨"MidiDeskModel", "number", "()I"⟩, 25), (⟨"MidiDeskModel", "event", "(IIII)Z"⟩, 25)]
theorem lw_r2 : ∀ q ∈ lw_privs_2, lw_okq q := List.forall_mem_cons.mpr ⟨lw_p16, List.forall_mem_cons.mpr ⟨lw_p17, List.forall_mem_cons.mpr ⟨lw_p18, List.forall_mem_cons.mpr ⟨lw_p19, List.forall_mem_cons.mpr ⟨lw_p20, List.forall_mem_cons.mpr ⟨lw_p21, List.forall_mem_cons.mpr ⟨lw_p22, List.forall_mem_cons.mpr ⟨lw_p23, List.forall_mem_cons.mpr ⟨lw_p24, List.forall_mem_cons.mpr ⟨lw_p25, List.forall_mem_cons.mpr ⟨lw_p26, List.forall_mem_cons.mpr ⟨lw_p27, List.forall_mem_cons.mpr ⟨lw_p28, List.forall_mem_cons.mpr ⟨lw_p29, List.forall_mem_cons.mpr ⟨lw_p30, List.forall_mem_cons.mpr ⟨lw_p31, fun _ h => absurd h List.not_mem_nil⟩⟩⟩⟩⟩⟩⟩⟩⟩⟩⟩⟩⟩⟩⟩⟩
theorem lw_p32 : lw_okq (⟨"MidiDeskModel", "small", "()I"⟩, 25) := ⟨⟨by decide +kernel, by decide +kernel⟩, List.mem_of_getElem? (i := 658) (by decide +kernel), List.mem_of_getElem? (i := 786) (by decide +kernel), List.mem_of_getElem? (i := 787) (by decide +kernel)⟩
theorem lw_p33 : lw_okq (⟨"MidiDeskModel", "follow", "(II)V"⟩, 25) := ⟨⟨by decide +kernel, by decide +kernel⟩, List.mem_of_getElem? (i := 658) (by decide +kernel), List.mem_of_getElem? (i := 790) (by decide +kernel), List.mem_of_getElem? (i := 791) (by decide +kernel)⟩
theorem lw_p34 : lw_okq (⟨"MidiDeskModel", "tempo", "(I)I"⟩, 25) := ⟨⟨by decide +kernel, by decide +kernel⟩, List.mem_of_getElem? (i := 658) (by decide +kernel), List.mem_of_getElem? (i := 794) (by decide +kernel), List.mem_of_getElem? (i := 795) (by decide +kernel)⟩
theorem lw_p35 : lw_okq (⟨"MidiDeskModel", "sort", "()V"⟩, 25) := ⟨⟨by decide +kernel, by decide +kernel⟩, List.mem_of_getElem? (i := 658) (by decide +kernel), List.mem_of_getElem? (i := 798) (by decide +kernel), List.mem_of_getElem? (i := 799) (by decide +kernel)⟩
theorem lw_p36 : lw_okq (⟨"MidiDeskModel", "again", "()V"⟩, 25) := ⟨⟨by decide +kernel, by decide +kernel⟩, List.mem_of_getElem? (i := 658) (by decide +kernel), List.mem_of_getElem? (i := 802) (by decide +kernel), List.mem_of_getElem? (i := 803) (by decide +kernel)⟩
theorem lw_p37 : lw_okq (⟨"MidiDeskModel", "isBefore", "(II)Z"⟩, 25) := ⟨⟨by decide +kernel, by decide +kernel⟩, List.mem_of_getElem? (i := 658) (by decide +kernel), List.mem_of_getElem? (i := 806) (by decide +kernel), List.mem_of_getElem? (i := 807) (by decide +kernel)⟩
theorem lw_p38 : lw_okq (⟨"MidiDeskModel", "has", "(I)Z"⟩, 25) := ⟨⟨by decide +kernel, by decide +kernel⟩, List.mem_of_getElem? (i := 658) (by decide +kernel), List.mem_of_getElem? (i := 814) (by decide +kernel), List.mem_of_getElem? (i := 815) (by decide +kernel)⟩
theorem lw_p39 : lw_okq (⟨"MidiDeskModel", "fails", "(ZZ)Z"⟩, 25) := ⟨⟨by decide +kernel, by decide +kernel⟩, List.mem_of_getElem? (i := 658) (by decide +kernel), List.mem_of_getElem? (i := 827) (by decide +kernel), List.mem_of_getElem? (i := 828) (by decide +kernel)⟩
theorem lw_p40 : lw_okq (⟨"MidiDeskModel", "timed", "(I)J"⟩, 25) := ⟨⟨by decide +kernel, by decide +kernel⟩, List.mem_of_getElem? (i := 658) (by decide +kernel), List.mem_of_getElem? (i := 831) (by decide +kernel), List.mem_of_getElem? (i := 832) (by decide +kernel)⟩
theorem lw_p41 : lw_okq (⟨"MidiDeskModel", "isTempo", "(I)Z"⟩, 25) := ⟨⟨by decide +kernel, by decide +kernel⟩, List.mem_of_getElem? (i := 658) (by decide +kernel), List.mem_of_getElem? (i := 838) (by decide +kernel), List.mem_of_getElem? (i := 839) (by decide +kernel)⟩
theorem lw_p42 : lw_okq (⟨"MidiDeskModel", "parts", "()J"⟩, 25) := ⟨⟨by decide +kernel, by decide +kernel⟩, List.mem_of_getElem? (i := 658) (by decide +kernel), List.mem_of_getElem? (i := 842) (by decide +kernel), List.mem_of_getElem? (i := 843) (by decide +kernel)⟩
theorem lw_p43 : lw_okq (⟨"MidiDeskModel", "begins", "(I)Z"⟩, 25) := ⟨⟨by decide +kernel, by decide +kernel⟩, List.mem_of_getElem? (i := 658) (by decide +kernel), List.mem_of_getElem? (i := 855) (by decide +kernel), List.mem_of_getElem? (i := 856) (by decide +kernel)⟩
theorem lw_p44 : lw_okq (⟨"MidiDeskModel", "ends", "(I)Z"⟩, 25) := ⟨⟨by decide +kernel, by decide +kernel⟩, List.mem_of_getElem? (i := 658) (by decide +kernel), List.mem_of_getElem? (i := 859) (by decide +kernel), List.mem_of_getElem? (i := 860) (by decide +kernel)⟩
theorem lw_p45 : lw_okq (⟨"MidiDeskModel", "isNote", "(II)Z"⟩, 25) := ⟨⟨by decide +kernel, by decide +kernel⟩, List.mem_of_getElem? (i := 658) (by decide +kernel), List.mem_of_getElem? (i := 867) (by decide +kernel), List.mem_of_getElem? (i := 868) (by decide +kernel)⟩
theorem lw_p46 : lw_okq (⟨"MidiDeskModel", "put", "(II)V"⟩, 25) := ⟨⟨by decide +kernel, by decide +kernel⟩, List.mem_of_getElem? (i := 658) (by decide +kernel), List.mem_of_getElem? (i := 890) (by decide +kernel), List.mem_of_getElem? (i := 891) (by decide +kernel)⟩
theorem lw_p47 : lw_okq (⟨"MidiDeskModel", "put", "(I)V"⟩, 25) := ⟨⟨by decide +kernel, by decide +kernel⟩, List.mem_of_getElem? (i := 658) (by decide +kernel), List.mem_of_getElem? (i := 894) (by decide +kernel), List.mem_of_getElem? (i := 895) (by decide +kernel)⟩
def lw_privs_3 : List (MethodName × Nat) := [(⟨"MidiDeskModel", "small", "()I"⟩, 25), (⟨"MidiDeskModel", "follow", "(II)V"⟩, 25), (⟨"MidiDeskModel", "tempo", "(I)I"⟩, 25), (⟨"MidiDeskModel", "sort", "()V"⟩, 25), (⟨"MidiDeskModel", "again", "()V"⟩, 25), (⟨"MidiDeskModel", "isBefore", "(II)Z"⟩, 25), (⟨"MidiDeskModel", "has", "(I)Z"⟩, 25), (⟨"MidiDeskModel", "fails", "(ZZ)Z"⟩, 25), (⟨"MidiDeskModel", "timed", "(I)J"⟩, 25), (⟨"MidiDeskModel", "isTempo", "(I)Z"⟩, 25), (⟨"MidiDeskModel", "parts", "()J"⟩, 25), (⟨"MidiDeskModel", "begins", "(I)Z"⟩, 25), (⟨"MidiDeskModel", "ends", "(I)Z"⟩, 25), (⟨"MidiDeskModel", "isNote", "(II)Z"⟩, 25), (⟨"MidiDeskModel", "put", "(II)V"⟩, 25), (⟨"MidiDeskModel", "put", "(I)V"⟩, 25)]
theorem lw_r3 : ∀ q ∈ lw_privs_3, lw_okq q := List.forall_mem_cons.mpr ⟨lw_p32, List.forall_mem_cons.mpr ⟨lw_p33, List.forall_mem_cons.mpr ⟨lw_p34, List.forall_mem_cons.mpr ⟨lw_p35, List.forall_mem_cons.mpr ⟨lw_p36, List.forall_mem_cons.mpr ⟨lw_p37, List.forall_mem_cons.mpr ⟨lw_p38, List.forall_mem_cons.mpr ⟨lw_p39, List.forall_mem_cons.mpr ⟨lw_p40, List.forall_mem_cons.mpr ⟨lw_p41, List.forall_mem_cons.mpr ⟨lw_p42, List.forall_mem_cons.mpr ⟨lw_p43, List.forall_mem_cons.mpr ⟨lw_p44, List.forall_mem_cons.mpr ⟨lw_p45, List.forall_mem_cons.mpr ⟨lw_p46, List.forall_mem_cons.mpr ⟨lw_p47, fun _ h => absurd h List.not_mem_nil⟩⟩⟩⟩⟩⟩⟩⟩⟩⟩⟩⟩⟩⟩⟩⟩
theorem lw_p48 : lw_okq (⟨"MidiDeskModel", "putTrack", "(IZZ)V"⟩, 25) := ⟨⟨by decide +kernel, by decide +kernel⟩, List.mem_of_getElem? (i := 658) (by decide +kernel), List.mem_of_getElem? (i := 898) (by decide +kernel), List.mem_of_getElem? (i := 899) (by decide +kernel)⟩
theorem lw_p49 : lw_okq (⟨"MidiDeskModel", "putNumber", "(I)V"⟩, 25) := ⟨⟨by decide +kernel, by decide +kernel⟩, List.mem_of_getElem? (i := 658) (by decide +kernel), List.mem_of_getElem? (i := 903) (by decide +kernel), List.mem_of_getElem? (i := 904) (by decide +kernel)⟩
theorem lw_p50 : lw_okq (⟨"MidiDeskModel", "counted", "(Z)I"⟩, 25) := ⟨⟨by decide +kernel, by decide +kernel⟩, List.mem_of_getElem? (i := 658) (by decide +kernel), List.mem_of_getElem? (i := 921) (by decide +kernel), List.mem_of_getElem? (i := 922) (by decide +kernel)⟩
def lw_privs_4 : List (MethodName × Nat) := [(⟨"MidiDeskModel", "putTrack", "(IZZ)V"⟩, 25), (⟨"MidiDeskModel", "putNumber", "(I)V"⟩, 25), (⟨"MidiDeskModel", "counted", "(Z)I"⟩, 25)]
theorem lw_r4 : ∀ q ∈ lw_privs_4, lw_okq q := List.forall_mem_cons.mpr ⟨lw_p48, List.forall_mem_cons.mpr ⟨lw_p49, List.forall_mem_cons.mpr ⟨lw_p50, fun _ h => absurd h List.not_mem_nil⟩⟩⟩
def lw_privs : List (MethodName × Nat) := lw_privs_1 ++ (lw_privs_2 ++ (lw_privs_3 ++ (lw_privs_4)))
def lw_tbl : List Cond := k2_sels lw_privs ++ tables_1
theorem lw_privs_ok : ∀ q ∈ lw_privs, lw_okq q := by
  show ∀ q ∈ lw_privs_1 ++ (lw_privs_2 ++ (lw_privs_3 ++ (lw_privs_4))), lw_okq q
  exact List.forall_mem_append.mpr ⟨lw_r1, List.forall_mem_append.mpr ⟨lw_r2, List.forall_mem_append.mpr ⟨lw_r3, lw_r4⟩⟩⟩
end
section
theorem ts_t {α : Type} {c : Prop} [Decidable c] {a b : Option α} {r : α} (h : (if c then a else b) = some r) (hc : c) : a = some r := by rw [if_pos hc] at h; exact h
theorem ts_f {α : Type} {c : Prop} [Decidable c] {a b : Option α} {r : α} (h : (if c then a else b) = some r) (hc : ¬ c) : b = some r := by rw [if_neg hc] at h; exact h
theorem ts_g {α : Type} {c : Prop} [Decidable c] {a : Option α} {r : α} (h : (if c then none else a) = some r) : ¬ c ∧ a = some r := by
  by_cases hc : c
  · rw [if_pos hc] at h; cases h
  · rw [if_neg hc] at h; exact ⟨hc, h⟩
theorem ts_b {α β : Type} {o : Option α} {f : α → Option β} {b : β} (h : o.bind f = some b) : ∃ a, o = some a ∧ f a = some b := Option.bind_eq_some_iff.mp h
/-- the words that a call hands on: all of the tables that keep -/
def gw : List Cond := lw_tbl.filter goodWord
theorem gw_good : ∀ w ∈ gw, goodWord w = true := fun w h => (List.mem_filter.mp h).2
theorem gw_in {w : Cond} (i : Nat) (h : lw_tbl[i]? = some w) (hg : goodWord w = true) : w ∈ gw := List.mem_filter.mpr ⟨List.mem_of_getElem? h, hg⟩
theorem gw_GI {c : Cond} (hc : c ∈ gw) : GoodIn gw (c :: gw) := fun w hw => by
  have hm : w ∈ gw := (List.mem_cons.mp hw).elim (fun e => e ▸ hc) id
  exact ⟨hm, good_of_word (gw_good w hm)⟩
def is_nest : Cond → Bool
  | .fieldLinkNest .. => true
  | .methodLinkNest .. => true
  | _ => false
def nestw : List Cond := tables_1.filter is_nest
theorem nest_onT {w : Cond} (h : is_nest w = true) : w.onTables = true := by
  cases w <;> first | rfl | (simp [is_nest] at h)
theorem nest_warm {w : Cond} (h : is_nest w = true) {s U : State} (hW : s.WarmedH U.vm) (hZ : va_Nw w s) : va_Nw w U := by
  cases w <;> first | exact va_Nw.warmF hW hZ | exact va_Nw.warmM hW hZ | (simp [is_nest] at h)
/-- an array of counts, and of rows -/
def up2 (av : Nat → Nat → Int32) (k i : Nat) (x : Int32) : Nat → Nat → Int32 := fun a => if a = k then upd (av k) i x else av a
theorem va_D_map {A : Nat → Prop} {ws ws' : va_W} (e : ws.map Prod.fst = ws'.map Prod.fst) (h : va_D A ws) : va_D A ws' := by
  have key : ∀ (k : Nat) (q : Nat × va_E), ws'[k]? = some q → ∃ q0, ws[k]? = some q0 ∧ q0.1 = q.1 := by
    intro k q hk
    have h1 : (ws'.map Prod.fst)[k]? = some q.1 := by rw [List.getElem?_map, hk]; rfl
    rw [← e, List.getElem?_map] at h1
    cases hq : ws[k]? with
    | none => rw [hq] at h1; cases h1
    | some q0 => rw [hq] at h1; exact ⟨q0, rfl, Option.some.inj h1⟩
  refine ⟨fun i j x y hi hj hxy => ?_, fun k q hk => ?_⟩
  · obtain ⟨x0, h1, h2⟩ := key i x hi
    obtain ⟨y0, h3, h4⟩ := key j y hj
    exact h.1 i j x0 y0 h1 h3 (h2.trans (hxy.trans h4.symm))
  · obtain ⟨q0, h1, h2⟩ := key k q hk
    rw [← h2]; exact h.2 k q0 h1
theorem va_A_map {ws ws' : va_W} {sz : Nat} (e : ws.map Prod.fst = ws'.map Prod.fst) : va_A ws sz = va_A ws' sz := by
  have key : ∀ {a b : va_W}, a.map Prod.fst = b.map Prod.fst → ∀ q, va_A a sz q → va_A b sz q := by
    intro a b e q h
    rcases h with ⟨k, x, h⟩ | h
    · have h1 : (a.map Prod.fst)[k]? = some q := by rw [List.getElem?_map, h]; rfl
      rw [e, List.getElem?_map] at h1
      cases hq : b[k]? with
      | none => rw [hq] at h1; cases h1
      | some q0 =>
        rw [hq] at h1
        obtain ⟨z, w⟩ := q0
        have hz : z = q := Option.some.inj h1
        subst hz
        exact Or.inl ⟨k, w, hq⟩
    · exact Or.inr h
  funext q
  exact propext ⟨key e q, key e.symm q⟩

def R_Bytes : String := "MidiDesk$Bytes"
def F_Bytes : u_T := fun k => match k with
  | 0 => ("MidiDesk$Bytes", "most", "I", true)
  | 1 => ("MidiDesk$Bytes", "row", "[I", false)
  | _ => ("MidiDesk$Bytes", "size", "I", false)
def t_Bytes : Nat → FieldType := fun k => match k with
  | 0 => .int
  | 1 => .array .int
  | _ => .int
theorem n_Bytes : ∀ a, a < 3 → ∀ b, b < 3 → a ≠ b → (F_Bytes a).2.1 ≠ (F_Bytes b).2.1 := by decide +kernel
theorem t_Bytes_ok : ∀ k, k < 3 → parseFieldDescriptor (F_Bytes k).2.2.1 = some (t_Bytes k) := by decide +kernel
def R_Event : String := "MidiDesk$Event"
def F_Event : u_T := fun k => match k with
  | 0 => ("MidiDesk$Event", "tick", "I", false)
  | 1 => ("MidiDesk$Event", "track", "I", false)
  | 2 => ("MidiDesk$Event", "status", "I", false)
  | 3 => ("MidiDesk$Event", "first", "I", false)
  | 4 => ("MidiDesk$Event", "second", "I", false)
  | 5 => ("MidiDesk$Event", "start", "I", false)
  | _ => ("MidiDesk$Event", "size", "I", false)
def t_Event : Nat → FieldType := fun k => match k with
  | 0 => .int
  | 1 => .int
  | 2 => .int
  | 3 => .int
  | 4 => .int
  | 5 => .int
  | _ => .int
theorem n_Event : ∀ a, a < 7 → ∀ b, b < 7 → a ≠ b → (F_Event a).2.1 ≠ (F_Event b).2.1 := by decide +kernel
theorem t_Event_ok : ∀ k, k < 7 → parseFieldDescriptor (F_Event k).2.2.1 = some (t_Event k) := by decide +kernel
def R_Parser : String := "MidiDesk$Parser"
def F_Parser : u_T := fun k => match k with
  | 0 => ("MidiDesk$Parser", "input", "LMidiDesk$Bytes;", true)
  | 1 => ("MidiDesk$Parser", "score", "LMidiDesk$Score;", true)
  | 2 => ("MidiDesk$Parser", "pos", "I", false)
  | 3 => ("MidiDesk$Parser", "end", "I", false)
  | 4 => ("MidiDesk$Parser", "fault", "I", false)
  | 5 => ("MidiDesk$Parser", "tracksSeen", "I", false)
  | 6 => ("MidiDesk$Parser", "tick", "I", false)
  | 7 => ("MidiDesk$Parser", "running", "I", false)
  | 8 => ("MidiDesk$Parser", "ended", "Z", false)
  | 9 => ("MidiDesk$Parser", "first", "I", false)
  | 10 => ("MidiDesk$Parser", "second", "I", false)
  | 11 => ("MidiDesk$Parser", "start", "I", false)
  | _ => ("MidiDesk$Parser", "size", "I", false)
def t_Parser : Nat → FieldType := fun k => match k with
  | 0 => .object "MidiDesk$Bytes"
  | 1 => .object "MidiDesk$Score"
  | 2 => .int
  | 3 => .int
  | 4 => .int
  | 5 => .int
  | 6 => .int
  | 7 => .int
  | 8 => .boolean
  | 9 => .int
  | 10 => .int
  | 11 => .int
  | _ => .int
theorem n_Parser : ∀ a, a < 13 → ∀ b, b < 13 → a ≠ b → (F_Parser a).2.1 ≠ (F_Parser b).2.1 := by decide +kernel
theorem t_Parser_ok : ∀ k, k < 13 → parseFieldDescriptor (F_Parser k).2.2.1 = some (t_Parser k) := by decide +kernel
def R_Printer : String := "MidiDesk$Printer"
def F_Printer : u_T := fun k => match k with
  | 0 => ("MidiDesk$Printer", "score", "LMidiDesk$Score;", true)
  | 1 => ("MidiDesk$Printer", "output", "LMidiDesk$Bytes;", true)
  | 2 => ("MidiDesk$Printer", "brief", "Z", true)
  | 3 => ("MidiDesk$Printer", "tick", "I", false)
  | _ => ("MidiDesk$Printer", "running", "I", false)
def t_Printer : Nat → FieldType := fun k => match k with
  | 0 => .object "MidiDesk$Score"
  | 1 => .object "MidiDesk$Bytes"
  | 2 => .boolean
  | 3 => .int
  | _ => .int
theorem n_Printer : ∀ a, a < 5 → ∀ b, b < 5 → a ≠ b → (F_Printer a).2.1 ≠ (F_Printer b).2.1 := by decide +kernel
theorem t_Printer_ok : ∀ k, k < 5 → parseFieldDescriptor (F_Printer k).2.2.1 = some (t_Printer k) := by decide +kernel
def R_Score : String := "MidiDesk$Score"
def F_Score : u_T := fun k => match k with
  | 0 => ("MidiDesk$Score", "data", "LMidiDesk$Bytes;", true)
  | 1 => ("MidiDesk$Score", "present", "Z", false)
  | 2 => ("MidiDesk$Score", "format", "I", false)
  | 3 => ("MidiDesk$Score", "tracks", "I", false)
  | 4 => ("MidiDesk$Score", "division", "I", false)
  | 5 => ("MidiDesk$Score", "row", "[LMidiDesk$Event;", false)
  | 6 => ("MidiDesk$Score", "spare", "[LMidiDesk$Event;", false)
  | _ => ("MidiDesk$Score", "size", "I", false)
def t_Score : Nat → FieldType := fun k => match k with
  | 0 => .object "MidiDesk$Bytes"
  | 1 => .boolean
  | 2 => .int
  | 3 => .int
  | 4 => .int
  | 5 => .array (.object "MidiDesk$Event")
  | 6 => .array (.object "MidiDesk$Event")
  | _ => .int
theorem n_Score : ∀ a, a < 8 → ∀ b, b < 8 → a ≠ b → (F_Score a).2.1 ≠ (F_Score b).2.1 := by decide +kernel
theorem t_Score_ok : ∀ k, k < 8 → parseFieldDescriptor (F_Score k).2.2.1 = some (t_Score k) := by decide +kernel
def R_Desk : String := "MidiDesk"
def F_Desk : u_T := fun k => match k with
  | 0 => ("MidiDesk", "input", "LMidiDesk$Bytes;", true)
  | 1 => ("MidiDesk", "output", "LMidiDesk$Bytes;", true)
  | _ => ("MidiDesk", "score", "LMidiDesk$Score;", true)
def t_Desk : Nat → FieldType := fun k => match k with
  | 0 => .object "MidiDesk$Bytes"
  | 1 => .object "MidiDesk$Bytes"
  | _ => .object "MidiDesk$Score"
theorem n_Desk : ∀ a, a < 3 → ∀ b, b < 3 → a ≠ b → (F_Desk a).2.1 ≠ (F_Desk b).2.1 := by decide +kernel
theorem t_Desk_ok : ∀ k, k < 3 → parseFieldDescriptor (F_Desk k).2.2.1 = some (t_Desk k) := by decide +kernel
def R_Model : String := "MidiDeskModel"
def F_Model : u_T := fun k => match k with
  | 0 => ("MidiDeskModel", "thrown", "I", false)
  | 1 => ("MidiDeskModel", "input", "[I", true)
  | 2 => ("MidiDeskModel", "size", "I", false)
  | 3 => ("MidiDeskModel", "at", "I", false)
  | 4 => ("MidiDeskModel", "end", "I", false)
  | 5 => ("MidiDeskModel", "fault", "I", false)
  | 6 => ("MidiDeskModel", "place", "I", false)
  | 7 => ("MidiDeskModel", "there", "Z", false)
  | 8 => ("MidiDeskModel", "format", "I", false)
  | 9 => ("MidiDeskModel", "tracks", "I", false)
  | 10 => ("MidiDeskModel", "division", "I", false)
  | 11 => ("MidiDeskModel", "events", "I", false)
  | 12 => ("MidiDeskModel", "many", "I", false)
  | 13 => ("MidiDeskModel", "ticks", "[I", true)
  | 14 => ("MidiDeskModel", "trackOf", "[I", true)
  | 15 => ("MidiDeskModel", "status", "[I", true)
  | 16 => ("MidiDeskModel", "first", "[I", true)
  | 17 => ("MidiDeskModel", "second", "[I", true)
  | 18 => ("MidiDeskModel", "from", "[I", true)
  | 19 => ("MidiDeskModel", "counts", "[I", true)
  | 20 => ("MidiDeskModel", "order", "[I", true)
  | 21 => ("MidiDeskModel", "spare", "[I", true)
  | 22 => ("MidiDeskModel", "bytes", "[I", true)
  | 23 => ("MidiDeskModel", "written", "[I", true)
  | _ => ("MidiDeskModel", "writtenSize", "I", false)
def t_Model : Nat → FieldType := fun k => match k with
  | 0 => .int
  | 1 => .array .int
  | 2 => .int
  | 3 => .int
  | 4 => .int
  | 5 => .int
  | 6 => .int
  | 7 => .boolean
  | 8 => .int
  | 9 => .int
  | 10 => .int
  | 11 => .int
  | 12 => .int
  | 13 => .array .int
  | 14 => .array .int
  | 15 => .array .int
  | 16 => .array .int
  | 17 => .array .int
  | 18 => .array .int
  | 19 => .array .int
  | 20 => .array .int
  | 21 => .array .int
  | 22 => .array .int
  | 23 => .array .int
  | _ => .int
theorem n_Model : ∀ a, a < 25 → ∀ b, b < 25 → a ≠ b → (F_Model a).2.1 ≠ (F_Model b).2.1 := by decide +kernel
theorem t_Model_ok : ∀ k, k < 25 → parseFieldDescriptor (F_Model k).2.2.1 = some (t_Model k) := by decide +kernel
abbrev classes : List vw_C := [(R_Bytes, F_Bytes, 3), (R_Event, F_Event, 7), (R_Parser, F_Parser, 13), (R_Printer, F_Printer, 5), (R_Score, F_Score, 8), (R_Desk, F_Desk, 3), (R_Model, F_Model, 25)]
/-- the classes' numbers and slots, and the numbers of the array classes int[], long[], Event[] -/
abbrev gT : Type := va_G × ClassId × ClassId × ClassId
def kK (g : gT) (U : State) : Prop := va_K g.1 classes [(g.2.1, .int), (g.2.2.1, .long), (g.2.2.2, .object "MidiDesk$Event")] U ∧ ∀ w ∈ nestw, va_Nw w U
theorem kK.moved {g : gT} {s U : State} (hW : s.WarmedH U.vm) (h : kK g s) : kK g U := ⟨va_K.moved hW.alike h.1, fun w hw => nest_warm (List.mem_filter.mp hw).2 hW (h.2 w hw)⟩
theorem kK.same {g : gT} {s U : State} (e : s.vm = U.vm) (h : kK g s) : kK g U := ⟨va_K.moved (by rw [← e]; exact Vm.Alike.refl s.vm) h.1, fun w hw => va_Nw.same (nest_onT (List.mem_filter.mp hw).2) e (h.2 w hw)⟩
section CX
variable {p : Program} {l : Launch} {e : Env} {R : Room} {s : State} {m : MethodId} {args : Array Value} {below : List Frame} {meth : Method} {c : Code} {H : Heap} {locs : List Loc} {cells slots : Nat} {Q : State → Prop}
abbrev mCx (p : Program) (m : MethodId) (c : Code) (cc : ByteArray) (nL : Nat) (s : State) (args : Array Value) (g : gT) (own : String) : Prop := CallFix p m c cc nL s args gw own ∧ kK g s
theorem callW_of {own C : String} {index maxL : Nat} {y : MethodName} {bytes : ByteArray} {ret : Option FieldType} {rm : Room} (n : Nat) (ht : ∀ w ∈ gw, w.before args s = true) (h1 : Cond.methodLink own index y ∈ gw) (h2 : Cond.instanceMethod y ∈ gw) (h3 : Cond.selects C y y ∈ gw) (h4 : Cond.initialized y.cls ∈ gw) (h5 : Cond.code y bytes maxL ret ∈ gw)
    (hd : y.cls ≠ "java/lang/invoke/MethodHandle" ∧ y.cls ≠ "java/lang/invoke/VarHandle" ∧ (parseMethodDescriptor y.desc).map (fun d => d.parameters.length) = some n) (hR : rm.frames + 1 ≤ R.frames ∧ 8 + (maxL + 11) + rm.locals ≤ R.locals) :
    CallW R s args own C index y bytes maxL ret (Cond.code y bytes maxL ret :: gw) rm rm.cells rm.slots n :=
  ⟨callB_of n ht (gw_GI h5) rfl rfl rfl (ht _ h4) (ht _ h1) hd hR, ht _ h2, ht _ h3⟩
theorem callS_of {own : String} {index maxL : Nat} {y : MethodName} {bytes : ByteArray} {ret : Option FieldType} {rm : Room} (n : Nat) (ht : ∀ w ∈ gw, w.before args s = true) (h1 : Cond.methodLink own index y ∈ gw) (h2 : Cond.static y ∈ gw) (h4 : Cond.initialized y.cls ∈ gw) (h5 : Cond.code y bytes maxL ret ∈ gw)
    (hd : y.cls ≠ "java/lang/invoke/MethodHandle" ∧ y.cls ≠ "java/lang/invoke/VarHandle" ∧ (parseMethodDescriptor y.desc).map (fun d => d.parameters.length) = some n) (hR : rm.frames + 1 ≤ R.frames ∧ 8 + (maxL + 11) + rm.locals ≤ R.locals) :
    CallB R s args own index y bytes maxL ret (Cond.code y bytes maxL ret :: gw) rm rm.cells rm.slots n ∧ (Cond.static y).before args s = true :=
  ⟨callB_of n ht (gw_GI h5) rfl rfl rfl (ht _ h4) (ht _ h1) hd hR, ht _ h2⟩
variable {pc : Nat} {ls : Array Slot} {rest st0 : List Value} {A0 A1 : Nat → Prop} {H0 : Heap} {mc ms : Nat} {free : Addr → Prop}
theorem x_call {rv : Option Value} {B : Heap → Prop} (hr : va_Run p l e R s m args below meth c H locs cells slots mc ms (F0 m pc ls st0) rest (fun st oc t => (oc = .returned rv ∧ B t.heap) ∧ va_F A1 st t) free) (hS : va_S A0 H0 H locs) (hA : ∀ q, q < H.size → A1 q → A0 q) (hf : ∀ q, free q → A0 q)
    (kk : ∀ (H1 : Heap) (locs1 : List Loc), B H1 → va_S A0 H0 H1 locs1 → W p l e R s m args below meth c H1 locs1 (cells + mc) (slots + ms) Q (F0 m (pc + 3) ls (rv.toList ++ rest))) : W p l e R s m args below meth c H locs cells slots Q (F0 m pc ls st0) := by
  intro T hT X
  obtain ⟨v, st₀, t, T', L, h0, X', hL, e1, e2, ⟨⟨hv, hb⟩, hz, hk⟩, st⟩ := hr T hT X
  cases hv
  rw [h0] at hz hk
  obtain ⟨t2, a1, b1⟩ := kk T'.heap (locs ++ L) (by rw [e1]; exact hb)
    ⟨Nat.le_trans hS.1 (by rw [e1]; exact hz), fun q h1 h2 => by rw [e1, hk q (Nat.lt_of_lt_of_le h1 hS.1) (fun z => h2 (hA q (Nat.lt_of_lt_of_le h1 hS.1) z))]; exact hS.2.1 q h1 h2, fun q hq => by
      rcases List.mem_append.mp hq with h | h
      · exact hS.2.2 q h
      · exact hf _ (hL q h)⟩ T' rfl X'
  exact ⟨t2, st t2 a1, b1⟩
end CX
end
section
/-- the reference's cells: iv its int fields (0 thrown, 1 size, 2 at, 3 end, 4 fault, 5 place, 6 there, 7 format, 8 tracks, 9 division, 10 events, 11 many, 12 writtenSize), av its arrays (0 input, 1 ticks, 2 trackOf, 3 status, 4 first, 5 second, 6 from, 7 counts, 8 order, 9 spare, 10 bytes, 11 written) -/
def mfs (ad : Nat → Nat) (iv : Nat → Int32) : List Value := [.int (iv 0), .ref (ad 0), .int (iv 1), .int (iv 2), .int (iv 3), .int (iv 4), .int (iv 5), .int (iv 6), .int (iv 7), .int (iv 8), .int (iv 9), .int (iv 10), .int (iv 11), .ref (ad 1), .ref (ad 2), .ref (ad 3), .ref (ad 4), .ref (ad 5), .ref (ad 6), .ref (ad 7), .ref (ad 8), .ref (ad 9), .ref (ad 10), .ref (ad 11), .int (iv 12)]
def mw (g : gT) (q : Nat) (ad : Nat → Nat) (iv : Nat → Int32) (av : Nat → Nat → Int32) (X : va_W) : va_W := (q, .inr (6, mfs ad iv)) :: (ad 0, .inl (g.2.1, 12000, .inl (av 0))) :: (ad 1, .inl (g.2.1, 1001, .inl (av 1))) :: (ad 2, .inl (g.2.1, 1001, .inl (av 2))) :: (ad 3, .inl (g.2.1, 1001, .inl (av 3))) :: (ad 4, .inl (g.2.1, 1001, .inl (av 4))) :: (ad 5, .inl (g.2.1, 1001, .inl (av 5))) :: (ad 6, .inl (g.2.1, 1001, .inl (av 6))) :: (ad 7, .inl (g.2.1, 1001, .inl (av 7))) :: (ad 8, .inl (g.2.1, 1001, .inl (av 8))) :: (ad 9, .inl (g.2.1, 1001, .inl (av 9))) :: (ad 10, .inl (g.2.1, 20100, .inl (av 10))) :: (ad 11, .inl (g.2.1, 32768, .inl (av 11))) :: X
def mWd (g : gT) (A : Nat → Prop) (H0 : Heap) (q : Nat) (ad : Nat → Nat) (X : va_W) (iv : Nat → Int32) (av : Nat → Nat → Int32) (H : Heap) (locs : List Loc) : Prop := va_P g.1 classes (mw g q ad iv av X) H ∧ va_D A (mw g q ad iv av X) ∧ va_S A H0 H locs ∧ ∀ z, H0.size ≤ z → A z
theorem mw_map {g : gT} {q : Nat} {ad : Nat → Nat} {iv iv' : Nat → Int32} {av av' : Nat → Nat → Int32} {X : va_W} : (mw g q ad iv av X).map Prod.fst = (mw g q ad iv' av' X).map Prod.fst := rfl
abbrev mA (g : gT) (q : Nat) (ad : Nat → Nat) (X : va_W) (sz : Nat) : Nat → Prop := va_A (mw g q ad (fun _ => 0) (fun _ _ => 0) X) sz
def mPc (g : gT) (q : Nat) (ad : Nat → Nat) (X : va_W) (iv : Nat → Int32) (av : Nat → Nat → Int32) (vs : List Value) (sz : Nat) : Array Value → State → Prop := va_Pc vs (fun U => U.heap.size = sz ∧ kK g U ∧ va_P g.1 classes (mw g q ad iv av X) U.heap ∧ va_D (fun _ => True) (mw g q ad iv av X))
def mQc (g : gT) (q : Nat) (ad : Nat → Nat) (X : va_W) (rv : Option Value) (iv : Nat → Int32) (av : Nat → Nat → Int32) (sz : Nat) : Array Value → State → Outcome → State → Prop := fun _ st oc t => (oc = .returned rv ∧ va_P g.1 classes (mw g q ad iv av X) t.heap) ∧ va_F (mA g q ad X sz) st t
/-- a method's contract: from the reference's cells iv, av with the arguments vs it returns rv, and the cells are iv', av' -/
def mMet (l : Launch) (y : MethodName) (cc : ByteArray) (maxL : Nat) (ret : Option FieldType) (rm : Room) (g : gT) (q : Nat) (ad : Nat → Nat) (X : va_W) (iv : Nat → Int32) (av : Nat → Nat → Int32) (vs : List Value) (rv : Option Value) (iv' : Nat → Int32) (av' : Nat → Nat → Int32) : Prop :=
  ∀ sz : Nat, Met l y (.code y cc maxL ret :: gw) rm (mPc g q ad X iv av vs sz) (mQc g q ad X rv iv' av' sz) rm.cells rm.slots (mA g q ad X sz)
theorem mPc_blind {g : gT} {q : Nat} {ad : Nat → Nat} {X : va_W} {iv : Nat → Int32} {av : Nat → Nat → Int32} {vs : List Value} {sz : Nat} : FrameBlind (mPc g q ad X iv av vs sz) := fun a U gf mk h => ⟨h.1, h.2.1, kK.same (s := U) (U := U.calling gf mk a) rfl h.2.2.1, h.2.2.2.1, h.2.2.2.2⟩
/-- what the end of a walk must come to -/
abbrev mG (p : Program) (l : Launch) (e : Env) (R : Room) (s : State) (m : MethodId) (args : Array Value) (below : List Frame) (meth : Method) (c : Code) (g : gT) (q : Nat) (ad : Nat → Nat) (X : va_W) (rv : Option Value) (iv' : Nat → Int32) (av' : Nat → Nat → Int32) (H : Heap) (locs : List Loc) (cells slots : Nat) (f : JFrame) : Prop :=
  W p l e R s m args below meth c H locs cells slots (MQ below (mQc g q ad X rv iv' av' s.heap.size) args s R.cells R.slots (mA g q ad X s.heap.size)) f
theorem m_entry {l : Launch} {y : MethodName} {cc : ByteArray} {maxL : Nat} {ret : Option FieldType} {rm : Room} {g : gT} {q : Nat} {ad : Nat → Nat} {X : va_W} {iv iv' : Nat → Int32} {av av' : Nat → Nat → Int32} {vs : List Value} {rv : Option Value} (hy : plainName y.cls = true) (hn : (lg_sl vs).length ≤ maxL)
    (body : ∀ (p : Program) (e : Env) (s : State) (m : MethodId) (args : Array Value) (below : List Frame) (meth : Method) (c : Code) (ls : Array Slot), mCx p m c cc maxL s args g y.cls → meth.sig.returnType = ret → meth.locks = false → meth.name = y.name → lv_has ls maxL (lv_args 0 vs) → mWd g (mA g q ad X s.heap.size) s.heap q ad X iv av s.heap [] → mG p l e rm s m args below meth c g q ad X rv iv' av' s.heap [] 0 0 (F0 m 0 ls [])) :
    mMet l y cc maxL ret rm g q ad X iv av vs rv iv' av' := by
  intro sz
  refine Met.ofW (cc := cc) (maxL := maxL) (ret := ret) hy rfl ?_
  intro p e s m args below meth c s₁ B hml hv
  obtain ⟨rfl, hsz, hK, hP, hD0⟩ := hv
  subst hsz
  have hts := atoms_spec (ws := Cond.code y cc maxL ret :: gw) B.pre
  have hown : s.vm.findClass y.cls = some m.cls := findClass_of_methodNamed B.named
  have hl := lv_entry vs (n := maxL) hn
  rw [lg_entry_eq]
  exact body p e s m vs.toArray below meth c _ ⟨⟨B.exec, B.bytes, hml, hown, fun w hw => hts w (List.mem_cons_of_mem _ hw)⟩, hK⟩ B.returns B.notSynchronized (name_of_methodNamed B.named B.method).1 hl ⟨hP, va_D_map mw_map (hD0.self (sz := s.heap.size)) |> (fun h => by rw [show mA g q ad X s.heap.size = va_A (mw g q ad iv av X) s.heap.size from va_A_map mw_map]; exact h), va_S.rf, fun z hz => Or.inr hz⟩

theorem gw_715 : (Jvm.Cond.fieldLink "MidiDeskModel" (47 : Nat) "MidiDeskModel" "thrown" "I") ∈ gw := gw_in 715 (by decide +kernel) (by decide +kernel)
theorem gw_716 : (Jvm.Cond.fieldLink "MidiDeskModel" (7 : Nat) "MidiDeskModel" "input" "[I") ∈ gw := gw_in 716 (by decide +kernel) (by decide +kernel)
theorem gw_717 : (Jvm.Cond.fieldLink "MidiDeskModel" (51 : Nat) "MidiDeskModel" "size" "I") ∈ gw := gw_in 717 (by decide +kernel) (by decide +kernel)
theorem gw_718 : (Jvm.Cond.fieldLink "MidiDeskModel" (62 : Nat) "MidiDeskModel" "at" "I") ∈ gw := gw_in 718 (by decide +kernel) (by decide +kernel)
theorem gw_719 : (Jvm.Cond.fieldLink "MidiDeskModel" (65 : Nat) "MidiDeskModel" "end" "I") ∈ gw := gw_in 719 (by decide +kernel) (by decide +kernel)
theorem gw_720 : (Jvm.Cond.fieldLink "MidiDeskModel" (56 : Nat) "MidiDeskModel" "fault" "I") ∈ gw := gw_in 720 (by decide +kernel) (by decide +kernel)
theorem gw_721 : (Jvm.Cond.fieldLink "MidiDeskModel" (59 : Nat) "MidiDeskModel" "place" "I") ∈ gw := gw_in 721 (by decide +kernel) (by decide +kernel)
theorem gw_722 : (Jvm.Cond.fieldLink "MidiDeskModel" (110 : Nat) "MidiDeskModel" "there" "Z") ∈ gw := gw_in 722 (by decide +kernel) (by decide +kernel)
theorem gw_723 : (Jvm.Cond.fieldLink "MidiDeskModel" (82 : Nat) "MidiDeskModel" "format" "I") ∈ gw := gw_in 723 (by decide +kernel) (by decide +kernel)
theorem gw_724 : (Jvm.Cond.fieldLink "MidiDeskModel" (85 : Nat) "MidiDeskModel" "tracks" "I") ∈ gw := gw_in 724 (by decide +kernel) (by decide +kernel)
theorem gw_725 : (Jvm.Cond.fieldLink "MidiDeskModel" (88 : Nat) "MidiDeskModel" "division" "I") ∈ gw := gw_in 725 (by decide +kernel) (by decide +kernel)
theorem gw_726 : (Jvm.Cond.fieldLink "MidiDeskModel" (95 : Nat) "MidiDeskModel" "events" "I") ∈ gw := gw_in 726 (by decide +kernel) (by decide +kernel)
theorem gw_727 : (Jvm.Cond.fieldLink "MidiDeskModel" (98 : Nat) "MidiDeskModel" "many" "I") ∈ gw := gw_in 727 (by decide +kernel) (by decide +kernel)
theorem gw_728 : (Jvm.Cond.fieldLink "MidiDeskModel" (13 : Nat) "MidiDeskModel" "ticks" "[I") ∈ gw := gw_in 728 (by decide +kernel) (by decide +kernel)
theorem gw_729 : (Jvm.Cond.fieldLink "MidiDeskModel" (16 : Nat) "MidiDeskModel" "trackOf" "[I") ∈ gw := gw_in 729 (by decide +kernel) (by decide +kernel)
theorem gw_730 : (Jvm.Cond.fieldLink "MidiDeskModel" (19 : Nat) "MidiDeskModel" "status" "[I") ∈ gw := gw_in 730 (by decide +kernel) (by decide +kernel)
theorem gw_731 : (Jvm.Cond.fieldLink "MidiDeskModel" (22 : Nat) "MidiDeskModel" "first" "[I") ∈ gw := gw_in 731 (by decide +kernel) (by decide +kernel)
theorem gw_732 : (Jvm.Cond.fieldLink "MidiDeskModel" (25 : Nat) "MidiDeskModel" "second" "[I") ∈ gw := gw_in 732 (by decide +kernel) (by decide +kernel)
theorem gw_733 : (Jvm.Cond.fieldLink "MidiDeskModel" (28 : Nat) "MidiDeskModel" "from" "[I") ∈ gw := gw_in 733 (by decide +kernel) (by decide +kernel)
theorem gw_734 : (Jvm.Cond.fieldLink "MidiDeskModel" (31 : Nat) "MidiDeskModel" "counts" "[I") ∈ gw := gw_in 734 (by decide +kernel) (by decide +kernel)
theorem gw_735 : (Jvm.Cond.fieldLink "MidiDeskModel" (34 : Nat) "MidiDeskModel" "order" "[I") ∈ gw := gw_in 735 (by decide +kernel) (by decide +kernel)
theorem gw_736 : (Jvm.Cond.fieldLink "MidiDeskModel" (37 : Nat) "MidiDeskModel" "spare" "[I") ∈ gw := gw_in 736 (by decide +kernel) (by decide +kernel)
theorem gw_737 : (Jvm.Cond.fieldLink "MidiDeskModel" (40 : Nat) "MidiDeskModel" "bytes" "[I") ∈ gw := gw_in 737 (by decide +kernel) (by decide +kernel)
theorem gw_738 : (Jvm.Cond.fieldLink "MidiDeskModel" (44 : Nat) "MidiDeskModel" "written" "[I") ∈ gw := gw_in 738 (by decide +kernel) (by decide +kernel)
theorem gw_739 : (Jvm.Cond.fieldLink "MidiDeskModel" (187 : Nat) "MidiDeskModel" "writtenSize" "I") ∈ gw := gw_in 739 (by decide +kernel) (by decide +kernel)
theorem gw_740 : (Jvm.Cond.lays "MidiDeskModel" "MidiDeskModel" "thrown" "I") ∈ gw := gw_in 740 (by decide +kernel) (by decide +kernel)
theorem gw_742 : (Jvm.Cond.laysFinal "MidiDeskModel" "MidiDeskModel" "input" "[I") ∈ gw := gw_in 742 (by decide +kernel) (by decide +kernel)
theorem gw_744 : (Jvm.Cond.lays "MidiDeskModel" "MidiDeskModel" "size" "I") ∈ gw := gw_in 744 (by decide +kernel) (by decide +kernel)
theorem gw_746 : (Jvm.Cond.lays "MidiDeskModel" "MidiDeskModel" "at" "I") ∈ gw := gw_in 746 (by decide +kernel) (by decide +kernel)
theorem gw_748 : (Jvm.Cond.lays "MidiDeskModel" "MidiDeskModel" "end" "I") ∈ gw := gw_in 748 (by decide +kernel) (by decide +kernel)
theorem gw_750 : (Jvm.Cond.lays "MidiDeskModel" "MidiDeskModel" "fault" "I") ∈ gw := gw_in 750 (by decide +kernel) (by decide +kernel)
theorem gw_752 : (Jvm.Cond.lays "MidiDeskModel" "MidiDeskModel" "place" "I") ∈ gw := gw_in 752 (by decide +kernel) (by decide +kernel)
theorem gw_754 : (Jvm.Cond.lays "MidiDeskModel" "MidiDeskModel" "there" "Z") ∈ gw := gw_in 754 (by decide +kernel) (by decide +kernel)
theorem gw_756 : (Jvm.Cond.lays "MidiDeskModel" "MidiDeskModel" "format" "I") ∈ gw := gw_in 756 (by decide +kernel) (by decide +kernel)
theorem gw_758 : (Jvm.Cond.lays "MidiDeskModel" "MidiDeskModel" "tracks" "I") ∈ gw := gw_in 758 (by decide +kernel) (by decide +kernel)
theorem gw_760 : (Jvm.Cond.lays "MidiDeskModel" "MidiDeskModel" "division" "I") ∈ gw := gw_in 760 (by decide +kernel) (by decide +kernel)
theorem gw_762 : (Jvm.Cond.lays "MidiDeskModel" "MidiDeskModel" "events" "I") ∈ gw := gw_in 762 (by decide +kernel) (by decide +kernel)
theorem gw_764 : (Jvm.Cond.lays "MidiDeskModel" "MidiDeskModel" "many" "I") ∈ gw := gw_in 764 (by decide +kernel) (by decide +kernel)
theorem gw_766 : (Jvm.Cond.laysFinal "MidiDeskModel" "MidiDeskModel" "ticks" "[I") ∈ gw := gw_in 766 (by decide +kernel) (by decide +kernel)
theorem gw_768 : (Jvm.Cond.laysFinal "MidiDeskModel" "MidiDeskModel" "trackOf" "[I") ∈ gw := gw_in 768 (by decide +kernel) (by decide +kernel)
theorem gw_770 : (Jvm.Cond.laysFinal "MidiDeskModel" "MidiDeskModel" "status" "[I") ∈ gw := gw_in 770 (by decide +kernel) (by decide +kernel)
theorem gw_772 : (Jvm.Cond.laysFinal "MidiDeskModel" "MidiDeskModel" "first" "[I") ∈ gw := gw_in 772 (by decide +kernel) (by decide +kernel)
theorem gw_774 : (Jvm.Cond.laysFinal "MidiDeskModel" "MidiDeskModel" "second" "[I") ∈ gw := gw_in 774 (by decide +kernel) (by decide +kernel)
theorem gw_776 : (Jvm.Cond.laysFinal "MidiDeskModel" "MidiDeskModel" "from" "[I") ∈ gw := gw_in 776 (by decide +kernel) (by decide +kernel)
theorem gw_778 : (Jvm.Cond.laysFinal "MidiDeskModel" "MidiDeskModel" "counts" "[I") ∈ gw := gw_in 778 (by decide +kernel) (by decide +kernel)
theorem gw_780 : (Jvm.Cond.laysFinal "MidiDeskModel" "MidiDeskModel" "order" "[I") ∈ gw := gw_in 780 (by decide +kernel) (by decide +kernel)
theorem gw_782 : (Jvm.Cond.laysFinal "MidiDeskModel" "MidiDeskModel" "spare" "[I") ∈ gw := gw_in 782 (by decide +kernel) (by decide +kernel)
theorem gw_784 : (Jvm.Cond.laysFinal "MidiDeskModel" "MidiDeskModel" "bytes" "[I") ∈ gw := gw_in 784 (by decide +kernel) (by decide +kernel)
theorem gw_786 : (Jvm.Cond.laysFinal "MidiDeskModel" "MidiDeskModel" "written" "[I") ∈ gw := gw_in 786 (by decide +kernel) (by decide +kernel)
theorem gw_788 : (Jvm.Cond.lays "MidiDeskModel" "MidiDeskModel" "writtenSize" "I") ∈ gw := gw_in 788 (by decide +kernel) (by decide +kernel)
theorem i_Model : ∀ w ∈ u_ws R_Model F_Model 25, w ∈ gw := List.forall_mem_cons.mpr ⟨gw_740, List.forall_mem_cons.mpr ⟨gw_742, List.forall_mem_cons.mpr ⟨gw_744, List.forall_mem_cons.mpr ⟨gw_746, List.forall_mem_cons.mpr ⟨gw_748, List.forall_mem_cons.mpr ⟨gw_750, List.forall_mem_cons.mpr ⟨gw_752, List.forall_mem_cons.mpr ⟨gw_754, List.forall_mem_cons.mpr ⟨gw_756, List.forall_mem_cons.mpr ⟨gw_758, List.forall_mem_cons.mpr ⟨gw_760, List.forall_mem_cons.mpr ⟨gw_762, List.forall_mem_cons.mpr ⟨gw_764, List.forall_mem_cons.mpr ⟨gw_766, List.forall_mem_cons.mpr ⟨gw_768, List.forall_mem_cons.mpr ⟨gw_770, List.forall_mem_cons.mpr ⟨gw_772, List.forall_mem_cons.mpr ⟨gw_774, List.forall_mem_cons.mpr ⟨gw_776, List.forall_mem_cons.mpr ⟨gw_778, List.forall_mem_cons.mpr ⟨gw_780, List.forall_mem_cons.mpr ⟨gw_782, List.forall_mem_cons.mpr ⟨gw_784, List.forall_mem_cons.mpr ⟨gw_786, List.forall_mem_cons.mpr ⟨gw_788, fun _ h => absurd h List.not_mem_nil⟩⟩⟩⟩⟩⟩⟩⟩⟩⟩⟩⟩⟩⟩⟩⟩⟩⟩⟩⟩⟩⟩⟩⟩⟩
section MR
variable {p : Program} {l : Launch} {e : Env} {R : Room} {s : State} {m : MethodId} {args : Array Value} {below : List Frame} {meth : Method} {c : Code} {H : Heap} {locs : List Loc} {cells slots : Nat} {Q : State → Prop} {cc : ByteArray} {nL pc : Nat} {ls : Array Slot} {rest : List Value} {g : gT} {A : Nat → Prop} {H0 : Heap} {q : Nat} {ad : Nat → Nat} {X : va_W} {iv : Nat → Int32} {av : Nat → Nat → Int32}
theorem m_free {sz : Nat} (hw : mWd g A H0 q ad X iv av H locs) (hs : H.size = sz) : ∀ z, mA g q ad X sz z → A z := by
  subst hs
  intro z hz
  rcases hz with ⟨k, x, h⟩ | h
  · have e : (mw g q ad (fun _ => 0) (fun _ _ => 0) X).map Prod.fst = (mw g q ad iv av X).map Prod.fst := mw_map
    have h1 : ((mw g q ad iv av X).map Prod.fst)[k]? = some z := by rw [← e, List.getElem?_map, h]; rfl
    rw [List.getElem?_map] at h1
    cases hq : (mw g q ad iv av X)[k]? with
    | none => rw [hq] at h1; cases h1
    | some q0 =>
      rw [hq] at h1
      have := hw.2.1.2 k q0 hq
      rw [Option.some.inj h1] at this
      exact this
  · exact hw.2.2.2 z (Nat.le_trans hw.2.2.1.1 h)
theorem m_pre {vs : List Value} (hk : kK g s) (hw : mWd g A H0 q ad X iv av H locs) : ∀ U : State, U.heap = H → s.WarmedH U.vm → mPc g q ad X iv av vs H.size vs.toArray U := fun U hU hW => ⟨rfl, by rw [hU], kK.moved hW hk, by rw [hU]; exact hw.1, hw.2.1.weaken (fun _ _ _ _ => trivial)⟩
theorem m_recv (hk : kK g s) (hw : mWd g A H0 q ad X iv av H locs) : ∃ cellB : Cell, H[q]? = some cellB ∧ cellB.vm.isStatics = false ∧ s.vm.findClass "MidiDeskModel" = some cellB.cls := va_recv (ci := 6) (q0 := 0) hk.1 hw.1 rfl rfl
/-- a call of one of the reference's own methods -/
theorem m_callV {y : MethodName} {bytes : ByteArray} {maxL index n : Nat} {ret : Option FieldType} {rm : Room} {As : List Value} {rv : Option Value} {iv' : Nat → Int32} {av' : Nat → Nat → Int32} {st0 : List Value} (C : mCx p m c cc nL s args g "MidiDeskModel") (hl : ls.size = nL) (hw : mWd g A H0 q ad X iv av H locs)
    (hM : mMet l y bytes maxL ret rm g q ad X iv av (.ref q :: As) rv iv' av') (cw : CallW R s args "MidiDeskModel" "MidiDeskModel" index y bytes maxL ret (Cond.code y bytes maxL ret :: gw) rm rm.cells rm.slots n)
    (hn : As.length = n) (hst : st0 = As.reverse ++ .ref q :: rest) (hr : (rest.map fun v => v.category).sum ≤ 8) (hdg : decode cc pc = .ok (.invokevirtual index, 3)) (hf : cells + rm.cells ≤ R.cells ∧ slots + rm.slots ≤ R.slots)
    (kk : ∀ (H1 : Heap) (locs1 : List Loc), mWd g A H0 q ad X iv' av' H1 locs1 → W p l e R s m args below meth c H1 locs1 (cells + rm.cells) (slots + rm.slots) Q (F0 m (pc + 3) ls (rv.toList ++ rest))) : W p l e R s m args below meth c H locs cells slots Q (F0 m pc ls st0) := by
  refine x_call (B := fun h => va_P g.1 classes (mw g q ad iv' av' X) h) (rv := rv) (va_runV (As := As) (rest := rest) C.1 (hM H.size) cw ⟨mPc_blind, m_recv C.2 hw, m_pre C.2 hw⟩ rfl hn hl hst (lv_room hr) hdg hf) hw.2.2.1 (fun z _ h => m_free hw rfl z h) (m_free hw rfl) (fun H1 locs1 hB hS => kk H1 locs1 ⟨hB, va_D_map mw_map hw.2.1, hS, hw.2.2.2⟩)
theorem m_callS {y : MethodName} {bytes : ByteArray} {maxL index n : Nat} {ret : Option FieldType} {rm : Room} {As : List Value} {rv : Option Value} {iv' : Nat → Int32} {av' : Nat → Nat → Int32} {st0 : List Value} (C : mCx p m c cc nL s args g "MidiDeskModel") (hl : ls.size = nL) (hw : mWd g A H0 q ad X iv av H locs)
    (hM : mMet l y bytes maxL ret rm g q ad X iv av As rv iv' av') (cw : CallB R s args "MidiDeskModel" index y bytes maxL ret (Cond.code y bytes maxL ret :: gw) rm rm.cells rm.slots n ∧ (Cond.static y).before args s = true)
    (hn : As.length = n) (hst : st0 = As.reverse ++ rest) (hr : (rest.map fun v => v.category).sum ≤ 8) (hdg : decode cc pc = .ok (.invokestatic index, 3)) (hf : cells + rm.cells ≤ R.cells ∧ slots + rm.slots ≤ R.slots)
    (kk : ∀ (H1 : Heap) (locs1 : List Loc), mWd g A H0 q ad X iv' av' H1 locs1 → W p l e R s m args below meth c H1 locs1 (cells + rm.cells) (slots + rm.slots) Q (F0 m (pc + 3) ls (rv.toList ++ rest))) : W p l e R s m args below meth c H locs cells slots Q (F0 m pc ls st0) := by
  refine x_call (B := fun h => va_P g.1 classes (mw g q ad iv' av' X) h) (rv := rv) (va_runS (As := As) (rest := rest) C.1 (hM H.size) cw ⟨mPc_blind, m_pre C.2 hw⟩ rfl hn hl hst (lv_room hr) hdg hf) hw.2.2.1 (fun z _ h => m_free hw rfl z h) (m_free hw rfl) (fun H1 locs1 hB hS => kk H1 locs1 ⟨hB, va_D_map mw_map hw.2.1, hS, hw.2.2.2⟩)

theorem mg_thrown (C : mCx p m c cc nL s args g "MidiDeskModel") (hw : mWd g A H0 q ad X iv av H locs) (hdg : decode cc pc = .ok (.getfield 47, 3)) (kk : W p l e R s m args below meth c H locs cells slots Q (F0 m (pc + 3) ls (.int (iv 0) :: rest))) : W p l e R s m args below meth c H locs cells slots Q (F0 m pc ls (.ref q :: rest)) :=
  va_get (ci := 6) (C := R_Model) (T := F_Model) (N := 25) C.1.1 C.1.2.1 C.1.2.2.2.2 i_Model C.1.2.2.2.1 C.2.1 hw.1 0 rfl rfl 0 (by decide) (C.1.2.2.2.2 _ gw_715) (fun _ h => h) rfl hdg kk
theorem mp_thrown {x : Int32} (C : mCx p m c cc nL s args g "MidiDeskModel") (hw : mWd g A H0 q ad X iv av H locs) (hdg : decode cc pc = .ok (.putfield 47, 3)) (kk : ∀ (H1 : Heap) (locs1 : List Loc), mWd g A H0 q ad X (upd iv 0 x) av H1 locs1 → W p l e R s m args below meth c H1 locs1 cells slots Q (F0 m (pc + 3) ls rest)) : W p l e R s m args below meth c H locs cells slots Q (F0 m pc ls (.int x :: .ref q :: rest)) :=
  va_put (ci := 6) (ty := .int) (v := .int x) (C := R_Model) (T := F_Model) (N := 25) C.1.1 C.1.2.1 C.1.2.2.2.2 i_Model t_Model t_Model_ok n_Model C.1.2.2.2.1 C.2.1 hw.1 hw.2.1 hw.2.2.1 0 rfl rfl 0 (by decide) (C.1.2.2.2.2 _ gw_715) (fun _ h => h) rfl (by decide +kernel) rfl rfl (Nat.le_of_ble_eq_true rfl) hdg (fun H1 locs1 hP hD hS => kk H1 locs1 ⟨hP, hD, hS, hw.2.2.2⟩)
theorem mg_input (C : mCx p m c cc nL s args g "MidiDeskModel") (hw : mWd g A H0 q ad X iv av H locs) (hdg : decode cc pc = .ok (.getfield 7, 3)) (kk : W p l e R s m args below meth c H locs cells slots Q (F0 m (pc + 3) ls (.ref (ad 0) :: rest))) : W p l e R s m args below meth c H locs cells slots Q (F0 m pc ls (.ref q :: rest)) :=
  va_get (ci := 6) (C := R_Model) (T := F_Model) (N := 25) C.1.1 C.1.2.1 C.1.2.2.2.2 i_Model C.1.2.2.2.1 C.2.1 hw.1 0 rfl rfl 1 (by decide) (C.1.2.2.2.2 _ gw_716) (fun _ h => h) rfl hdg kk
theorem mg_size (C : mCx p m c cc nL s args g "MidiDeskModel") (hw : mWd g A H0 q ad X iv av H locs) (hdg : decode cc pc = .ok (.getfield 51, 3)) (kk : W p l e R s m args below meth c H locs cells slots Q (F0 m (pc + 3) ls (.int (iv 1) :: rest))) : W p l e R s m args below meth c H locs cells slots Q (F0 m pc ls (.ref q :: rest)) :=
  va_get (ci := 6) (C := R_Model) (T := F_Model) (N := 25) C.1.1 C.1.2.1 C.1.2.2.2.2 i_Model C.1.2.2.2.1 C.2.1 hw.1 0 rfl rfl 2 (by decide) (C.1.2.2.2.2 _ gw_717) (fun _ h => h) rfl hdg kk
theorem mp_size {x : Int32} (C : mCx p m c cc nL s args g "MidiDeskModel") (hw : mWd g A H0 q ad X iv av H locs) (hdg : decode cc pc = .ok (.putfield 51, 3)) (kk : ∀ (H1 : Heap) (locs1 : List Loc), mWd g A H0 q ad X (upd iv 1 x) av H1 locs1 → W p l e R s m args below meth c H1 locs1 cells slots Q (F0 m (pc + 3) ls rest)) : W p l e R s m args below meth c H locs cells slots Q (F0 m pc ls (.int x :: .ref q :: rest)) :=
  va_put (ci := 6) (ty := .int) (v := .int x) (C := R_Model) (T := F_Model) (N := 25) C.1.1 C.1.2.1 C.1.2.2.2.2 i_Model t_Model t_Model_ok n_Model C.1.2.2.2.1 C.2.1 hw.1 hw.2.1 hw.2.2.1 0 rfl rfl 2 (by decide) (C.1.2.2.2.2 _ gw_717) (fun _ h => h) rfl (by decide +kernel) rfl rfl (Nat.le_of_ble_eq_true rfl) hdg (fun H1 locs1 hP hD hS => kk H1 locs1 ⟨hP, hD, hS, hw.2.2.2⟩)
theorem mg_at (C : mCx p m c cc nL s args g "MidiDeskModel") (hw : mWd g A H0 q ad X iv av H locs) (hdg : decode cc pc = .ok (.getfield 62, 3)) (kk : W p l e R s m args below meth c H locs cells slots Q (F0 m (pc + 3) ls (.int (iv 2) :: rest))) : W p l e R s m args below meth c H locs cells slots Q (F0 m pc ls (.ref q :: rest)) :=
  va_get (ci := 6) (C := R_Model) (T := F_Model) (N := 25) C.1.1 C.1.2.1 C.1.2.2.2.2 i_Model C.1.2.2.2.1 C.2.1 hw.1 0 rfl rfl 3 (by decide) (C.1.2.2.2.2 _ gw_718) (fun _ h => h) rfl hdg kk
theorem mp_at {x : Int32} (C : mCx p m c cc nL s args g "MidiDeskModel") (hw : mWd g A H0 q ad X iv av H locs) (hdg : decode cc pc = .ok (.putfield 62, 3)) (kk : ∀ (H1 : Heap) (locs1 : List Loc), mWd g A H0 q ad X (upd iv 2 x) av H1 locs1 → W p l e R s m args below meth c H1 locs1 cells slots Q (F0 m (pc + 3) ls rest)) : W p l e R s m args below meth c H locs cells slots Q (F0 m pc ls (.int x :: .ref q :: rest)) :=
  va_put (ci := 6) (ty := .int) (v := .int x) (C := R_Model) (T := F_Model) (N := 25) C.1.1 C.1.2.1 C.1.2.2.2.2 i_Model t_Model t_Model_ok n_Model C.1.2.2.2.1 C.2.1 hw.1 hw.2.1 hw.2.2.1 0 rfl rfl 3 (by decide) (C.1.2.2.2.2 _ gw_718) (fun _ h => h) rfl (by decide +kernel) rfl rfl (Nat.le_of_ble_eq_true rfl) hdg (fun H1 locs1 hP hD hS => kk H1 locs1 ⟨hP, hD, hS, hw.2.2.2⟩)
theorem mg_end (C : mCx p m c cc nL s args g "MidiDeskModel") (hw : mWd g A H0 q ad X iv av H locs) (hdg : decode cc pc = .ok (.getfield 65, 3)) (kk : W p l e R s m args below meth c H locs cells slots Q (F0 m (pc + 3) ls (.int (iv 3) :: rest))) : W p l e R s m args below meth c H locs cells slots Q (F0 m pc ls (.ref q :: rest)) :=
  va_get (ci := 6) (C := R_Model) (T := F_Model) (N := 25) C.1.1 C.1.2.1 C.1.2.2.2.2 i_Model C.1.2.2.2.1 C.2.1 hw.1 0 rfl rfl 4 (by decide) (C.1.2.2.2.2 _ gw_719) (fun _ h => h) rfl hdg kk
theorem mp_end {x : Int32} (C : mCx p m c cc nL s args g "MidiDeskModel") (hw : mWd g A H0 q ad X iv av H locs) (hdg : decode cc pc = .ok (.putfield 65, 3)) (kk : ∀ (H1 : Heap) (locs1 : List Loc), mWd g A H0 q ad X (upd iv 3 x) av H1 locs1 → W p l e R s m args below meth c H1 locs1 cells slots Q (F0 m (pc + 3) ls rest)) : W p l e R s m args below meth c H locs cells slots Q (F0 m pc ls (.int x :: .ref q :: rest)) :=
  va_put (ci := 6) (ty := .int) (v := .int x) (C := R_Model) (T := F_Model) (N := 25) C.1.1 C.1.2.1 C.1.2.2.2.2 i_Model t_Model t_Model_ok n_Model C.1.2.2.2.1 C.2.1 hw.1 hw.2.1 hw.2.2.1 0 rfl rfl 4 (by decide) (C.1.2.2.2.2 _ gw_719) (fun _ h => h) rfl (by decide +kernel) rfl rfl (Nat.le_of_ble_eq_true rfl) hdg (fun H1 locs1 hP hD hS => kk H1 locs1 ⟨hP, hD, hS, hw.2.2.2⟩)
theorem mg_fault (C : mCx p m c cc nL s args g "MidiDeskModel") (hw : mWd g A H0 q ad X iv av H locs) (hdg : decode cc pc = .ok (.getfield 56, 3)) (kk : W p l e R s m args below meth c H locs cells slots Q (F0 m (pc + 3) ls (.int (iv 4) :: rest))) : W p l e R s m args below meth c H locs cells slots Q (F0 m pc ls (.ref q :: rest)) :=
  va_get (ci := 6) (C := R_Model) (T := F_Model) (N := 25) C.1.1 C.1.2.1 C.1.2.2.2.2 i_Model C.1.2.2.2.1 C.2.1 hw.1 0 rfl rfl 5 (by decide) (C.1.2.2.2.2 _ gw_720) (fun _ h => h) rfl hdg kk
theorem mp_fault {x : Int32} (C : mCx p m c cc nL s args g "MidiDeskModel") (hw : mWd g A H0 q ad X iv av H locs) (hdg : decode cc pc = .ok (.putfield 56, 3)) (kk : ∀ (H1 : Heap) (locs1 : List Loc), mWd g A H0 q ad X (upd iv 4 x) av H1 locs1 → W p l e R s m args below meth c H1 locs1 cells slots Q (F0 m (pc + 3) ls rest)) : W p l e R s m args below meth c H locs cells slots Q (F0 m pc ls (.int x :: .ref q :: rest)) :=
  va_put (ci := 6) (ty := .int) (v := .int x) (C := R_Model) (T := F_Model) (N := 25) C.1.1 C.1.2.1 C.1.2.2.2.2 i_Model t_Model t_Model_ok n_Model C.1.2.2.2.1 C.2.1 hw.1 hw.2.1 hw.2.2.1 0 rfl rfl 5 (by decide) (C.1.2.2.2.2 _ gw_720) (fun _ h => h) rfl (by decide +kernel) rfl rfl (Nat.le_of_ble_eq_true rfl) hdg (fun H1 locs1 hP hD hS => kk H1 locs1 ⟨hP, hD, hS, hw.2.2.2⟩)
theorem mg_place (C : mCx p m c cc nL s args g "MidiDeskModel") (hw : mWd g A H0 q ad X iv av H locs) (hdg : decode cc pc = .ok (.getfield 59, 3)) (kk : W p l e R s m args below meth c H locs cells slots Q (F0 m (pc + 3) ls (.int (iv 5) :: rest))) : W p l e R s m args below meth c H locs cells slots Q (F0 m pc ls (.ref q :: rest)) :=
  va_get (ci := 6) (C := R_Model) (T := F_Model) (N := 25) C.1.1 C.1.2.1 C.1.2.2.2.2 i_Model C.1.2.2.2.1 C.2.1 hw.1 0 rfl rfl 6 (by decide) (C.1.2.2.2.2 _ gw_721) (fun _ h => h) rfl hdg kk
theorem mp_place {x : Int32} (C : mCx p m c cc nL s args g "MidiDeskModel") (hw : mWd g A H0 q ad X iv av H locs) (hdg : decode cc pc = .ok (.putfield 59, 3)) (kk : ∀ (H1 : Heap) (locs1 : List Loc), mWd g A H0 q ad X (upd iv 5 x) av H1 locs1 → W p l e R s m args below meth c H1 locs1 cells slots Q (F0 m (pc + 3) ls rest)) : W p l e R s m args below meth c H locs cells slots Q (F0 m pc ls (.int x :: .ref q :: rest)) :=
  va_put (ci := 6) (ty := .int) (v := .int x) (C := R_Model) (T := F_Model) (N := 25) C.1.1 C.1.2.1 C.1.2.2.2.2 i_Model t_Model t_Model_ok n_Model C.1.2.2.2.1 C.2.1 hw.1 hw.2.1 hw.2.2.1 0 rfl rfl 6 (by decide) (C.1.2.2.2.2 _ gw_721) (fun _ h => h) rfl (by decide +kernel) rfl rfl (Nat.le_of_ble_eq_true rfl) hdg (fun H1 locs1 hP hD hS => kk H1 locs1 ⟨hP, hD, hS, hw.2.2.2⟩)
theorem mg_there (C : mCx p m c cc nL s args g "MidiDeskModel") (hw : mWd g A H0 q ad X iv av H locs) (hdg : decode cc pc = .ok (.getfield 110, 3)) (kk : W p l e R s m args below meth c H locs cells slots Q (F0 m (pc + 3) ls (.int (iv 6) :: rest))) : W p l e R s m args below meth c H locs cells slots Q (F0 m pc ls (.ref q :: rest)) :=
  va_get (ci := 6) (C := R_Model) (T := F_Model) (N := 25) C.1.1 C.1.2.1 C.1.2.2.2.2 i_Model C.1.2.2.2.1 C.2.1 hw.1 0 rfl rfl 7 (by decide) (C.1.2.2.2.2 _ gw_722) (fun _ h => h) rfl hdg kk
theorem mp_there {x : Int32} (C : mCx p m c cc nL s args g "MidiDeskModel") (hw : mWd g A H0 q ad X iv av H locs) (hz : x = 0 ∨ x = 1) (hdg : decode cc pc = .ok (.putfield 110, 3)) (kk : ∀ (H1 : Heap) (locs1 : List Loc), mWd g A H0 q ad X (upd iv 6 x) av H1 locs1 → W p l e R s m args below meth c H1 locs1 cells slots Q (F0 m (pc + 3) ls rest)) : W p l e R s m args below meth c H locs cells slots Q (F0 m pc ls (.int x :: .ref q :: rest)) :=
  va_put (ci := 6) (ty := .boolean) (v := .int x) (C := R_Model) (T := F_Model) (N := 25) C.1.1 C.1.2.1 C.1.2.2.2.2 i_Model t_Model t_Model_ok n_Model C.1.2.2.2.1 C.2.1 hw.1 hw.2.1 hw.2.2.1 0 rfl rfl 7 (by decide) (C.1.2.2.2.2 _ gw_722) (fun _ h => h) rfl (by decide +kernel) (by rcases hz with rfl | rfl <;> rfl) (by rcases hz with rfl | rfl <;> rfl) (Nat.le_of_ble_eq_true rfl) hdg (fun H1 locs1 hP hD hS => kk H1 locs1 ⟨hP, hD, hS, hw.2.2.2⟩)
theorem mg_format (C : mCx p m c cc nL s args g "MidiDeskModel") (hw : mWd g A H0 q ad X iv av H locs) (hdg : decode cc pc = .ok (.getfield 82, 3)) (kk : W p l e R s m args below meth c H locs cells slots Q (F0 m (pc + 3) ls (.int (iv 7) :: rest))) : W p l e R s m args below meth c H locs cells slots Q (F0 m pc ls (.ref q :: rest)) :=
  va_get (ci := 6) (C := R_Model) (T := F_Model) (N := 25) C.1.1 C.1.2.1 C.1.2.2.2.2 i_Model C.1.2.2.2.1 C.2.1 hw.1 0 rfl rfl 8 (by decide) (C.1.2.2.2.2 _ gw_723) (fun _ h => h) rfl hdg kk
theorem mp_format {x : Int32} (C : mCx p m c cc nL s args g "MidiDeskModel") (hw : mWd g A H0 q ad X iv av H locs) (hdg : decode cc pc = .ok (.putfield 82, 3)) (kk : ∀ (H1 : Heap) (locs1 : List Loc), mWd g A H0 q ad X (upd iv 7 x) av H1 locs1 → W p l e R s m args below meth c H1 locs1 cells slots Q (F0 m (pc + 3) ls rest)) : W p l e R s m args below meth c H locs cells slots Q (F0 m pc ls (.int x :: .ref q :: rest)) :=
  va_put (ci := 6) (ty := .int) (v := .int x) (C := R_Model) (T := F_Model) (N := 25) C.1.1 C.1.2.1 C.1.2.2.2.2 i_Model t_Model t_Model_ok n_Model C.1.2.2.2.1 C.2.1 hw.1 hw.2.1 hw.2.2.1 0 rfl rfl 8 (by decide) (C.1.2.2.2.2 _ gw_723) (fun _ h => h) rfl (by decide +kernel) rfl rfl (Nat.le_of_ble_eq_true rfl) hdg (fun H1 locs1 hP hD hS => kk H1 locs1 ⟨hP, hD, hS, hw.2.2.2⟩)
theorem mg_tracks (C : mCx p m c cc nL s args g "MidiDeskModel") (hw : mWd g A H0 q ad X iv av H locs) (hdg : decode cc pc = .ok (.getfield 85, 3)) (kk : W p l e R s m args below meth c H locs cells slots Q (F0 m (pc + 3) ls (.int (iv 8) :: rest))) : W p l e R s m args below meth c H locs cells slots Q (F0 m pc ls (.ref q :: rest)) :=
  va_get (ci := 6) (C := R_Model) (T := F_Model) (N := 25) C.1.1 C.1.2.1 C.1.2.2.2.2 i_Model C.1.2.2.2.1 C.2.1 hw.1 0 rfl rfl 9 (by decide) (C.1.2.2.2.2 _ gw_724) (fun _ h => h) rfl hdg kk
theorem mp_tracks {x : Int32} (C : mCx p m c cc nL s args g "MidiDeskModel") (hw : mWd g A H0 q ad X iv av H locs) (hdg : decode cc pc = .ok (.putfield 85, 3)) (kk : ∀ (H1 : Heap) (locs1 : List Loc), mWd g A H0 q ad X (upd iv 8 x) av H1 locs1 → W p l e R s m args below meth c H1 locs1 cells slots Q (F0 m (pc + 3) ls rest)) : W p l e R s m args below meth c H locs cells slots Q (F0 m pc ls (.int x :: .ref q :: rest)) :=
  va_put (ci := 6) (ty := .int) (v := .int x) (C := R_Model) (T := F_Model) (N := 25) C.1.1 C.1.2.1 C.1.2.2.2.2 i_Model t_Model t_Model_ok n_Model C.1.2.2.2.1 C.2.1 hw.1 hw.2.1 hw.2.2.1 0 rfl rfl 9 (by decide) (C.1.2.2.2.2 _ gw_724) (fun _ h => h) rfl (by decide +kernel) rfl rfl (Nat.le_of_ble_eq_true rfl) hdg (fun H1 locs1 hP hD hS => kk H1 locs1 ⟨hP, hD, hS, hw.2.2.2⟩)
theorem mg_division (C : mCx p m c cc nL s args g "MidiDeskModel") (hw : mWd g A H0 q ad X iv av H locs) (hdg : decode cc pc = .ok (.getfield 88, 3)) (kk : W p l e R s m args below meth c H locs cells slots Q (F0 m (pc + 3) ls (.int (iv 9) :: rest))) : W p l e R s m args below meth c H locs cells slots Q (F0 m pc ls (.ref q :: rest)) :=
  va_get (ci := 6) (C := R_Model) (T := F_Model) (N := 25) C.1.1 C.1.2.1 C.1.2.2.2.2 i_Model C.1.2.2.2.1 C.2.1 hw.1 0 rfl rfl 10 (by decide) (C.1.2.2.2.2 _ gw_725) (fun _ h => h) rfl hdg kk
theorem mp_division {x : Int32} (C : mCx p m c cc nL s args g "MidiDeskModel") (hw : mWd g A H0 q ad X iv av H locs) (hdg : decode cc pc = .ok (.putfield 88, 3)) (kk : ∀ (H1 : Heap) (locs1 : List Loc), mWd g A H0 q ad X (upd iv 9 x) av H1 locs1 → W p l e R s m args below meth c H1 locs1 cells slots Q (F0 m (pc + 3) ls rest)) : W p l e R s m args below meth c H locs cells slots Q (F0 m pc ls (.int x :: .ref q :: rest)) :=
  va_put (ci := 6) (ty := .int) (v := .int x) (C := R_Model) (T := F_Model) (N := 25) C.1.1 C.1.2.1 C.1.2.2.2.2 i_Model t_Model t_Model_ok n_Model C.1.2.2.2.1 C.2.1 hw.1 hw.2.1 hw.2.2.1 0 rfl rfl 10 (by decide) (C.1.2.2.2.2 _ gw_725) (fun _ h => h) rfl (by decide +kernel) rfl rfl (Nat.le_of_ble_eq_true rfl) hdg (fun H1 locs1 hP hD hS => kk H1 locs1 ⟨hP, hD, hS, hw.2.2.2⟩)
theorem mg_events (C : mCx p m c cc nL s args g "MidiDeskModel") (hw : mWd g A H0 q ad X iv av H locs) (hdg : decode cc pc = .ok (.getfield 95, 3)) (kk : W p l e R s m args below meth c H locs cells slots Q (F0 m (pc + 3) ls (.int (iv 10) :: rest))) : W p l e R s m args below meth c H locs cells slots Q (F0 m pc ls (.ref q :: rest)) :=
  va_get (ci := 6) (C := R_Model) (T := F_Model) (N := 25) C.1.1 C.1.2.1 C.1.2.2.2.2 i_Model C.1.2.2.2.1 C.2.1 hw.1 0 rfl rfl 11 (by decide) (C.1.2.2.2.2 _ gw_726) (fun _ h => h) rfl hdg kk
theorem mp_events {x : Int32} (C : mCx p m c cc nL s args g "MidiDeskModel") (hw : mWd g A H0 q ad X iv av H locs) (hdg : decode cc pc = .ok (.putfield 95, 3)) (kk : ∀ (H1 : Heap) (locs1 : List Loc), mWd g A H0 q ad X (upd iv 10 x) av H1 locs1 → W p l e R s m args below meth c H1 locs1 cells slots Q (F0 m (pc + 3) ls rest)) : W p l e R s m args below meth c H locs cells slots Q (F0 m pc ls (.int x :: .ref q :: rest)) :=
  va_put (ci := 6) (ty := .int) (v := .int x) (C := R_Model) (T := F_Model) (N := 25) C.1.1 C.1.2.1 C.1.2.2.2.2 i_Model t_Model t_Model_ok n_Model C.1.2.2.2.1 C.2.1 hw.1 hw.2.1 hw.2.2.1 0 rfl rfl 11 (by decide) (C.1.2.2.2.2 _ gw_726) (fun _ h => h) rfl (by decide +kernel) rfl rfl (Nat.le_of_ble_eq_true rfl) hdg (fun H1 locs1 hP hD hS => kk H1 locs1 ⟨hP, hD, hS, hw.2.2.2⟩)
theorem mg_many (C : mCx p m c cc nL s args g "MidiDeskModel") (hw : mWd g A H0 q ad X iv av H locs) (hdg : decode cc pc = .ok (.getfield 98, 3)) (kk : W p l e R s m args below meth c H locs cells slots Q (F0 m (pc + 3) ls (.int (iv 11) :: rest))) : W p l e R s m args below meth c H locs cells slots Q (F0 m pc ls (.ref q :: rest)) :=
  va_get (ci := 6) (C := R_Model) (T := F_Model) (N := 25) C.1.1 C.1.2.1 C.1.2.2.2.2 i_Model C.1.2.2.2.1 C.2.1 hw.1 0 rfl rfl 12 (by decide) (C.1.2.2.2.2 _ gw_727) (fun _ h => h) rfl hdg kk
theorem mp_many {x : Int32} (C : mCx p m c cc nL s args g "MidiDeskModel") (hw : mWd g A H0 q ad X iv av H locs) (hdg : decode cc pc = .ok (.putfield 98, 3)) (kk : ∀ (H1 : Heap) (locs1 : List Loc), mWd g A H0 q ad X (upd iv 11 x) av H1 locs1 → W p l e R s m args below meth c H1 locs1 cells slots Q (F0 m (pc + 3) ls rest)) : W p l e R s m args below meth c H locs cells slots Q (F0 m pc ls (.int x :: .ref q :: rest)) :=
  va_put (ci := 6) (ty := .int) (v := .int x) (C := R_Model) (T := F_Model) (N := 25) C.1.1 C.1.2.1 C.1.2.2.2.2 i_Model t_Model t_Model_ok n_Model C.1.2.2.2.1 C.2.1 hw.1 hw.2.1 hw.2.2.1 0 rfl rfl 12 (by decide) (C.1.2.2.2.2 _ gw_727) (fun _ h => h) rfl (by decide +kernel) rfl rfl (Nat.le_of_ble_eq_true rfl) hdg (fun H1 locs1 hP hD hS => kk H1 locs1 ⟨hP, hD, hS, hw.2.2.2⟩)
theorem mg_ticks (C : mCx p m c cc nL s args g "MidiDeskModel") (hw : mWd g A H0 q ad X iv av H locs) (hdg : decode cc pc = .ok (.getfield 13, 3)) (kk : W p l e R s m args below meth c H locs cells slots Q (F0 m (pc + 3) ls (.ref (ad 1) :: rest))) : W p l e R s m args below meth c H locs cells slots Q (F0 m pc ls (.ref q :: rest)) :=
  va_get (ci := 6) (C := R_Model) (T := F_Model) (N := 25) C.1.1 C.1.2.1 C.1.2.2.2.2 i_Model C.1.2.2.2.1 C.2.1 hw.1 0 rfl rfl 13 (by decide) (C.1.2.2.2.2 _ gw_728) (fun _ h => h) rfl hdg kk
theorem mg_trackOf (C : mCx p m c cc nL s args g "MidiDeskModel") (hw : mWd g A H0 q ad X iv av H locs) (hdg : decode cc pc = .ok (.getfield 16, 3)) (kk : W p l e R s m args below meth c H locs cells slots Q (F0 m (pc + 3) ls (.ref (ad 2) :: rest))) : W p l e R s m args below meth c H locs cells slots Q (F0 m pc ls (.ref q :: rest)) :=
  va_get (ci := 6) (C := R_Model) (T := F_Model) (N := 25) C.1.1 C.1.2.1 C.1.2.2.2.2 i_Model C.1.2.2.2.1 C.2.1 hw.1 0 rfl rfl 14 (by decide) (C.1.2.2.2.2 _ gw_729) (fun _ h => h) rfl hdg kk
theorem mg_status (C : mCx p m c cc nL s args g "MidiDeskModel") (hw : mWd g A H0 q ad X iv av H locs) (hdg : decode cc pc = .ok (.getfield 19, 3)) (kk : W p l e R s m args below meth c H locs cells slots Q (F0 m (pc + 3) ls (.ref (ad 3) :: rest))) : W p l e R s m args below meth c H locs cells slots Q (F0 m pc ls (.ref q :: rest)) :=
  va_get (ci := 6) (C := R_Model) (T := F_Model) (N := 25) C.1.1 C.1.2.1 C.1.2.2.2.2 i_Model C.1.2.2.2.1 C.2.1 hw.1 0 rfl rfl 15 (by decide) (C.1.2.2.2.2 _ gw_730) (fun _ h => h) rfl hdg kk
theorem mg_first (C : mCx p m c cc nL s args g "MidiDeskModel") (hw : mWd g A H0 q ad X iv av H locs) (hdg : decode cc pc = .ok (.getfield 22, 3)) (kk : W p l e R s m args below meth c H locs cells slots Q (F0 m (pc + 3) ls (.ref (ad 4) :: rest))) : W p l e R s m args below meth c H locs cells slots Q (F0 m pc ls (.ref q :: rest)) :=
  va_get (ci := 6) (C := R_Model) (T := F_Model) (N := 25) C.1.1 C.1.2.1 C.1.2.2.2.2 i_Model C.1.2.2.2.1 C.2.1 hw.1 0 rfl rfl 16 (by decide) (C.1.2.2.2.2 _ gw_731) (fun _ h => h) rfl hdg kk
theorem mg_second (C : mCx p m c cc nL s args g "MidiDeskModel") (hw : mWd g A H0 q ad X iv av H locs) (hdg : decode cc pc = .ok (.getfield 25, 3)) (kk : W p l e R s m args below meth c H locs cells slots Q (F0 m (pc + 3) ls (.ref (ad 5) :: rest))) : W p l e R s m args below meth c H locs cells slots Q (F0 m pc ls (.ref q :: rest)) :=
  va_get (ci := 6) (C := R_Model) (T := F_Model) (N := 25) C.1.1 C.1.2.1 C.1.2.2.2.2 i_Model C.1.2.2.2.1 C.2.1 hw.1 0 rfl rfl 17 (by decide) (C.1.2.2.2.2 _ gw_732) (fun _ h => h) rfl hdg kk
theorem mg_from (C : mCx p m c cc nL s args g "MidiDeskModel") (hw : mWd g A H0 q ad X iv av H locs) (hdg : decode cc pc = .ok (.getfield 28, 3)) (kk : W p l e R s m args below meth c H locs cells slots Q (F0 m (pc + 3) ls (.ref (ad 6) :: rest))) : W p l e R s m args below meth c H locs cells slots Q (F0 m pc ls (.ref q :: rest)) :=
  va_get (ci := 6) (C := R_Model) (T := F_Model) (N := 25) C.1.1 C.1.2.1 C.1.2.2.2.2 i_Model C.1.2.2.2.1 C.2.1 hw.1 0 rfl rfl 18 (by decide) (C.1.2.2.2.2 _ gw_733) (fun _ h => h) rfl hdg kk
theorem mg_counts (C : mCx p m c cc nL s args g "MidiDeskModel") (hw : mWd g A H0 q ad X iv av H locs) (hdg : decode cc pc = .ok (.getfield 31, 3)) (kk : W p l e R s m args below meth c H locs cells slots Q (F0 m (pc + 3) ls (.ref (ad 7) :: rest))) : W p l e R s m args below meth c H locs cells slots Q (F0 m pc ls (.ref q :: rest)) :=
  va_get (ci := 6) (C := R_Model) (T := F_Model) (N := 25) C.1.1 C.1.2.1 C.1.2.2.2.2 i_Model C.1.2.2.2.1 C.2.1 hw.1 0 rfl rfl 19 (by decide) (C.1.2.2.2.2 _ gw_734) (fun _ h => h) rfl hdg kk
theorem mg_order (C : mCx p m c cc nL s args g "MidiDeskModel") (hw : mWd g A H0 q ad X iv av H locs) (hdg : decode cc pc = .ok (.getfield 34, 3)) (kk : W p l e R s m args below meth c H locs cells slots Q (F0 m (pc + 3) ls (.ref (ad 8) :: rest))) : W p l e R s m args below meth c H locs cells slots Q (F0 m pc ls (.ref q :: rest)) :=
  va_get (ci := 6) (C := R_Model) (T := F_Model) (N := 25) C.1.1 C.1.2.1 C.1.2.2.2.2 i_Model C.1.2.2.2.1 C.2.1 hw.1 0 rfl rfl 20 (by decide) (C.1.2.2.2.2 _ gw_735) (fun _ h => h) rfl hdg kk
theorem mg_spare (C : mCx p m c cc nL s args g "MidiDeskModel") (hw : mWd g A H0 q ad X iv av H locs) (hdg : decode cc pc = .ok (.getfield 37, 3)) (kk : W p l e R s m args below meth c H locs cells slots Q (F0 m (pc + 3) ls (.ref (ad 9) :: rest))) : W p l e R s m args below meth c H locs cells slots Q (F0 m pc ls (.ref q :: rest)) :=
  va_get (ci := 6) (C := R_Model) (T := F_Model) (N := 25) C.1.1 C.1.2.1 C.1.2.2.2.2 i_Model C.1.2.2.2.1 C.2.1 hw.1 0 rfl rfl 21 (by decide) (C.1.2.2.2.2 _ gw_736) (fun _ h => h) rfl hdg kk
theorem mg_bytes (C : mCx p m c cc nL s args g "MidiDeskModel") (hw : mWd g A H0 q ad X iv av H locs) (hdg : decode cc pc = .ok (.getfield 40, 3)) (kk : W p l e R s m args below meth c H locs cells slots Q (F0 m (pc + 3) ls (.ref (ad 10) :: rest))) : W p l e R s m args below meth c H locs cells slots Q (F0 m pc ls (.ref q :: rest)) :=
  va_get (ci := 6) (C := R_Model) (T := F_Model) (N := 25) C.1.1 C.1.2.1 C.1.2.2.2.2 i_Model C.1.2.2.2.1 C.2.1 hw.1 0 rfl rfl 22 (by decide) (C.1.2.2.2.2 _ gw_737) (fun _ h => h) rfl hdg kk
theorem mg_written (C : mCx p m c cc nL s args g "MidiDeskModel") (hw : mWd g A H0 q ad X iv av H locs) (hdg : decode cc pc = .ok (.getfield 44, 3)) (kk : W p l e R s m args below meth c H locs cells slots Q (F0 m (pc + 3) ls (.ref (ad 11) :: rest))) : W p l e R s m args below meth c H locs cells slots Q (F0 m pc ls (.ref q :: rest)) :=
  va_get (ci := 6) (C := R_Model) (T := F_Model) (N := 25) C.1.1 C.1.2.1 C.1.2.2.2.2 i_Model C.1.2.2.2.1 C.2.1 hw.1 0 rfl rfl 23 (by decide) (C.1.2.2.2.2 _ gw_738) (fun _ h => h) rfl hdg kk
theorem mg_writtenSize (C : mCx p m c cc nL s args g "MidiDeskModel") (hw : mWd g A H0 q ad X iv av H locs) (hdg : decode cc pc = .ok (.getfield 187, 3)) (kk : W p l e R s m args below meth c H locs cells slots Q (F0 m (pc + 3) ls (.int (iv 12) :: rest))) : W p l e R s m args below meth c H locs cells slots Q (F0 m pc ls (.ref q :: rest)) :=
  va_get (ci := 6) (C := R_Model) (T := F_Model) (N := 25) C.1.1 C.1.2.1 C.1.2.2.2.2 i_Model C.1.2.2.2.1 C.2.1 hw.1 0 rfl rfl 24 (by decide) (C.1.2.2.2.2 _ gw_739) (fun _ h => h) rfl hdg kk
theorem mp_writtenSize {x : Int32} (C : mCx p m c cc nL s args g "MidiDeskModel") (hw : mWd g A H0 q ad X iv av H locs) (hdg : decode cc pc = .ok (.putfield 187, 3)) (kk : ∀ (H1 : Heap) (locs1 : List Loc), mWd g A H0 q ad X (upd iv 12 x) av H1 locs1 → W p l e R s m args below meth c H1 locs1 cells slots Q (F0 m (pc + 3) ls rest)) : W p l e R s m args below meth c H locs cells slots Q (F0 m pc ls (.int x :: .ref q :: rest)) :=
  va_put (ci := 6) (ty := .int) (v := .int x) (C := R_Model) (T := F_Model) (N := 25) C.1.1 C.1.2.1 C.1.2.2.2.2 i_Model t_Model t_Model_ok n_Model C.1.2.2.2.1 C.2.1 hw.1 hw.2.1 hw.2.2.1 0 rfl rfl 24 (by decide) (C.1.2.2.2.2 _ gw_739) (fun _ h => h) rfl (by decide +kernel) rfl rfl (Nat.le_of_ble_eq_true rfl) hdg (fun H1 locs1 hP hD hS => kk H1 locs1 ⟨hP, hD, hS, hw.2.2.2⟩)
theorem ma_input {i : Int32} (C : mCx p m c cc nL s args g "MidiDeskModel") (hw : mWd g A H0 q ad X iv av H locs) (hin : ¬ (i < 0 ∨ 12000 ≤ i.toNatClampNeg)) (hdg : decode cc pc = .ok (.iaload, 1)) (kk : W p l e R s m args below meth c H locs cells slots Q (F0 m (pc + 1) ls (.int (av 0 i.toNatClampNeg) :: rest))) : W p l e R s m args below meth c H locs cells slots Q (F0 m pc ls (.int i :: .ref (ad 0) :: rest)) :=
  va_iald C.1.1 C.1.2.1 C.2.1 hw.1 1 0 rfl rfl hin hdg kk
theorem ms_input {i x : Int32} (C : mCx p m c cc nL s args g "MidiDeskModel") (hw : mWd g A H0 q ad X iv av H locs) (hin : ¬ (i < 0 ∨ 12000 ≤ i.toNatClampNeg)) (hdg : decode cc pc = .ok (.iastore, 1)) (kk : ∀ (H1 : Heap) (locs1 : List Loc), mWd g A H0 q ad X iv (up2 av 0 i.toNatClampNeg x) H1 locs1 → W p l e R s m args below meth c H1 locs1 cells slots Q (F0 m (pc + 1) ls rest)) : W p l e R s m args below meth c H locs cells slots Q (F0 m pc ls (.int x :: .int i :: .ref (ad 0) :: rest)) :=
  va_iast C.1.1 C.1.2.1 C.2.1 hw.1 hw.2.1 hw.2.2.1 1 0 rfl rfl hin hdg (fun H1 locs1 hP hD hS => kk H1 locs1 ⟨hP, hD, hS, hw.2.2.2⟩)
theorem ma_ticks {i : Int32} (C : mCx p m c cc nL s args g "MidiDeskModel") (hw : mWd g A H0 q ad X iv av H locs) (hin : ¬ (i < 0 ∨ 1001 ≤ i.toNatClampNeg)) (hdg : decode cc pc = .ok (.iaload, 1)) (kk : W p l e R s m args below meth c H locs cells slots Q (F0 m (pc + 1) ls (.int (av 1 i.toNatClampNeg) :: rest))) : W p l e R s m args below meth c H locs cells slots Q (F0 m pc ls (.int i :: .ref (ad 1) :: rest)) :=
  va_iald C.1.1 C.1.2.1 C.2.1 hw.1 2 0 rfl rfl hin hdg kk
theorem ms_ticks {i x : Int32} (C : mCx p m c cc nL s args g "MidiDeskModel") (hw : mWd g A H0 q ad X iv av H locs) (hin : ¬ (i < 0 ∨ 1001 ≤ i.toNatClampNeg)) (hdg : decode cc pc = .ok (.iastore, 1)) (kk : ∀ (H1 : Heap) (locs1 : List Loc), mWd g A H0 q ad X iv (up2 av 1 i.toNatClampNeg x) H1 locs1 → W p l e R s m args below meth c H1 locs1 cells slots Q (F0 m (pc + 1) ls rest)) : W p l e R s m args below meth c H locs cells slots Q (F0 m pc ls (.int x :: .int i :: .ref (ad 1) :: rest)) :=
  va_iast C.1.1 C.1.2.1 C.2.1 hw.1 hw.2.1 hw.2.2.1 2 0 rfl rfl hin hdg (fun H1 locs1 hP hD hS => kk H1 locs1 ⟨hP, hD, hS, hw.2.2.2⟩)
theorem ma_trackOf {i : Int32} (C : mCx p m c cc nL s args g "MidiDeskModel") (hw : mWd g A H0 q ad X iv av H locs) (hin : ¬ (i < 0 ∨ 1001 ≤ i.toNatClampNeg)) (hdg : decode cc pc = .ok (.iaload, 1)) (kk : W p l e R s m args below meth c H locs cells slots Q (F0 m (pc + 1) ls (.int (av 2 i.toNatClampNeg) :: rest))) : W p l e R s m args below meth c H locs cells slots Q (F0 m pc ls (.int i :: .ref (ad 2) :: rest)) :=
  va_iald C.1.1 C.1.2.1 C.2.1 hw.1 3 0 rfl rfl hin hdg kk
theorem ms_trackOf {i x : Int32} (C : mCx p m c cc nL s args g "MidiDeskModel") (hw : mWd g A H0 q ad X iv av H locs) (hin : ¬ (i < 0 ∨ 1001 ≤ i.toNatClampNeg)) (hdg : decode cc pc = .ok (.iastore, 1)) (kk : ∀ (H1 : Heap) (locs1 : List Loc), mWd g A H0 q ad X iv (up2 av 2 i.toNatClampNeg x) H1 locs1 → W p l e R s m args below meth c H1 locs1 cells slots Q (F0 m (pc + 1) ls rest)) : W p l e R s m args below meth c H locs cells slots Q (F0 m pc ls (.int x :: .int i :: .ref (ad 2) :: rest)) :=
  va_iast C.1.1 C.1.2.1 C.2.1 hw.1 hw.2.1 hw.2.2.1 3 0 rfl rfl hin hdg (fun H1 locs1 hP hD hS => kk H1 locs1 ⟨hP, hD, hS, hw.2.2.2⟩)
theorem ma_status {i : Int32} (C : mCx p m c cc nL s args g "MidiDeskModel") (hw : mWd g A H0 q ad X iv av H locs) (hin : ¬ (i < 0 ∨ 1001 ≤ i.toNatClampNeg)) (hdg : decode cc pc = .ok (.iaload, 1)) (kk : W p l e R s m args below meth c H locs cells slots Q (F0 m (pc + 1) ls (.int (av 3 i.toNatClampNeg) :: rest))) : W p l e R s m args below meth c H locs cells slots Q (F0 m pc ls (.int i :: .ref (ad 3) :: rest)) :=
  va_iald C.1.1 C.1.2.1 C.2.1 hw.1 4 0 rfl rfl hin hdg kk
theorem ms_status {i x : Int32} (C : mCx p m c cc nL s args g "MidiDeskModel") (hw : mWd g A H0 q ad X iv av H locs) (hin : ¬ (i < 0 ∨ 1001 ≤ i.toNatClampNeg)) (hdg : decode cc pc = .ok (.iastore, 1)) (kk : ∀ (H1 : Heap) (locs1 : List Loc), mWd g A H0 q ad X iv (up2 av 3 i.toNatClampNeg x) H1 locs1 → W p l e R s m args below meth c H1 locs1 cells slots Q (F0 m (pc + 1) ls rest)) : W p l e R s m args below meth c H locs cells slots Q (F0 m pc ls (.int x :: .int i :: .ref (ad 3) :: rest)) :=
  va_iast C.1.1 C.1.2.1 C.2.1 hw.1 hw.2.1 hw.2.2.1 4 0 rfl rfl hin hdg (fun H1 locs1 hP hD hS => kk H1 locs1 ⟨hP, hD, hS, hw.2.2.2⟩)
theorem ma_first {i : Int32} (C : mCx p m c cc nL s args g "MidiDeskModel") (hw : mWd g A H0 q ad X iv av H locs) (hin : ¬ (i < 0 ∨ 1001 ≤ i.toNatClampNeg)) (hdg : decode cc pc = .ok (.iaload, 1)) (kk : W p l e R s m args below meth c H locs cells slots Q (F0 m (pc + 1) ls (.int (av 4 i.toNatClampNeg) :: rest))) : W p l e R s m args below meth c H locs cells slots Q (F0 m pc ls (.int i :: .ref (ad 4) :: rest)) :=
  va_iald C.1.1 C.1.2.1 C.2.1 hw.1 5 0 rfl rfl hin hdg kk
theorem ms_first {i x : Int32} (C : mCx p m c cc nL s args g "MidiDeskModel") (hw : mWd g A H0 q ad X iv av H locs) (hin : ¬ (i < 0 ∨ 1001 ≤ i.toNatClampNeg)) (hdg : decode cc pc = .ok (.iastore, 1)) (kk : ∀ (H1 : Heap) (locs1 : List Loc), mWd g A H0 q ad X iv (up2 av 4 i.toNatClampNeg x) H1 locs1 → W p l e R s m args below meth c H1 locs1 cells slots Q (F0 m (pc + 1) ls rest)) : W p l e R s m args below meth c H locs cells slots Q (F0 m pc ls (.int x :: .int i :: .ref (ad 4) :: rest)) :=
  va_iast C.1.1 C.1.2.1 C.2.1 hw.1 hw.2.1 hw.2.2.1 5 0 rfl rfl hin hdg (fun H1 locs1 hP hD hS => kk H1 locs1 ⟨hP, hD, hS, hw.2.2.2⟩)
theorem ma_second {i : Int32} (C : mCx p m c cc nL s args g "MidiDeskModel") (hw : mWd g A H0 q ad X iv av H locs) (hin : ¬ (i < 0 ∨ 1001 ≤ i.toNatClampNeg)) (hdg : decode cc pc = .ok (.iaload, 1)) (kk : W p l e R s m args below meth c H locs cells slots Q (F0 m (pc + 1) ls (.int (av 5 i.toNatClampNeg) :: rest))) : W p l e R s m args below meth c H locs cells slots Q (F0 m pc ls (.int i :: .ref (ad 5) :: rest)) :=
  va_iald C.1.1 C.1.2.1 C.2.1 hw.1 6 0 rfl rfl hin hdg kk
theorem ms_second {i x : Int32} (C : mCx p m c cc nL s args g "MidiDeskModel") (hw : mWd g A H0 q ad X iv av H locs) (hin : ¬ (i < 0 ∨ 1001 ≤ i.toNatClampNeg)) (hdg : decode cc pc = .ok (.iastore, 1)) (kk : ∀ (H1 : Heap) (locs1 : List Loc), mWd g A H0 q ad X iv (up2 av 5 i.toNatClampNeg x) H1 locs1 → W p l e R s m args below meth c H1 locs1 cells slots Q (F0 m (pc + 1) ls rest)) : W p l e R s m args below meth c H locs cells slots Q (F0 m pc ls (.int x :: .int i :: .ref (ad 5) :: rest)) :=
  va_iast C.1.1 C.1.2.1 C.2.1 hw.1 hw.2.1 hw.2.2.1 6 0 rfl rfl hin hdg (fun H1 locs1 hP hD hS => kk H1 locs1 ⟨hP, hD, hS, hw.2.2.2⟩)
theorem ma_from {i : Int32} (C : mCx p m c cc nL s args g "MidiDeskModel") (hw : mWd g A H0 q ad X iv av H locs) (hin : ¬ (i < 0 ∨ 1001 ≤ i.toNatClampNeg)) (hdg : decode cc pc = .ok (.iaload, 1)) (kk : W p l e R s m args below meth c H locs cells slots Q (F0 m (pc + 1) ls (.int (av 6 i.toNatClampNeg) :: rest))) : W p l e R s m args below meth c H locs cells slots Q (F0 m pc ls (.int i :: .ref (ad 6) :: rest)) :=
  va_iald C.1.1 C.1.2.1 C.2.1 hw.1 7 0 rfl rfl hin hdg kk
theorem ms_from {i x : Int32} (C : mCx p m c cc nL s args g "MidiDeskModel") (hw : mWd g A H0 q ad X iv av H locs) (hin : ¬ (i < 0 ∨ 1001 ≤ i.toNatClampNeg)) (hdg : decode cc pc = .ok (.iastore, 1)) (kk : ∀ (H1 : Heap) (locs1 : List Loc), mWd g A H0 q ad X iv (up2 av 6 i.toNatClampNeg x) H1 locs1 → W p l e R s m args below meth c H1 locs1 cells slots Q (F0 m (pc + 1) ls rest)) : W p l e R s m args below meth c H locs cells slots Q (F0 m pc ls (.int x :: .int i :: .ref (ad 6) :: rest)) :=
  va_iast C.1.1 C.1.2.1 C.2.1 hw.1 hw.2.1 hw.2.2.1 7 0 rfl rfl hin hdg (fun H1 locs1 hP hD hS => kk H1 locs1 ⟨hP, hD, hS, hw.2.2.2⟩)
theorem ma_counts {i : Int32} (C : mCx p m c cc nL s args g "MidiDeskModel") (hw : mWd g A H0 q ad X iv av H locs) (hin : ¬ (i < 0 ∨ 1001 ≤ i.toNatClampNeg)) (hdg : decode cc pc = .ok (.iaload, 1)) (kk : W p l e R s m args below meth c H locs cells slots Q (F0 m (pc + 1) ls (.int (av 7 i.toNatClampNeg) :: rest))) : W p l e R s m args below meth c H locs cells slots Q (F0 m pc ls (.int i :: .ref (ad 7) :: rest)) :=
  va_iald C.1.1 C.1.2.1 C.2.1 hw.1 8 0 rfl rfl hin hdg kk
theorem ms_counts {i x : Int32} (C : mCx p m c cc nL s args g "MidiDeskModel") (hw : mWd g A H0 q ad X iv av H locs) (hin : ¬ (i < 0 ∨ 1001 ≤ i.toNatClampNeg)) (hdg : decode cc pc = .ok (.iastore, 1)) (kk : ∀ (H1 : Heap) (locs1 : List Loc), mWd g A H0 q ad X iv (up2 av 7 i.toNatClampNeg x) H1 locs1 → W p l e R s m args below meth c H1 locs1 cells slots Q (F0 m (pc + 1) ls rest)) : W p l e R s m args below meth c H locs cells slots Q (F0 m pc ls (.int x :: .int i :: .ref (ad 7) :: rest)) :=
  va_iast C.1.1 C.1.2.1 C.2.1 hw.1 hw.2.1 hw.2.2.1 8 0 rfl rfl hin hdg (fun H1 locs1 hP hD hS => kk H1 locs1 ⟨hP, hD, hS, hw.2.2.2⟩)
theorem ma_order {i : Int32} (C : mCx p m c cc nL s args g "MidiDeskModel") (hw : mWd g A H0 q ad X iv av H locs) (hin : ¬ (i < 0 ∨ 1001 ≤ i.toNatClampNeg)) (hdg : decode cc pc = .ok (.iaload, 1)) (kk : W p l e R s m args below meth c H locs cells slots Q (F0 m (pc + 1) ls (.int (av 8 i.toNatClampNeg) :: rest))) : W p l e R s m args below meth c H locs cells slots Q (F0 m pc ls (.int i :: .ref (ad 8) :: rest)) :=
  va_iald C.1.1 C.1.2.1 C.2.1 hw.1 9 0 rfl rfl hin hdg kk
theorem ms_order {i x : Int32} (C : mCx p m c cc nL s args g "MidiDeskModel") (hw : mWd g A H0 q ad X iv av H locs) (hin : ¬ (i < 0 ∨ 1001 ≤ i.toNatClampNeg)) (hdg : decode cc pc = .ok (.iastore, 1)) (kk : ∀ (H1 : Heap) (locs1 : List Loc), mWd g A H0 q ad X iv (up2 av 8 i.toNatClampNeg x) H1 locs1 → W p l e R s m args below meth c H1 locs1 cells slots Q (F0 m (pc + 1) ls rest)) : W p l e R s m args below meth c H locs cells slots Q (F0 m pc ls (.int x :: .int i :: .ref (ad 8) :: rest)) :=
  va_iast C.1.1 C.1.2.1 C.2.1 hw.1 hw.2.1 hw.2.2.1 9 0 rfl rfl hin hdg (fun H1 locs1 hP hD hS => kk H1 locs1 ⟨hP, hD, hS, hw.2.2.2⟩)
theorem ma_spare {i : Int32} (C : mCx p m c cc nL s args g "MidiDeskModel") (hw : mWd g A H0 q ad X iv av H locs) (hin : ¬ (i < 0 ∨ 1001 ≤ i.toNatClampNeg)) (hdg : decode cc pc = .ok (.iaload, 1)) (kk : W p l e R s m args below meth c H locs cells slots Q (F0 m (pc + 1) ls (.int (av 9 i.toNatClampNeg) :: rest))) : W p l e R s m args below meth c H locs cells slots Q (F0 m pc ls (.int i :: .ref (ad 9) :: rest)) :=
  va_iald C.1.1 C.1.2.1 C.2.1 hw.1 10 0 rfl rfl hin hdg kk
theorem ms_spare {i x : Int32} (C : mCx p m c cc nL s args g "MidiDeskModel") (hw : mWd g A H0 q ad X iv av H locs) (hin : ¬ (i < 0 ∨ 1001 ≤ i.toNatClampNeg)) (hdg : decode cc pc = .ok (.iastore, 1)) (kk : ∀ (H1 : Heap) (locs1 : List Loc), mWd g A H0 q ad X iv (up2 av 9 i.toNatClampNeg x) H1 locs1 → W p l e R s m args below meth c H1 locs1 cells slots Q (F0 m (pc + 1) ls rest)) : W p l e R s m args below meth c H locs cells slots Q (F0 m pc ls (.int x :: .int i :: .ref (ad 9) :: rest)) :=
  va_iast C.1.1 C.1.2.1 C.2.1 hw.1 hw.2.1 hw.2.2.1 10 0 rfl rfl hin hdg (fun H1 locs1 hP hD hS => kk H1 locs1 ⟨hP, hD, hS, hw.2.2.2⟩)
theorem ma_bytes {i : Int32} (C : mCx p m c cc nL s args g "MidiDeskModel") (hw : mWd g A H0 q ad X iv av H locs) (hin : ¬ (i < 0 ∨ 20100 ≤ i.toNatClampNeg)) (hdg : decode cc pc = .ok (.iaload, 1)) (kk : W p l e R s m args below meth c H locs cells slots Q (F0 m (pc + 1) ls (.int (av 10 i.toNatClampNeg) :: rest))) : W p l e R s m args below meth c H locs cells slots Q (F0 m pc ls (.int i :: .ref (ad 10) :: rest)) :=
  va_iald C.1.1 C.1.2.1 C.2.1 hw.1 11 0 rfl rfl hin hdg kk
theorem ms_bytes {i x : Int32} (C : mCx p m c cc nL s args g "MidiDeskModel") (hw : mWd g A H0 q ad X iv av H locs) (hin : ¬ (i < 0 ∨ 20100 ≤ i.toNatClampNeg)) (hdg : decode cc pc = .ok (.iastore, 1)) (kk : ∀ (H1 : Heap) (locs1 : List Loc), mWd g A H0 q ad X iv (up2 av 10 i.toNatClampNeg x) H1 locs1 → W p l e R s m args below meth c H1 locs1 cells slots Q (F0 m (pc + 1) ls rest)) : W p l e R s m args below meth c H locs cells slots Q (F0 m pc ls (.int x :: .int i :: .ref (ad 10) :: rest)) :=
  va_iast C.1.1 C.1.2.1 C.2.1 hw.1 hw.2.1 hw.2.2.1 11 0 rfl rfl hin hdg (fun H1 locs1 hP hD hS => kk H1 locs1 ⟨hP, hD, hS, hw.2.2.2⟩)
theorem ma_written {i : Int32} (C : mCx p m c cc nL s args g "MidiDeskModel") (hw : mWd g A H0 q ad X iv av H locs) (hin : ¬ (i < 0 ∨ 32768 ≤ i.toNatClampNeg)) (hdg : decode cc pc = .ok (.iaload, 1)) (kk : W p l e R s m args below meth c H locs cells slots Q (F0 m (pc + 1) ls (.int (av 11 i.toNatClampNeg) :: rest))) : W p l e R s m args below meth c H locs cells slots Q (F0 m pc ls (.int i :: .ref (ad 11) :: rest)) :=
  va_iald C.1.1 C.1.2.1 C.2.1 hw.1 12 0 rfl rfl hin hdg kk
theorem ms_written {i x : Int32} (C : mCx p m c cc nL s args g "MidiDeskModel") (hw : mWd g A H0 q ad X iv av H locs) (hin : ¬ (i < 0 ∨ 32768 ≤ i.toNatClampNeg)) (hdg : decode cc pc = .ok (.iastore, 1)) (kk : ∀ (H1 : Heap) (locs1 : List Loc), mWd g A H0 q ad X iv (up2 av 11 i.toNatClampNeg x) H1 locs1 → W p l e R s m args below meth c H1 locs1 cells slots Q (F0 m (pc + 1) ls rest)) : W p l e R s m args below meth c H locs cells slots Q (F0 m pc ls (.int x :: .int i :: .ref (ad 11) :: rest)) :=
  va_iast C.1.1 C.1.2.1 C.2.1 hw.1 hw.2.1 hw.2.2.1 12 0 rfl rfl hin hdg (fun H1 locs1 hP hD hS => kk H1 locs1 ⟨hP, hD, hS, hw.2.2.2⟩)
theorem m_retv {rv : Option Value} {iv' : Nat → Int32} {av' : Nat → Nat → Int32} (C : mCx p m c cc nL s args g "MidiDeskModel") (hr : meth.sig.returnType = none) (hlk : meth.locks = false) (hrv : rv = none) (hw : mWd g (mA g q ad X s.heap.size) s.heap q ad X iv av H locs) (hf : some (iv, av) = some (iv', av')) (hc : cells ≤ R.cells ∧ slots ≤ R.slots) (hdg : decode cc pc = .ok (.return_, 1)) : mG p l e R s m args below meth c g q ad X rv iv' av' H locs cells slots (F0 m pc ls []) := by
  cases hf
  subst hrv
  refine W.widen (k := R.cells) (n := R.slots) hc.1 hc.2 ?_
  exact W.vret C.1.1 C.1.2.1 hr (fun t ht hW => ⟨⟨rfl, by rw [ht]; exact hw.1⟩, hw.2.2.1.F ht⟩) hw.2.2.1.2.2 hdg hlk
theorem m_reti {rv : Option Value} {iv' : Nat → Int32} {av' : Nat → Nat → Int32} {x r : Int32} (C : mCx p m c cc nL s args g "MidiDeskModel") (hr : meth.sig.returnType = some .int) (hlk : meth.locks = false) (hrv : rv = some (.int r)) (hw : mWd g (mA g q ad X s.heap.size) s.heap q ad X iv av H locs) (hf : some (x, iv, av) = some (r, iv', av')) (hc : cells ≤ R.cells ∧ slots ≤ R.slots) (hdg : decode cc pc = .ok (.ireturn, 1)) : mG p l e R s m args below meth c g q ad X rv iv' av' H locs cells slots (F0 m pc ls [.int x]) := by
  cases hf
  subst hrv
  refine W.widen (k := R.cells) (n := R.slots) hc.1 hc.2 ?_
  exact W.iret C.1.1 C.1.2.1 hr (fun t ht hW => ⟨⟨rfl, by rw [ht]; exact hw.1⟩, hw.2.2.1.F ht⟩) hw.2.2.1.2.2 hdg hlk
theorem m_retz {rv : Option Value} {iv' : Nat → Int32} {av' : Nat → Nat → Int32} {x r : Int32} (C : mCx p m c cc nL s args g "MidiDeskModel") (hr : meth.sig.returnType = some .boolean) (hlk : meth.locks = false) (hrv : rv = some (.int r)) (hw : mWd g (mA g q ad X s.heap.size) s.heap q ad X iv av H locs) (hx : x = 0 ∨ x = 1) (hf : some (x, iv, av) = some (r, iv', av')) (hc : cells ≤ R.cells ∧ slots ≤ R.slots) (hdg : decode cc pc = .ok (.ireturn, 1)) : mG p l e R s m args below meth c g q ad X rv iv' av' H locs cells slots (F0 m pc ls [.int x]) := by
  cases hf
  subst hrv
  refine W.widen (k := R.cells) (n := R.slots) hc.1 hc.2 ?_
  exact W.zret C.1.1 C.1.2.1 hr (by rcases hx with rfl | rfl <;> rfl) (fun t ht hW => ⟨⟨rfl, by rw [ht]; exact hw.1⟩, hw.2.2.1.F ht⟩) hw.2.2.1.2.2 hdg hlk
theorem m_retl {rv : Option Value} {iv' : Nat → Int32} {av' : Nat → Nat → Int32} {x r : Int64} (C : mCx p m c cc nL s args g "MidiDeskModel") (hr : meth.sig.returnType = some .long) (hlk : meth.locks = false) (hrv : rv = some (.long r)) (hw : mWd g (mA g q ad X s.heap.size) s.heap q ad X iv av H locs) (hf : some (x, iv, av) = some (r, iv', av')) (hc : cells ≤ R.cells ∧ slots ≤ R.slots) (hdg : decode cc pc = .ok (.lreturn, 1)) : mG p l e R s m args below meth c g q ad X rv iv' av' H locs cells slots (F0 m pc ls [.long x]) := by
  cases hf
  subst hrv
  refine W.widen (k := R.cells) (n := R.slots) hc.1 hc.2 ?_
  exact W.lret C.1.1 C.1.2.1 hr (fun t ht hW => ⟨⟨rfl, by rw [ht]; exact hw.1⟩, hw.2.2.1.F ht⟩) hw.2.2.1.2.2 hdg hlk
end MR
end
section
def FU : Nat := 1000000
theorem gw_26 : (Cond.selects "MidiDeskModel" ({ cls := "MidiDeskModel", name := "head", desc := "()V" } : Jvm.MethodName) ({ cls := "MidiDeskModel", name := "head", desc := "()V" } : Jvm.MethodName)) ∈ gw := gw_in 26 (by decide +kernel) (by decide +kernel)
theorem gw_27 : (Cond.selects "MidiDeskModel" ({ cls := "MidiDeskModel", name := "taken", desc := "(I)J" } : Jvm.MethodName) ({ cls := "MidiDeskModel", name := "taken", desc := "(I)J" } : Jvm.MethodName)) ∈ gw := gw_in 27 (by decide +kernel) (by decide +kernel)
theorem gw_28 : (Cond.selects "MidiDeskModel" ({ cls := "MidiDeskModel", name := "fail", desc := "(II)V" } : Jvm.MethodName) ({ cls := "MidiDeskModel", name := "fail", desc := "(II)V" } : Jvm.MethodName)) ∈ gw := gw_in 28 (by decide +kernel) (by decide +kernel)
theorem gw_29 : (Cond.selects "MidiDeskModel" ({ cls := "MidiDeskModel", name := "track", desc := "(I)V" } : Jvm.MethodName) ({ cls := "MidiDeskModel", name := "track", desc := "(I)V" } : Jvm.MethodName)) ∈ gw := gw_in 29 (by decide +kernel) (by decide +kernel)
theorem gw_30 : (Cond.selects "MidiDeskModel" ({ cls := "MidiDeskModel", name := "number", desc := "()I" } : Jvm.MethodName) ({ cls := "MidiDeskModel", name := "number", desc := "()I" } : Jvm.MethodName)) ∈ gw := gw_in 30 (by decide +kernel) (by decide +kernel)
theorem gw_31 : (Cond.selects "MidiDeskModel" ({ cls := "MidiDeskModel", name := "event", desc := "(IIII)Z" } : Jvm.MethodName) ({ cls := "MidiDeskModel", name := "event", desc := "(IIII)Z" } : Jvm.MethodName)) ∈ gw := gw_in 31 (by decide +kernel) (by decide +kernel)
theorem gw_32 : (Cond.selects "MidiDeskModel" ({ cls := "MidiDeskModel", name := "small", desc := "()I" } : Jvm.MethodName) ({ cls := "MidiDeskModel", name := "small", desc := "()I" } : Jvm.MethodName)) ∈ gw := gw_in 32 (by decide +kernel) (by decide +kernel)
theorem gw_33 : (Cond.selects "MidiDeskModel" ({ cls := "MidiDeskModel", name := "follow", desc := "(II)V" } : Jvm.MethodName) ({ cls := "MidiDeskModel", name := "follow", desc := "(II)V" } : Jvm.MethodName)) ∈ gw := gw_in 33 (by decide +kernel) (by decide +kernel)
theorem gw_34 : (Cond.selects "MidiDeskModel" ({ cls := "MidiDeskModel", name := "tempo", desc := "(I)I" } : Jvm.MethodName) ({ cls := "MidiDeskModel", name := "tempo", desc := "(I)I" } : Jvm.MethodName)) ∈ gw := gw_in 34 (by decide +kernel) (by decide +kernel)
theorem gw_35 : (Cond.selects "MidiDeskModel" ({ cls := "MidiDeskModel", name := "sort", desc := "()V" } : Jvm.MethodName) ({ cls := "MidiDeskModel", name := "sort", desc := "()V" } : Jvm.MethodName)) ∈ gw := gw_in 35 (by decide +kernel) (by decide +kernel)
theorem gw_36 : (Cond.selects "MidiDeskModel" ({ cls := "MidiDeskModel", name := "again", desc := "()V" } : Jvm.MethodName) ({ cls := "MidiDeskModel", name := "again", desc := "()V" } : Jvm.MethodName)) ∈ gw := gw_in 36 (by decide +kernel) (by decide +kernel)
theorem gw_37 : (Cond.selects "MidiDeskModel" ({ cls := "MidiDeskModel", name := "isBefore", desc := "(II)Z" } : Jvm.MethodName) ({ cls := "MidiDeskModel", name := "isBefore", desc := "(II)Z" } : Jvm.MethodName)) ∈ gw := gw_in 37 (by decide +kernel) (by decide +kernel)
theorem gw_38 : (Cond.selects "MidiDeskModel" ({ cls := "MidiDeskModel", name := "has", desc := "(I)Z" } : Jvm.MethodName) ({ cls := "MidiDeskModel", name := "has", desc := "(I)Z" } : Jvm.MethodName)) ∈ gw := gw_in 38 (by decide +kernel) (by decide +kernel)
theorem gw_39 : (Cond.selects "MidiDeskModel" ({ cls := "MidiDeskModel", name := "fails", desc := "(ZZ)Z" } : Jvm.MethodName) ({ cls := "MidiDeskModel", name := "fails", desc := "(ZZ)Z" } : Jvm.MethodName)) ∈ gw := gw_in 39 (by decide +kernel) (by decide +kernel)
theorem gw_40 : (Cond.selects "MidiDeskModel" ({ cls := "MidiDeskModel", name := "timed", desc := "(I)J" } : Jvm.MethodName) ({ cls := "MidiDeskModel", name := "timed", desc := "(I)J" } : Jvm.MethodName)) ∈ gw := gw_in 40 (by decide +kernel) (by decide +kernel)
theorem gw_41 : (Cond.selects "MidiDeskModel" ({ cls := "MidiDeskModel", name := "isTempo", desc := "(I)Z" } : Jvm.MethodName) ({ cls := "MidiDeskModel", name := "isTempo", desc := "(I)Z" } : Jvm.MethodName)) ∈ gw := gw_in 41 (by decide +kernel) (by decide +kernel)
theorem gw_42 : (Cond.selects "MidiDeskModel" ({ cls := "MidiDeskModel", name := "parts", desc := "()J" } : Jvm.MethodName) ({ cls := "MidiDeskModel", name := "parts", desc := "()J" } : Jvm.MethodName)) ∈ gw := gw_in 42 (by decide +kernel) (by decide +kernel)
theorem gw_43 : (Cond.selects "MidiDeskModel" ({ cls := "MidiDeskModel", name := "begins", desc := "(I)Z" } : Jvm.MethodName) ({ cls := "MidiDeskModel", name := "begins", desc := "(I)Z" } : Jvm.MethodName)) ∈ gw := gw_in 43 (by decide +kernel) (by decide +kernel)
theorem gw_44 : (Cond.selects "MidiDeskModel" ({ cls := "MidiDeskModel", name := "ends", desc := "(I)Z" } : Jvm.MethodName) ({ cls := "MidiDeskModel", name := "ends", desc := "(I)Z" } : Jvm.MethodName)) ∈ gw := gw_in 44 (by decide +kernel) (by decide +kernel)
theorem gw_45 : (Cond.selects "MidiDeskModel" ({ cls := "MidiDeskModel", name := "isNote", desc := "(II)Z" } : Jvm.MethodName) ({ cls := "MidiDeskModel", name := "isNote", desc := "(II)Z" } : Jvm.MethodName)) ∈ gw := gw_in 45 (by decide +kernel) (by decide +kernel)
theorem gw_46 : (Cond.selects "MidiDeskModel" ({ cls := "MidiDeskModel", name := "put", desc := "(II)V" } : Jvm.MethodName) ({ cls := "MidiDeskModel", name := "put", desc := "(II)V" } : Jvm.MethodName)) ∈ gw := gw_in 46 (by decide +kernel) (by decide +kernel)
theorem gw_47 : (Cond.selects "MidiDeskModel" ({ cls := "MidiDeskModel", name := "put", desc := "(I)V" } : Jvm.MethodName) ({ cls := "MidiDeskModel", name := "put", desc := "(I)V" } : Jvm.MethodName)) ∈ gw := gw_in 47 (by decide +kernel) (by decide +kernel)
theorem gw_48 : (Cond.selects "MidiDeskModel" ({ cls := "MidiDeskModel", name := "putTrack", desc := "(IZZ)V" } : Jvm.MethodName) ({ cls := "MidiDeskModel", name := "putTrack", desc := "(IZZ)V" } : Jvm.MethodName)) ∈ gw := gw_in 48 (by decide +kernel) (by decide +kernel)
theorem gw_49 : (Cond.selects "MidiDeskModel" ({ cls := "MidiDeskModel", name := "putNumber", desc := "(I)V" } : Jvm.MethodName) ({ cls := "MidiDeskModel", name := "putNumber", desc := "(I)V" } : Jvm.MethodName)) ∈ gw := gw_in 49 (by decide +kernel) (by decide +kernel)
theorem gw_50 : (Cond.selects "MidiDeskModel" ({ cls := "MidiDeskModel", name := "counted", desc := "(Z)I" } : Jvm.MethodName) ({ cls := "MidiDeskModel", name := "counted", desc := "(Z)I" } : Jvm.MethodName)) ∈ gw := gw_in 50 (by decide +kernel) (by decide +kernel)
theorem gw_55 : (Jvm.Cond.initialized "MidiDeskModel") ∈ gw := gw_in 55 (by decide +kernel) (by decide +kernel)
theorem gw_714 : (Jvm.Cond.constant "MidiDeskModel" (43 : Nat) (32768 : Int32)) ∈ gw := gw_in 714 (by decide +kernel) (by decide +kernel)
theorem gw_799 : (Jvm.Cond.constantLong "MidiDeskModel" (54 : Nat) (255 : Int64)) ∈ gw := gw_in 799 (by decide +kernel) (by decide +kernel)
theorem gw_804 : (Jvm.Cond.methodLink "MidiDeskModel" (101 : Nat) ({ cls := "MidiDeskModel", name := "head", desc := "()V" } : Jvm.MethodName)) ∈ gw := gw_in 804 (by decide +kernel) (by decide +kernel)
theorem gw_806 : (Jvm.Cond.instanceMethod ({ cls := "MidiDeskModel", name := "head", desc := "()V" } : Jvm.MethodName)) ∈ gw := gw_in 806 (by decide +kernel) (by decide +kernel)
theorem gw_807 : (Jvm.Cond.code ({ cls := "MidiDeskModel", name := "head", desc := "()V" } : Jvm.MethodName) prog_8_method_9_code (1 : Nat) (Option.none : Option Jvm.ClassFile.FieldType)) ∈ gw := gw_in 807 (by decide +kernel) (by decide +kernel)
theorem gw_808 : (Jvm.Cond.methodLink "MidiDeskModel" (74 : Nat) ({ cls := "MidiDeskModel", name := "taken", desc := "(I)J" } : Jvm.MethodName)) ∈ gw := gw_in 808 (by decide +kernel) (by decide +kernel)
theorem gw_810 : (Jvm.Cond.instanceMethod ({ cls := "MidiDeskModel", name := "taken", desc := "(I)J" } : Jvm.MethodName)) ∈ gw := gw_in 810 (by decide +kernel) (by decide +kernel)
theorem gw_811 : (Jvm.Cond.code ({ cls := "MidiDeskModel", name := "taken", desc := "(I)J" } : Jvm.MethodName) prog_8_method_6_code (5 : Nat) (Option.some Jvm.ClassFile.FieldType.long)) ∈ gw := gw_in 811 (by decide +kernel) (by decide +kernel)
theorem gw_812 : (Jvm.Cond.methodLink "MidiDeskModel" (68 : Nat) ({ cls := "MidiDeskModel", name := "fail", desc := "(II)V" } : Jvm.MethodName)) ∈ gw := gw_in 812 (by decide +kernel) (by decide +kernel)
theorem gw_814 : (Jvm.Cond.instanceMethod ({ cls := "MidiDeskModel", name := "fail", desc := "(II)V" } : Jvm.MethodName)) ∈ gw := gw_in 814 (by decide +kernel) (by decide +kernel)
theorem gw_815 : (Jvm.Cond.code ({ cls := "MidiDeskModel", name := "fail", desc := "(II)V" } : Jvm.MethodName) prog_8_method_5_code (3 : Nat) (Option.none : Option Jvm.ClassFile.FieldType)) ∈ gw := gw_in 815 (by decide +kernel) (by decide +kernel)
theorem gw_816 : (Jvm.Cond.constantLong "MidiDeskModel" (72 : Nat) (256 : Int64)) ∈ gw := gw_in 816 (by decide +kernel) (by decide +kernel)
theorem gw_817 : (Jvm.Cond.constantLong "MidiDeskModel" (78 : Nat) (1297377380 : Int64)) ∈ gw := gw_in 817 (by decide +kernel) (by decide +kernel)
theorem gw_818 : (Jvm.Cond.constantLong "MidiDeskModel" (80 : Nat) (6 : Int64)) ∈ gw := gw_in 818 (by decide +kernel) (by decide +kernel)
theorem gw_819 : (Jvm.Cond.methodLink "MidiDeskModel" (91 : Nat) ({ cls := "MidiDeskModel", name := "isDivision", desc := "(I)Z" } : Jvm.MethodName)) ∈ gw := gw_in 819 (by decide +kernel) (by decide +kernel)
theorem gw_820 : (Jvm.Cond.static ({ cls := "MidiDeskModel", name := "isDivision", desc := "(I)Z" } : Jvm.MethodName)) ∈ gw := gw_in 820 (by decide +kernel) (by decide +kernel)
theorem gw_821 : (Jvm.Cond.code ({ cls := "MidiDeskModel", name := "isDivision", desc := "(I)Z" } : Jvm.MethodName) prog_8_method_8_code (2 : Nat) (Option.some Jvm.ClassFile.FieldType.boolean)) ∈ gw := gw_in 821 (by decide +kernel) (by decide +kernel)
theorem gw_822 : (Jvm.Cond.constantLong "MidiDeskModel" (104 : Nat) (1297379947 : Int64)) ∈ gw := gw_in 822 (by decide +kernel) (by decide +kernel)
theorem gw_823 : (Jvm.Cond.methodLink "MidiDeskModel" (106 : Nat) ({ cls := "MidiDeskModel", name := "track", desc := "(I)V" } : Jvm.MethodName)) ∈ gw := gw_in 823 (by decide +kernel) (by decide +kernel)
theorem gw_825 : (Jvm.Cond.instanceMethod ({ cls := "MidiDeskModel", name := "track", desc := "(I)V" } : Jvm.MethodName)) ∈ gw := gw_in 825 (by decide +kernel) (by decide +kernel)
theorem gw_826 : (Jvm.Cond.code ({ cls := "MidiDeskModel", name := "track", desc := "(I)V" } : Jvm.MethodName) prog_8_method_11_code (8 : Nat) (Option.none : Option Jvm.ClassFile.FieldType)) ∈ gw := gw_in 826 (by decide +kernel) (by decide +kernel)
theorem gw_827 : (Jvm.Cond.methodLink "MidiDeskModel" (117 : Nat) ({ cls := "MidiDeskModel", name := "number", desc := "()I" } : Jvm.MethodName)) ∈ gw := gw_in 827 (by decide +kernel) (by decide +kernel)
theorem gw_829 : (Jvm.Cond.instanceMethod ({ cls := "MidiDeskModel", name := "number", desc := "()I" } : Jvm.MethodName)) ∈ gw := gw_in 829 (by decide +kernel) (by decide +kernel)
theorem gw_830 : (Jvm.Cond.code ({ cls := "MidiDeskModel", name := "number", desc := "()I" } : Jvm.MethodName) prog_8_method_7_code (5 : Nat) (Option.some Jvm.ClassFile.FieldType.int)) ∈ gw := gw_in 830 (by decide +kernel) (by decide +kernel)
theorem gw_831 : (Jvm.Cond.constantLong "MidiDeskModel" (121 : Nat) (268435455 : Int64)) ∈ gw := gw_in 831 (by decide +kernel) (by decide +kernel)
theorem gw_832 : (Jvm.Cond.methodLink "MidiDeskModel" (123 : Nat) ({ cls := "MidiDeskModel", name := "event", desc := "(IIII)Z" } : Jvm.MethodName)) ∈ gw := gw_in 832 (by decide +kernel) (by decide +kernel)
theorem gw_834 : (Jvm.Cond.instanceMethod ({ cls := "MidiDeskModel", name := "event", desc := "(IIII)Z" } : Jvm.MethodName)) ∈ gw := gw_in 834 (by decide +kernel) (by decide +kernel)
theorem gw_835 : (Jvm.Cond.code ({ cls := "MidiDeskModel", name := "event", desc := "(IIII)Z" } : Jvm.MethodName) prog_8_method_13_code (6 : Nat) (Option.some Jvm.ClassFile.FieldType.boolean)) ∈ gw := gw_in 835 (by decide +kernel) (by decide +kernel)
theorem gw_836 : (Jvm.Cond.methodLink "MidiDeskModel" (127 : Nat) ({ cls := "MidiDeskModel", name := "small", desc := "()I" } : Jvm.MethodName)) ∈ gw := gw_in 836 (by decide +kernel) (by decide +kernel)
theorem gw_838 : (Jvm.Cond.instanceMethod ({ cls := "MidiDeskModel", name := "small", desc := "()I" } : Jvm.MethodName)) ∈ gw := gw_in 838 (by decide +kernel) (by decide +kernel)
theorem gw_839 : (Jvm.Cond.code ({ cls := "MidiDeskModel", name := "small", desc := "()I" } : Jvm.MethodName) prog_8_method_12_code (3 : Nat) (Option.some Jvm.ClassFile.FieldType.int)) ∈ gw := gw_in 839 (by decide +kernel) (by decide +kernel)
theorem gw_840 : (Jvm.Cond.methodLink "MidiDeskModel" (130 : Nat) ({ cls := "MidiDeskModel", name := "follow", desc := "(II)V" } : Jvm.MethodName)) ∈ gw := gw_in 840 (by decide +kernel) (by decide +kernel)
theorem gw_842 : (Jvm.Cond.instanceMethod ({ cls := "MidiDeskModel", name := "follow", desc := "(II)V" } : Jvm.MethodName)) ∈ gw := gw_in 842 (by decide +kernel) (by decide +kernel)
theorem gw_843 : (Jvm.Cond.code ({ cls := "MidiDeskModel", name := "follow", desc := "(II)V" } : Jvm.MethodName) prog_8_method_14_code (6 : Nat) (Option.none : Option Jvm.ClassFile.FieldType)) ∈ gw := gw_in 843 (by decide +kernel) (by decide +kernel)
theorem gw_844 : (Jvm.Cond.methodLink "MidiDeskModel" (133 : Nat) ({ cls := "MidiDeskModel", name := "tempo", desc := "(I)I" } : Jvm.MethodName)) ∈ gw := gw_in 844 (by decide +kernel) (by decide +kernel)
theorem gw_846 : (Jvm.Cond.instanceMethod ({ cls := "MidiDeskModel", name := "tempo", desc := "(I)I" } : Jvm.MethodName)) ∈ gw := gw_in 846 (by decide +kernel) (by decide +kernel)
theorem gw_847 : (Jvm.Cond.code ({ cls := "MidiDeskModel", name := "tempo", desc := "(I)I" } : Jvm.MethodName) prog_8_method_15_code (2 : Nat) (Option.some Jvm.ClassFile.FieldType.int)) ∈ gw := gw_in 847 (by decide +kernel) (by decide +kernel)
theorem gw_848 : (Jvm.Cond.methodLink "MidiDeskModel" (114 : Nat) ({ cls := "MidiDeskModel", name := "sort", desc := "()V" } : Jvm.MethodName)) ∈ gw := gw_in 848 (by decide +kernel) (by decide +kernel)
theorem gw_850 : (Jvm.Cond.instanceMethod ({ cls := "MidiDeskModel", name := "sort", desc := "()V" } : Jvm.MethodName)) ∈ gw := gw_in 850 (by decide +kernel) (by decide +kernel)
theorem gw_851 : (Jvm.Cond.code ({ cls := "MidiDeskModel", name := "sort", desc := "()V" } : Jvm.MethodName) prog_8_method_17_code (2 : Nat) (Option.none : Option Jvm.ClassFile.FieldType)) ∈ gw := gw_in 851 (by decide +kernel) (by decide +kernel)
theorem gw_852 : (Jvm.Cond.methodLink "MidiDeskModel" (137 : Nat) ({ cls := "MidiDeskModel", name := "again", desc := "()V" } : Jvm.MethodName)) ∈ gw := gw_in 852 (by decide +kernel) (by decide +kernel)
theorem gw_854 : (Jvm.Cond.instanceMethod ({ cls := "MidiDeskModel", name := "again", desc := "()V" } : Jvm.MethodName)) ∈ gw := gw_in 854 (by decide +kernel) (by decide +kernel)
theorem gw_855 : (Jvm.Cond.code ({ cls := "MidiDeskModel", name := "again", desc := "()V" } : Jvm.MethodName) prog_8_method_19_code (4 : Nat) (Option.none : Option Jvm.ClassFile.FieldType)) ∈ gw := gw_in 855 (by decide +kernel) (by decide +kernel)
theorem gw_856 : (Jvm.Cond.methodLink "MidiDeskModel" (140 : Nat) ({ cls := "MidiDeskModel", name := "isBefore", desc := "(II)Z" } : Jvm.MethodName)) ∈ gw := gw_in 856 (by decide +kernel) (by decide +kernel)
theorem gw_858 : (Jvm.Cond.instanceMethod ({ cls := "MidiDeskModel", name := "isBefore", desc := "(II)Z" } : Jvm.MethodName)) ∈ gw := gw_in 858 (by decide +kernel) (by decide +kernel)
theorem gw_859 : (Jvm.Cond.code ({ cls := "MidiDeskModel", name := "isBefore", desc := "(II)Z" } : Jvm.MethodName) prog_8_method_18_code (3 : Nat) (Option.some Jvm.ClassFile.FieldType.boolean)) ∈ gw := gw_in 859 (by decide +kernel) (by decide +kernel)
theorem gw_864 : (Jvm.Cond.methodLink "MidiDeskModel" (144 : Nat) ({ cls := "MidiDeskModel", name := "has", desc := "(I)Z" } : Jvm.MethodName)) ∈ gw := gw_in 864 (by decide +kernel) (by decide +kernel)
theorem gw_866 : (Jvm.Cond.instanceMethod ({ cls := "MidiDeskModel", name := "has", desc := "(I)Z" } : Jvm.MethodName)) ∈ gw := gw_in 866 (by decide +kernel) (by decide +kernel)
theorem gw_867 : (Jvm.Cond.code ({ cls := "MidiDeskModel", name := "has", desc := "(I)Z" } : Jvm.MethodName) prog_8_method_20_code (2 : Nat) (Option.some Jvm.ClassFile.FieldType.boolean)) ∈ gw := gw_in 867 (by decide +kernel) (by decide +kernel)
theorem gw_876 : (Jvm.Cond.constant "MidiDeskModel" (157 : Nat) (268435455 : Int32)) ∈ gw := gw_in 876 (by decide +kernel) (by decide +kernel)
theorem gw_877 : (Jvm.Cond.methodLink "MidiDeskModel" (158 : Nat) ({ cls := "MidiDeskModel", name := "fails", desc := "(ZZ)Z" } : Jvm.MethodName)) ∈ gw := gw_in 877 (by decide +kernel) (by decide +kernel)
theorem gw_879 : (Jvm.Cond.instanceMethod ({ cls := "MidiDeskModel", name := "fails", desc := "(ZZ)Z" } : Jvm.MethodName)) ∈ gw := gw_in 879 (by decide +kernel) (by decide +kernel)
theorem gw_880 : (Jvm.Cond.code ({ cls := "MidiDeskModel", name := "fails", desc := "(ZZ)Z" } : Jvm.MethodName) prog_8_method_3_code (3 : Nat) (Option.some Jvm.ClassFile.FieldType.boolean)) ∈ gw := gw_in 880 (by decide +kernel) (by decide +kernel)
theorem gw_881 : (Jvm.Cond.methodLink "MidiDeskModel" (162 : Nat) ({ cls := "MidiDeskModel", name := "timed", desc := "(I)J" } : Jvm.MethodName)) ∈ gw := gw_in 881 (by decide +kernel) (by decide +kernel)
theorem gw_883 : (Jvm.Cond.instanceMethod ({ cls := "MidiDeskModel", name := "timed", desc := "(I)J" } : Jvm.MethodName)) ∈ gw := gw_in 883 (by decide +kernel) (by decide +kernel)
theorem gw_884 : (Jvm.Cond.code ({ cls := "MidiDeskModel", name := "timed", desc := "(I)J" } : Jvm.MethodName) prog_8_method_24_code (8 : Nat) (Option.some Jvm.ClassFile.FieldType.long)) ∈ gw := gw_in 884 (by decide +kernel) (by decide +kernel)
theorem gw_885 : (Jvm.Cond.constantLong "MidiDeskModel" (149 : Nat) (100100 : Int64)) ∈ gw := gw_in 885 (by decide +kernel) (by decide +kernel)
theorem gw_886 : (Jvm.Cond.constantLong "MidiDeskModel" (151 : Nat) (1000000 : Int64)) ∈ gw := gw_in 886 (by decide +kernel) (by decide +kernel)
theorem gw_887 : (Jvm.Cond.constant "MidiDeskModel" (153 : Nat) (500000 : Int32)) ∈ gw := gw_in 887 (by decide +kernel) (by decide +kernel)
theorem gw_888 : (Jvm.Cond.methodLink "MidiDeskModel" (154 : Nat) ({ cls := "MidiDeskModel", name := "isTempo", desc := "(I)Z" } : Jvm.MethodName)) ∈ gw := gw_in 888 (by decide +kernel) (by decide +kernel)
theorem gw_890 : (Jvm.Cond.instanceMethod ({ cls := "MidiDeskModel", name := "isTempo", desc := "(I)Z" } : Jvm.MethodName)) ∈ gw := gw_in 890 (by decide +kernel) (by decide +kernel)
theorem gw_891 : (Jvm.Cond.code ({ cls := "MidiDeskModel", name := "isTempo", desc := "(I)Z" } : Jvm.MethodName) prog_8_method_16_code (2 : Nat) (Option.some Jvm.ClassFile.FieldType.boolean)) ∈ gw := gw_in 891 (by decide +kernel) (by decide +kernel)
theorem gw_892 : (Jvm.Cond.methodLink "MidiDeskModel" (165 : Nat) ({ cls := "MidiDeskModel", name := "parts", desc := "()J" } : Jvm.MethodName)) ∈ gw := gw_in 892 (by decide +kernel) (by decide +kernel)
theorem gw_894 : (Jvm.Cond.instanceMethod ({ cls := "MidiDeskModel", name := "parts", desc := "()J" } : Jvm.MethodName)) ∈ gw := gw_in 894 (by decide +kernel) (by decide +kernel)
theorem gw_895 : (Jvm.Cond.code ({ cls := "MidiDeskModel", name := "parts", desc := "()J" } : Jvm.MethodName) prog_8_method_23_code (2 : Nat) (Option.some Jvm.ClassFile.FieldType.long)) ∈ gw := gw_in 895 (by decide +kernel) (by decide +kernel)
theorem gw_896 : (Jvm.Cond.constantLong "MidiDeskModel" (147 : Nat) (3 : Int64)) ∈ gw := gw_in 896 (by decide +kernel) (by decide +kernel)
theorem gw_905 : (Jvm.Cond.methodLink "MidiDeskModel" (169 : Nat) ({ cls := "MidiDeskModel", name := "begins", desc := "(I)Z" } : Jvm.MethodName)) ∈ gw := gw_in 905 (by decide +kernel) (by decide +kernel)
theorem gw_907 : (Jvm.Cond.instanceMethod ({ cls := "MidiDeskModel", name := "begins", desc := "(I)Z" } : Jvm.MethodName)) ∈ gw := gw_in 907 (by decide +kernel) (by decide +kernel)
theorem gw_908 : (Jvm.Cond.code ({ cls := "MidiDeskModel", name := "begins", desc := "(I)Z" } : Jvm.MethodName) prog_8_method_27_code (2 : Nat) (Option.some Jvm.ClassFile.FieldType.boolean)) ∈ gw := gw_in 908 (by decide +kernel) (by decide +kernel)
theorem gw_909 : (Jvm.Cond.methodLink "MidiDeskModel" (172 : Nat) ({ cls := "MidiDeskModel", name := "ends", desc := "(I)Z" } : Jvm.MethodName)) ∈ gw := gw_in 909 (by decide +kernel) (by decide +kernel)
theorem gw_911 : (Jvm.Cond.instanceMethod ({ cls := "MidiDeskModel", name := "ends", desc := "(I)Z" } : Jvm.MethodName)) ∈ gw := gw_in 911 (by decide +kernel) (by decide +kernel)
theorem gw_912 : (Jvm.Cond.code ({ cls := "MidiDeskModel", name := "ends", desc := "(I)Z" } : Jvm.MethodName) prog_8_method_28_code (2 : Nat) (Option.some Jvm.ClassFile.FieldType.boolean)) ∈ gw := gw_in 912 (by decide +kernel) (by decide +kernel)
theorem gw_917 : (Jvm.Cond.methodLink "MidiDeskModel" (175 : Nat) ({ cls := "MidiDeskModel", name := "isNote", desc := "(II)Z" } : Jvm.MethodName)) ∈ gw := gw_in 917 (by decide +kernel) (by decide +kernel)
theorem gw_919 : (Jvm.Cond.instanceMethod ({ cls := "MidiDeskModel", name := "isNote", desc := "(II)Z" } : Jvm.MethodName)) ∈ gw := gw_in 919 (by decide +kernel) (by decide +kernel)
theorem gw_920 : (Jvm.Cond.code ({ cls := "MidiDeskModel", name := "isNote", desc := "(II)Z" } : Jvm.MethodName) prog_8_method_31_code (3 : Nat) (Option.some Jvm.ClassFile.FieldType.boolean)) ∈ gw := gw_in 920 (by decide +kernel) (by decide +kernel)
theorem gw_921 : (Jvm.Cond.constantLong "MidiDeskModel" (178 : Nat) (128 : Int64)) ∈ gw := gw_in 921 (by decide +kernel) (by decide +kernel)
theorem gw_926 : (Jvm.Cond.constant "MidiDeskModel" (182 : Nat) (100000 : Int32)) ∈ gw := gw_in 926 (by decide +kernel) (by decide +kernel)
theorem gw_927 : (Jvm.Cond.methodLink "MidiDeskModel" (183 : Nat) ({ cls := "MidiDeskModel", name := "nearest", desc := "(II)J" } : Jvm.MethodName)) ∈ gw := gw_in 927 (by decide +kernel) (by decide +kernel)
theorem gw_928 : (Jvm.Cond.static ({ cls := "MidiDeskModel", name := "nearest", desc := "(II)J" } : Jvm.MethodName)) ∈ gw := gw_in 928 (by decide +kernel) (by decide +kernel)
theorem gw_929 : (Jvm.Cond.code ({ cls := "MidiDeskModel", name := "nearest", desc := "(II)J" } : Jvm.MethodName) prog_8_method_32_code (4 : Nat) (Option.some Jvm.ClassFile.FieldType.long)) ∈ gw := gw_in 929 (by decide +kernel) (by decide +kernel)
theorem gw_930 : (Jvm.Cond.constantLong "MidiDeskModel" (180 : Nat) (2 : Int64)) ∈ gw := gw_in 930 (by decide +kernel) (by decide +kernel)
theorem gw_939 : (Jvm.Cond.constant "MidiDeskModel" (201 : Nat) (1297377380 : Int32)) ∈ gw := gw_in 939 (by decide +kernel) (by decide +kernel)
theorem gw_940 : (Jvm.Cond.methodLink "MidiDeskModel" (195 : Nat) ({ cls := "MidiDeskModel", name := "put", desc := "(II)V" } : Jvm.MethodName)) ∈ gw := gw_in 940 (by decide +kernel) (by decide +kernel)
theorem gw_942 : (Jvm.Cond.instanceMethod ({ cls := "MidiDeskModel", name := "put", desc := "(II)V" } : Jvm.MethodName)) ∈ gw := gw_in 942 (by decide +kernel) (by decide +kernel)
theorem gw_943 : (Jvm.Cond.code ({ cls := "MidiDeskModel", name := "put", desc := "(II)V" } : Jvm.MethodName) prog_8_method_36_code (4 : Nat) (Option.none : Option Jvm.ClassFile.FieldType)) ∈ gw := gw_in 943 (by decide +kernel) (by decide +kernel)
theorem gw_944 : (Jvm.Cond.methodLink "MidiDeskModel" (190 : Nat) ({ cls := "MidiDeskModel", name := "put", desc := "(I)V" } : Jvm.MethodName)) ∈ gw := gw_in 944 (by decide +kernel) (by decide +kernel)
theorem gw_946 : (Jvm.Cond.instanceMethod ({ cls := "MidiDeskModel", name := "put", desc := "(I)V" } : Jvm.MethodName)) ∈ gw := gw_in 946 (by decide +kernel) (by decide +kernel)
theorem gw_947 : (Jvm.Cond.code ({ cls := "MidiDeskModel", name := "put", desc := "(I)V" } : Jvm.MethodName) prog_8_method_35_code (2 : Nat) (Option.none : Option Jvm.ClassFile.FieldType)) ∈ gw := gw_in 947 (by decide +kernel) (by decide +kernel)
theorem gw_948 : (Jvm.Cond.methodLink "MidiDeskModel" (202 : Nat) ({ cls := "MidiDeskModel", name := "putTrack", desc := "(IZZ)V" } : Jvm.MethodName)) ∈ gw := gw_in 948 (by decide +kernel) (by decide +kernel)
theorem gw_950 : (Jvm.Cond.instanceMethod ({ cls := "MidiDeskModel", name := "putTrack", desc := "(IZZ)V" } : Jvm.MethodName)) ∈ gw := gw_in 950 (by decide +kernel) (by decide +kernel)
theorem gw_951 : (Jvm.Cond.code ({ cls := "MidiDeskModel", name := "putTrack", desc := "(IZZ)V" } : Jvm.MethodName) prog_8_method_38_code (10 : Nat) (Option.none : Option Jvm.ClassFile.FieldType)) ∈ gw := gw_in 951 (by decide +kernel) (by decide +kernel)
theorem gw_952 : (Jvm.Cond.constant "MidiDeskModel" (194 : Nat) (1297379947 : Int32)) ∈ gw := gw_in 952 (by decide +kernel) (by decide +kernel)
theorem gw_953 : (Jvm.Cond.methodLink "MidiDeskModel" (197 : Nat) ({ cls := "MidiDeskModel", name := "putNumber", desc := "(I)V" } : Jvm.MethodName)) ∈ gw := gw_in 953 (by decide +kernel) (by decide +kernel)
theorem gw_955 : (Jvm.Cond.instanceMethod ({ cls := "MidiDeskModel", name := "putNumber", desc := "(I)V" } : Jvm.MethodName)) ∈ gw := gw_in 955 (by decide +kernel) (by decide +kernel)
theorem gw_956 : (Jvm.Cond.code ({ cls := "MidiDeskModel", name := "putNumber", desc := "(I)V" } : Jvm.MethodName) prog_8_method_37_code (4 : Nat) (Option.none : Option Jvm.ClassFile.FieldType)) ∈ gw := gw_in 956 (by decide +kernel) (by decide +kernel)
theorem gw_957 : (Jvm.Cond.constant "MidiDeskModel" (193 : Nat) (2097151 : Int32)) ∈ gw := gw_in 957 (by decide +kernel) (by decide +kernel)
theorem gw_958 : (Jvm.Cond.constant "MidiDeskModel" (200 : Nat) (16723712 : Int32)) ∈ gw := gw_in 958 (by decide +kernel) (by decide +kernel)
theorem gw_971 : (Jvm.Cond.methodLink "MidiDeskModel" (206 : Nat) ({ cls := "MidiDeskModel", name := "counted", desc := "(Z)I" } : Jvm.MethodName)) ∈ gw := gw_in 971 (by decide +kernel) (by decide +kernel)
theorem gw_973 : (Jvm.Cond.instanceMethod ({ cls := "MidiDeskModel", name := "counted", desc := "(Z)I" } : Jvm.MethodName)) ∈ gw := gw_in 973 (by decide +kernel) (by decide +kernel)
theorem gw_974 : (Jvm.Cond.code ({ cls := "MidiDeskModel", name := "counted", desc := "(Z)I" } : Jvm.MethodName) prog_8_method_42_code (4 : Nat) (Option.some Jvm.ClassFile.FieldType.int)) ∈ gw := gw_in 974 (by decide +kernel) (by decide +kernel)
end
section
abbrev cM_thrown : ByteArray := prog_8_method_2_code
abbrev yM_thrown : MethodName := ⟨"MidiDeskModel", "thrown", "()I"⟩
theorem kM_thrown : yM_thrown.cls ≠ "java/lang/invoke/MethodHandle" ∧ yM_thrown.cls ≠ "java/lang/invoke/VarHandle" ∧ (parseMethodDescriptor yM_thrown.desc).map (fun d => d.parameters.length) = some 0 := by decide +kernel
abbrev rM_thrown : Room := { frames := 0, cells := 0, slots := 0, locals := 0 }
theorem dM_thrown_0 : decode cM_thrown 0 = .ok (.aload_n 0, 1) := by decide +kernel
theorem dM_thrown_1 : decode cM_thrown 1 = .ok (.getfield 47, 3) := by decide +kernel
theorem dM_thrown_4 : decode cM_thrown 4 = .ok (.ireturn, 1) := by decide +kernel
def fM_thrown (iv : Nat → Int32) (av : Nat → Nat → Int32) : Option (Int32 × (Nat → Int32) × (Nat → Nat → Int32)) := some (iv 0, iv, av)
set_option maxHeartbeats 4000000 in
set_option maxRecDepth 100000 in
theorem cM_thrown_met {l : Launch} {g : gT} {q : Nat} {ad : Nat → Nat} {X : va_W} {iv iv' : Nat → Int32} {av av' : Nat → Nat → Int32} {r' : Int32} (hf : fM_thrown iv av = some (r', iv', av')) : mMet l yM_thrown cM_thrown 1 (some .int) rM_thrown g q ad X iv av [.ref q] (some (.int r')) iv' av' := by
  refine m_entry (by decide) (Nat.le_of_ble_eq_true rfl) ?_
  intro p e s m args below meth c ls C hr hlk hnm hl hw
  have hrv : ((some (.int r')) : Option Value) = (some (.int r')) := rfl
  have C : mCx p m c cM_thrown 1 s args g "MidiDeskModel" := C
  have hl : lv_has ls 1 [(0, .ref q)] := hl
  unfold fM_thrown at hf
  refine lv_aload_n C.1.1 C.1.2.1 dM_thrown_0 rfl (lv_at hl 0 rfl) ?_
  refine mg_thrown C hw dM_thrown_1 ?_
  exact m_reti C hr hlk hrv hw hf ⟨Nat.le_of_ble_eq_true rfl, Nat.le_of_ble_eq_true rfl⟩ dM_thrown_4
abbrev cM_fails : ByteArray := prog_8_method_3_code
abbrev yM_fails : MethodName := ⟨"MidiDeskModel", "fails", "(ZZ)Z"⟩
theorem kM_fails : yM_fails.cls ≠ "java/lang/invoke/MethodHandle" ∧ yM_fails.cls ≠ "java/lang/invoke/VarHandle" ∧ (parseMethodDescriptor yM_fails.desc).map (fun d => d.parameters.length) = some 2 := by decide +kernel
abbrev rM_fails : Room := { frames := 0, cells := 0, slots := 0, locals := 0 }
theorem dM_fails_0 : decode cM_fails 0 = .ok (.aload_n 0, 1) := by decide +kernel
theorem dM_fails_1 : decode cM_fails 1 = .ok (.iload_n 1, 1) := by decide +kernel
theorem dM_fails_2 : decode cM_fails 2 = .ok (.ifCond .eq 7, 3) := by decide +kernel
theorem dM_fails_5 : decode cM_fails 5 = .ok (.iconst 1, 1) := by decide +kernel
theorem dM_fails_6 : decode cM_fails 6 = .ok (.goto 12, 3) := by decide +kernel
theorem dM_fails_9 : decode cM_fails 9 = .ok (.iload_n 2, 1) := by decide +kernel
theorem dM_fails_10 : decode cM_fails 10 = .ok (.ifCond .eq 7, 3) := by decide +kernel
theorem dM_fails_13 : decode cM_fails 13 = .ok (.iconst 2, 1) := by decide +kernel
theorem dM_fails_14 : decode cM_fails 14 = .ok (.goto 4, 3) := by decide +kernel
theorem dM_fails_17 : decode cM_fails 17 = .ok (.iconst 0, 1) := by decide +kernel
theorem dM_fails_18 : decode cM_fails 18 = .ok (.putfield 47, 3) := by decide +kernel
theorem dM_fails_21 : decode cM_fails 21 = .ok (.aload_n 0, 1) := by decide +kernel
theorem dM_fails_22 : decode cM_fails 22 = .ok (.getfield 47, 3) := by decide +kernel
theorem dM_fails_25 : decode cM_fails 25 = .ok (.ifCond .le 7, 3) := by decide +kernel
theorem dM_fails_28 : decode cM_fails 28 = .ok (.iconst 1, 1) := by decide +kernel
theorem dM_fails_29 : decode cM_fails 29 = .ok (.goto 4, 3) := by decide +kernel
theorem dM_fails_32 : decode cM_fails 32 = .ok (.iconst 0, 1) := by decide +kernel
theorem dM_fails_33 : decode cM_fails 33 = .ok (.ireturn, 1) := by decide +kernel
def jM_fails_18 (iv : Nat → Int32) (av : Nat → Nat → Int32) (s1 : Int32) : Option (Int32 × (Nat → Int32) × (Nat → Nat → Int32)) := if ((upd iv 0 s1) 0) ≤ 0 then (some ((0 : Int32), upd iv 0 s1, av)) else (some ((1 : Int32), upd iv 0 s1, av))
def fM_fails (iv : Nat → Int32) (av : Nat → Nat → Int32) (x1 : Int32) (x2 : Int32) : Option (Int32 × (Nat → Int32) × (Nat → Nat → Int32)) := if x1 = 0 then (if x2 = 0 then (jM_fails_18 iv av (0 : Int32)) else (jM_fails_18 iv av (2 : Int32))) else (jM_fails_18 iv av (1 : Int32))
set_option maxHeartbeats 4000000 in
set_option maxRecDepth 100000 in
theorem wM_fails_18 {p : Program} {l : Launch} {e : Env} {s : State} {m : MethodId} {args : Array Value} {below : List Frame} {meth : Method} {c : Code} {g : gT} {q : Nat} {ad : Nat → Nat} {X : va_W} {rv : Option Value} {iv' : Nat → Int32} {av' : Nat → Nat → Int32} {r' : Int32} (C : mCx p m c cM_fails 3 s args g "MidiDeskModel") (hr : meth.sig.returnType = (some .boolean)) (hlk : meth.locks = false) (hrv : rv = some (.int r')) (iv : Nat → Int32) (av : Nat → Nat → Int32) (s1 : Int32) (H : Heap) (locs : List Loc) (ls : Array Slot) (hl : lv_has ls 3 [(0, .ref q)]) (hw : mWd g (mA g q ad X s.heap.size) s.heap q ad X iv av H locs) (hf : jM_fails_18 iv av s1 = some (r', iv', av')) : mG p l e rM_fails s m args below meth c g q ad X rv iv' av' H locs 0 0 (F0 m 18 ls [.int s1, .ref q]) := by
  unfold jM_fails_18 at hf
  refine mp_thrown C hw dM_fails_18 (fun H locs hw => ?_)
  refine lv_aload_n C.1.1 C.1.2.1 dM_fails_21 rfl (lv_at hl 0 rfl) ?_
  refine mg_thrown C hw dM_fails_22 ?_
  refine lv_if_le (tgt := 32) C.1.1 C.1.2.1 dM_fails_25 (by decide) (fun c1 => ?_) (fun c1 => ?_)
  · have hf := ts_t hf c1
    refine lv_iconst (v := (0 : Int32)) C.1.1 C.1.2.1 dM_fails_32 (by decide) ?_
    exact m_retz C hr hlk hrv hw (Or.inl rfl) hf ⟨Nat.le_of_ble_eq_true rfl, Nat.le_of_ble_eq_true rfl⟩ dM_fails_33
  · have hf := ts_f hf c1
    refine lv_iconst (v := (1 : Int32)) C.1.1 C.1.2.1 dM_fails_28 (by decide) ?_
    refine lv_goto (tgt := 33) C.1.1 C.1.2.1 dM_fails_29 (by decide) ?_
    exact m_retz C hr hlk hrv hw (Or.inr rfl) hf ⟨Nat.le_of_ble_eq_true rfl, Nat.le_of_ble_eq_true rfl⟩ dM_fails_33
set_option maxHeartbeats 4000000 in
set_option maxRecDepth 100000 in
theorem cM_fails_met {l : Launch} {g : gT} {q : Nat} {ad : Nat → Nat} {X : va_W} {iv iv' : Nat → Int32} {av av' : Nat → Nat → Int32} {x1 : Int32} {x2 : Int32} {r' : Int32} (hf : fM_fails iv av x1 x2 = some (r', iv', av')) : mMet l yM_fails cM_fails 3 (some .boolean) rM_fails g q ad X iv av [.ref q, .int x1, .int x2] (some (.int r')) iv' av' := by
  refine m_entry (by decide) (Nat.le_of_ble_eq_true rfl) ?_
  intro p e s m args below meth c ls C hr hlk hnm hl hw
  have hrv : ((some (.int r')) : Option Value) = (some (.int r')) := rfl
  have C : mCx p m c cM_fails 3 s args g "MidiDeskModel" := C
  have hl : lv_has ls 3 [(0, .ref q), (1, .int x1), (2, .int x2)] := hl
  unfold fM_fails at hf
  refine lv_aload_n C.1.1 C.1.2.1 dM_fails_0 rfl (lv_at hl 0 rfl) ?_
  refine lv_iload_n C.1.1 C.1.2.1 dM_fails_1 rfl (lv_at hl 1 rfl) ?_
  refine lv_if_eq (tgt := 9) C.1.1 C.1.2.1 dM_fails_2 (by decide) (fun c1 => ?_) (fun c1 => ?_)
  · have hf := ts_t hf c1
    refine lv_iload_n C.1.1 C.1.2.1 dM_fails_9 rfl (lv_at hl 2 rfl) ?_
    refine lv_if_eq (tgt := 17) C.1.1 C.1.2.1 dM_fails_10 (by decide) (fun c2 => ?_) (fun c2 => ?_)
    · have hf := ts_t hf c2
      refine lv_iconst (v := (0 : Int32)) C.1.1 C.1.2.1 dM_fails_17 (by decide) ?_
      exact wM_fails_18 C hr hlk hrv iv av (0 : Int32) _ _ ls (lv_sub hl [0] rfl) hw hf
    · have hf := ts_f hf c2
      refine lv_iconst (v := (2 : Int32)) C.1.1 C.1.2.1 dM_fails_13 (by decide) ?_
      refine lv_goto (tgt := 18) C.1.1 C.1.2.1 dM_fails_14 (by decide) ?_
      exact wM_fails_18 C hr hlk hrv iv av (2 : Int32) _ _ ls (lv_sub hl [0] rfl) hw hf
  · have hf := ts_f hf c1
    refine lv_iconst (v := (1 : Int32)) C.1.1 C.1.2.1 dM_fails_5 (by decide) ?_
    refine lv_goto (tgt := 18) C.1.1 C.1.2.1 dM_fails_6 (by decide) ?_
    exact wM_fails_18 C hr hlk hrv iv av (1 : Int32) _ _ ls (lv_sub hl [0] rfl) hw hf
abbrev cM_feed : ByteArray := prog_8_method_4_code
abbrev yM_feed : MethodName := ⟨"MidiDeskModel", "feed", "(JI)I"⟩
theorem kM_feed : yM_feed.cls ≠ "java/lang/invoke/MethodHandle" ∧ yM_feed.cls ≠ "java/lang/invoke/VarHandle" ∧ (parseMethodDescriptor yM_feed.desc).map (fun d => d.parameters.length) = some 2 := by decide +kernel
abbrev rM_feed : Room := { frames := 0, cells := 0, slots := 0, locals := 0 }
theorem dM_feed_0 : decode cM_feed 0 = .ok (.aload_n 0, 1) := by decide +kernel
theorem dM_feed_1 : decode cM_feed 1 = .ok (.iconst 0, 1) := by decide +kernel
theorem dM_feed_2 : decode cM_feed 2 = .ok (.putfield 47, 3) := by decide +kernel
theorem dM_feed_5 : decode cM_feed 5 = .ok (.iload_n 3, 1) := by decide +kernel
theorem dM_feed_6 : decode cM_feed 6 = .ok (.iconst 1, 1) := by decide +kernel
theorem dM_feed_7 : decode cM_feed 7 = .ok (.if_icmp .lt 21, 3) := by decide +kernel
theorem dM_feed_10 : decode cM_feed 10 = .ok (.iload_n 3, 1) := by decide +kernel
theorem dM_feed_11 : decode cM_feed 11 = .ok (.bipush 8, 2) := by decide +kernel
theorem dM_feed_13 : decode cM_feed 13 = .ok (.if_icmp .gt 15, 3) := by decide +kernel
theorem dM_feed_16 : decode cM_feed 16 = .ok (.aload_n 0, 1) := by decide +kernel
theorem dM_feed_17 : decode cM_feed 17 = .ok (.getfield 51, 3) := by decide +kernel
theorem dM_feed_20 : decode cM_feed 20 = .ok (.iload_n 3, 1) := by decide +kernel
theorem dM_feed_21 : decode cM_feed 21 = .ok (.iadd, 1) := by decide +kernel
theorem dM_feed_22 : decode cM_feed 22 = .ok (.sipush 12000, 3) := by decide +kernel
theorem dM_feed_25 : decode cM_feed 25 = .ok (.if_icmp .le 5, 3) := by decide +kernel
theorem dM_feed_28 : decode cM_feed 28 = .ok (.iconst (-1), 1) := by decide +kernel
theorem dM_feed_29 : decode cM_feed 29 = .ok (.ireturn, 1) := by decide +kernel
theorem dM_feed_30 : decode cM_feed 30 = .ok (.iconst 0, 1) := by decide +kernel
theorem dM_feed_31 : decode cM_feed 31 = .ok (.istore 4, 2) := by decide +kernel
theorem dM_feed_33 : decode cM_feed 33 = .ok (.iload 4, 2) := by decide +kernel
theorem dM_feed_35 : decode cM_feed 35 = .ok (.iload_n 3, 1) := by decide +kernel
theorem dM_feed_36 : decode cM_feed 36 = .ok (.if_icmp .ge 37, 3) := by decide +kernel
theorem dM_feed_39 : decode cM_feed 39 = .ok (.aload_n 0, 1) := by decide +kernel
theorem dM_feed_40 : decode cM_feed 40 = .ok (.getfield 7, 3) := by decide +kernel
theorem dM_feed_43 : decode cM_feed 43 = .ok (.aload_n 0, 1) := by decide +kernel
theorem dM_feed_44 : decode cM_feed 44 = .ok (.getfield 51, 3) := by decide +kernel
theorem dM_feed_47 : decode cM_feed 47 = .ok (.iload 4, 2) := by decide +kernel
theorem dM_feed_49 : decode cM_feed 49 = .ok (.iadd, 1) := by decide +kernel
theorem dM_feed_50 : decode cM_feed 50 = .ok (.lload_n 1, 1) := by decide +kernel
theorem dM_feed_51 : decode cM_feed 51 = .ok (.bipush 8, 2) := by decide +kernel
theorem dM_feed_53 : decode cM_feed 53 = .ok (.iload_n 3, 1) := by decide +kernel
theorem dM_feed_54 : decode cM_feed 54 = .ok (.iconst 1, 1) := by decide +kernel
theorem dM_feed_55 : decode cM_feed 55 = .ok (.isub, 1) := by decide +kernel
theorem dM_feed_56 : decode cM_feed 56 = .ok (.iload 4, 2) := by decide +kernel
theorem dM_feed_58 : decode cM_feed 58 = .ok (.isub, 1) := by decide +kernel
theorem dM_feed_59 : decode cM_feed 59 = .ok (.imul, 1) := by decide +kernel
theorem dM_feed_60 : decode cM_feed 60 = .ok (.lshr, 1) := by decide +kernel
theorem dM_feed_61 : decode cM_feed 61 = .ok (.ldc2_w 54, 3) := by decide +kernel
theorem dM_feed_64 : decode cM_feed 64 = .ok (.land, 1) := by decide +kernel
theorem dM_feed_65 : decode cM_feed 65 = .ok (.l2i, 1) := by decide +kernel
theorem dM_feed_66 : decode cM_feed 66 = .ok (.iastore, 1) := by decide +kernel
theorem dM_feed_67 : decode cM_feed 67 = .ok (.iinc 4 1, 3) := by decide +kernel
theorem dM_feed_70 : decode cM_feed 70 = .ok (.goto (-37), 3) := by decide +kernel
theorem dM_feed_73 : decode cM_feed 73 = .ok (.aload_n 0, 1) := by decide +kernel
theorem dM_feed_74 : decode cM_feed 74 = .ok (.dup, 1) := by decide +kernel
theorem dM_feed_75 : decode cM_feed 75 = .ok (.getfield 51, 3) := by decide +kernel
theorem dM_feed_78 : decode cM_feed 78 = .ok (.iload_n 3, 1) := by decide +kernel
theorem dM_feed_79 : decode cM_feed 79 = .ok (.iadd, 1) := by decide +kernel
theorem dM_feed_80 : decode cM_feed 80 = .ok (.putfield 51, 3) := by decide +kernel
theorem dM_feed_83 : decode cM_feed 83 = .ok (.aload_n 0, 1) := by decide +kernel
theorem dM_feed_84 : decode cM_feed 84 = .ok (.getfield 51, 3) := by decide +kernel
theorem dM_feed_87 : decode cM_feed 87 = .ok (.ireturn, 1) := by decide +kernel
def lM_feed_33 : Nat → (Nat → Int32) → (Nat → Nat → Int32) → Int64 → Int32 → Int32 → Option (Int32 × (Nat → Int32) × (Nat → Nat → Int32))
  | 0 => fun _ _ _ _ _ => none
  | k + 1 => fun iv av y1 x3 x4 => if x3 ≤ x4 then (some ((upd iv 1 ((iv 1) + x3)) 1, upd iv 1 ((iv 1) + x3), av)) else (if ((iv 1) + x4) < 0 ∨ 12000 ≤ ((iv 1) + x4).toNatClampNeg then none else (lM_feed_33 k iv (up2 av 0 ((iv 1) + x4).toNatClampNeg (((y1 >>> (((8 : Int32) * ((x3 - (1 : Int32)) - x4)).toInt64 &&& 63)) &&& (255 : Int64)).toInt32)) y1 x3 (x4 + 1)))
def fM_feed (iv : Nat → Int32) (av : Nat → Nat → Int32) (y1 : Int64) (x3 : Int32) : Option (Int32 × (Nat → Int32) × (Nat → Nat → Int32)) := if x3 < (1 : Int32) then (some ((-1 : Int32), upd iv 0 (0 : Int32), av)) else (if (8 : Int32) < x3 then (some ((-1 : Int32), upd iv 0 (0 : Int32), av)) else (if (((upd iv 0 (0 : Int32)) 1) + x3) ≤ (12000 : Int32) then (lM_feed_33 FU (upd iv 0 (0 : Int32)) av y1 x3 (0 : Int32)) else (some ((-1 : Int32), upd iv 0 (0 : Int32), av))))
set_option maxHeartbeats 4000000 in
set_option maxRecDepth 100000 in
theorem wM_feed_33 {p : Program} {l : Launch} {e : Env} {s : State} {m : MethodId} {args : Array Value} {below : List Frame} {meth : Method} {c : Code} {g : gT} {q : Nat} {ad : Nat → Nat} {X : va_W} {rv : Option Value} {iv' : Nat → Int32} {av' : Nat → Nat → Int32} {r' : Int32} (C : mCx p m c cM_feed 5 s args g "MidiDeskModel") (hr : meth.sig.returnType = (some .int)) (hlk : meth.locks = false) (hrv : rv = some (.int r')) (k : Nat) : ∀ (iv : Nat → Int32) (av : Nat → Nat → Int32) (y1 : Int64) (x3 : Int32) (x4 : Int32) (H : Heap) (locs : List Loc) (ls : Array Slot), lv_has ls 5 [(0, .ref q), (1, .long y1), (3, .int x3), (4, .int x4)] → mWd g (mA g q ad X s.heap.size) s.heap q ad X iv av H locs → lM_feed_33 k iv av y1 x3 x4 = some (r', iv', av') → mG p l e rM_feed s m args below meth c g q ad X rv iv' av' H locs 0 0 (F0 m 33 ls []) := by
  induction k with
  | zero => intro iv av y1 x3 x4 H locs ls hl hw hf; cases hf
  | succ k ih =>
    intro iv av y1 x3 x4 H locs ls hl hw hf
    have hf : (if x3 ≤ x4 then (some ((upd iv 1 ((iv 1) + x3)) 1, upd iv 1 ((iv 1) + x3), av)) else (if ((iv 1) + x4) < 0 ∨ 12000 ≤ ((iv 1) + x4).toNatClampNeg then none else (lM_feed_33 k iv (up2 av 0 ((iv 1) + x4).toNatClampNeg (((y1 >>> (((8 : Int32) * ((x3 - (1 : Int32)) - x4)).toInt64 &&& 63)) &&& (255 : Int64)).toInt32)) y1 x3 (x4 + 1)))) = some (r', iv', av') := hf
    refine lv_iload C.1.1 C.1.2.1 dM_feed_33 (lv_at hl 3 rfl) ?_
    refine lv_iload_n C.1.1 C.1.2.1 dM_feed_35 rfl (lv_at hl 2 rfl) ?_
    refine lv_icmp_ge (tgt := 73) C.1.1 C.1.2.1 dM_feed_36 (by decide) (fun c1 => ?_) (fun c1 => ?_)
    · have hf := ts_t hf c1
      refine lv_aload_n C.1.1 C.1.2.1 dM_feed_73 rfl (lv_at hl 0 rfl) ?_
      refine lv_dup C.1.1 C.1.2.1 dM_feed_74 rfl ?_
      refine mg_size C hw dM_feed_75 ?_
      refine lv_iload_n C.1.1 C.1.2.1 dM_feed_78 rfl (lv_at hl 2 rfl) ?_
      refine lv_iadd C.1.1 C.1.2.1 dM_feed_79 ?_
      refine mp_size C hw dM_feed_80 (fun H locs hw => ?_)
      refine lv_aload_n C.1.1 C.1.2.1 dM_feed_83 rfl (lv_at hl 0 rfl) ?_
      refine mg_size C hw dM_feed_84 ?_
      exact m_reti C hr hlk hrv hw hf ⟨Nat.le_of_ble_eq_true rfl, Nat.le_of_ble_eq_true rfl⟩ dM_feed_87
    · have hf := ts_f hf c1
      refine lv_aload_n C.1.1 C.1.2.1 dM_feed_39 rfl (lv_at hl 0 rfl) ?_
      refine mg_input C hw dM_feed_40 ?_
      refine lv_aload_n C.1.1 C.1.2.1 dM_feed_43 rfl (lv_at hl 0 rfl) ?_
      refine mg_size C hw dM_feed_44 ?_
      refine lv_iload C.1.1 C.1.2.1 dM_feed_47 (lv_at hl 3 rfl) ?_
      refine lv_iadd C.1.1 C.1.2.1 dM_feed_49 ?_
      refine lv_lload_n C.1.1 C.1.2.1 dM_feed_50 rfl (lv_at hl 1 rfl) ?_
      refine lv_bipush (v := (8 : Int32)) C.1.1 C.1.2.1 dM_feed_51 (by decide) ?_
      refine lv_iload_n C.1.1 C.1.2.1 dM_feed_53 rfl (lv_at hl 2 rfl) ?_
      refine lv_iconst (v := (1 : Int32)) C.1.1 C.1.2.1 dM_feed_54 (by decide) ?_
      refine lv_isub C.1.1 C.1.2.1 dM_feed_55 ?_
      refine lv_iload C.1.1 C.1.2.1 dM_feed_56 (lv_at hl 3 rfl) ?_
      refine lv_isub C.1.1 C.1.2.1 dM_feed_58 ?_
      refine lv_imul C.1.1 C.1.2.1 dM_feed_59 ?_
      refine lv_lshr C.1.1 C.1.2.1 dM_feed_60 rfl ?_
      refine lv_ldc2 C.1.1 C.1.2.1 C.1.2.2.2.1 (C.1.2.2.2.2 _ gw_799) dM_feed_61 ?_
      refine lv_land C.1.1 C.1.2.1 dM_feed_64 ?_
      refine lv_l2i C.1.1 C.1.2.1 dM_feed_65 rfl ?_
      obtain ⟨h2, hf⟩ := ts_g hf
      refine ms_input C hw h2 dM_feed_66 (fun H locs hw => ?_)
      refine lv_iinc (v := x4 + 1) (lv' := [(4, .int (x4 + 1)), (0, .ref q), (1, .long y1), (3, .int x3)]) C.1.1 C.1.2.1 dM_feed_67 hl (k := 3) rfl rfl (by decide) rfl (fun ls hl => ?_)
      refine lv_goto (tgt := 33) C.1.1 C.1.2.1 dM_feed_70 (by decide) ?_
      exact ih iv (up2 av 0 ((iv 1) + x4).toNatClampNeg (((y1 >>> (((8 : Int32) * ((x3 - (1 : Int32)) - x4)).toInt64 &&& 63)) &&& (255 : Int64)).toInt32)) y1 x3 (x4 + 1) _ _ ls (lv_sub hl [1, 2, 3, 0] rfl) hw hf
set_option maxHeartbeats 4000000 in
set_option maxRecDepth 100000 in
theorem cM_feed_met {l : Launch} {g : gT} {q : Nat} {ad : Nat → Nat} {X : va_W} {iv iv' : Nat → Int32} {av av' : Nat → Nat → Int32} {y1 : Int64} {x3 : Int32} {r' : Int32} (hf : fM_feed iv av y1 x3 = some (r', iv', av')) : mMet l yM_feed cM_feed 5 (some .int) rM_feed g q ad X iv av [.ref q, .long y1, .int x3] (some (.int r')) iv' av' := by
  refine m_entry (by decide) (Nat.le_of_ble_eq_true rfl) ?_
  intro p e s m args below meth c ls C hr hlk hnm hl hw
  have hrv : ((some (.int r')) : Option Value) = (some (.int r')) := rfl
  have C : mCx p m c cM_feed 5 s args g "MidiDeskModel" := C
  have hl : lv_has ls 5 [(0, .ref q), (1, .long y1), (3, .int x3)] := hl
  unfold fM_feed at hf
  refine lv_aload_n C.1.1 C.1.2.1 dM_feed_0 rfl (lv_at hl 0 rfl) ?_
  refine lv_iconst (v := (0 : Int32)) C.1.1 C.1.2.1 dM_feed_1 (by decide) ?_
  refine mp_thrown C hw dM_feed_2 (fun H locs hw => ?_)
  refine lv_iload_n C.1.1 C.1.2.1 dM_feed_5 rfl (lv_at hl 2 rfl) ?_
  refine lv_iconst (v := (1 : Int32)) C.1.1 C.1.2.1 dM_feed_6 (by decide) ?_
  refine lv_icmp_lt (tgt := 28) C.1.1 C.1.2.1 dM_feed_7 (by decide) (fun c1 => ?_) (fun c1 => ?_)
  · have hf := ts_t hf c1
    refine lv_iconst (v := (-1 : Int32)) C.1.1 C.1.2.1 dM_feed_28 (by decide) ?_
    exact m_reti C hr hlk hrv hw hf ⟨Nat.le_of_ble_eq_true rfl, Nat.le_of_ble_eq_true rfl⟩ dM_feed_29
  · have hf := ts_f hf c1
    refine lv_iload_n C.1.1 C.1.2.1 dM_feed_10 rfl (lv_at hl 2 rfl) ?_
    refine lv_bipush (v := (8 : Int32)) C.1.1 C.1.2.1 dM_feed_11 (by decide) ?_
    refine lv_icmp_gt (tgt := 28) C.1.1 C.1.2.1 dM_feed_13 (by decide) (fun c2 => ?_) (fun c2 => ?_)
    · have hf := ts_t hf c2
      refine lv_iconst (v := (-1 : Int32)) C.1.1 C.1.2.1 dM_feed_28 (by decide) ?_
      exact m_reti C hr hlk hrv hw hf ⟨Nat.le_of_ble_eq_true rfl, Nat.le_of_ble_eq_true rfl⟩ dM_feed_29
    · have hf := ts_f hf c2
      refine lv_aload_n C.1.1 C.1.2.1 dM_feed_16 rfl (lv_at hl 0 rfl) ?_
      refine mg_size C hw dM_feed_17 ?_
      refine lv_iload_n C.1.1 C.1.2.1 dM_feed_20 rfl (lv_at hl 2 rfl) ?_
      refine lv_iadd C.1.1 C.1.2.1 dM_feed_21 ?_
      refine lv_sipush (v := (12000 : Int32)) C.1.1 C.1.2.1 dM_feed_22 (by decide) ?_
      refine lv_icmp_le (tgt := 30) C.1.1 C.1.2.1 dM_feed_25 (by decide) (fun c3 => ?_) (fun c3 => ?_)
      · have hf := ts_t hf c3
        refine lv_iconst (v := (0 : Int32)) C.1.1 C.1.2.1 dM_feed_30 (by decide) ?_
        refine lv_istore (lv' := [(4, .int (0 : Int32)), (0, .ref q), (1, .long y1), (3, .int x3)]) C.1.1 C.1.2.1 dM_feed_31 hl (by decide) rfl (fun ls hl => ?_)
        exact wM_feed_33 C hr hlk hrv FU (upd iv 0 (0 : Int32)) av y1 x3 (0 : Int32) _ _ ls (lv_sub hl [1, 2, 3, 0] rfl) hw hf
      · have hf := ts_f hf c3
        refine lv_iconst (v := (-1 : Int32)) C.1.1 C.1.2.1 dM_feed_28 (by decide) ?_
        exact m_reti C hr hlk hrv hw hf ⟨Nat.le_of_ble_eq_true rfl, Nat.le_of_ble_eq_true rfl⟩ dM_feed_29
abbrev cM_fail : ByteArray := prog_8_method_5_code
abbrev yM_fail : MethodName := ⟨"MidiDeskModel", "fail", "(II)V"⟩
theorem kM_fail : yM_fail.cls ≠ "java/lang/invoke/MethodHandle" ∧ yM_fail.cls ≠ "java/lang/invoke/VarHandle" ∧ (parseMethodDescriptor yM_fail.desc).map (fun d => d.parameters.length) = some 2 := by decide +kernel
abbrev rM_fail : Room := { frames := 0, cells := 0, slots := 0, locals := 0 }
theorem dM_fail_0 : decode cM_fail 0 = .ok (.aload_n 0, 1) := by decide +kernel
theorem dM_fail_1 : decode cM_fail 1 = .ok (.getfield 56, 3) := by decide +kernel
theorem dM_fail_4 : decode cM_fail 4 = .ok (.ifCond .le 4, 3) := by decide +kernel
theorem dM_fail_7 : decode cM_fail 7 = .ok (.return_, 1) := by decide +kernel
theorem dM_fail_8 : decode cM_fail 8 = .ok (.aload_n 0, 1) := by decide +kernel
theorem dM_fail_9 : decode cM_fail 9 = .ok (.iload_n 1, 1) := by decide +kernel
theorem dM_fail_10 : decode cM_fail 10 = .ok (.putfield 56, 3) := by decide +kernel
theorem dM_fail_13 : decode cM_fail 13 = .ok (.aload_n 0, 1) := by decide +kernel
theorem dM_fail_14 : decode cM_fail 14 = .ok (.iload_n 2, 1) := by decide +kernel
theorem dM_fail_15 : decode cM_fail 15 = .ok (.putfield 59, 3) := by decide +kernel
theorem dM_fail_18 : decode cM_fail 18 = .ok (.return_, 1) := by decide +kernel
def fM_fail (iv : Nat → Int32) (av : Nat → Nat → Int32) (x1 : Int32) (x2 : Int32) : Option ((Nat → Int32) × (Nat → Nat → Int32)) := if (iv 4) ≤ 0 then (some (upd (upd iv 4 x1) 5 x2, av)) else (some (iv, av))
set_option maxHeartbeats 4000000 in
set_option maxRecDepth 100000 in
theorem cM_fail_met {l : Launch} {g : gT} {q : Nat} {ad : Nat → Nat} {X : va_W} {iv iv' : Nat → Int32} {av av' : Nat → Nat → Int32} {x1 : Int32} {x2 : Int32} (hf : fM_fail iv av x1 x2 = some (iv', av')) : mMet l yM_fail cM_fail 3 none rM_fail g q ad X iv av [.ref q, .int x1, .int x2] none iv' av' := by
  refine m_entry (by decide) (Nat.le_of_ble_eq_true rfl) ?_
  intro p e s m args below meth c ls C hr hlk hnm hl hw
  have hrv : (none : Option Value) = none := rfl
  have C : mCx p m c cM_fail 3 s args g "MidiDeskModel" := C
  have hl : lv_has ls 3 [(0, .ref q), (1, .int x1), (2, .int x2)] := hl
  unfold fM_fail at hf
  refine lv_aload_n C.1.1 C.1.2.1 dM_fail_0 rfl (lv_at hl 0 rfl) ?_
  refine mg_fault C hw dM_fail_1 ?_
  refine lv_if_le (tgt := 8) C.1.1 C.1.2.1 dM_fail_4 (by decide) (fun c1 => ?_) (fun c1 => ?_)
  · have hf := ts_t hf c1
    refine lv_aload_n C.1.1 C.1.2.1 dM_fail_8 rfl (lv_at hl 0 rfl) ?_
    refine lv_iload_n C.1.1 C.1.2.1 dM_fail_9 rfl (lv_at hl 1 rfl) ?_
    refine mp_fault C hw dM_fail_10 (fun H locs hw => ?_)
    refine lv_aload_n C.1.1 C.1.2.1 dM_fail_13 rfl (lv_at hl 0 rfl) ?_
    refine lv_iload_n C.1.1 C.1.2.1 dM_fail_14 rfl (lv_at hl 2 rfl) ?_
    refine mp_place C hw dM_fail_15 (fun H locs hw => ?_)
    exact m_retv C hr hlk hrv hw hf ⟨Nat.le_of_ble_eq_true rfl, Nat.le_of_ble_eq_true rfl⟩ dM_fail_18
  · have hf := ts_f hf c1
    exact m_retv C hr hlk hrv hw hf ⟨Nat.le_of_ble_eq_true rfl, Nat.le_of_ble_eq_true rfl⟩ dM_fail_7
abbrev cM_taken : ByteArray := prog_8_method_6_code
abbrev yM_taken : MethodName := ⟨"MidiDeskModel", "taken", "(I)J"⟩
theorem kM_taken : yM_taken.cls ≠ "java/lang/invoke/MethodHandle" ∧ yM_taken.cls ≠ "java/lang/invoke/VarHandle" ∧ (parseMethodDescriptor yM_taken.desc).map (fun d => d.parameters.length) = some 1 := by decide +kernel
abbrev rM_taken : Room := { frames := 1, cells := 0, slots := 0, locals := 22 }
theorem dM_taken_0 : decode cM_taken 0 = .ok (.aload_n 0, 1) := by decide +kernel
theorem dM_taken_1 : decode cM_taken 1 = .ok (.getfield 56, 3) := by decide +kernel
theorem dM_taken_4 : decode cM_taken 4 = .ok (.ifCond .ne 25, 3) := by decide +kernel
theorem dM_taken_7 : decode cM_taken 7 = .ok (.aload_n 0, 1) := by decide +kernel
theorem dM_taken_8 : decode cM_taken 8 = .ok (.getfield 62, 3) := by decide +kernel
theorem dM_taken_11 : decode cM_taken 11 = .ok (.iload_n 1, 1) := by decide +kernel
theorem dM_taken_12 : decode cM_taken 12 = .ok (.iadd, 1) := by decide +kernel
theorem dM_taken_13 : decode cM_taken 13 = .ok (.aload_n 0, 1) := by decide +kernel
theorem dM_taken_14 : decode cM_taken 14 = .ok (.getfield 65, 3) := by decide +kernel
theorem dM_taken_17 : decode cM_taken 17 = .ok (.if_icmp .le 12, 3) := by decide +kernel
theorem dM_taken_20 : decode cM_taken 20 = .ok (.aload_n 0, 1) := by decide +kernel
theorem dM_taken_21 : decode cM_taken 21 = .ok (.iconst 1, 1) := by decide +kernel
theorem dM_taken_22 : decode cM_taken 22 = .ok (.aload_n 0, 1) := by decide +kernel
theorem dM_taken_23 : decode cM_taken 23 = .ok (.getfield 65, 3) := by decide +kernel
theorem dM_taken_26 : decode cM_taken 26 = .ok (.invokevirtual 68, 3) := by decide +kernel
theorem dM_taken_29 : decode cM_taken 29 = .ok (.aload_n 0, 1) := by decide +kernel
theorem dM_taken_30 : decode cM_taken 30 = .ok (.getfield 56, 3) := by decide +kernel
theorem dM_taken_33 : decode cM_taken 33 = .ok (.ifCond .le 5, 3) := by decide +kernel
theorem dM_taken_36 : decode cM_taken 36 = .ok (.lconst 0, 1) := by decide +kernel
theorem dM_taken_37 : decode cM_taken 37 = .ok (.lreturn, 1) := by decide +kernel
theorem dM_taken_38 : decode cM_taken 38 = .ok (.lconst 0, 1) := by decide +kernel
theorem dM_taken_39 : decode cM_taken 39 = .ok (.lstore_n 2, 1) := by decide +kernel
theorem dM_taken_40 : decode cM_taken 40 = .ok (.iconst 0, 1) := by decide +kernel
theorem dM_taken_41 : decode cM_taken 41 = .ok (.istore 4, 2) := by decide +kernel
theorem dM_taken_43 : decode cM_taken 43 = .ok (.iload 4, 2) := by decide +kernel
theorem dM_taken_45 : decode cM_taken 45 = .ok (.iload_n 1, 1) := by decide +kernel
theorem dM_taken_46 : decode cM_taken 46 = .ok (.if_icmp .ge 29, 3) := by decide +kernel
theorem dM_taken_49 : decode cM_taken 49 = .ok (.ldc2_w 72, 3) := by decide +kernel
theorem dM_taken_52 : decode cM_taken 52 = .ok (.lload_n 2, 1) := by decide +kernel
theorem dM_taken_53 : decode cM_taken 53 = .ok (.lmul, 1) := by decide +kernel
theorem dM_taken_54 : decode cM_taken 54 = .ok (.aload_n 0, 1) := by decide +kernel
theorem dM_taken_55 : decode cM_taken 55 = .ok (.getfield 7, 3) := by decide +kernel
theorem dM_taken_58 : decode cM_taken 58 = .ok (.aload_n 0, 1) := by decide +kernel
theorem dM_taken_59 : decode cM_taken 59 = .ok (.getfield 62, 3) := by decide +kernel
theorem dM_taken_62 : decode cM_taken 62 = .ok (.iload 4, 2) := by decide +kernel
theorem dM_taken_64 : decode cM_taken 64 = .ok (.iadd, 1) := by decide +kernel
theorem dM_taken_65 : decode cM_taken 65 = .ok (.iaload, 1) := by decide +kernel
theorem dM_taken_66 : decode cM_taken 66 = .ok (.i2l, 1) := by decide +kernel
theorem dM_taken_67 : decode cM_taken 67 = .ok (.ladd, 1) := by decide +kernel
theorem dM_taken_68 : decode cM_taken 68 = .ok (.lstore_n 2, 1) := by decide +kernel
theorem dM_taken_69 : decode cM_taken 69 = .ok (.iinc 4 1, 3) := by decide +kernel
theorem dM_taken_72 : decode cM_taken 72 = .ok (.goto (-29), 3) := by decide +kernel
theorem dM_taken_75 : decode cM_taken 75 = .ok (.aload_n 0, 1) := by decide +kernel
theorem dM_taken_76 : decode cM_taken 76 = .ok (.dup, 1) := by decide +kernel
theorem dM_taken_77 : decode cM_taken 77 = .ok (.getfield 62, 3) := by decide +kernel
theorem dM_taken_80 : decode cM_taken 80 = .ok (.iload_n 1, 1) := by decide +kernel
theorem dM_taken_81 : decode cM_taken 81 = .ok (.iadd, 1) := by decide +kernel
theorem dM_taken_82 : decode cM_taken 82 = .ok (.putfield 62, 3) := by decide +kernel
theorem dM_taken_85 : decode cM_taken 85 = .ok (.lload_n 2, 1) := by decide +kernel
theorem dM_taken_86 : decode cM_taken 86 = .ok (.lreturn, 1) := by decide +kernel
def lM_taken_43 : Nat → (Nat → Int32) → (Nat → Nat → Int32) → Int32 → Int64 → Int32 → Option (Int64 × (Nat → Int32) × (Nat → Nat → Int32))
  | 0 => fun _ _ _ _ _ => none
  | k + 1 => fun iv av x1 y2 x4 => if x1 ≤ x4 then (some (y2, upd iv 2 ((iv 2) + x1), av)) else (if ((iv 2) + x4) < 0 ∨ 12000 ≤ ((iv 2) + x4).toNatClampNeg then none else (lM_taken_43 k iv av x1 (((256 : Int64) * y2) + ((av 0 ((iv 2) + x4).toNatClampNeg).toInt64)) (x4 + 1)))
def jM_taken_29 (iv : Nat → Int32) (av : Nat → Nat → Int32) (x1 : Int32) : Option (Int64 × (Nat → Int32) × (Nat → Nat → Int32)) := if (iv 4) ≤ 0 then (lM_taken_43 FU iv av x1 (0 : Int64) (0 : Int32)) else (some ((0 : Int64), iv, av))
def fM_taken (iv : Nat → Int32) (av : Nat → Nat → Int32) (x1 : Int32) : Option (Int64 × (Nat → Int32) × (Nat → Nat → Int32)) := if (iv 4) = 0 then (if ((iv 2) + x1) ≤ (iv 3) then (jM_taken_29 iv av x1) else ((fM_fail iv av (1 : Int32) (iv 3)).bind fun (iv3, av3) => jM_taken_29 iv3 av3 x1)) else (jM_taken_29 iv av x1)
set_option maxHeartbeats 4000000 in
set_option maxRecDepth 100000 in
theorem wM_taken_43 {p : Program} {l : Launch} {e : Env} {s : State} {m : MethodId} {args : Array Value} {below : List Frame} {meth : Method} {c : Code} {g : gT} {q : Nat} {ad : Nat → Nat} {X : va_W} {rv : Option Value} {iv' : Nat → Int32} {av' : Nat → Nat → Int32} {r' : Int64} (C : mCx p m c cM_taken 5 s args g "MidiDeskModel") (hr : meth.sig.returnType = (some .long)) (hlk : meth.locks = false) (hrv : rv = some (.long r')) (k : Nat) : ∀ (iv : Nat → Int32) (av : Nat → Nat → Int32) (x1 : Int32) (y2 : Int64) (x4 : Int32) (H : Heap) (locs : List Loc) (ls : Array Slot), lv_has ls 5 [(0, .ref q), (1, .int x1), (2, .long y2), (4, .int x4)] → mWd g (mA g q ad X s.heap.size) s.heap q ad X iv av H locs → lM_taken_43 k iv av x1 y2 x4 = some (r', iv', av') → mG p l e rM_taken s m args below meth c g q ad X rv iv' av' H locs 0 0 (F0 m 43 ls []) := by
  induction k with
  | zero => intro iv av x1 y2 x4 H locs ls hl hw hf; cases hf
  | succ k ih =>
    intro iv av x1 y2 x4 H locs ls hl hw hf
    have hf : (if x1 ≤ x4 then (some (y2, upd iv 2 ((iv 2) + x1), av)) else (if ((iv 2) + x4) < 0 ∨ 12000 ≤ ((iv 2) + x4).toNatClampNeg then none else (lM_taken_43 k iv av x1 (((256 : Int64) * y2) + ((av 0 ((iv 2) + x4).toNatClampNeg).toInt64)) (x4 + 1)))) = some (r', iv', av') := hf
    refine lv_iload C.1.1 C.1.2.1 dM_taken_43 (lv_at hl 3 rfl) ?_
    refine lv_iload_n C.1.1 C.1.2.1 dM_taken_45 rfl (lv_at hl 1 rfl) ?_
    refine lv_icmp_ge (tgt := 75) C.1.1 C.1.2.1 dM_taken_46 (by decide) (fun c1 => ?_) (fun c1 => ?_)
    · have hf := ts_t hf c1
      refine lv_aload_n C.1.1 C.1.2.1 dM_taken_75 rfl (lv_at hl 0 rfl) ?_
      refine lv_dup C.1.1 C.1.2.1 dM_taken_76 rfl ?_
      refine mg_at C hw dM_taken_77 ?_
      refine lv_iload_n C.1.1 C.1.2.1 dM_taken_80 rfl (lv_at hl 1 rfl) ?_
      refine lv_iadd C.1.1 C.1.2.1 dM_taken_81 ?_
      refine mp_at C hw dM_taken_82 (fun H locs hw => ?_)
      refine lv_lload_n C.1.1 C.1.2.1 dM_taken_85 rfl (lv_at hl 2 rfl) ?_
      exact m_retl C hr hlk hrv hw hf ⟨Nat.le_of_ble_eq_true rfl, Nat.le_of_ble_eq_true rfl⟩ dM_taken_86
    · have hf := ts_f hf c1
      refine lv_ldc2 C.1.1 C.1.2.1 C.1.2.2.2.1 (C.1.2.2.2.2 _ gw_816) dM_taken_49 ?_
      refine lv_lload_n C.1.1 C.1.2.1 dM_taken_52 rfl (lv_at hl 2 rfl) ?_
      refine lv_lmul C.1.1 C.1.2.1 dM_taken_53 ?_
      refine lv_aload_n C.1.1 C.1.2.1 dM_taken_54 rfl (lv_at hl 0 rfl) ?_
      refine mg_input C hw dM_taken_55 ?_
      refine lv_aload_n C.1.1 C.1.2.1 dM_taken_58 rfl (lv_at hl 0 rfl) ?_
      refine mg_at C hw dM_taken_59 ?_
      refine lv_iload C.1.1 C.1.2.1 dM_taken_62 (lv_at hl 3 rfl) ?_
      refine lv_iadd C.1.1 C.1.2.1 dM_taken_64 ?_
      obtain ⟨h2, hf⟩ := ts_g hf
      refine ma_input C hw h2 dM_taken_65 ?_
      refine lv_i2l C.1.1 C.1.2.1 dM_taken_66 rfl ?_
      refine lv_ladd C.1.1 C.1.2.1 dM_taken_67 ?_
      refine lv_lstore_n (lv' := [(2, .long (((256 : Int64) * y2) + ((av 0 ((iv 2) + x4).toNatClampNeg).toInt64))), (0, .ref q), (1, .int x1), (4, .int x4)]) C.1.1 C.1.2.1 dM_taken_68 rfl hl (by decide) rfl (fun ls hl => ?_)
      refine lv_iinc (v := x4 + 1) (lv' := [(4, .int (x4 + 1)), (2, .long (((256 : Int64) * y2) + ((av 0 ((iv 2) + x4).toNatClampNeg).toInt64))), (0, .ref q), (1, .int x1)]) C.1.1 C.1.2.1 dM_taken_69 hl (k := 3) rfl rfl (by decide) rfl (fun ls hl => ?_)
      refine lv_goto (tgt := 43) C.1.1 C.1.2.1 dM_taken_72 (by decide) ?_
      exact ih iv av x1 (((256 : Int64) * y2) + ((av 0 ((iv 2) + x4).toNatClampNeg).toInt64)) (x4 + 1) _ _ ls (lv_sub hl [2, 3, 1, 0] rfl) hw hf
set_option maxHeartbeats 4000000 in
set_option maxRecDepth 100000 in
theorem wM_taken_29 {p : Program} {l : Launch} {e : Env} {s : State} {m : MethodId} {args : Array Value} {below : List Frame} {meth : Method} {c : Code} {g : gT} {q : Nat} {ad : Nat → Nat} {X : va_W} {rv : Option Value} {iv' : Nat → Int32} {av' : Nat → Nat → Int32} {r' : Int64} (C : mCx p m c cM_taken 5 s args g "MidiDeskModel") (hr : meth.sig.returnType = (some .long)) (hlk : meth.locks = false) (hrv : rv = some (.long r')) (iv : Nat → Int32) (av : Nat → Nat → Int32) (x1 : Int32) (H : Heap) (locs : List Loc) (ls : Array Slot) (hl : lv_has ls 5 [(0, .ref q), (1, .int x1)]) (hw : mWd g (mA g q ad X s.heap.size) s.heap q ad X iv av H locs) (hf : jM_taken_29 iv av x1 = some (r', iv', av')) : mG p l e rM_taken s m args below meth c g q ad X rv iv' av' H locs 0 0 (F0 m 29 ls []) := by
  unfold jM_taken_29 at hf
  refine lv_aload_n C.1.1 C.1.2.1 dM_taken_29 rfl (lv_at hl 0 rfl) ?_
  refine mg_fault C hw dM_taken_30 ?_
  refine lv_if_le (tgt := 38) C.1.1 C.1.2.1 dM_taken_33 (by decide) (fun c1 => ?_) (fun c1 => ?_)
  · have hf := ts_t hf c1
    refine lv_lconst (v := 0) C.1.1 C.1.2.1 dM_taken_38 (by decide) ?_
    refine lv_lstore_n (lv' := [(2, .long (0 : Int64)), (0, .ref q), (1, .int x1)]) C.1.1 C.1.2.1 dM_taken_39 rfl hl (by decide) rfl (fun ls hl => ?_)
    refine lv_iconst (v := (0 : Int32)) C.1.1 C.1.2.1 dM_taken_40 (by decide) ?_
    refine lv_istore (lv' := [(4, .int (0 : Int32)), (2, .long (0 : Int64)), (0, .ref q), (1, .int x1)]) C.1.1 C.1.2.1 dM_taken_41 hl (by decide) rfl (fun ls hl => ?_)
    exact wM_taken_43 C hr hlk hrv FU iv av x1 (0 : Int64) (0 : Int32) _ _ ls (lv_sub hl [2, 3, 1, 0] rfl) hw hf
  · have hf := ts_f hf c1
    refine lv_lconst (v := 0) C.1.1 C.1.2.1 dM_taken_36 (by decide) ?_
    exact m_retl C hr hlk hrv hw hf ⟨Nat.le_of_ble_eq_true rfl, Nat.le_of_ble_eq_true rfl⟩ dM_taken_37
set_option maxHeartbeats 4000000 in
set_option maxRecDepth 100000 in
theorem cM_taken_met {l : Launch} {g : gT} {q : Nat} {ad : Nat → Nat} {X : va_W} {iv iv' : Nat → Int32} {av av' : Nat → Nat → Int32} {x1 : Int32} {r' : Int64} (hf : fM_taken iv av x1 = some (r', iv', av')) : mMet l yM_taken cM_taken 5 (some .long) rM_taken g q ad X iv av [.ref q, .int x1] (some (.long r')) iv' av' := by
  refine m_entry (by decide) (Nat.le_of_ble_eq_true rfl) ?_
  intro p e s m args below meth c ls C hr hlk hnm hl hw
  have hrv : ((some (.long r')) : Option Value) = (some (.long r')) := rfl
  have C : mCx p m c cM_taken 5 s args g "MidiDeskModel" := C
  have hl : lv_has ls 5 [(0, .ref q), (1, .int x1)] := hl
  unfold fM_taken at hf
  refine lv_aload_n C.1.1 C.1.2.1 dM_taken_0 rfl (lv_at hl 0 rfl) ?_
  refine mg_fault C hw dM_taken_1 ?_
  refine lv_if_ne (tgt := 29) C.1.1 C.1.2.1 dM_taken_4 (by decide) (fun c1 => ?_) (fun c1 => ?_)
  · have hf := ts_f hf c1
    exact wM_taken_29 C hr hlk hrv iv av x1 _ _ ls (lv_sub hl [0, 1] rfl) hw hf
  · have hf := ts_t hf c1
    refine lv_aload_n C.1.1 C.1.2.1 dM_taken_7 rfl (lv_at hl 0 rfl) ?_
    refine mg_at C hw dM_taken_8 ?_
    refine lv_iload_n C.1.1 C.1.2.1 dM_taken_11 rfl (lv_at hl 1 rfl) ?_
    refine lv_iadd C.1.1 C.1.2.1 dM_taken_12 ?_
    refine lv_aload_n C.1.1 C.1.2.1 dM_taken_13 rfl (lv_at hl 0 rfl) ?_
    refine mg_end C hw dM_taken_14 ?_
    refine lv_icmp_le (tgt := 29) C.1.1 C.1.2.1 dM_taken_17 (by decide) (fun c2 => ?_) (fun c2 => ?_)
    · have hf := ts_t hf c2
      exact wM_taken_29 C hr hlk hrv iv av x1 _ _ ls (lv_sub hl [0, 1] rfl) hw hf
    · have hf := ts_f hf c2
      refine lv_aload_n C.1.1 C.1.2.1 dM_taken_20 rfl (lv_at hl 0 rfl) ?_
      refine lv_iconst (v := (1 : Int32)) C.1.1 C.1.2.1 dM_taken_21 (by decide) ?_
      refine lv_aload_n C.1.1 C.1.2.1 dM_taken_22 rfl (lv_at hl 0 rfl) ?_
      refine mg_end C hw dM_taken_23 ?_
      obtain ⟨⟨iv3, av3⟩, g3, hf⟩ := ts_b hf
      dsimp only at hf
      refine m_callV (rest := []) (As := [.int (1 : Int32), .int (iv 3)]) (rv := none) C hl.1 hw (cM_fail_met g3) (callW_of (rm := rM_fail) 2 C.1.2.2.2.2 gw_812 gw_814 gw_28 gw_55 gw_815 kM_fail ⟨Nat.le_of_ble_eq_true rfl, Nat.le_of_ble_eq_true rfl⟩) rfl rfl (Nat.le_of_ble_eq_true rfl) dM_taken_26 ⟨Nat.le_of_ble_eq_true rfl, Nat.le_of_ble_eq_true rfl⟩ (fun H locs hw => ?_)
      refine W.eq (g2 := F0 m 29 ls []) rfl ?_
      exact wM_taken_29 C hr hlk hrv iv3 av3 x1 _ _ ls (lv_sub hl [0, 1] rfl) hw hf
abbrev cM_number : ByteArray := prog_8_method_7_code
abbrev yM_number : MethodName := ⟨"MidiDeskModel", "number", "()I"⟩
theorem kM_number : yM_number.cls ≠ "java/lang/invoke/MethodHandle" ∧ yM_number.cls ≠ "java/lang/invoke/VarHandle" ∧ (parseMethodDescriptor yM_number.desc).map (fun d => d.parameters.length) = some 0 := by decide +kernel
abbrev rM_number : Room := { frames := 2, cells := 0, slots := 0, locals := 46 }
theorem dM_number_0 : decode cM_number 0 = .ok (.aload_n 0, 1) := by decide +kernel
theorem dM_number_1 : decode cM_number 1 = .ok (.getfield 62, 3) := by decide +kernel
theorem dM_number_4 : decode cM_number 4 = .ok (.istore_n 1, 1) := by decide +kernel
theorem dM_number_5 : decode cM_number 5 = .ok (.iconst 0, 1) := by decide +kernel
theorem dM_number_6 : decode cM_number 6 = .ok (.istore_n 2, 1) := by decide +kernel
theorem dM_number_7 : decode cM_number 7 = .ok (.iconst 0, 1) := by decide +kernel
theorem dM_number_8 : decode cM_number 8 = .ok (.istore_n 3, 1) := by decide +kernel
theorem dM_number_9 : decode cM_number 9 = .ok (.iload_n 3, 1) := by decide +kernel
theorem dM_number_10 : decode cM_number 10 = .ok (.iconst 4, 1) := by decide +kernel
theorem dM_number_11 : decode cM_number 11 = .ok (.if_icmp .ge 45, 3) := by decide +kernel
theorem dM_number_14 : decode cM_number 14 = .ok (.aload_n 0, 1) := by decide +kernel
theorem dM_number_15 : decode cM_number 15 = .ok (.getfield 56, 3) := by decide +kernel
theorem dM_number_18 : decode cM_number 18 = .ok (.ifCond .ne 38, 3) := by decide +kernel
theorem dM_number_21 : decode cM_number 21 = .ok (.aload_n 0, 1) := by decide +kernel
theorem dM_number_22 : decode cM_number 22 = .ok (.iconst 1, 1) := by decide +kernel
theorem dM_number_23 : decode cM_number 23 = .ok (.invokevirtual 74, 3) := by decide +kernel
theorem dM_number_26 : decode cM_number 26 = .ok (.l2i, 1) := by decide +kernel
theorem dM_number_27 : decode cM_number 27 = .ok (.istore 4, 2) := by decide +kernel
theorem dM_number_29 : decode cM_number 29 = .ok (.iload_n 2, 1) := by decide +kernel
theorem dM_number_30 : decode cM_number 30 = .ok (.bipush 7, 2) := by decide +kernel
theorem dM_number_32 : decode cM_number 32 = .ok (.ishl, 1) := by decide +kernel
theorem dM_number_33 : decode cM_number 33 = .ok (.iload 4, 2) := by decide +kernel
theorem dM_number_35 : decode cM_number 35 = .ok (.bipush 127, 2) := by decide +kernel
theorem dM_number_37 : decode cM_number 37 = .ok (.iand, 1) := by decide +kernel
theorem dM_number_38 : decode cM_number 38 = .ok (.ior, 1) := by decide +kernel
theorem dM_number_39 : decode cM_number 39 = .ok (.istore_n 2, 1) := by decide +kernel
theorem dM_number_40 : decode cM_number 40 = .ok (.iload 4, 2) := by decide +kernel
theorem dM_number_42 : decode cM_number 42 = .ok (.sipush 128, 3) := by decide +kernel
theorem dM_number_45 : decode cM_number 45 = .ok (.if_icmp .ge 5, 3) := by decide +kernel
theorem dM_number_48 : decode cM_number 48 = .ok (.iload_n 2, 1) := by decide +kernel
theorem dM_number_49 : decode cM_number 49 = .ok (.ireturn, 1) := by decide +kernel
theorem dM_number_50 : decode cM_number 50 = .ok (.iinc 3 1, 3) := by decide +kernel
theorem dM_number_53 : decode cM_number 53 = .ok (.goto (-44), 3) := by decide +kernel
theorem dM_number_56 : decode cM_number 56 = .ok (.aload_n 0, 1) := by decide +kernel
theorem dM_number_57 : decode cM_number 57 = .ok (.iconst 4, 1) := by decide +kernel
theorem dM_number_58 : decode cM_number 58 = .ok (.iload_n 1, 1) := by decide +kernel
theorem dM_number_59 : decode cM_number 59 = .ok (.invokevirtual 68, 3) := by decide +kernel
theorem dM_number_62 : decode cM_number 62 = .ok (.iconst 0, 1) := by decide +kernel
theorem dM_number_63 : decode cM_number 63 = .ok (.ireturn, 1) := by decide +kernel
def jM_number_56 (iv : Nat → Int32) (av : Nat → Nat → Int32) (x1 : Int32) : Option (Int32 × (Nat → Int32) × (Nat → Nat → Int32)) := (fM_fail iv av (4 : Int32) x1).bind fun (iv1, av1) => some ((0 : Int32), iv1, av1)
def lM_number_9 : Nat → (Nat → Int32) → (Nat → Nat → Int32) → Int32 → Int32 → Int32 → Option (Int32 × (Nat → Int32) × (Nat → Nat → Int32))
  | 0 => fun _ _ _ _ _ => none
  | k + 1 => fun iv av x1 x2 x3 => if (4 : Int32) ≤ x3 then (jM_number_56 iv av x1) else (if (iv 4) = 0 then ((fM_taken iv av (1 : Int32)).bind fun (r3, iv3, av3) => if (128 : Int32) ≤ r3.toInt32 then (lM_number_9 k iv3 av3 x1 ((x2 <<< ((7 : Int32) &&& 31)) ||| (r3.toInt32 &&& (127 : Int32))) (x3 + 1)) else (some ((x2 <<< ((7 : Int32) &&& 31)) ||| (r3.toInt32 &&& (127 : Int32)), iv3, av3))) else (jM_number_56 iv av x1))
def fM_number (iv : Nat → Int32) (av : Nat → Nat → Int32) : Option (Int32 × (Nat → Int32) × (Nat → Nat → Int32)) := lM_number_9 FU iv av (iv 2) (0 : Int32) (0 : Int32)
set_option maxHeartbeats 4000000 in
set_option maxRecDepth 100000 in
theorem wM_number_56 {p : Program} {l : Launch} {e : Env} {s : State} {m : MethodId} {args : Array Value} {below : List Frame} {meth : Method} {c : Code} {g : gT} {q : Nat} {ad : Nat → Nat} {X : va_W} {rv : Option Value} {iv' : Nat → Int32} {av' : Nat → Nat → Int32} {r' : Int32} (C : mCx p m c cM_number 5 s args g "MidiDeskModel") (hr : meth.sig.returnType = (some .int)) (hlk : meth.locks = false) (hrv : rv = some (.int r')) (iv : Nat → Int32) (av : Nat → Nat → Int32) (x1 : Int32) (H : Heap) (locs : List Loc) (ls : Array Slot) (hl : lv_has ls 5 [(0, .ref q), (1, .int x1)]) (hw : mWd g (mA g q ad X s.heap.size) s.heap q ad X iv av H locs) (hf : jM_number_56 iv av x1 = some (r', iv', av')) : mG p l e rM_number s m args below meth c g q ad X rv iv' av' H locs 0 0 (F0 m 56 ls []) := by
  unfold jM_number_56 at hf
  refine lv_aload_n C.1.1 C.1.2.1 dM_number_56 rfl (lv_at hl 0 rfl) ?_
  refine lv_iconst (v := (4 : Int32)) C.1.1 C.1.2.1 dM_number_57 (by decide) ?_
  refine lv_iload_n C.1.1 C.1.2.1 dM_number_58 rfl (lv_at hl 1 rfl) ?_
  obtain ⟨⟨iv1, av1⟩, g1, hf⟩ := ts_b hf
  dsimp only at hf
  refine m_callV (rest := []) (As := [.int (4 : Int32), .int x1]) (rv := none) C hl.1 hw (cM_fail_met g1) (callW_of (rm := rM_fail) 2 C.1.2.2.2.2 gw_812 gw_814 gw_28 gw_55 gw_815 kM_fail ⟨Nat.le_of_ble_eq_true rfl, Nat.le_of_ble_eq_true rfl⟩) rfl rfl (Nat.le_of_ble_eq_true rfl) dM_number_59 ⟨Nat.le_of_ble_eq_true rfl, Nat.le_of_ble_eq_true rfl⟩ (fun H locs hw => ?_)
  refine W.eq (g2 := F0 m 62 ls []) rfl ?_
  refine lv_iconst (v := (0 : Int32)) C.1.1 C.1.2.1 dM_number_62 (by decide) ?_
  exact m_reti C hr hlk hrv hw hf ⟨Nat.le_of_ble_eq_true rfl, Nat.le_of_ble_eq_true rfl⟩ dM_number_63
set_option maxHeartbeats 4000000 in
set_option maxRecDepth 100000 in
theorem wM_number_9 {p : Program} {l : Launch} {e : Env} {s : State} {m : MethodId} {args : Array Value} {below : List Frame} {meth : Method} {c : Code} {g : gT} {q : Nat} {ad : Nat → Nat} {X : va_W} {rv : Option Value} {iv' : Nat → Int32} {av' : Nat → Nat → Int32} {r' : Int32} (C : mCx p m c cM_number 5 s args g "MidiDeskModel") (hr : meth.sig.returnType = (some .int)) (hlk : meth.locks = false) (hrv : rv = some (.int r')) (k : Nat) : ∀ (iv : Nat → Int32) (av : Nat → Nat → Int32) (x1 : Int32) (x2 : Int32) (x3 : Int32) (H : Heap) (locs : List Loc) (ls : Array Slot), lv_has ls 5 [(0, .ref q), (1, .int x1), (2, .int x2), (3, .int x3)] → mWd g (mA g q ad X s.heap.size) s.heap q ad X iv av H locs → lM_number_9 k iv av x1 x2 x3 = some (r', iv', av') → mG p l e rM_number s m args below meth c g q ad X rv iv' av' H locs 0 0 (F0 m 9 ls []) := by
  induction k with
  | zero => intro iv av x1 x2 x3 H locs ls hl hw hf; cases hf
  | succ k ih =>
    intro iv av x1 x2 x3 H locs ls hl hw hf
    have hf : (if (4 : Int32) ≤ x3 then (jM_number_56 iv av x1) else (if (iv 4) = 0 then ((fM_taken iv av (1 : Int32)).bind fun (r3, iv3, av3) => if (128 : Int32) ≤ r3.toInt32 then (lM_number_9 k iv3 av3 x1 ((x2 <<< ((7 : Int32) &&& 31)) ||| (r3.toInt32 &&& (127 : Int32))) (x3 + 1)) else (some ((x2 <<< ((7 : Int32) &&& 31)) ||| (r3.toInt32 &&& (127 : Int32)), iv3, av3))) else (jM_number_56 iv av x1))) = some (r', iv', av') := hf
    refine lv_iload_n C.1.1 C.1.2.1 dM_number_9 rfl (lv_at hl 3 rfl) ?_
    refine lv_iconst (v := (4 : Int32)) C.1.1 C.1.2.1 dM_number_10 (by decide) ?_
    refine lv_icmp_ge (tgt := 56) C.1.1 C.1.2.1 dM_number_11 (by decide) (fun c1 => ?_) (fun c1 => ?_)
    · have hf := ts_t hf c1
      exact wM_number_56 C hr hlk hrv iv av x1 _ _ ls (lv_sub hl [0, 1] rfl) hw hf
    · have hf := ts_f hf c1
      refine lv_aload_n C.1.1 C.1.2.1 dM_number_14 rfl (lv_at hl 0 rfl) ?_
      refine mg_fault C hw dM_number_15 ?_
      refine lv_if_ne (tgt := 56) C.1.1 C.1.2.1 dM_number_18 (by decide) (fun c2 => ?_) (fun c2 => ?_)
      · have hf := ts_f hf c2
        exact wM_number_56 C hr hlk hrv iv av x1 _ _ ls (lv_sub hl [0, 1] rfl) hw hf
      · have hf := ts_t hf c2
        refine lv_aload_n C.1.1 C.1.2.1 dM_number_21 rfl (lv_at hl 0 rfl) ?_
        refine lv_iconst (v := (1 : Int32)) C.1.1 C.1.2.1 dM_number_22 (by decide) ?_
        obtain ⟨⟨r3, iv3, av3⟩, g3, hf⟩ := ts_b hf
        dsimp only at hf
        refine m_callV (rest := []) (As := [.int (1 : Int32)]) (rv := (some (.long r3))) C hl.1 hw (cM_taken_met g3) (callW_of (rm := rM_taken) 1 C.1.2.2.2.2 gw_808 gw_810 gw_27 gw_55 gw_811 kM_taken ⟨Nat.le_of_ble_eq_true rfl, Nat.le_of_ble_eq_true rfl⟩) rfl rfl (Nat.le_of_ble_eq_true rfl) dM_number_23 ⟨Nat.le_of_ble_eq_true rfl, Nat.le_of_ble_eq_true rfl⟩ (fun H locs hw => ?_)
        refine W.eq (g2 := F0 m 26 ls [.long r3]) rfl ?_
        refine lv_l2i C.1.1 C.1.2.1 dM_number_26 rfl ?_
        refine lv_istore (lv' := [(4, .int r3.toInt32), (0, .ref q), (1, .int x1), (2, .int x2), (3, .int x3)]) C.1.1 C.1.2.1 dM_number_27 hl (by decide) rfl (fun ls hl => ?_)
        refine lv_iload_n C.1.1 C.1.2.1 dM_number_29 rfl (lv_at hl 3 rfl) ?_
        refine lv_bipush (v := (7 : Int32)) C.1.1 C.1.2.1 dM_number_30 (by decide) ?_
        refine lv_ishl C.1.1 C.1.2.1 dM_number_32 ?_
        refine lv_iload C.1.1 C.1.2.1 dM_number_33 (lv_at hl 0 rfl) ?_
        refine lv_bipush (v := (127 : Int32)) C.1.1 C.1.2.1 dM_number_35 (by decide) ?_
        refine lv_iand C.1.1 C.1.2.1 dM_number_37 ?_
        refine lv_ior C.1.1 C.1.2.1 dM_number_38 ?_
        refine lv_istore_n (lv' := [(2, .int ((x2 <<< ((7 : Int32) &&& 31)) ||| (r3.toInt32 &&& (127 : Int32)))), (4, .int r3.toInt32), (0, .ref q), (1, .int x1), (3, .int x3)]) C.1.1 C.1.2.1 dM_number_39 rfl hl (by decide) rfl (fun ls hl => ?_)
        refine lv_iload C.1.1 C.1.2.1 dM_number_40 (lv_at hl 1 rfl) ?_
        refine lv_sipush (v := (128 : Int32)) C.1.1 C.1.2.1 dM_number_42 (by decide) ?_
        refine lv_icmp_ge (tgt := 50) C.1.1 C.1.2.1 dM_number_45 (by decide) (fun c4 => ?_) (fun c4 => ?_)
        · have hf := ts_t hf c4
          refine lv_iinc (v := x3 + 1) (lv' := [(3, .int (x3 + 1)), (2, .int ((x2 <<< ((7 : Int32) &&& 31)) ||| (r3.toInt32 &&& (127 : Int32)))), (4, .int r3.toInt32), (0, .ref q), (1, .int x1)]) C.1.1 C.1.2.1 dM_number_50 hl (k := 4) rfl rfl (by decide) rfl (fun ls hl => ?_)
          refine lv_goto (tgt := 9) C.1.1 C.1.2.1 dM_number_53 (by decide) ?_
          exact ih iv3 av3 x1 ((x2 <<< ((7 : Int32) &&& 31)) ||| (r3.toInt32 &&& (127 : Int32))) (x3 + 1) _ _ ls (lv_sub hl [3, 4, 1, 0] rfl) hw hf
        · have hf := ts_f hf c4
          refine lv_iload_n C.1.1 C.1.2.1 dM_number_48 rfl (lv_at hl 0 rfl) ?_
          exact m_reti C hr hlk hrv hw hf ⟨Nat.le_of_ble_eq_true rfl, Nat.le_of_ble_eq_true rfl⟩ dM_number_49
set_option maxHeartbeats 4000000 in
set_option maxRecDepth 100000 in
theorem cM_number_met {l : Launch} {g : gT} {q : Nat} {ad : Nat → Nat} {X : va_W} {iv iv' : Nat → Int32} {av av' : Nat → Nat → Int32} {r' : Int32} (hf : fM_number iv av = some (r', iv', av')) : mMet l yM_number cM_number 5 (some .int) rM_number g q ad X iv av [.ref q] (some (.int r')) iv' av' := by
  refine m_entry (by decide) (Nat.le_of_ble_eq_true rfl) ?_
  intro p e s m args below meth c ls C hr hlk hnm hl hw
  have hrv : ((some (.int r')) : Option Value) = (some (.int r')) := rfl
  have C : mCx p m c cM_number 5 s args g "MidiDeskModel" := C
  have hl : lv_has ls 5 [(0, .ref q)] := hl
  unfold fM_number at hf
  refine lv_aload_n C.1.1 C.1.2.1 dM_number_0 rfl (lv_at hl 0 rfl) ?_
  refine mg_at C hw dM_number_1 ?_
  refine lv_istore_n (lv' := [(1, .int (iv 2)), (0, .ref q)]) C.1.1 C.1.2.1 dM_number_4 rfl hl (by decide) rfl (fun ls hl => ?_)
  refine lv_iconst (v := (0 : Int32)) C.1.1 C.1.2.1 dM_number_5 (by decide) ?_
  refine lv_istore_n (lv' := [(2, .int (0 : Int32)), (1, .int (iv 2)), (0, .ref q)]) C.1.1 C.1.2.1 dM_number_6 rfl hl (by decide) rfl (fun ls hl => ?_)
  refine lv_iconst (v := (0 : Int32)) C.1.1 C.1.2.1 dM_number_7 (by decide) ?_
  refine lv_istore_n (lv' := [(3, .int (0 : Int32)), (2, .int (0 : Int32)), (1, .int (iv 2)), (0, .ref q)]) C.1.1 C.1.2.1 dM_number_8 rfl hl (by decide) rfl (fun ls hl => ?_)
  exact wM_number_9 C hr hlk hrv FU iv av (iv 2) (0 : Int32) (0 : Int32) _ _ ls (lv_sub hl [3, 2, 1, 0] rfl) hw hf
abbrev cM_isDivision : ByteArray := prog_8_method_8_code
abbrev yM_isDivision : MethodName := ⟨"MidiDeskModel", "isDivision", "(I)Z"⟩
theorem kM_isDivision : yM_isDivision.cls ≠ "java/lang/invoke/MethodHandle" ∧ yM_isDivision.cls ≠ "java/lang/invoke/VarHandle" ∧ (parseMethodDescriptor yM_isDivision.desc).map (fun d => d.parameters.length) = some 1 := by decide +kernel
abbrev rM_isDivision : Room := { frames := 0, cells := 0, slots := 0, locals := 0 }
theorem dM_isDivision_0 : decode cM_isDivision 0 = .ok (.sipush 256, 3) := by decide +kernel
theorem dM_isDivision_3 : decode cM_isDivision 3 = .ok (.iload_n 0, 1) := by decide +kernel
theorem dM_isDivision_4 : decode cM_isDivision 4 = .ok (.bipush 8, 2) := by decide +kernel
theorem dM_isDivision_6 : decode cM_isDivision 6 = .ok (.ishr, 1) := by decide +kernel
theorem dM_isDivision_7 : decode cM_isDivision 7 = .ok (.isub, 1) := by decide +kernel
theorem dM_isDivision_8 : decode cM_isDivision 8 = .ok (.istore_n 1, 1) := by decide +kernel
theorem dM_isDivision_9 : decode cM_isDivision 9 = .ok (.iload_n 0, 1) := by decide +kernel
theorem dM_isDivision_10 : decode cM_isDivision 10 = .ok (.ldc 43, 2) := by decide +kernel
theorem dM_isDivision_12 : decode cM_isDivision 12 = .ok (.if_icmp .ge 15, 3) := by decide +kernel
theorem dM_isDivision_15 : decode cM_isDivision 15 = .ok (.iload_n 0, 1) := by decide +kernel
theorem dM_isDivision_16 : decode cM_isDivision 16 = .ok (.ifCond .le 7, 3) := by decide +kernel
theorem dM_isDivision_19 : decode cM_isDivision 19 = .ok (.iconst 1, 1) := by decide +kernel
theorem dM_isDivision_20 : decode cM_isDivision 20 = .ok (.goto 44, 3) := by decide +kernel
theorem dM_isDivision_23 : decode cM_isDivision 23 = .ok (.iconst 0, 1) := by decide +kernel
theorem dM_isDivision_24 : decode cM_isDivision 24 = .ok (.goto 40, 3) := by decide +kernel
theorem dM_isDivision_27 : decode cM_isDivision 27 = .ok (.iload_n 1, 1) := by decide +kernel
theorem dM_isDivision_28 : decode cM_isDivision 28 = .ok (.bipush 24, 2) := by decide +kernel
theorem dM_isDivision_30 : decode cM_isDivision 30 = .ok (.if_icmp .eq 21, 3) := by decide +kernel
theorem dM_isDivision_33 : decode cM_isDivision 33 = .ok (.iload_n 1, 1) := by decide +kernel
theorem dM_isDivision_34 : decode cM_isDivision 34 = .ok (.bipush 25, 2) := by decide +kernel
theorem dM_isDivision_36 : decode cM_isDivision 36 = .ok (.if_icmp .eq 15, 3) := by decide +kernel
theorem dM_isDivision_39 : decode cM_isDivision 39 = .ok (.iload_n 1, 1) := by decide +kernel
theorem dM_isDivision_40 : decode cM_isDivision 40 = .ok (.bipush 29, 2) := by decide +kernel
theorem dM_isDivision_42 : decode cM_isDivision 42 = .ok (.if_icmp .eq 9, 3) := by decide +kernel
theorem dM_isDivision_45 : decode cM_isDivision 45 = .ok (.iload_n 1, 1) := by decide +kernel
theorem dM_isDivision_46 : decode cM_isDivision 46 = .ok (.bipush 30, 2) := by decide +kernel
theorem dM_isDivision_48 : decode cM_isDivision 48 = .ok (.if_icmp .ne 15, 3) := by decide +kernel
theorem dM_isDivision_51 : decode cM_isDivision 51 = .ok (.iload_n 0, 1) := by decide +kernel
theorem dM_isDivision_52 : decode cM_isDivision 52 = .ok (.sipush 255, 3) := by decide +kernel
theorem dM_isDivision_55 : decode cM_isDivision 55 = .ok (.iand, 1) := by decide +kernel
theorem dM_isDivision_56 : decode cM_isDivision 56 = .ok (.ifCond .le 7, 3) := by decide +kernel
theorem dM_isDivision_59 : decode cM_isDivision 59 = .ok (.iconst 1, 1) := by decide +kernel
theorem dM_isDivision_60 : decode cM_isDivision 60 = .ok (.goto 4, 3) := by decide +kernel
theorem dM_isDivision_63 : decode cM_isDivision 63 = .ok (.iconst 0, 1) := by decide +kernel
theorem dM_isDivision_64 : decode cM_isDivision 64 = .ok (.ireturn, 1) := by decide +kernel
def jM_isDivision_51 (iv : Nat → Int32) (av : Nat → Nat → Int32) (x0 : Int32) : Option (Int32 × (Nat → Int32) × (Nat → Nat → Int32)) := if (x0 &&& (255 : Int32)) ≤ 0 then (some ((0 : Int32), iv, av)) else (some ((1 : Int32), iv, av))
def fM_isDivision (iv : Nat → Int32) (av : Nat → Nat → Int32) (x0 : Int32) : Option (Int32 × (Nat → Int32) × (Nat → Nat → Int32)) := if (32768 : Int32) ≤ x0 then (if ((256 : Int32) - (x0 >>> ((8 : Int32) &&& 31))) = (24 : Int32) then (jM_isDivision_51 iv av x0) else (if ((256 : Int32) - (x0 >>> ((8 : Int32) &&& 31))) = (25 : Int32) then (jM_isDivision_51 iv av x0) else (if ((256 : Int32) - (x0 >>> ((8 : Int32) &&& 31))) = (29 : Int32) then (jM_isDivision_51 iv av x0) else (if ((256 : Int32) - (x0 >>> ((8 : Int32) &&& 31))) = (30 : Int32) then (jM_isDivision_51 iv av x0) else (some ((0 : Int32), iv, av)))))) else (if x0 ≤ 0 then (some ((0 : Int32), iv, av)) else (some ((1 : Int32), iv, av)))
set_option maxHeartbeats 4000000 in
set_option maxRecDepth 100000 in
theorem wM_isDivision_51 {p : Program} {l : Launch} {e : Env} {s : State} {m : MethodId} {args : Array Value} {below : List Frame} {meth : Method} {c : Code} {g : gT} {q : Nat} {ad : Nat → Nat} {X : va_W} {rv : Option Value} {iv' : Nat → Int32} {av' : Nat → Nat → Int32} {r' : Int32} (C : mCx p m c cM_isDivision 2 s args g "MidiDeskModel") (hr : meth.sig.returnType = (some .boolean)) (hlk : meth.locks = false) (hrv : rv = some (.int r')) (iv : Nat → Int32) (av : Nat → Nat → Int32) (x0 : Int32) (H : Heap) (locs : List Loc) (ls : Array Slot) (hl : lv_has ls 2 [(0, .int x0)]) (hw : mWd g (mA g q ad X s.heap.size) s.heap q ad X iv av H locs) (hf : jM_isDivision_51 iv av x0 = some (r', iv', av')) : mG p l e rM_isDivision s m args below meth c g q ad X rv iv' av' H locs 0 0 (F0 m 51 ls []) := by
  unfold jM_isDivision_51 at hf
  refine lv_iload_n C.1.1 C.1.2.1 dM_isDivision_51 rfl (lv_at hl 0 rfl) ?_
  refine lv_sipush (v := (255 : Int32)) C.1.1 C.1.2.1 dM_isDivision_52 (by decide) ?_
  refine lv_iand C.1.1 C.1.2.1 dM_isDivision_55 ?_
  refine lv_if_le (tgt := 63) C.1.1 C.1.2.1 dM_isDivision_56 (by decide) (fun c1 => ?_) (fun c1 => ?_)
  · have hf := ts_t hf c1
    refine lv_iconst (v := (0 : Int32)) C.1.1 C.1.2.1 dM_isDivision_63 (by decide) ?_
    exact m_retz C hr hlk hrv hw (Or.inl rfl) hf ⟨Nat.le_of_ble_eq_true rfl, Nat.le_of_ble_eq_true rfl⟩ dM_isDivision_64
  · have hf := ts_f hf c1
    refine lv_iconst (v := (1 : Int32)) C.1.1 C.1.2.1 dM_isDivision_59 (by decide) ?_
    refine lv_goto (tgt := 64) C.1.1 C.1.2.1 dM_isDivision_60 (by decide) ?_
    exact m_retz C hr hlk hrv hw (Or.inr rfl) hf ⟨Nat.le_of_ble_eq_true rfl, Nat.le_of_ble_eq_true rfl⟩ dM_isDivision_64
set_option maxHeartbeats 4000000 in
set_option maxRecDepth 100000 in
theorem cM_isDivision_met {l : Launch} {g : gT} {q : Nat} {ad : Nat → Nat} {X : va_W} {iv iv' : Nat → Int32} {av av' : Nat → Nat → Int32} {x0 : Int32} {r' : Int32} (hf : fM_isDivision iv av x0 = some (r', iv', av')) : mMet l yM_isDivision cM_isDivision 2 (some .boolean) rM_isDivision g q ad X iv av [.int x0] (some (.int r')) iv' av' := by
  refine m_entry (by decide) (Nat.le_of_ble_eq_true rfl) ?_
  intro p e s m args below meth c ls C hr hlk hnm hl hw
  have hrv : ((some (.int r')) : Option Value) = (some (.int r')) := rfl
  have C : mCx p m c cM_isDivision 2 s args g "MidiDeskModel" := C
  have hl : lv_has ls 2 [(0, .int x0)] := hl
  unfold fM_isDivision at hf
  refine lv_sipush (v := (256 : Int32)) C.1.1 C.1.2.1 dM_isDivision_0 (by decide) ?_
  refine lv_iload_n C.1.1 C.1.2.1 dM_isDivision_3 rfl (lv_at hl 0 rfl) ?_
  refine lv_bipush (v := (8 : Int32)) C.1.1 C.1.2.1 dM_isDivision_4 (by decide) ?_
  refine lv_ishr C.1.1 C.1.2.1 dM_isDivision_6 ?_
  refine lv_isub C.1.1 C.1.2.1 dM_isDivision_7 ?_
  refine lv_istore_n (lv' := [(1, .int ((256 : Int32) - (x0 >>> ((8 : Int32) &&& 31)))), (0, .int x0)]) C.1.1 C.1.2.1 dM_isDivision_8 rfl hl (by decide) rfl (fun ls hl => ?_)
  refine lv_iload_n C.1.1 C.1.2.1 dM_isDivision_9 rfl (lv_at hl 1 rfl) ?_
  refine lv_ldc C.1.1 C.1.2.1 C.1.2.2.2.1 (C.1.2.2.2.2 _ gw_714) dM_isDivision_10 ?_
  refine lv_icmp_ge (tgt := 27) C.1.1 C.1.2.1 dM_isDivision_12 (by decide) (fun c1 => ?_) (fun c1 => ?_)
  · have hf := ts_t hf c1
    refine lv_iload_n C.1.1 C.1.2.1 dM_isDivision_27 rfl (lv_at hl 0 rfl) ?_
    refine lv_bipush (v := (24 : Int32)) C.1.1 C.1.2.1 dM_isDivision_28 (by decide) ?_
    refine lv_icmp_eq (tgt := 51) C.1.1 C.1.2.1 dM_isDivision_30 (by decide) (fun c2 => ?_) (fun c2 => ?_)
    · have hf := ts_t hf c2
      exact wM_isDivision_51 C hr hlk hrv iv av x0 _ _ ls (lv_sub hl [1] rfl) hw hf
    · have hf := ts_f hf c2
      refine lv_iload_n C.1.1 C.1.2.1 dM_isDivision_33 rfl (lv_at hl 0 rfl) ?_
      refine lv_bipush (v := (25 : Int32)) C.1.1 C.1.2.1 dM_isDivision_34 (by decide) ?_
      refine lv_icmp_eq (tgt := 51) C.1.1 C.1.2.1 dM_isDivision_36 (by decide) (fun c3 => ?_) (fun c3 => ?_)
      · have hf := ts_t hf c3
        exact wM_isDivision_51 C hr hlk hrv iv av x0 _ _ ls (lv_sub hl [1] rfl) hw hf
      · have hf := ts_f hf c3
        refine lv_iload_n C.1.1 C.1.2.1 dM_isDivision_39 rfl (lv_at hl 0 rfl) ?_
        refine lv_bipush (v := (29 : Int32)) C.1.1 C.1.2.1 dM_isDivision_40 (by decide) ?_
        refine lv_icmp_eq (tgt := 51) C.1.1 C.1.2.1 dM_isDivision_42 (by decide) (fun c4 => ?_) (fun c4 => ?_)
        · have hf := ts_t hf c4
          exact wM_isDivision_51 C hr hlk hrv iv av x0 _ _ ls (lv_sub hl [1] rfl) hw hf
        · have hf := ts_f hf c4
          refine lv_iload_n C.1.1 C.1.2.1 dM_isDivision_45 rfl (lv_at hl 0 rfl) ?_
          refine lv_bipush (v := (30 : Int32)) C.1.1 C.1.2.1 dM_isDivision_46 (by decide) ?_
          refine lv_icmp_ne (tgt := 63) C.1.1 C.1.2.1 dM_isDivision_48 (by decide) (fun c5 => ?_) (fun c5 => ?_)
          · have hf := ts_f hf c5
            refine lv_iconst (v := (0 : Int32)) C.1.1 C.1.2.1 dM_isDivision_63 (by decide) ?_
            exact m_retz C hr hlk hrv hw (Or.inl rfl) hf ⟨Nat.le_of_ble_eq_true rfl, Nat.le_of_ble_eq_true rfl⟩ dM_isDivision_64
          · have hf := ts_t hf c5
            exact wM_isDivision_51 C hr hlk hrv iv av x0 _ _ ls (lv_sub hl [1] rfl) hw hf
  · have hf := ts_f hf c1
    refine lv_iload_n C.1.1 C.1.2.1 dM_isDivision_15 rfl (lv_at hl 1 rfl) ?_
    refine lv_if_le (tgt := 23) C.1.1 C.1.2.1 dM_isDivision_16 (by decide) (fun c6 => ?_) (fun c6 => ?_)
    · have hf := ts_t hf c6
      refine lv_iconst (v := (0 : Int32)) C.1.1 C.1.2.1 dM_isDivision_23 (by decide) ?_
      refine lv_goto (tgt := 64) C.1.1 C.1.2.1 dM_isDivision_24 (by decide) ?_
      exact m_retz C hr hlk hrv hw (Or.inl rfl) hf ⟨Nat.le_of_ble_eq_true rfl, Nat.le_of_ble_eq_true rfl⟩ dM_isDivision_64
    · have hf := ts_f hf c6
      refine lv_iconst (v := (1 : Int32)) C.1.1 C.1.2.1 dM_isDivision_19 (by decide) ?_
      refine lv_goto (tgt := 64) C.1.1 C.1.2.1 dM_isDivision_20 (by decide) ?_
      exact m_retz C hr hlk hrv hw (Or.inr rfl) hf ⟨Nat.le_of_ble_eq_true rfl, Nat.le_of_ble_eq_true rfl⟩ dM_isDivision_64
abbrev cM_head : ByteArray := prog_8_method_9_code
abbrev yM_head : MethodName := ⟨"MidiDeskModel", "head", "()V"⟩
theorem kM_head : yM_head.cls ≠ "java/lang/invoke/MethodHandle" ∧ yM_head.cls ≠ "java/lang/invoke/VarHandle" ∧ (parseMethodDescriptor yM_head.desc).map (fun d => d.parameters.length) = some 0 := by decide +kernel
abbrev rM_head : Room := { frames := 2, cells := 0, slots := 0, locals := 46 }
theorem dM_head_0 : decode cM_head 0 = .ok (.aload_n 0, 1) := by decide +kernel
theorem dM_head_1 : decode cM_head 1 = .ok (.iconst 4, 1) := by decide +kernel
theorem dM_head_2 : decode cM_head 2 = .ok (.invokevirtual 74, 3) := by decide +kernel
theorem dM_head_5 : decode cM_head 5 = .ok (.ldc2_w 78, 3) := by decide +kernel
theorem dM_head_8 : decode cM_head 8 = .ok (.lcmp, 1) := by decide +kernel
theorem dM_head_9 : decode cM_head 9 = .ok (.ifCond .eq 9, 3) := by decide +kernel
theorem dM_head_12 : decode cM_head 12 = .ok (.aload_n 0, 1) := by decide +kernel
theorem dM_head_13 : decode cM_head 13 = .ok (.iconst 2, 1) := by decide +kernel
theorem dM_head_14 : decode cM_head 14 = .ok (.iconst 0, 1) := by decide +kernel
theorem dM_head_15 : decode cM_head 15 = .ok (.invokevirtual 68, 3) := by decide +kernel
theorem dM_head_18 : decode cM_head 18 = .ok (.aload_n 0, 1) := by decide +kernel
theorem dM_head_19 : decode cM_head 19 = .ok (.iconst 4, 1) := by decide +kernel
theorem dM_head_20 : decode cM_head 20 = .ok (.invokevirtual 74, 3) := by decide +kernel
theorem dM_head_23 : decode cM_head 23 = .ok (.ldc2_w 80, 3) := by decide +kernel
theorem dM_head_26 : decode cM_head 26 = .ok (.lcmp, 1) := by decide +kernel
theorem dM_head_27 : decode cM_head 27 = .ok (.ifCond .eq 9, 3) := by decide +kernel
theorem dM_head_30 : decode cM_head 30 = .ok (.aload_n 0, 1) := by decide +kernel
theorem dM_head_31 : decode cM_head 31 = .ok (.iconst 2, 1) := by decide +kernel
theorem dM_head_32 : decode cM_head 32 = .ok (.iconst 4, 1) := by decide +kernel
theorem dM_head_33 : decode cM_head 33 = .ok (.invokevirtual 68, 3) := by decide +kernel
theorem dM_head_36 : decode cM_head 36 = .ok (.aload_n 0, 1) := by decide +kernel
theorem dM_head_37 : decode cM_head 37 = .ok (.aload_n 0, 1) := by decide +kernel
theorem dM_head_38 : decode cM_head 38 = .ok (.iconst 2, 1) := by decide +kernel
theorem dM_head_39 : decode cM_head 39 = .ok (.invokevirtual 74, 3) := by decide +kernel
theorem dM_head_42 : decode cM_head 42 = .ok (.l2i, 1) := by decide +kernel
theorem dM_head_43 : decode cM_head 43 = .ok (.putfield 82, 3) := by decide +kernel
theorem dM_head_46 : decode cM_head 46 = .ok (.aload_n 0, 1) := by decide +kernel
theorem dM_head_47 : decode cM_head 47 = .ok (.getfield 82, 3) := by decide +kernel
theorem dM_head_50 : decode cM_head 50 = .ok (.iconst 2, 1) := by decide +kernel
theorem dM_head_51 : decode cM_head 51 = .ok (.if_icmp .le 10, 3) := by decide +kernel
theorem dM_head_54 : decode cM_head 54 = .ok (.aload_n 0, 1) := by decide +kernel
theorem dM_head_55 : decode cM_head 55 = .ok (.iconst 3, 1) := by decide +kernel
theorem dM_head_56 : decode cM_head 56 = .ok (.bipush 8, 2) := by decide +kernel
theorem dM_head_58 : decode cM_head 58 = .ok (.invokevirtual 68, 3) := by decide +kernel
theorem dM_head_61 : decode cM_head 61 = .ok (.aload_n 0, 1) := by decide +kernel
theorem dM_head_62 : decode cM_head 62 = .ok (.aload_n 0, 1) := by decide +kernel
theorem dM_head_63 : decode cM_head 63 = .ok (.iconst 2, 1) := by decide +kernel
theorem dM_head_64 : decode cM_head 64 = .ok (.invokevirtual 74, 3) := by decide +kernel
theorem dM_head_67 : decode cM_head 67 = .ok (.l2i, 1) := by decide +kernel
theorem dM_head_68 : decode cM_head 68 = .ok (.putfield 85, 3) := by decide +kernel
theorem dM_head_71 : decode cM_head 71 = .ok (.aload_n 0, 1) := by decide +kernel
theorem dM_head_72 : decode cM_head 72 = .ok (.getfield 85, 3) := by decide +kernel
theorem dM_head_75 : decode cM_head 75 = .ok (.iconst 1, 1) := by decide +kernel
theorem dM_head_76 : decode cM_head 76 = .ok (.if_icmp .lt 27, 3) := by decide +kernel
theorem dM_head_79 : decode cM_head 79 = .ok (.aload_n 0, 1) := by decide +kernel
theorem dM_head_80 : decode cM_head 80 = .ok (.getfield 85, 3) := by decide +kernel
theorem dM_head_83 : decode cM_head 83 = .ok (.bipush 16, 2) := by decide +kernel
theorem dM_head_85 : decode cM_head 85 = .ok (.if_icmp .gt 18, 3) := by decide +kernel
theorem dM_head_88 : decode cM_head 88 = .ok (.aload_n 0, 1) := by decide +kernel
theorem dM_head_89 : decode cM_head 89 = .ok (.getfield 82, 3) := by decide +kernel
theorem dM_head_92 : decode cM_head 92 = .ok (.ifCond .ne 18, 3) := by decide +kernel
theorem dM_head_95 : decode cM_head 95 = .ok (.aload_n 0, 1) := by decide +kernel
theorem dM_head_96 : decode cM_head 96 = .ok (.getfield 85, 3) := by decide +kernel
theorem dM_head_99 : decode cM_head 99 = .ok (.iconst 1, 1) := by decide +kernel
theorem dM_head_100 : decode cM_head 100 = .ok (.if_icmp .le 10, 3) := by decide +kernel
theorem dM_head_103 : decode cM_head 103 = .ok (.aload_n 0, 1) := by decide +kernel
theorem dM_head_104 : decode cM_head 104 = .ok (.iconst 3, 1) := by decide +kernel
theorem dM_head_105 : decode cM_head 105 = .ok (.bipush 10, 2) := by decide +kernel
theorem dM_head_107 : decode cM_head 107 = .ok (.invokevirtual 68, 3) := by decide +kernel
theorem dM_head_110 : decode cM_head 110 = .ok (.aload_n 0, 1) := by decide +kernel
theorem dM_head_111 : decode cM_head 111 = .ok (.aload_n 0, 1) := by decide +kernel
theorem dM_head_112 : decode cM_head 112 = .ok (.iconst 2, 1) := by decide +kernel
theorem dM_head_113 : decode cM_head 113 = .ok (.invokevirtual 74, 3) := by decide +kernel
theorem dM_head_116 : decode cM_head 116 = .ok (.l2i, 1) := by decide +kernel
theorem dM_head_117 : decode cM_head 117 = .ok (.putfield 88, 3) := by decide +kernel
theorem dM_head_120 : decode cM_head 120 = .ok (.aload_n 0, 1) := by decide +kernel
theorem dM_head_121 : decode cM_head 121 = .ok (.getfield 88, 3) := by decide +kernel
theorem dM_head_124 : decode cM_head 124 = .ok (.invokestatic 91, 3) := by decide +kernel
theorem dM_head_127 : decode cM_head 127 = .ok (.ifCond .ne 10, 3) := by decide +kernel
theorem dM_head_130 : decode cM_head 130 = .ok (.aload_n 0, 1) := by decide +kernel
theorem dM_head_131 : decode cM_head 131 = .ok (.iconst 3, 1) := by decide +kernel
theorem dM_head_132 : decode cM_head 132 = .ok (.bipush 12, 2) := by decide +kernel
theorem dM_head_134 : decode cM_head 134 = .ok (.invokevirtual 68, 3) := by decide +kernel
theorem dM_head_137 : decode cM_head 137 = .ok (.return_, 1) := by decide +kernel
def jM_head_110 (iv : Nat → Int32) (av : Nat → Nat → Int32) : Option ((Nat → Int32) × (Nat → Nat → Int32)) := (fM_taken iv av (2 : Int32)).bind fun (r1, iv1, av1) => (fM_isDivision (upd iv1 9 r1.toInt32) av1 ((upd iv1 9 r1.toInt32) 9)).bind fun (r2, iv2, av2) => if r2 = 0 then ((fM_fail iv2 av2 (3 : Int32) (12 : Int32)).bind fun (iv4, av4) => some (iv4, av4)) else (some (iv2, av2))
def jM_head_103 (iv : Nat → Int32) (av : Nat → Nat → Int32) : Option ((Nat → Int32) × (Nat → Nat → Int32)) := (fM_fail iv av (3 : Int32) (10 : Int32)).bind fun (iv1, av1) => jM_head_110 iv1 av1
def jM_head_61 (iv : Nat → Int32) (av : Nat → Nat → Int32) : Option ((Nat → Int32) × (Nat → Nat → Int32)) := (fM_taken iv av (2 : Int32)).bind fun (r1, iv1, av1) => if ((upd iv1 8 r1.toInt32) 8) < (1 : Int32) then (jM_head_103 (upd iv1 8 r1.toInt32) av1) else (if (16 : Int32) < ((upd iv1 8 r1.toInt32) 8) then (jM_head_103 (upd iv1 8 r1.toInt32) av1) else (if ((upd iv1 8 r1.toInt32) 7) = 0 then (if ((upd iv1 8 r1.toInt32) 8) ≤ (1 : Int32) then (jM_head_110 (upd iv1 8 r1.toInt32) av1) else (jM_head_103 (upd iv1 8 r1.toInt32) av1)) else (jM_head_110 (upd iv1 8 r1.toInt32) av1)))
def jM_head_36 (iv : Nat → Int32) (av : Nat → Nat → Int32) : Option ((Nat → Int32) × (Nat → Nat → Int32)) := (fM_taken iv av (2 : Int32)).bind fun (r1, iv1, av1) => if ((upd iv1 7 r1.toInt32) 7) ≤ (2 : Int32) then (jM_head_61 (upd iv1 7 r1.toInt32) av1) else ((fM_fail (upd iv1 7 r1.toInt32) av1 (3 : Int32) (8 : Int32)).bind fun (iv3, av3) => jM_head_61 iv3 av3)
def jM_head_18 (iv : Nat → Int32) (av : Nat → Nat → Int32) : Option ((Nat → Int32) × (Nat → Nat → Int32)) := (fM_taken iv av (4 : Int32)).bind fun (r1, iv1, av1) => if (lg_cmp r1 (6 : Int64)) = 0 then (jM_head_36 iv1 av1) else ((fM_fail iv1 av1 (2 : Int32) (4 : Int32)).bind fun (iv3, av3) => jM_head_36 iv3 av3)
def fM_head (iv : Nat → Int32) (av : Nat → Nat → Int32) : Option ((Nat → Int32) × (Nat → Nat → Int32)) := (fM_taken iv av (4 : Int32)).bind fun (r1, iv1, av1) => if (lg_cmp r1 (1297377380 : Int64)) = 0 then (jM_head_18 iv1 av1) else ((fM_fail iv1 av1 (2 : Int32) (0 : Int32)).bind fun (iv3, av3) => jM_head_18 iv3 av3)
set_option maxHeartbeats 4000000 in
set_option maxRecDepth 100000 in
theorem wM_head_110 {p : Program} {l : Launch} {e : Env} {s : State} {m : MethodId} {args : Array Value} {below : List Frame} {meth : Method} {c : Code} {g : gT} {q : Nat} {ad : Nat → Nat} {X : va_W} {rv : Option Value} {iv' : Nat → Int32} {av' : Nat → Nat → Int32} (C : mCx p m c cM_head 1 s args g "MidiDeskModel") (hr : meth.sig.returnType = none) (hlk : meth.locks = false) (hrv : rv = none) (iv : Nat → Int32) (av : Nat → Nat → Int32) (H : Heap) (locs : List Loc) (ls : Array Slot) (hl : lv_has ls 1 [(0, .ref q)]) (hw : mWd g (mA g q ad X s.heap.size) s.heap q ad X iv av H locs) (hf : jM_head_110 iv av = some (iv', av')) : mG p l e rM_head s m args below meth c g q ad X rv iv' av' H locs 0 0 (F0 m 110 ls []) := by
  unfold jM_head_110 at hf
  refine lv_aload_n C.1.1 C.1.2.1 dM_head_110 rfl (lv_at hl 0 rfl) ?_
  refine lv_aload_n C.1.1 C.1.2.1 dM_head_111 rfl (lv_at hl 0 rfl) ?_
  refine lv_iconst (v := (2 : Int32)) C.1.1 C.1.2.1 dM_head_112 (by decide) ?_
  obtain ⟨⟨r1, iv1, av1⟩, g1, hf⟩ := ts_b hf
  dsimp only at hf
  refine m_callV (rest := [.ref q]) (As := [.int (2 : Int32)]) (rv := (some (.long r1))) C hl.1 hw (cM_taken_met g1) (callW_of (rm := rM_taken) 1 C.1.2.2.2.2 gw_808 gw_810 gw_27 gw_55 gw_811 kM_taken ⟨Nat.le_of_ble_eq_true rfl, Nat.le_of_ble_eq_true rfl⟩) rfl rfl (Nat.le_of_ble_eq_true rfl) dM_head_113 ⟨Nat.le_of_ble_eq_true rfl, Nat.le_of_ble_eq_true rfl⟩ (fun H locs hw => ?_)
  refine W.eq (g2 := F0 m 116 ls [.long r1, .ref q]) rfl ?_
  refine lv_l2i C.1.1 C.1.2.1 dM_head_116 rfl ?_
  refine mp_division C hw dM_head_117 (fun H locs hw => ?_)
  refine lv_aload_n C.1.1 C.1.2.1 dM_head_120 rfl (lv_at hl 0 rfl) ?_
  refine mg_division C hw dM_head_121 ?_
  obtain ⟨⟨r2, iv2, av2⟩, g2, hf⟩ := ts_b hf
  dsimp only at hf
  refine m_callS (rest := []) (As := [.int ((upd iv1 9 r1.toInt32) 9)]) (rv := (some (.int r2))) C hl.1 hw (cM_isDivision_met g2) (callS_of (rm := rM_isDivision) 1 C.1.2.2.2.2 gw_819 gw_820 gw_55 gw_821 kM_isDivision ⟨Nat.le_of_ble_eq_true rfl, Nat.le_of_ble_eq_true rfl⟩) rfl rfl (Nat.le_of_ble_eq_true rfl) dM_head_124 ⟨Nat.le_of_ble_eq_true rfl, Nat.le_of_ble_eq_true rfl⟩ (fun H locs hw => ?_)
  refine W.eq (g2 := F0 m 127 ls [.int r2]) rfl ?_
  refine lv_if_ne (tgt := 137) C.1.1 C.1.2.1 dM_head_127 (by decide) (fun c3 => ?_) (fun c3 => ?_)
  · have hf := ts_f hf c3
    exact m_retv C hr hlk hrv hw hf ⟨Nat.le_of_ble_eq_true rfl, Nat.le_of_ble_eq_true rfl⟩ dM_head_137
  · have hf := ts_t hf c3
    refine lv_aload_n C.1.1 C.1.2.1 dM_head_130 rfl (lv_at hl 0 rfl) ?_
    refine lv_iconst (v := (3 : Int32)) C.1.1 C.1.2.1 dM_head_131 (by decide) ?_
    refine lv_bipush (v := (12 : Int32)) C.1.1 C.1.2.1 dM_head_132 (by decide) ?_
    obtain ⟨⟨iv4, av4⟩, g4, hf⟩ := ts_b hf
    dsimp only at hf
    refine m_callV (rest := []) (As := [.int (3 : Int32), .int (12 : Int32)]) (rv := none) C hl.1 hw (cM_fail_met g4) (callW_of (rm := rM_fail) 2 C.1.2.2.2.2 gw_812 gw_814 gw_28 gw_55 gw_815 kM_fail ⟨Nat.le_of_ble_eq_true rfl, Nat.le_of_ble_eq_true rfl⟩) rfl rfl (Nat.le_of_ble_eq_true rfl) dM_head_134 ⟨Nat.le_of_ble_eq_true rfl, Nat.le_of_ble_eq_true rfl⟩ (fun H locs hw => ?_)
    refine W.eq (g2 := F0 m 137 ls []) rfl ?_
    exact m_retv C hr hlk hrv hw hf ⟨Nat.le_of_ble_eq_true rfl, Nat.le_of_ble_eq_true rfl⟩ dM_head_137
set_option maxHeartbeats 4000000 in
set_option maxRecDepth 100000 in
theorem wM_head_103 {p : Program} {l : Launch} {e : Env} {s : State} {m : MethodId} {args : Array Value} {below : List Frame} {meth : Method} {c : Code} {g : gT} {q : Nat} {ad : Nat → Nat} {X : va_W} {rv : Option Value} {iv' : Nat → Int32} {av' : Nat → Nat → Int32} (C : mCx p m c cM_head 1 s args g "MidiDeskModel") (hr : meth.sig.returnType = none) (hlk : meth.locks = false) (hrv : rv = none) (iv : Nat → Int32) (av : Nat → Nat → Int32) (H : Heap) (locs : List Loc) (ls : Array Slot) (hl : lv_has ls 1 [(0, .ref q)]) (hw : mWd g (mA g q ad X s.heap.size) s.heap q ad X iv av H locs) (hf : jM_head_103 iv av = some (iv', av')) : mG p l e rM_head s m args below meth c g q ad X rv iv' av' H locs 0 0 (F0 m 103 ls []) := by
  unfold jM_head_103 at hf
  refine lv_aload_n C.1.1 C.1.2.1 dM_head_103 rfl (lv_at hl 0 rfl) ?_
  refine lv_iconst (v := (3 : Int32)) C.1.1 C.1.2.1 dM_head_104 (by decide) ?_
  refine lv_bipush (v := (10 : Int32)) C.1.1 C.1.2.1 dM_head_105 (by decide) ?_
  obtain ⟨⟨iv1, av1⟩, g1, hf⟩ := ts_b hf
  dsimp only at hf
  refine m_callV (rest := []) (As := [.int (3 : Int32), .int (10 : Int32)]) (rv := none) C hl.1 hw (cM_fail_met g1) (callW_of (rm := rM_fail) 2 C.1.2.2.2.2 gw_812 gw_814 gw_28 gw_55 gw_815 kM_fail ⟨Nat.le_of_ble_eq_true rfl, Nat.le_of_ble_eq_true rfl⟩) rfl rfl (Nat.le_of_ble_eq_true rfl) dM_head_107 ⟨Nat.le_of_ble_eq_true rfl, Nat.le_of_ble_eq_true rfl⟩ (fun H locs hw => ?_)
  refine W.eq (g2 := F0 m 110 ls []) rfl ?_
  exact wM_head_110 C hr hlk hrv iv1 av1 _ _ ls (lv_sub hl [0] rfl) hw hf
set_option maxHeartbeats 4000000 in
set_option maxRecDepth 100000 in
theorem wM_head_61 {p : Program} {l : Launch} {e : Env} {s : State} {m : MethodId} {args : Array Value} {below : List Frame} {meth : Method} {c : Code} {g : gT} {q : Nat} {ad : Nat → Nat} {X : va_W} {rv : Option Value} {iv' : Nat → Int32} {av' : Nat → Nat → Int32} (C : mCx p m c cM_head 1 s args g "MidiDeskModel") (hr : meth.sig.returnType = none) (hlk : meth.locks = false) (hrv : rv = none) (iv : Nat → Int32) (av : Nat → Nat → Int32) (H : Heap) (locs : List Loc) (ls : Array Slot) (hl : lv_has ls 1 [(0, .ref q)]) (hw : mWd g (mA g q ad X s.heap.size) s.heap q ad X iv av H locs) (hf : jM_head_61 iv av = some (iv', av')) : mG p l e rM_head s m args below meth c g q ad X rv iv' av' H locs 0 0 (F0 m 61 ls []) := by
  unfold jM_head_61 at hf
  refine lv_aload_n C.1.1 C.1.2.1 dM_head_61 rfl (lv_at hl 0 rfl) ?_
  refine lv_aload_n C.1.1 C.1.2.1 dM_head_62 rfl (lv_at hl 0 rfl) ?_
  refine lv_iconst (v := (2 : Int32)) C.1.1 C.1.2.1 dM_head_63 (by decide) ?_
  obtain ⟨⟨r1, iv1, av1⟩, g1, hf⟩ := ts_b hf
  dsimp only at hf
  refine m_callV (rest := [.ref q]) (As := [.int (2 : Int32)]) (rv := (some (.long r1))) C hl.1 hw (cM_taken_met g1) (callW_of (rm := rM_taken) 1 C.1.2.2.2.2 gw_808 gw_810 gw_27 gw_55 gw_811 kM_taken ⟨Nat.le_of_ble_eq_true rfl, Nat.le_of_ble_eq_true rfl⟩) rfl rfl (Nat.le_of_ble_eq_true rfl) dM_head_64 ⟨Nat.le_of_ble_eq_true rfl, Nat.le_of_ble_eq_true rfl⟩ (fun H locs hw => ?_)
  refine W.eq (g2 := F0 m 67 ls [.long r1, .ref q]) rfl ?_
  refine lv_l2i C.1.1 C.1.2.1 dM_head_67 rfl ?_
  refine mp_tracks C hw dM_head_68 (fun H locs hw => ?_)
  refine lv_aload_n C.1.1 C.1.2.1 dM_head_71 rfl (lv_at hl 0 rfl) ?_
  refine mg_tracks C hw dM_head_72 ?_
  refine lv_iconst (v := (1 : Int32)) C.1.1 C.1.2.1 dM_head_75 (by decide) ?_
  refine lv_icmp_lt (tgt := 103) C.1.1 C.1.2.1 dM_head_76 (by decide) (fun c2 => ?_) (fun c2 => ?_)
  · have hf := ts_t hf c2
    exact wM_head_103 C hr hlk hrv (upd iv1 8 r1.toInt32) av1 _ _ ls (lv_sub hl [0] rfl) hw hf
  · have hf := ts_f hf c2
    refine lv_aload_n C.1.1 C.1.2.1 dM_head_79 rfl (lv_at hl 0 rfl) ?_
    refine mg_tracks C hw dM_head_80 ?_
    refine lv_bipush (v := (16 : Int32)) C.1.1 C.1.2.1 dM_head_83 (by decide) ?_
    refine lv_icmp_gt (tgt := 103) C.1.1 C.1.2.1 dM_head_85 (by decide) (fun c3 => ?_) (fun c3 => ?_)
    · have hf := ts_t hf c3
      exact wM_head_103 C hr hlk hrv (upd iv1 8 r1.toInt32) av1 _ _ ls (lv_sub hl [0] rfl) hw hf
    · have hf := ts_f hf c3
      refine lv_aload_n C.1.1 C.1.2.1 dM_head_88 rfl (lv_at hl 0 rfl) ?_
      refine mg_format C hw dM_head_89 ?_
      refine lv_if_ne (tgt := 110) C.1.1 C.1.2.1 dM_head_92 (by decide) (fun c4 => ?_) (fun c4 => ?_)
      · have hf := ts_f hf c4
        exact wM_head_110 C hr hlk hrv (upd iv1 8 r1.toInt32) av1 _ _ ls (lv_sub hl [0] rfl) hw hf
      · have hf := ts_t hf c4
        refine lv_aload_n C.1.1 C.1.2.1 dM_head_95 rfl (lv_at hl 0 rfl) ?_
        refine mg_tracks C hw dM_head_96 ?_
        refine lv_iconst (v := (1 : Int32)) C.1.1 C.1.2.1 dM_head_99 (by decide) ?_
        refine lv_icmp_le (tgt := 110) C.1.1 C.1.2.1 dM_head_100 (by decide) (fun c5 => ?_) (fun c5 => ?_)
        · have hf := ts_t hf c5
          exact wM_head_110 C hr hlk hrv (upd iv1 8 r1.toInt32) av1 _ _ ls (lv_sub hl [0] rfl) hw hf
        · have hf := ts_f hf c5
          exact wM_head_103 C hr hlk hrv (upd iv1 8 r1.toInt32) av1 _ _ ls (lv_sub hl [0] rfl) hw hf
set_option maxHeartbeats 4000000 in
set_option maxRecDepth 100000 in
theorem wM_head_36 {p : Program} {l : Launch} {e : Env} {s : State} {m : MethodId} {args : Array Value} {below : List Frame} {meth : Method} {c : Code} {g : gT} {q : Nat} {ad : Nat → Nat} {X : va_W} {rv : Option Value} {iv' : Nat → Int32} {av' : Nat → Nat → Int32} (C : mCx p m c cM_head 1 s args g "MidiDeskModel") (hr : meth.sig.returnType = none) (hlk : meth.locks = false) (hrv : rv = none) (iv : Nat → Int32) (av : Nat → Nat → Int32) (H : Heap) (locs : List Loc) (ls : Array Slot) (hl : lv_has ls 1 [(0, .ref q)]) (hw : mWd g (mA g q ad X s.heap.size) s.heap q ad X iv av H locs) (hf : jM_head_36 iv av = some (iv', av')) : mG p l e rM_head s m args below meth c g q ad X rv iv' av' H locs 0 0 (F0 m 36 ls []) := by
  unfold jM_head_36 at hf
  refine lv_aload_n C.1.1 C.1.2.1 dM_head_36 rfl (lv_at hl 0 rfl) ?_
  refine lv_aload_n C.1.1 C.1.2.1 dM_head_37 rfl (lv_at hl 0 rfl) ?_
  refine lv_iconst (v := (2 : Int32)) C.1.1 C.1.2.1 dM_head_38 (by decide) ?_
  obtain ⟨⟨r1, iv1, av1⟩, g1, hf⟩ := ts_b hf
  dsimp only at hf
  refine m_callV (rest := [.ref q]) (As := [.int (2 : Int32)]) (rv := (some (.long r1))) C hl.1 hw (cM_taken_met g1) (callW_of (rm := rM_taken) 1 C.1.2.2.2.2 gw_808 gw_810 gw_27 gw_55 gw_811 kM_taken ⟨Nat.le_of_ble_eq_true rfl, Nat.le_of_ble_eq_true rfl⟩) rfl rfl (Nat.le_of_ble_eq_true rfl) dM_head_39 ⟨Nat.le_of_ble_eq_true rfl, Nat.le_of_ble_eq_true rfl⟩ (fun H locs hw => ?_)
  refine W.eq (g2 := F0 m 42 ls [.long r1, .ref q]) rfl ?_
  refine lv_l2i C.1.1 C.1.2.1 dM_head_42 rfl ?_
  refine mp_format C hw dM_head_43 (fun H locs hw => ?_)
  refine lv_aload_n C.1.1 C.1.2.1 dM_head_46 rfl (lv_at hl 0 rfl) ?_
  refine mg_format C hw dM_head_47 ?_
  refine lv_iconst (v := (2 : Int32)) C.1.1 C.1.2.1 dM_head_50 (by decide) ?_
  refine lv_icmp_le (tgt := 61) C.1.1 C.1.2.1 dM_head_51 (by decide) (fun c2 => ?_) (fun c2 => ?_)
  · have hf := ts_t hf c2
    exact wM_head_61 C hr hlk hrv (upd iv1 7 r1.toInt32) av1 _ _ ls (lv_sub hl [0] rfl) hw hf
  · have hf := ts_f hf c2
    refine lv_aload_n C.1.1 C.1.2.1 dM_head_54 rfl (lv_at hl 0 rfl) ?_
    refine lv_iconst (v := (3 : Int32)) C.1.1 C.1.2.1 dM_head_55 (by decide) ?_
    refine lv_bipush (v := (8 : Int32)) C.1.1 C.1.2.1 dM_head_56 (by decide) ?_
    obtain ⟨⟨iv3, av3⟩, g3, hf⟩ := ts_b hf
    dsimp only at hf
    refine m_callV (rest := []) (As := [.int (3 : Int32), .int (8 : Int32)]) (rv := none) C hl.1 hw (cM_fail_met g3) (callW_of (rm := rM_fail) 2 C.1.2.2.2.2 gw_812 gw_814 gw_28 gw_55 gw_815 kM_fail ⟨Nat.le_of_ble_eq_true rfl, Nat.le_of_ble_eq_true rfl⟩) rfl rfl (Nat.le_of_ble_eq_true rfl) dM_head_58 ⟨Nat.le_of_ble_eq_true rfl, Nat.le_of_ble_eq_true rfl⟩ (fun H locs hw => ?_)
    refine W.eq (g2 := F0 m 61 ls []) rfl ?_
    exact wM_head_61 C hr hlk hrv iv3 av3 _ _ ls (lv_sub hl [0] rfl) hw hf
set_option maxHeartbeats 4000000 in
set_option maxRecDepth 100000 in
theorem wM_head_18 {p : Program} {l : Launch} {e : Env} {s : State} {m : MethodId} {args : Array Value} {below : List Frame} {meth : Method} {c : Code} {g : gT} {q : Nat} {ad : Nat → Nat} {X : va_W} {rv : Option Value} {iv' : Nat → Int32} {av' : Nat → Nat → Int32} (C : mCx p m c cM_head 1 s args g "MidiDeskModel") (hr : meth.sig.returnType = none) (hlk : meth.locks = false) (hrv : rv = none) (iv : Nat → Int32) (av : Nat → Nat → Int32) (H : Heap) (locs : List Loc) (ls : Array Slot) (hl : lv_has ls 1 [(0, .ref q)]) (hw : mWd g (mA g q ad X s.heap.size) s.heap q ad X iv av H locs) (hf : jM_head_18 iv av = some (iv', av')) : mG p l e rM_head s m args below meth c g q ad X rv iv' av' H locs 0 0 (F0 m 18 ls []) := by
  unfold jM_head_18 at hf
  refine lv_aload_n C.1.1 C.1.2.1 dM_head_18 rfl (lv_at hl 0 rfl) ?_
  refine lv_iconst (v := (4 : Int32)) C.1.1 C.1.2.1 dM_head_19 (by decide) ?_
  obtain ⟨⟨r1, iv1, av1⟩, g1, hf⟩ := ts_b hf
  dsimp only at hf
  refine m_callV (rest := []) (As := [.int (4 : Int32)]) (rv := (some (.long r1))) C hl.1 hw (cM_taken_met g1) (callW_of (rm := rM_taken) 1 C.1.2.2.2.2 gw_808 gw_810 gw_27 gw_55 gw_811 kM_taken ⟨Nat.le_of_ble_eq_true rfl, Nat.le_of_ble_eq_true rfl⟩) rfl rfl (Nat.le_of_ble_eq_true rfl) dM_head_20 ⟨Nat.le_of_ble_eq_true rfl, Nat.le_of_ble_eq_true rfl⟩ (fun H locs hw => ?_)
  refine W.eq (g2 := F0 m 23 ls [.long r1]) rfl ?_
  refine lv_ldc2 C.1.1 C.1.2.1 C.1.2.2.2.1 (C.1.2.2.2.2 _ gw_818) dM_head_23 ?_
  refine W.lcmp C.1.1 C.1.2.1 dM_head_26 ?_
  refine lv_if_eq (tgt := 36) C.1.1 C.1.2.1 dM_head_27 (by decide) (fun c2 => ?_) (fun c2 => ?_)
  · have hf := ts_t hf c2
    exact wM_head_36 C hr hlk hrv iv1 av1 _ _ ls (lv_sub hl [0] rfl) hw hf
  · have hf := ts_f hf c2
    refine lv_aload_n C.1.1 C.1.2.1 dM_head_30 rfl (lv_at hl 0 rfl) ?_
    refine lv_iconst (v := (2 : Int32)) C.1.1 C.1.2.1 dM_head_31 (by decide) ?_
    refine lv_iconst (v := (4 : Int32)) C.1.1 C.1.2.1 dM_head_32 (by decide) ?_
    obtain ⟨⟨iv3, av3⟩, g3, hf⟩ := ts_b hf
    dsimp only at hf
    refine m_callV (rest := []) (As := [.int (2 : Int32), .int (4 : Int32)]) (rv := none) C hl.1 hw (cM_fail_met g3) (callW_of (rm := rM_fail) 2 C.1.2.2.2.2 gw_812 gw_814 gw_28 gw_55 gw_815 kM_fail ⟨Nat.le_of_ble_eq_true rfl, Nat.le_of_ble_eq_true rfl⟩) rfl rfl (Nat.le_of_ble_eq_true rfl) dM_head_33 ⟨Nat.le_of_ble_eq_true rfl, Nat.le_of_ble_eq_true rfl⟩ (fun H locs hw => ?_)
    refine W.eq (g2 := F0 m 36 ls []) rfl ?_
    exact wM_head_36 C hr hlk hrv iv3 av3 _ _ ls (lv_sub hl [0] rfl) hw hf
set_option maxHeartbeats 4000000 in
set_option maxRecDepth 100000 in
theorem cM_head_met {l : Launch} {g : gT} {q : Nat} {ad : Nat → Nat} {X : va_W} {iv iv' : Nat → Int32} {av av' : Nat → Nat → Int32} (hf : fM_head iv av = some (iv', av')) : mMet l yM_head cM_head 1 none rM_head g q ad X iv av [.ref q] none iv' av' := by
  refine m_entry (by decide) (Nat.le_of_ble_eq_true rfl) ?_
  intro p e s m args below meth c ls C hr hlk hnm hl hw
  have hrv : (none : Option Value) = none := rfl
  have C : mCx p m c cM_head 1 s args g "MidiDeskModel" := C
  have hl : lv_has ls 1 [(0, .ref q)] := hl
  unfold fM_head at hf
  refine lv_aload_n C.1.1 C.1.2.1 dM_head_0 rfl (lv_at hl 0 rfl) ?_
  refine lv_iconst (v := (4 : Int32)) C.1.1 C.1.2.1 dM_head_1 (by decide) ?_
  obtain ⟨⟨r1, iv1, av1⟩, g1, hf⟩ := ts_b hf
  dsimp only at hf
  refine m_callV (rest := []) (As := [.int (4 : Int32)]) (rv := (some (.long r1))) C hl.1 hw (cM_taken_met g1) (callW_of (rm := rM_taken) 1 C.1.2.2.2.2 gw_808 gw_810 gw_27 gw_55 gw_811 kM_taken ⟨Nat.le_of_ble_eq_true rfl, Nat.le_of_ble_eq_true rfl⟩) rfl rfl (Nat.le_of_ble_eq_true rfl) dM_head_2 ⟨Nat.le_of_ble_eq_true rfl, Nat.le_of_ble_eq_true rfl⟩ (fun H locs hw => ?_)
  refine W.eq (g2 := F0 m 5 ls [.long r1]) rfl ?_
  refine lv_ldc2 C.1.1 C.1.2.1 C.1.2.2.2.1 (C.1.2.2.2.2 _ gw_817) dM_head_5 ?_
  refine W.lcmp C.1.1 C.1.2.1 dM_head_8 ?_
  refine lv_if_eq (tgt := 18) C.1.1 C.1.2.1 dM_head_9 (by decide) (fun c2 => ?_) (fun c2 => ?_)
  · have hf := ts_t hf c2
    exact wM_head_18 C hr hlk hrv iv1 av1 _ _ ls (lv_sub hl [0] rfl) hw hf
  · have hf := ts_f hf c2
    refine lv_aload_n C.1.1 C.1.2.1 dM_head_12 rfl (lv_at hl 0 rfl) ?_
    refine lv_iconst (v := (2 : Int32)) C.1.1 C.1.2.1 dM_head_13 (by decide) ?_
    refine lv_iconst (v := (0 : Int32)) C.1.1 C.1.2.1 dM_head_14 (by decide) ?_
    obtain ⟨⟨iv3, av3⟩, g3, hf⟩ := ts_b hf
    dsimp only at hf
    refine m_callV (rest := []) (As := [.int (2 : Int32), .int (0 : Int32)]) (rv := none) C hl.1 hw (cM_fail_met g3) (callW_of (rm := rM_fail) 2 C.1.2.2.2.2 gw_812 gw_814 gw_28 gw_55 gw_815 kM_fail ⟨Nat.le_of_ble_eq_true rfl, Nat.le_of_ble_eq_true rfl⟩) rfl rfl (Nat.le_of_ble_eq_true rfl) dM_head_15 ⟨Nat.le_of_ble_eq_true rfl, Nat.le_of_ble_eq_true rfl⟩ (fun H locs hw => ?_)
    refine W.eq (g2 := F0 m 18 ls []) rfl ?_
    exact wM_head_18 C hr hlk hrv iv3 av3 _ _ ls (lv_sub hl [0] rfl) hw hf
end
section
abbrev cM_small : ByteArray := prog_8_method_12_code
abbrev yM_small : MethodName := ⟨"MidiDeskModel", "small", "()I"⟩
theorem kM_small : yM_small.cls ≠ "java/lang/invoke/MethodHandle" ∧ yM_small.cls ≠ "java/lang/invoke/VarHandle" ∧ (parseMethodDescriptor yM_small.desc).map (fun d => d.parameters.length) = some 0 := by decide +kernel
abbrev rM_small : Room := { frames := 2, cells := 0, slots := 0, locals := 46 }
theorem dM_small_0 : decode cM_small 0 = .ok (.aload_n 0, 1) := by decide +kernel
theorem dM_small_1 : decode cM_small 1 = .ok (.getfield 62, 3) := by decide +kernel
theorem dM_small_4 : decode cM_small 4 = .ok (.istore_n 1, 1) := by decide +kernel
theorem dM_small_5 : decode cM_small 5 = .ok (.aload_n 0, 1) := by decide +kernel
theorem dM_small_6 : decode cM_small 6 = .ok (.iconst 1, 1) := by decide +kernel
theorem dM_small_7 : decode cM_small 7 = .ok (.invokevirtual 74, 3) := by decide +kernel
theorem dM_small_10 : decode cM_small 10 = .ok (.l2i, 1) := by decide +kernel
theorem dM_small_11 : decode cM_small 11 = .ok (.istore_n 2, 1) := by decide +kernel
theorem dM_small_12 : decode cM_small 12 = .ok (.iload_n 2, 1) := by decide +kernel
theorem dM_small_13 : decode cM_small 13 = .ok (.bipush 127, 2) := by decide +kernel
theorem dM_small_15 : decode cM_small 15 = .ok (.if_icmp .le 10, 3) := by decide +kernel
theorem dM_small_18 : decode cM_small 18 = .ok (.aload_n 0, 1) := by decide +kernel
theorem dM_small_19 : decode cM_small 19 = .ok (.bipush 6, 2) := by decide +kernel
theorem dM_small_21 : decode cM_small 21 = .ok (.iload_n 1, 1) := by decide +kernel
theorem dM_small_22 : decode cM_small 22 = .ok (.invokevirtual 68, 3) := by decide +kernel
theorem dM_small_25 : decode cM_small 25 = .ok (.iload_n 2, 1) := by decide +kernel
theorem dM_small_26 : decode cM_small 26 = .ok (.ireturn, 1) := by decide +kernel
def fM_small (iv : Nat → Int32) (av : Nat → Nat → Int32) : Option (Int32 × (Nat → Int32) × (Nat → Nat → Int32)) := (fM_taken iv av (1 : Int32)).bind fun (r1, iv1, av1) => if r1.toInt32 ≤ (127 : Int32) then (some (r1.toInt32, iv1, av1)) else ((fM_fail iv1 av1 (6 : Int32) (iv 2)).bind fun (iv3, av3) => some (r1.toInt32, iv3, av3))
set_option maxHeartbeats 4000000 in
set_option maxRecDepth 100000 in
theorem cM_small_met {l : Launch} {g : gT} {q : Nat} {ad : Nat → Nat} {X : va_W} {iv iv' : Nat → Int32} {av av' : Nat → Nat → Int32} {r' : Int32} (hf : fM_small iv av = some (r', iv', av')) : mMet l yM_small cM_small 3 (some .int) rM_small g q ad X iv av [.ref q] (some (.int r')) iv' av' := by
  refine m_entry (by decide) (Nat.le_of_ble_eq_true rfl) ?_
  intro p e s m args below meth c ls C hr hlk hnm hl hw
  have hrv : ((some (.int r')) : Option Value) = (some (.int r')) := rfl
  have C : mCx p m c cM_small 3 s args g "MidiDeskModel" := C
  have hl : lv_has ls 3 [(0, .ref q)] := hl
  unfold fM_small at hf
  refine lv_aload_n C.1.1 C.1.2.1 dM_small_0 rfl (lv_at hl 0 rfl) ?_
  refine mg_at C hw dM_small_1 ?_
  refine lv_istore_n (lv' := [(1, .int (iv 2)), (0, .ref q)]) C.1.1 C.1.2.1 dM_small_4 rfl hl (by decide) rfl (fun ls hl => ?_)
  refine lv_aload_n C.1.1 C.1.2.1 dM_small_5 rfl (lv_at hl 1 rfl) ?_
  refine lv_iconst (v := (1 : Int32)) C.1.1 C.1.2.1 dM_small_6 (by decide) ?_
  obtain ⟨⟨r1, iv1, av1⟩, g1, hf⟩ := ts_b hf
  dsimp only at hf
  refine m_callV (rest := []) (As := [.int (1 : Int32)]) (rv := (some (.long r1))) C hl.1 hw (cM_taken_met g1) (callW_of (rm := rM_taken) 1 C.1.2.2.2.2 gw_808 gw_810 gw_27 gw_55 gw_811 kM_taken ⟨Nat.le_of_ble_eq_true rfl, Nat.le_of_ble_eq_true rfl⟩) rfl rfl (Nat.le_of_ble_eq_true rfl) dM_small_7 ⟨Nat.le_of_ble_eq_true rfl, Nat.le_of_ble_eq_true rfl⟩ (fun H locs hw => ?_)
  refine W.eq (g2 := F0 m 10 ls [.long r1]) rfl ?_
  refine lv_l2i C.1.1 C.1.2.1 dM_small_10 rfl ?_
  refine lv_istore_n (lv' := [(2, .int r1.toInt32), (1, .int (iv 2)), (0, .ref q)]) C.1.1 C.1.2.1 dM_small_11 rfl hl (by decide) rfl (fun ls hl => ?_)
  refine lv_iload_n C.1.1 C.1.2.1 dM_small_12 rfl (lv_at hl 0 rfl) ?_
  refine lv_bipush (v := (127 : Int32)) C.1.1 C.1.2.1 dM_small_13 (by decide) ?_
  refine lv_icmp_le (tgt := 25) C.1.1 C.1.2.1 dM_small_15 (by decide) (fun c2 => ?_) (fun c2 => ?_)
  · have hf := ts_t hf c2
    refine lv_iload_n C.1.1 C.1.2.1 dM_small_25 rfl (lv_at hl 0 rfl) ?_
    exact m_reti C hr hlk hrv hw hf ⟨Nat.le_of_ble_eq_true rfl, Nat.le_of_ble_eq_true rfl⟩ dM_small_26
  · have hf := ts_f hf c2
    refine lv_aload_n C.1.1 C.1.2.1 dM_small_18 rfl (lv_at hl 2 rfl) ?_
    refine lv_bipush (v := (6 : Int32)) C.1.1 C.1.2.1 dM_small_19 (by decide) ?_
    refine lv_iload_n C.1.1 C.1.2.1 dM_small_21 rfl (lv_at hl 1 rfl) ?_
    obtain ⟨⟨iv3, av3⟩, g3, hf⟩ := ts_b hf
    dsimp only at hf
    refine m_callV (rest := []) (As := [.int (6 : Int32), .int (iv 2)]) (rv := none) C hl.1 hw (cM_fail_met g3) (callW_of (rm := rM_fail) 2 C.1.2.2.2.2 gw_812 gw_814 gw_28 gw_55 gw_815 kM_fail ⟨Nat.le_of_ble_eq_true rfl, Nat.le_of_ble_eq_true rfl⟩) rfl rfl (Nat.le_of_ble_eq_true rfl) dM_small_22 ⟨Nat.le_of_ble_eq_true rfl, Nat.le_of_ble_eq_true rfl⟩ (fun H locs hw => ?_)
    refine W.eq (g2 := F0 m 25 ls []) rfl ?_
    refine lv_iload_n C.1.1 C.1.2.1 dM_small_25 rfl (lv_at hl 0 rfl) ?_
    exact m_reti C hr hlk hrv hw hf ⟨Nat.le_of_ble_eq_true rfl, Nat.le_of_ble_eq_true rfl⟩ dM_small_26
abbrev cM_tempo : ByteArray := prog_8_method_15_code
abbrev yM_tempo : MethodName := ⟨"MidiDeskModel", "tempo", "(I)I"⟩
theorem kM_tempo : yM_tempo.cls ≠ "java/lang/invoke/MethodHandle" ∧ yM_tempo.cls ≠ "java/lang/invoke/VarHandle" ∧ (parseMethodDescriptor yM_tempo.desc).map (fun d => d.parameters.length) = some 1 := by decide +kernel
abbrev rM_tempo : Room := { frames := 0, cells := 0, slots := 0, locals := 0 }
theorem dM_tempo_0 : decode cM_tempo 0 = .ok (.aload_n 0, 1) := by decide +kernel
theorem dM_tempo_1 : decode cM_tempo 1 = .ok (.getfield 40, 3) := by decide +kernel
theorem dM_tempo_4 : decode cM_tempo 4 = .ok (.aload_n 0, 1) := by decide +kernel
theorem dM_tempo_5 : decode cM_tempo 5 = .ok (.getfield 28, 3) := by decide +kernel
theorem dM_tempo_8 : decode cM_tempo 8 = .ok (.iload_n 1, 1) := by decide +kernel
theorem dM_tempo_9 : decode cM_tempo 9 = .ok (.iaload, 1) := by decide +kernel
theorem dM_tempo_10 : decode cM_tempo 10 = .ok (.iaload, 1) := by decide +kernel
theorem dM_tempo_11 : decode cM_tempo 11 = .ok (.bipush 16, 2) := by decide +kernel
theorem dM_tempo_13 : decode cM_tempo 13 = .ok (.ishl, 1) := by decide +kernel
theorem dM_tempo_14 : decode cM_tempo 14 = .ok (.aload_n 0, 1) := by decide +kernel
theorem dM_tempo_15 : decode cM_tempo 15 = .ok (.getfield 40, 3) := by decide +kernel
theorem dM_tempo_18 : decode cM_tempo 18 = .ok (.aload_n 0, 1) := by decide +kernel
theorem dM_tempo_19 : decode cM_tempo 19 = .ok (.getfield 28, 3) := by decide +kernel
theorem dM_tempo_22 : decode cM_tempo 22 = .ok (.iload_n 1, 1) := by decide +kernel
theorem dM_tempo_23 : decode cM_tempo 23 = .ok (.iaload, 1) := by decide +kernel
theorem dM_tempo_24 : decode cM_tempo 24 = .ok (.iconst 1, 1) := by decide +kernel
theorem dM_tempo_25 : decode cM_tempo 25 = .ok (.iadd, 1) := by decide +kernel
theorem dM_tempo_26 : decode cM_tempo 26 = .ok (.iaload, 1) := by decide +kernel
theorem dM_tempo_27 : decode cM_tempo 27 = .ok (.bipush 8, 2) := by decide +kernel
theorem dM_tempo_29 : decode cM_tempo 29 = .ok (.ishl, 1) := by decide +kernel
theorem dM_tempo_30 : decode cM_tempo 30 = .ok (.ior, 1) := by decide +kernel
theorem dM_tempo_31 : decode cM_tempo 31 = .ok (.aload_n 0, 1) := by decide +kernel
theorem dM_tempo_32 : decode cM_tempo 32 = .ok (.getfield 40, 3) := by decide +kernel
theorem dM_tempo_35 : decode cM_tempo 35 = .ok (.aload_n 0, 1) := by decide +kernel
theorem dM_tempo_36 : decode cM_tempo 36 = .ok (.getfield 28, 3) := by decide +kernel
theorem dM_tempo_39 : decode cM_tempo 39 = .ok (.iload_n 1, 1) := by decide +kernel
theorem dM_tempo_40 : decode cM_tempo 40 = .ok (.iaload, 1) := by decide +kernel
theorem dM_tempo_41 : decode cM_tempo 41 = .ok (.iconst 2, 1) := by decide +kernel
theorem dM_tempo_42 : decode cM_tempo 42 = .ok (.iadd, 1) := by decide +kernel
theorem dM_tempo_43 : decode cM_tempo 43 = .ok (.iaload, 1) := by decide +kernel
theorem dM_tempo_44 : decode cM_tempo 44 = .ok (.ior, 1) := by decide +kernel
theorem dM_tempo_45 : decode cM_tempo 45 = .ok (.ireturn, 1) := by decide +kernel
def fM_tempo (iv : Nat → Int32) (av : Nat → Nat → Int32) (x1 : Int32) : Option (Int32 × (Nat → Int32) × (Nat → Nat → Int32)) := if x1 < 0 ∨ 1001 ≤ x1.toNatClampNeg then none else (if (av 6 x1.toNatClampNeg) < 0 ∨ 20100 ≤ (av 6 x1.toNatClampNeg).toNatClampNeg then none else (if x1 < 0 ∨ 1001 ≤ x1.toNatClampNeg then none else (if ((av 6 x1.toNatClampNeg) + (1 : Int32)) < 0 ∨ 20100 ≤ ((av 6 x1.toNatClampNeg) + (1 : Int32)).toNatClampNeg then none else (if x1 < 0 ∨ 1001 ≤ x1.toNatClampNeg then none else (if ((av 6 x1.toNatClampNeg) + (2 : Int32)) < 0 ∨ 20100 ≤ ((av 6 x1.toNatClampNeg) + (2 : Int32)).toNatClampNeg then none else (some ((((av 10 (av 6 x1.toNatClampNeg).toNatClampNeg) <<< ((16 : Int32) &&& 31)) ||| ((av 10 ((av 6 x1.toNatClampNeg) + (1 : Int32)).toNatClampNeg) <<< ((8 : Int32) &&& 31))) ||| (av 10 ((av 6 x1.toNatClampNeg) + (2 : Int32)).toNatClampNeg), iv, av)))))))
set_option maxHeartbeats 4000000 in
set_option maxRecDepth 100000 in
theorem cM_tempo_met {l : Launch} {g : gT} {q : Nat} {ad : Nat → Nat} {X : va_W} {iv iv' : Nat → Int32} {av av' : Nat → Nat → Int32} {x1 : Int32} {r' : Int32} (hf : fM_tempo iv av x1 = some (r', iv', av')) : mMet l yM_tempo cM_tempo 2 (some .int) rM_tempo g q ad X iv av [.ref q, .int x1] (some (.int r')) iv' av' := by
  refine m_entry (by decide) (Nat.le_of_ble_eq_true rfl) ?_
  intro p e s m args below meth c ls C hr hlk hnm hl hw
  have hrv : ((some (.int r')) : Option Value) = (some (.int r')) := rfl
  have C : mCx p m c cM_tempo 2 s args g "MidiDeskModel" := C
  have hl : lv_has ls 2 [(0, .ref q), (1, .int x1)] := hl
  unfold fM_tempo at hf
  refine lv_aload_n C.1.1 C.1.2.1 dM_tempo_0 rfl (lv_at hl 0 rfl) ?_
  refine mg_bytes C hw dM_tempo_1 ?_
  refine lv_aload_n C.1.1 C.1.2.1 dM_tempo_4 rfl (lv_at hl 0 rfl) ?_
  refine mg_from C hw dM_tempo_5 ?_
  refine lv_iload_n C.1.1 C.1.2.1 dM_tempo_8 rfl (lv_at hl 1 rfl) ?_
  obtain ⟨h1, hf⟩ := ts_g hf
  refine ma_from C hw h1 dM_tempo_9 ?_
  obtain ⟨h2, hf⟩ := ts_g hf
  refine ma_bytes C hw h2 dM_tempo_10 ?_
  refine lv_bipush (v := (16 : Int32)) C.1.1 C.1.2.1 dM_tempo_11 (by decide) ?_
  refine lv_ishl C.1.1 C.1.2.1 dM_tempo_13 ?_
  refine lv_aload_n C.1.1 C.1.2.1 dM_tempo_14 rfl (lv_at hl 0 rfl) ?_
  refine mg_bytes C hw dM_tempo_15 ?_
  refine lv_aload_n C.1.1 C.1.2.1 dM_tempo_18 rfl (lv_at hl 0 rfl) ?_
  refine mg_from C hw dM_tempo_19 ?_
  refine lv_iload_n C.1.1 C.1.2.1 dM_tempo_22 rfl (lv_at hl 1 rfl) ?_
  obtain ⟨h3, hf⟩ := ts_g hf
  refine ma_from C hw h3 dM_tempo_23 ?_
  refine lv_iconst (v := (1 : Int32)) C.1.1 C.1.2.1 dM_tempo_24 (by decide) ?_
  refine lv_iadd C.1.1 C.1.2.1 dM_tempo_25 ?_
  obtain ⟨h4, hf⟩ := ts_g hf
  refine ma_bytes C hw h4 dM_tempo_26 ?_
  refine lv_bipush (v := (8 : Int32)) C.1.1 C.1.2.1 dM_tempo_27 (by decide) ?_
  refine lv_ishl C.1.1 C.1.2.1 dM_tempo_29 ?_
  refine lv_ior C.1.1 C.1.2.1 dM_tempo_30 ?_
  refine lv_aload_n C.1.1 C.1.2.1 dM_tempo_31 rfl (lv_at hl 0 rfl) ?_
  refine mg_bytes C hw dM_tempo_32 ?_
  refine lv_aload_n C.1.1 C.1.2.1 dM_tempo_35 rfl (lv_at hl 0 rfl) ?_
  refine mg_from C hw dM_tempo_36 ?_
  refine lv_iload_n C.1.1 C.1.2.1 dM_tempo_39 rfl (lv_at hl 1 rfl) ?_
  obtain ⟨h5, hf⟩ := ts_g hf
  refine ma_from C hw h5 dM_tempo_40 ?_
  refine lv_iconst (v := (2 : Int32)) C.1.1 C.1.2.1 dM_tempo_41 (by decide) ?_
  refine lv_iadd C.1.1 C.1.2.1 dM_tempo_42 ?_
  obtain ⟨h6, hf⟩ := ts_g hf
  refine ma_bytes C hw h6 dM_tempo_43 ?_
  refine lv_ior C.1.1 C.1.2.1 dM_tempo_44 ?_
  exact m_reti C hr hlk hrv hw hf ⟨Nat.le_of_ble_eq_true rfl, Nat.le_of_ble_eq_true rfl⟩ dM_tempo_45
abbrev cM_follow : ByteArray := prog_8_method_14_code
abbrev yM_follow : MethodName := ⟨"MidiDeskModel", "follow", "(II)V"⟩
theorem kM_follow : yM_follow.cls ≠ "java/lang/invoke/MethodHandle" ∧ yM_follow.cls ≠ "java/lang/invoke/VarHandle" ∧ (parseMethodDescriptor yM_follow.desc).map (fun d => d.parameters.length) = some 2 := by decide +kernel
abbrev rM_follow : Room := { frames := 3, cells := 0, slots := 0, locals := 70 }
theorem dM_follow_0 : decode cM_follow 0 = .ok (.aload_n 0, 1) := by decide +kernel
theorem dM_follow_1 : decode cM_follow 1 = .ok (.getfield 62, 3) := by decide +kernel
theorem dM_follow_4 : decode cM_follow 4 = .ok (.istore_n 3, 1) := by decide +kernel
theorem dM_follow_5 : decode cM_follow 5 = .ok (.aload_n 0, 1) := by decide +kernel
theorem dM_follow_6 : decode cM_follow 6 = .ok (.invokevirtual 117, 3) := by decide +kernel
theorem dM_follow_9 : decode cM_follow 9 = .ok (.istore 4, 2) := by decide +kernel
theorem dM_follow_11 : decode cM_follow 11 = .ok (.aload_n 0, 1) := by decide +kernel
theorem dM_follow_12 : decode cM_follow 12 = .ok (.getfield 56, 3) := by decide +kernel
theorem dM_follow_15 : decode cM_follow 15 = .ok (.ifCond .ne 21, 3) := by decide +kernel
theorem dM_follow_18 : decode cM_follow 18 = .ok (.iload_n 2, 1) := by decide +kernel
theorem dM_follow_19 : decode cM_follow 19 = .ok (.bipush 47, 2) := by decide +kernel
theorem dM_follow_21 : decode cM_follow 21 = .ok (.if_icmp .ne 15, 3) := by decide +kernel
theorem dM_follow_24 : decode cM_follow 24 = .ok (.iload 4, 2) := by decide +kernel
theorem dM_follow_26 : decode cM_follow 26 = .ok (.ifCond .le 10, 3) := by decide +kernel
theorem dM_follow_29 : decode cM_follow 29 = .ok (.aload_n 0, 1) := by decide +kernel
theorem dM_follow_30 : decode cM_follow 30 = .ok (.bipush 7, 2) := by decide +kernel
theorem dM_follow_32 : decode cM_follow 32 = .ok (.iload_n 3, 1) := by decide +kernel
theorem dM_follow_33 : decode cM_follow 33 = .ok (.invokevirtual 68, 3) := by decide +kernel
theorem dM_follow_36 : decode cM_follow 36 = .ok (.aload_n 0, 1) := by decide +kernel
theorem dM_follow_37 : decode cM_follow 37 = .ok (.getfield 56, 3) := by decide +kernel
theorem dM_follow_40 : decode cM_follow 40 = .ok (.ifCond .ne 22, 3) := by decide +kernel
theorem dM_follow_43 : decode cM_follow 43 = .ok (.iload_n 2, 1) := by decide +kernel
theorem dM_follow_44 : decode cM_follow 44 = .ok (.bipush 81, 2) := by decide +kernel
theorem dM_follow_46 : decode cM_follow 46 = .ok (.if_icmp .ne 16, 3) := by decide +kernel
theorem dM_follow_49 : decode cM_follow 49 = .ok (.iload 4, 2) := by decide +kernel
theorem dM_follow_51 : decode cM_follow 51 = .ok (.iconst 3, 1) := by decide +kernel
theorem dM_follow_52 : decode cM_follow 52 = .ok (.if_icmp .eq 10, 3) := by decide +kernel
theorem dM_follow_55 : decode cM_follow 55 = .ok (.aload_n 0, 1) := by decide +kernel
theorem dM_follow_56 : decode cM_follow 56 = .ok (.bipush 8, 2) := by decide +kernel
theorem dM_follow_58 : decode cM_follow 58 = .ok (.iload_n 3, 1) := by decide +kernel
theorem dM_follow_59 : decode cM_follow 59 = .ok (.invokevirtual 68, 3) := by decide +kernel
theorem dM_follow_62 : decode cM_follow 62 = .ok (.aload_n 0, 1) := by decide +kernel
theorem dM_follow_63 : decode cM_follow 63 = .ok (.getfield 56, 3) := by decide +kernel
theorem dM_follow_66 : decode cM_follow 66 = .ok (.ifCond .ne 26, 3) := by decide +kernel
theorem dM_follow_69 : decode cM_follow 69 = .ok (.aload_n 0, 1) := by decide +kernel
theorem dM_follow_70 : decode cM_follow 70 = .ok (.getfield 62, 3) := by decide +kernel
theorem dM_follow_73 : decode cM_follow 73 = .ok (.iload 4, 2) := by decide +kernel
theorem dM_follow_75 : decode cM_follow 75 = .ok (.iadd, 1) := by decide +kernel
theorem dM_follow_76 : decode cM_follow 76 = .ok (.aload_n 0, 1) := by decide +kernel
theorem dM_follow_77 : decode cM_follow 77 = .ok (.getfield 65, 3) := by decide +kernel
theorem dM_follow_80 : decode cM_follow 80 = .ok (.if_icmp .le 12, 3) := by decide +kernel
theorem dM_follow_83 : decode cM_follow 83 = .ok (.aload_n 0, 1) := by decide +kernel
theorem dM_follow_84 : decode cM_follow 84 = .ok (.iconst 1, 1) := by decide +kernel
theorem dM_follow_85 : decode cM_follow 85 = .ok (.aload_n 0, 1) := by decide +kernel
theorem dM_follow_86 : decode cM_follow 86 = .ok (.getfield 65, 3) := by decide +kernel
theorem dM_follow_89 : decode cM_follow 89 = .ok (.invokevirtual 68, 3) := by decide +kernel
theorem dM_follow_92 : decode cM_follow 92 = .ok (.aload_n 0, 1) := by decide +kernel
theorem dM_follow_93 : decode cM_follow 93 = .ok (.getfield 56, 3) := by decide +kernel
theorem dM_follow_96 : decode cM_follow 96 = .ok (.ifCond .le 4, 3) := by decide +kernel
theorem dM_follow_99 : decode cM_follow 99 = .ok (.return_, 1) := by decide +kernel
theorem dM_follow_100 : decode cM_follow 100 = .ok (.aload_n 0, 1) := by decide +kernel
theorem dM_follow_101 : decode cM_follow 101 = .ok (.getfield 31, 3) := by decide +kernel
theorem dM_follow_104 : decode cM_follow 104 = .ok (.iload_n 1, 1) := by decide +kernel
theorem dM_follow_105 : decode cM_follow 105 = .ok (.iload 4, 2) := by decide +kernel
theorem dM_follow_107 : decode cM_follow 107 = .ok (.iastore, 1) := by decide +kernel
theorem dM_follow_108 : decode cM_follow 108 = .ok (.aload_n 0, 1) := by decide +kernel
theorem dM_follow_109 : decode cM_follow 109 = .ok (.getfield 62, 3) := by decide +kernel
theorem dM_follow_112 : decode cM_follow 112 = .ok (.istore_n 3, 1) := by decide +kernel
theorem dM_follow_113 : decode cM_follow 113 = .ok (.iconst 0, 1) := by decide +kernel
theorem dM_follow_114 : decode cM_follow 114 = .ok (.istore 5, 2) := by decide +kernel
theorem dM_follow_116 : decode cM_follow 116 = .ok (.iload 5, 2) := by decide +kernel
theorem dM_follow_118 : decode cM_follow 118 = .ok (.iload 4, 2) := by decide +kernel
theorem dM_follow_120 : decode cM_follow 120 = .ok (.if_icmp .ge 33, 3) := by decide +kernel
theorem dM_follow_123 : decode cM_follow 123 = .ok (.aload_n 0, 1) := by decide +kernel
theorem dM_follow_124 : decode cM_follow 124 = .ok (.getfield 40, 3) := by decide +kernel
theorem dM_follow_127 : decode cM_follow 127 = .ok (.aload_n 0, 1) := by decide +kernel
theorem dM_follow_128 : decode cM_follow 128 = .ok (.getfield 98, 3) := by decide +kernel
theorem dM_follow_131 : decode cM_follow 131 = .ok (.iload 5, 2) := by decide +kernel
theorem dM_follow_133 : decode cM_follow 133 = .ok (.iadd, 1) := by decide +kernel
theorem dM_follow_134 : decode cM_follow 134 = .ok (.aload_n 0, 1) := by decide +kernel
theorem dM_follow_135 : decode cM_follow 135 = .ok (.getfield 7, 3) := by decide +kernel
theorem dM_follow_138 : decode cM_follow 138 = .ok (.aload_n 0, 1) := by decide +kernel
theorem dM_follow_139 : decode cM_follow 139 = .ok (.getfield 62, 3) := by decide +kernel
theorem dM_follow_142 : decode cM_follow 142 = .ok (.iload 5, 2) := by decide +kernel
theorem dM_follow_144 : decode cM_follow 144 = .ok (.iadd, 1) := by decide +kernel
theorem dM_follow_145 : decode cM_follow 145 = .ok (.iaload, 1) := by decide +kernel
theorem dM_follow_146 : decode cM_follow 146 = .ok (.iastore, 1) := by decide +kernel
theorem dM_follow_147 : decode cM_follow 147 = .ok (.iinc 5 1, 3) := by decide +kernel
theorem dM_follow_150 : decode cM_follow 150 = .ok (.goto (-34), 3) := by decide +kernel
theorem dM_follow_153 : decode cM_follow 153 = .ok (.aload_n 0, 1) := by decide +kernel
theorem dM_follow_154 : decode cM_follow 154 = .ok (.dup, 1) := by decide +kernel
theorem dM_follow_155 : decode cM_follow 155 = .ok (.getfield 62, 3) := by decide +kernel
theorem dM_follow_158 : decode cM_follow 158 = .ok (.iload 4, 2) := by decide +kernel
theorem dM_follow_160 : decode cM_follow 160 = .ok (.iadd, 1) := by decide +kernel
theorem dM_follow_161 : decode cM_follow 161 = .ok (.putfield 62, 3) := by decide +kernel
theorem dM_follow_164 : decode cM_follow 164 = .ok (.iload_n 2, 1) := by decide +kernel
theorem dM_follow_165 : decode cM_follow 165 = .ok (.bipush 81, 2) := by decide +kernel
theorem dM_follow_167 : decode cM_follow 167 = .ok (.if_icmp .ne 18, 3) := by decide +kernel
theorem dM_follow_170 : decode cM_follow 170 = .ok (.aload_n 0, 1) := by decide +kernel
theorem dM_follow_171 : decode cM_follow 171 = .ok (.iload_n 1, 1) := by decide +kernel
theorem dM_follow_172 : decode cM_follow 172 = .ok (.invokevirtual 133, 3) := by decide +kernel
theorem dM_follow_175 : decode cM_follow 175 = .ok (.ifCond .ne 10, 3) := by decide +kernel
theorem dM_follow_178 : decode cM_follow 178 = .ok (.aload_n 0, 1) := by decide +kernel
theorem dM_follow_179 : decode cM_follow 179 = .ok (.bipush 8, 2) := by decide +kernel
theorem dM_follow_181 : decode cM_follow 181 = .ok (.iload_n 3, 1) := by decide +kernel
theorem dM_follow_182 : decode cM_follow 182 = .ok (.invokevirtual 68, 3) := by decide +kernel
theorem dM_follow_185 : decode cM_follow 185 = .ok (.return_, 1) := by decide +kernel
def lM_follow_116 : Nat → (Nat → Int32) → (Nat → Nat → Int32) → Int32 → Int32 → Int32 → Int32 → Int32 → Option ((Nat → Int32) × (Nat → Nat → Int32))
  | 0 => fun _ _ _ _ _ _ _ => none
  | k + 1 => fun iv av x1 x2 x3 x4 x5 => if x4 ≤ x5 then (if x2 = (81 : Int32) then ((fM_tempo (upd iv 2 ((iv 2) + x4)) av x1).bind fun (r3, iv3, av3) => if r3 = 0 then ((fM_fail iv3 av3 (8 : Int32) x3).bind fun (iv5, av5) => some (iv5, av5)) else (some (iv3, av3))) else (some (upd iv 2 ((iv 2) + x4), av))) else (if ((iv 2) + x5) < 0 ∨ 12000 ≤ ((iv 2) + x5).toNatClampNeg then none else (if ((iv 11) + x5) < 0 ∨ 20100 ≤ ((iv 11) + x5).toNatClampNeg then none else (lM_follow_116 k iv (up2 av 10 ((iv 11) + x5).toNatClampNeg (av 0 ((iv 2) + x5).toNatClampNeg)) x1 x2 x3 x4 (x5 + 1))))
def jM_follow_92 (iv : Nat → Int32) (av : Nat → Nat → Int32) (x1 : Int32) (x2 : Int32) (x4 : Int32) : Option ((Nat → Int32) × (Nat → Nat → Int32)) := if (iv 4) ≤ 0 then (if x1 < 0 ∨ 1001 ≤ x1.toNatClampNeg then none else (lM_follow_116 FU iv (up2 av 7 x1.toNatClampNeg x4) x1 x2 (iv 2) x4 (0 : Int32))) else (some (iv, av))
def jM_follow_62 (iv : Nat → Int32) (av : Nat → Nat → Int32) (x1 : Int32) (x2 : Int32) (x4 : Int32) : Option ((Nat → Int32) × (Nat → Nat → Int32)) := if (iv 4) = 0 then (if ((iv 2) + x4) ≤ (iv 3) then (jM_follow_92 iv av x1 x2 x4) else ((fM_fail iv av (1 : Int32) (iv 3)).bind fun (iv3, av3) => jM_follow_92 iv3 av3 x1 x2 x4)) else (jM_follow_92 iv av x1 x2 x4)
def jM_follow_36 (iv : Nat → Int32) (av : Nat → Nat → Int32) (x1 : Int32) (x2 : Int32) (x3 : Int32) (x4 : Int32) : Option ((Nat → Int32) × (Nat → Nat → Int32)) := if (iv 4) = 0 then (if x2 = (81 : Int32) then (if x4 = (3 : Int32) then (jM_follow_62 iv av x1 x2 x4) else ((fM_fail iv av (8 : Int32) x3).bind fun (iv4, av4) => jM_follow_62 iv4 av4 x1 x2 x4)) else (jM_follow_62 iv av x1 x2 x4)) else (jM_follow_62 iv av x1 x2 x4)
def fM_follow (iv : Nat → Int32) (av : Nat → Nat → Int32) (x1 : Int32) (x2 : Int32) : Option ((Nat → Int32) × (Nat → Nat → Int32)) := (fM_number iv av).bind fun (r1, iv1, av1) => if (iv1 4) = 0 then (if x2 = (47 : Int32) then (if r1 ≤ 0 then (jM_follow_36 iv1 av1 x1 x2 (iv 2) r1) else ((fM_fail iv1 av1 (7 : Int32) (iv 2)).bind fun (iv5, av5) => jM_follow_36 iv5 av5 x1 x2 (iv 2) r1)) else (jM_follow_36 iv1 av1 x1 x2 (iv 2) r1)) else (jM_follow_36 iv1 av1 x1 x2 (iv 2) r1)
set_option maxHeartbeats 4000000 in
set_option maxRecDepth 100000 in
theorem wM_follow_116 {p : Program} {l : Launch} {e : Env} {s : State} {m : MethodId} {args : Array Value} {below : List Frame} {meth : Method} {c : Code} {g : gT} {q : Nat} {ad : Nat → Nat} {X : va_W} {rv : Option Value} {iv' : Nat → Int32} {av' : Nat → Nat → Int32} (C : mCx p m c cM_follow 6 s args g "MidiDeskModel") (hr : meth.sig.returnType = none) (hlk : meth.locks = false) (hrv : rv = none) (k : Nat) : ∀ (iv : Nat → Int32) (av : Nat → Nat → Int32) (x1 : Int32) (x2 : Int32) (x3 : Int32) (x4 : Int32) (x5 : Int32) (H : Heap) (locs : List Loc) (ls : Array Slot), lv_has ls 6 [(0, .ref q), (1, .int x1), (2, .int x2), (3, .int x3), (4, .int x4), (5, .int x5)] → mWd g (mA g q ad X s.heap.size) s.heap q ad X iv av H locs → lM_follow_116 k iv av x1 x2 x3 x4 x5 = some (iv', av') → mG p l e rM_follow s m args below meth c g q ad X rv iv' av' H locs 0 0 (F0 m 116 ls []) := by
  induction k with
  | zero => intro iv av x1 x2 x3 x4 x5 H locs ls hl hw hf; cases hf
  | succ k ih =>
    intro iv av x1 x2 x3 x4 x5 H locs ls hl hw hf
    have hf : (if x4 ≤ x5 then (if x2 = (81 : Int32) then ((fM_tempo (upd iv 2 ((iv 2) + x4)) av x1).bind fun (r3, iv3, av3) => if r3 = 0 then ((fM_fail iv3 av3 (8 : Int32) x3).bind fun (iv5, av5) => some (iv5, av5)) else (some (iv3, av3))) else (some (upd iv 2 ((iv 2) + x4), av))) else (if ((iv 2) + x5) < 0 ∨ 12000 ≤ ((iv 2) + x5).toNatClampNeg then none else (if ((iv 11) + x5) < 0 ∨ 20100 ≤ ((iv 11) + x5).toNatClampNeg then none else (lM_follow_116 k iv (up2 av 10 ((iv 11) + x5).toNatClampNeg (av 0 ((iv 2) + x5).toNatClampNeg)) x1 x2 x3 x4 (x5 + 1))))) = some (iv', av') := hf
    refine lv_iload C.1.1 C.1.2.1 dM_follow_116 (lv_at hl 5 rfl) ?_
    refine lv_iload C.1.1 C.1.2.1 dM_follow_118 (lv_at hl 4 rfl) ?_
    refine lv_icmp_ge (tgt := 153) C.1.1 C.1.2.1 dM_follow_120 (by decide) (fun c1 => ?_) (fun c1 => ?_)
    · have hf := ts_t hf c1
      refine lv_aload_n C.1.1 C.1.2.1 dM_follow_153 rfl (lv_at hl 0 rfl) ?_
      refine lv_dup C.1.1 C.1.2.1 dM_follow_154 rfl ?_
      refine mg_at C hw dM_follow_155 ?_
      refine lv_iload C.1.1 C.1.2.1 dM_follow_158 (lv_at hl 4 rfl) ?_
      refine lv_iadd C.1.1 C.1.2.1 dM_follow_160 ?_
      refine mp_at C hw dM_follow_161 (fun H locs hw => ?_)
      refine lv_iload_n C.1.1 C.1.2.1 dM_follow_164 rfl (lv_at hl 2 rfl) ?_
      refine lv_bipush (v := (81 : Int32)) C.1.1 C.1.2.1 dM_follow_165 (by decide) ?_
      refine lv_icmp_ne (tgt := 185) C.1.1 C.1.2.1 dM_follow_167 (by decide) (fun c2 => ?_) (fun c2 => ?_)
      · have hf := ts_f hf c2
        exact m_retv C hr hlk hrv hw hf ⟨Nat.le_of_ble_eq_true rfl, Nat.le_of_ble_eq_true rfl⟩ dM_follow_185
      · have hf := ts_t hf c2
        refine lv_aload_n C.1.1 C.1.2.1 dM_follow_170 rfl (lv_at hl 0 rfl) ?_
        refine lv_iload_n C.1.1 C.1.2.1 dM_follow_171 rfl (lv_at hl 1 rfl) ?_
        obtain ⟨⟨r3, iv3, av3⟩, g3, hf⟩ := ts_b hf
        dsimp only at hf
        refine m_callV (rest := []) (As := [.int x1]) (rv := (some (.int r3))) C hl.1 hw (cM_tempo_met g3) (callW_of (rm := rM_tempo) 1 C.1.2.2.2.2 gw_844 gw_846 gw_34 gw_55 gw_847 kM_tempo ⟨Nat.le_of_ble_eq_true rfl, Nat.le_of_ble_eq_true rfl⟩) rfl rfl (Nat.le_of_ble_eq_true rfl) dM_follow_172 ⟨Nat.le_of_ble_eq_true rfl, Nat.le_of_ble_eq_true rfl⟩ (fun H locs hw => ?_)
        refine W.eq (g2 := F0 m 175 ls [.int r3]) rfl ?_
        refine lv_if_ne (tgt := 185) C.1.1 C.1.2.1 dM_follow_175 (by decide) (fun c4 => ?_) (fun c4 => ?_)
        · have hf := ts_f hf c4
          exact m_retv C hr hlk hrv hw hf ⟨Nat.le_of_ble_eq_true rfl, Nat.le_of_ble_eq_true rfl⟩ dM_follow_185
        · have hf := ts_t hf c4
          refine lv_aload_n C.1.1 C.1.2.1 dM_follow_178 rfl (lv_at hl 0 rfl) ?_
          refine lv_bipush (v := (8 : Int32)) C.1.1 C.1.2.1 dM_follow_179 (by decide) ?_
          refine lv_iload_n C.1.1 C.1.2.1 dM_follow_181 rfl (lv_at hl 3 rfl) ?_
          obtain ⟨⟨iv5, av5⟩, g5, hf⟩ := ts_b hf
          dsimp only at hf
          refine m_callV (rest := []) (As := [.int (8 : Int32), .int x3]) (rv := none) C hl.1 hw (cM_fail_met g5) (callW_of (rm := rM_fail) 2 C.1.2.2.2.2 gw_812 gw_814 gw_28 gw_55 gw_815 kM_fail ⟨Nat.le_of_ble_eq_true rfl, Nat.le_of_ble_eq_true rfl⟩) rfl rfl (Nat.le_of_ble_eq_true rfl) dM_follow_182 ⟨Nat.le_of_ble_eq_true rfl, Nat.le_of_ble_eq_true rfl⟩ (fun H locs hw => ?_)
          refine W.eq (g2 := F0 m 185 ls []) rfl ?_
          exact m_retv C hr hlk hrv hw hf ⟨Nat.le_of_ble_eq_true rfl, Nat.le_of_ble_eq_true rfl⟩ dM_follow_185
    · have hf := ts_f hf c1
      refine lv_aload_n C.1.1 C.1.2.1 dM_follow_123 rfl (lv_at hl 0 rfl) ?_
      refine mg_bytes C hw dM_follow_124 ?_
      refine lv_aload_n C.1.1 C.1.2.1 dM_follow_127 rfl (lv_at hl 0 rfl) ?_
      refine mg_many C hw dM_follow_128 ?_
      refine lv_iload C.1.1 C.1.2.1 dM_follow_131 (lv_at hl 5 rfl) ?_
      refine lv_iadd C.1.1 C.1.2.1 dM_follow_133 ?_
      refine lv_aload_n C.1.1 C.1.2.1 dM_follow_134 rfl (lv_at hl 0 rfl) ?_
      refine mg_input C hw dM_follow_135 ?_
      refine lv_aload_n C.1.1 C.1.2.1 dM_follow_138 rfl (lv_at hl 0 rfl) ?_
      refine mg_at C hw dM_follow_139 ?_
      refine lv_iload C.1.1 C.1.2.1 dM_follow_142 (lv_at hl 5 rfl) ?_
      refine lv_iadd C.1.1 C.1.2.1 dM_follow_144 ?_
      obtain ⟨h6, hf⟩ := ts_g hf
      refine ma_input C hw h6 dM_follow_145 ?_
      obtain ⟨h7, hf⟩ := ts_g hf
      refine ms_bytes C hw h7 dM_follow_146 (fun H locs hw => ?_)
      refine lv_iinc (v := x5 + 1) (lv' := [(5, .int (x5 + 1)), (0, .ref q), (1, .int x1), (2, .int x2), (3, .int x3), (4, .int x4)]) C.1.1 C.1.2.1 dM_follow_147 hl (k := 5) rfl rfl (by decide) rfl (fun ls hl => ?_)
      refine lv_goto (tgt := 116) C.1.1 C.1.2.1 dM_follow_150 (by decide) ?_
      exact ih iv (up2 av 10 ((iv 11) + x5).toNatClampNeg (av 0 ((iv 2) + x5).toNatClampNeg)) x1 x2 x3 x4 (x5 + 1) _ _ ls (lv_sub hl [1, 2, 3, 4, 5, 0] rfl) hw hf
set_option maxHeartbeats 4000000 in
set_option maxRecDepth 100000 in
theorem wM_follow_92 {p : Program} {l : Launch} {e : Env} {s : State} {m : MethodId} {args : Array Value} {below : List Frame} {meth : Method} {c : Code} {g : gT} {q : Nat} {ad : Nat → Nat} {X : va_W} {rv : Option Value} {iv' : Nat → Int32} {av' : Nat → Nat → Int32} (C : mCx p m c cM_follow 6 s args g "MidiDeskModel") (hr : meth.sig.returnType = none) (hlk : meth.locks = false) (hrv : rv = none) (iv : Nat → Int32) (av : Nat → Nat → Int32) (x1 : Int32) (x2 : Int32) (x4 : Int32) (H : Heap) (locs : List Loc) (ls : Array Slot) (hl : lv_has ls 6 [(0, .ref q), (1, .int x1), (2, .int x2), (4, .int x4)]) (hw : mWd g (mA g q ad X s.heap.size) s.heap q ad X iv av H locs) (hf : jM_follow_92 iv av x1 x2 x4 = some (iv', av')) : mG p l e rM_follow s m args below meth c g q ad X rv iv' av' H locs 0 0 (F0 m 92 ls []) := by
  unfold jM_follow_92 at hf
  refine lv_aload_n C.1.1 C.1.2.1 dM_follow_92 rfl (lv_at hl 0 rfl) ?_
  refine mg_fault C hw dM_follow_93 ?_
  refine lv_if_le (tgt := 100) C.1.1 C.1.2.1 dM_follow_96 (by decide) (fun c1 => ?_) (fun c1 => ?_)
  · have hf := ts_t hf c1
    refine lv_aload_n C.1.1 C.1.2.1 dM_follow_100 rfl (lv_at hl 0 rfl) ?_
    refine mg_counts C hw dM_follow_101 ?_
    refine lv_iload_n C.1.1 C.1.2.1 dM_follow_104 rfl (lv_at hl 1 rfl) ?_
    refine lv_iload C.1.1 C.1.2.1 dM_follow_105 (lv_at hl 3 rfl) ?_
    obtain ⟨h2, hf⟩ := ts_g hf
    refine ms_counts C hw h2 dM_follow_107 (fun H locs hw => ?_)
    refine lv_aload_n C.1.1 C.1.2.1 dM_follow_108 rfl (lv_at hl 0 rfl) ?_
    refine mg_at C hw dM_follow_109 ?_
    refine lv_istore_n (lv' := [(3, .int (iv 2)), (0, .ref q), (1, .int x1), (2, .int x2), (4, .int x4)]) C.1.1 C.1.2.1 dM_follow_112 rfl hl (by decide) rfl (fun ls hl => ?_)
    refine lv_iconst (v := (0 : Int32)) C.1.1 C.1.2.1 dM_follow_113 (by decide) ?_
    refine lv_istore (lv' := [(5, .int (0 : Int32)), (3, .int (iv 2)), (0, .ref q), (1, .int x1), (2, .int x2), (4, .int x4)]) C.1.1 C.1.2.1 dM_follow_114 hl (by decide) rfl (fun ls hl => ?_)
    exact wM_follow_116 C hr hlk hrv FU iv (up2 av 7 x1.toNatClampNeg x4) x1 x2 (iv 2) x4 (0 : Int32) _ _ ls (lv_sub hl [2, 3, 4, 1, 5, 0] rfl) hw hf
  · have hf := ts_f hf c1
    exact m_retv C hr hlk hrv hw hf ⟨Nat.le_of_ble_eq_true rfl, Nat.le_of_ble_eq_true rfl⟩ dM_follow_99
set_option maxHeartbeats 4000000 in
set_option maxRecDepth 100000 in
theorem wM_follow_62 {p : Program} {l : Launch} {e : Env} {s : State} {m : MethodId} {args : Array Value} {below : List Frame} {meth : Method} {c : Code} {g : gT} {q : Nat} {ad : Nat → Nat} {X : va_W} {rv : Option Value} {iv' : Nat → Int32} {av' : Nat → Nat → Int32} (C : mCx p m c cM_follow 6 s args g "MidiDeskModel") (hr : meth.sig.returnType = none) (hlk : meth.locks = false) (hrv : rv = none) (iv : Nat → Int32) (av : Nat → Nat → Int32) (x1 : Int32) (x2 : Int32) (x4 : Int32) (H : Heap) (locs : List Loc) (ls : Array Slot) (hl : lv_has ls 6 [(0, .ref q), (1, .int x1), (2, .int x2), (4, .int x4)]) (hw : mWd g (mA g q ad X s.heap.size) s.heap q ad X iv av H locs) (hf : jM_follow_62 iv av x1 x2 x4 = some (iv', av')) : mG p l e rM_follow s m args below meth c g q ad X rv iv' av' H locs 0 0 (F0 m 62 ls []) := by
  unfold jM_follow_62 at hf
  refine lv_aload_n C.1.1 C.1.2.1 dM_follow_62 rfl (lv_at hl 0 rfl) ?_
  refine mg_fault C hw dM_follow_63 ?_
  refine lv_if_ne (tgt := 92) C.1.1 C.1.2.1 dM_follow_66 (by decide) (fun c1 => ?_) (fun c1 => ?_)
  · have hf := ts_f hf c1
    exact wM_follow_92 C hr hlk hrv iv av x1 x2 x4 _ _ ls (lv_sub hl [0, 1, 2, 3] rfl) hw hf
  · have hf := ts_t hf c1
    refine lv_aload_n C.1.1 C.1.2.1 dM_follow_69 rfl (lv_at hl 0 rfl) ?_
    refine mg_at C hw dM_follow_70 ?_
    refine lv_iload C.1.1 C.1.2.1 dM_follow_73 (lv_at hl 3 rfl) ?_
    refine lv_iadd C.1.1 C.1.2.1 dM_follow_75 ?_
    refine lv_aload_n C.1.1 C.1.2.1 dM_follow_76 rfl (lv_at hl 0 rfl) ?_
    refine mg_end C hw dM_follow_77 ?_
    refine lv_icmp_le (tgt := 92) C.1.1 C.1.2.1 dM_follow_80 (by decide) (fun c2 => ?_) (fun c2 => ?_)
    · have hf := ts_t hf c2
      exact wM_follow_92 C hr hlk hrv iv av x1 x2 x4 _ _ ls (lv_sub hl [0, 1, 2, 3] rfl) hw hf
    · have hf := ts_f hf c2
      refine lv_aload_n C.1.1 C.1.2.1 dM_follow_83 rfl (lv_at hl 0 rfl) ?_
      refine lv_iconst (v := (1 : Int32)) C.1.1 C.1.2.1 dM_follow_84 (by decide) ?_
      refine lv_aload_n C.1.1 C.1.2.1 dM_follow_85 rfl (lv_at hl 0 rfl) ?_
      refine mg_end C hw dM_follow_86 ?_
      obtain ⟨⟨iv3, av3⟩, g3, hf⟩ := ts_b hf
      dsimp only at hf
      refine m_callV (rest := []) (As := [.int (1 : Int32), .int (iv 3)]) (rv := none) C hl.1 hw (cM_fail_met g3) (callW_of (rm := rM_fail) 2 C.1.2.2.2.2 gw_812 gw_814 gw_28 gw_55 gw_815 kM_fail ⟨Nat.le_of_ble_eq_true rfl, Nat.le_of_ble_eq_true rfl⟩) rfl rfl (Nat.le_of_ble_eq_true rfl) dM_follow_89 ⟨Nat.le_of_ble_eq_true rfl, Nat.le_of_ble_eq_true rfl⟩ (fun H locs hw => ?_)
      refine W.eq (g2 := F0 m 92 ls []) rfl ?_
      exact wM_follow_92 C hr hlk hrv iv3 av3 x1 x2 x4 _ _ ls (lv_sub hl [0, 1, 2, 3] rfl) hw hf
set_option maxHeartbeats 4000000 in
set_option maxRecDepth 100000 in
theorem wM_follow_36 {p : Program} {l : Launch} {e : Env} {s : State} {m : MethodId} {args : Array Value} {below : List Frame} {meth : Method} {c : Code} {g : gT} {q : Nat} {ad : Nat → Nat} {X : va_W} {rv : Option Value} {iv' : Nat → Int32} {av' : Nat → Nat → Int32} (C : mCx p m c cM_follow 6 s args g "MidiDeskModel") (hr : meth.sig.returnType = none) (hlk : meth.locks = false) (hrv : rv = none) (iv : Nat → Int32) (av : Nat → Nat → Int32) (x1 : Int32) (x2 : Int32) (x3 : Int32) (x4 : Int32) (H : Heap) (locs : List Loc) (ls : Array Slot) (hl : lv_has ls 6 [(0, .ref q), (1, .int x1), (2, .int x2), (3, .int x3), (4, .int x4)]) (hw : mWd g (mA g q ad X s.heap.size) s.heap q ad X iv av H locs) (hf : jM_follow_36 iv av x1 x2 x3 x4 = some (iv', av')) : mG p l e rM_follow s m args below meth c g q ad X rv iv' av' H locs 0 0 (F0 m 36 ls []) := by
  unfold jM_follow_36 at hf
  refine lv_aload_n C.1.1 C.1.2.1 dM_follow_36 rfl (lv_at hl 0 rfl) ?_
  refine mg_fault C hw dM_follow_37 ?_
  refine lv_if_ne (tgt := 62) C.1.1 C.1.2.1 dM_follow_40 (by decide) (fun c1 => ?_) (fun c1 => ?_)
  · have hf := ts_f hf c1
    exact wM_follow_62 C hr hlk hrv iv av x1 x2 x4 _ _ ls (lv_sub hl [0, 1, 2, 4] rfl) hw hf
  · have hf := ts_t hf c1
    refine lv_iload_n C.1.1 C.1.2.1 dM_follow_43 rfl (lv_at hl 2 rfl) ?_
    refine lv_bipush (v := (81 : Int32)) C.1.1 C.1.2.1 dM_follow_44 (by decide) ?_
    refine lv_icmp_ne (tgt := 62) C.1.1 C.1.2.1 dM_follow_46 (by decide) (fun c2 => ?_) (fun c2 => ?_)
    · have hf := ts_f hf c2
      exact wM_follow_62 C hr hlk hrv iv av x1 x2 x4 _ _ ls (lv_sub hl [0, 1, 2, 4] rfl) hw hf
    · have hf := ts_t hf c2
      refine lv_iload C.1.1 C.1.2.1 dM_follow_49 (lv_at hl 4 rfl) ?_
      refine lv_iconst (v := (3 : Int32)) C.1.1 C.1.2.1 dM_follow_51 (by decide) ?_
      refine lv_icmp_eq (tgt := 62) C.1.1 C.1.2.1 dM_follow_52 (by decide) (fun c3 => ?_) (fun c3 => ?_)
      · have hf := ts_t hf c3
        exact wM_follow_62 C hr hlk hrv iv av x1 x2 x4 _ _ ls (lv_sub hl [0, 1, 2, 4] rfl) hw hf
      · have hf := ts_f hf c3
        refine lv_aload_n C.1.1 C.1.2.1 dM_follow_55 rfl (lv_at hl 0 rfl) ?_
        refine lv_bipush (v := (8 : Int32)) C.1.1 C.1.2.1 dM_follow_56 (by decide) ?_
        refine lv_iload_n C.1.1 C.1.2.1 dM_follow_58 rfl (lv_at hl 3 rfl) ?_
        obtain ⟨⟨iv4, av4⟩, g4, hf⟩ := ts_b hf
        dsimp only at hf
        refine m_callV (rest := []) (As := [.int (8 : Int32), .int x3]) (rv := none) C hl.1 hw (cM_fail_met g4) (callW_of (rm := rM_fail) 2 C.1.2.2.2.2 gw_812 gw_814 gw_28 gw_55 gw_815 kM_fail ⟨Nat.le_of_ble_eq_true rfl, Nat.le_of_ble_eq_true rfl⟩) rfl rfl (Nat.le_of_ble_eq_true rfl) dM_follow_59 ⟨Nat.le_of_ble_eq_true rfl, Nat.le_of_ble_eq_true rfl⟩ (fun H locs hw => ?_)
        refine W.eq (g2 := F0 m 62 ls []) rfl ?_
        exact wM_follow_62 C hr hlk hrv iv4 av4 x1 x2 x4 _ _ ls (lv_sub hl [0, 1, 2, 4] rfl) hw hf
set_option maxHeartbeats 4000000 in
set_option maxRecDepth 100000 in
theorem cM_follow_met {l : Launch} {g : gT} {q : Nat} {ad : Nat → Nat} {X : va_W} {iv iv' : Nat → Int32} {av av' : Nat → Nat → Int32} {x1 : Int32} {x2 : Int32} (hf : fM_follow iv av x1 x2 = some (iv', av')) : mMet l yM_follow cM_follow 6 none rM_follow g q ad X iv av [.ref q, .int x1, .int x2] none iv' av' := by
  refine m_entry (by decide) (Nat.le_of_ble_eq_true rfl) ?_
  intro p e s m args below meth c ls C hr hlk hnm hl hw
  have hrv : (none : Option Value) = none := rfl
  have C : mCx p m c cM_follow 6 s args g "MidiDeskModel" := C
  have hl : lv_has ls 6 [(0, .ref q), (1, .int x1), (2, .int x2)] := hl
  unfold fM_follow at hf
  refine lv_aload_n C.1.1 C.1.2.1 dM_follow_0 rfl (lv_at hl 0 rfl) ?_
  refine mg_at C hw dM_follow_1 ?_
  refine lv_istore_n (lv' := [(3, .int (iv 2)), (0, .ref q), (1, .int x1), (2, .int x2)]) C.1.1 C.1.2.1 dM_follow_4 rfl hl (by decide) rfl (fun ls hl => ?_)
  refine lv_aload_n C.1.1 C.1.2.1 dM_follow_5 rfl (lv_at hl 1 rfl) ?_
  obtain ⟨⟨r1, iv1, av1⟩, g1, hf⟩ := ts_b hf
  dsimp only at hf
  refine m_callV (rest := []) (As := []) (rv := (some (.int r1))) C hl.1 hw (cM_number_met g1) (callW_of (rm := rM_number) 0 C.1.2.2.2.2 gw_827 gw_829 gw_30 gw_55 gw_830 kM_number ⟨Nat.le_of_ble_eq_true rfl, Nat.le_of_ble_eq_true rfl⟩) rfl rfl (Nat.le_of_ble_eq_true rfl) dM_follow_6 ⟨Nat.le_of_ble_eq_true rfl, Nat.le_of_ble_eq_true rfl⟩ (fun H locs hw => ?_)
  refine W.eq (g2 := F0 m 9 ls [.int r1]) rfl ?_
  refine lv_istore (lv' := [(4, .int r1), (3, .int (iv 2)), (0, .ref q), (1, .int x1), (2, .int x2)]) C.1.1 C.1.2.1 dM_follow_9 hl (by decide) rfl (fun ls hl => ?_)
  refine lv_aload_n C.1.1 C.1.2.1 dM_follow_11 rfl (lv_at hl 2 rfl) ?_
  refine mg_fault C hw dM_follow_12 ?_
  refine lv_if_ne (tgt := 36) C.1.1 C.1.2.1 dM_follow_15 (by decide) (fun c2 => ?_) (fun c2 => ?_)
  · have hf := ts_f hf c2
    exact wM_follow_36 C hr hlk hrv iv1 av1 x1 x2 (iv 2) r1 _ _ ls (lv_sub hl [2, 3, 4, 1, 0] rfl) hw hf
  · have hf := ts_t hf c2
    refine lv_iload_n C.1.1 C.1.2.1 dM_follow_18 rfl (lv_at hl 4 rfl) ?_
    refine lv_bipush (v := (47 : Int32)) C.1.1 C.1.2.1 dM_follow_19 (by decide) ?_
    refine lv_icmp_ne (tgt := 36) C.1.1 C.1.2.1 dM_follow_21 (by decide) (fun c3 => ?_) (fun c3 => ?_)
    · have hf := ts_f hf c3
      exact wM_follow_36 C hr hlk hrv iv1 av1 x1 x2 (iv 2) r1 _ _ ls (lv_sub hl [2, 3, 4, 1, 0] rfl) hw hf
    · have hf := ts_t hf c3
      refine lv_iload C.1.1 C.1.2.1 dM_follow_24 (lv_at hl 0 rfl) ?_
      refine lv_if_le (tgt := 36) C.1.1 C.1.2.1 dM_follow_26 (by decide) (fun c4 => ?_) (fun c4 => ?_)
      · have hf := ts_t hf c4
        exact wM_follow_36 C hr hlk hrv iv1 av1 x1 x2 (iv 2) r1 _ _ ls (lv_sub hl [2, 3, 4, 1, 0] rfl) hw hf
      · have hf := ts_f hf c4
        refine lv_aload_n C.1.1 C.1.2.1 dM_follow_29 rfl (lv_at hl 2 rfl) ?_
        refine lv_bipush (v := (7 : Int32)) C.1.1 C.1.2.1 dM_follow_30 (by decide) ?_
        refine lv_iload_n C.1.1 C.1.2.1 dM_follow_32 rfl (lv_at hl 1 rfl) ?_
        obtain ⟨⟨iv5, av5⟩, g5, hf⟩ := ts_b hf
        dsimp only at hf
        refine m_callV (rest := []) (As := [.int (7 : Int32), .int (iv 2)]) (rv := none) C hl.1 hw (cM_fail_met g5) (callW_of (rm := rM_fail) 2 C.1.2.2.2.2 gw_812 gw_814 gw_28 gw_55 gw_815 kM_fail ⟨Nat.le_of_ble_eq_true rfl, Nat.le_of_ble_eq_true rfl⟩) rfl rfl (Nat.le_of_ble_eq_true rfl) dM_follow_33 ⟨Nat.le_of_ble_eq_true rfl, Nat.le_of_ble_eq_true rfl⟩ (fun H locs hw => ?_)
        refine W.eq (g2 := F0 m 36 ls []) rfl ?_
        exact wM_follow_36 C hr hlk hrv iv5 av5 x1 x2 (iv 2) r1 _ _ ls (lv_sub hl [2, 3, 4, 1, 0] rfl) hw hf
abbrev cM_eventIn : ByteArray := prog_8_method_13_code
abbrev yM_eventIn : MethodName := ⟨"MidiDeskModel", "event", "(IIII)Z"⟩
theorem kM_eventIn : yM_eventIn.cls ≠ "java/lang/invoke/MethodHandle" ∧ yM_eventIn.cls ≠ "java/lang/invoke/VarHandle" ∧ (parseMethodDescriptor yM_eventIn.desc).map (fun d => d.parameters.length) = some 4 := by decide +kernel
abbrev rM_eventIn : Room := { frames := 4, cells := 0, slots := 0, locals := 95 }
theorem dM_eventIn_0 : decode cM_eventIn 0 = .ok (.aload_n 0, 1) := by decide +kernel
theorem dM_eventIn_1 : decode cM_eventIn 1 = .ok (.getfield 95, 3) := by decide +kernel
theorem dM_eventIn_4 : decode cM_eventIn 4 = .ok (.istore 5, 2) := by decide +kernel
theorem dM_eventIn_6 : decode cM_eventIn 6 = .ok (.aload_n 0, 1) := by decide +kernel
theorem dM_eventIn_7 : decode cM_eventIn 7 = .ok (.getfield 22, 3) := by decide +kernel
theorem dM_eventIn_10 : decode cM_eventIn 10 = .ok (.iload 5, 2) := by decide +kernel
theorem dM_eventIn_12 : decode cM_eventIn 12 = .ok (.iload_n 3, 1) := by decide +kernel
theorem dM_eventIn_13 : decode cM_eventIn 13 = .ok (.sipush 240, 3) := by decide +kernel
theorem dM_eventIn_16 : decode cM_eventIn 16 = .ok (.if_icmp .eq 10, 3) := by decide +kernel
theorem dM_eventIn_19 : decode cM_eventIn 19 = .ok (.iload_n 3, 1) := by decide +kernel
theorem dM_eventIn_20 : decode cM_eventIn 20 = .ok (.sipush 247, 3) := by decide +kernel
theorem dM_eventIn_23 : decode cM_eventIn 23 = .ok (.if_icmp .ne 7, 3) := by decide +kernel
theorem dM_eventIn_26 : decode cM_eventIn 26 = .ok (.iconst (-1), 1) := by decide +kernel
theorem dM_eventIn_27 : decode cM_eventIn 27 = .ok (.goto 7, 3) := by decide +kernel
theorem dM_eventIn_30 : decode cM_eventIn 30 = .ok (.aload_n 0, 1) := by decide +kernel
theorem dM_eventIn_31 : decode cM_eventIn 31 = .ok (.invokevirtual 127, 3) := by decide +kernel
theorem dM_eventIn_34 : decode cM_eventIn 34 = .ok (.iastore, 1) := by decide +kernel
theorem dM_eventIn_35 : decode cM_eventIn 35 = .ok (.aload_n 0, 1) := by decide +kernel
theorem dM_eventIn_36 : decode cM_eventIn 36 = .ok (.getfield 25, 3) := by decide +kernel
theorem dM_eventIn_39 : decode cM_eventIn 39 = .ok (.iload 5, 2) := by decide +kernel
theorem dM_eventIn_41 : decode cM_eventIn 41 = .ok (.iload_n 3, 1) := by decide +kernel
theorem dM_eventIn_42 : decode cM_eventIn 42 = .ok (.sipush 192, 3) := by decide +kernel
theorem dM_eventIn_45 : decode cM_eventIn 45 = .ok (.if_icmp .lt 17, 3) := by decide +kernel
theorem dM_eventIn_48 : decode cM_eventIn 48 = .ok (.iload_n 3, 1) := by decide +kernel
theorem dM_eventIn_49 : decode cM_eventIn 49 = .ok (.sipush 223, 3) := by decide +kernel
theorem dM_eventIn_52 : decode cM_eventIn 52 = .ok (.if_icmp .le 17, 3) := by decide +kernel
theorem dM_eventIn_55 : decode cM_eventIn 55 = .ok (.iload_n 3, 1) := by decide +kernel
theorem dM_eventIn_56 : decode cM_eventIn 56 = .ok (.sipush 240, 3) := by decide +kernel
theorem dM_eventIn_59 : decode cM_eventIn 59 = .ok (.if_icmp .ge 10, 3) := by decide +kernel
theorem dM_eventIn_62 : decode cM_eventIn 62 = .ok (.aload_n 0, 1) := by decide +kernel
theorem dM_eventIn_63 : decode cM_eventIn 63 = .ok (.invokevirtual 127, 3) := by decide +kernel
theorem dM_eventIn_66 : decode cM_eventIn 66 = .ok (.goto 4, 3) := by decide +kernel
theorem dM_eventIn_69 : decode cM_eventIn 69 = .ok (.iconst (-1), 1) := by decide +kernel
theorem dM_eventIn_70 : decode cM_eventIn 70 = .ok (.iastore, 1) := by decide +kernel
theorem dM_eventIn_71 : decode cM_eventIn 71 = .ok (.aload_n 0, 1) := by decide +kernel
theorem dM_eventIn_72 : decode cM_eventIn 72 = .ok (.getfield 31, 3) := by decide +kernel
theorem dM_eventIn_75 : decode cM_eventIn 75 = .ok (.iload 5, 2) := by decide +kernel
theorem dM_eventIn_77 : decode cM_eventIn 77 = .ok (.iconst (-1), 1) := by decide +kernel
theorem dM_eventIn_78 : decode cM_eventIn 78 = .ok (.iastore, 1) := by decide +kernel
theorem dM_eventIn_79 : decode cM_eventIn 79 = .ok (.aload_n 0, 1) := by decide +kernel
theorem dM_eventIn_80 : decode cM_eventIn 80 = .ok (.getfield 28, 3) := by decide +kernel
theorem dM_eventIn_83 : decode cM_eventIn 83 = .ok (.iload 5, 2) := by decide +kernel
theorem dM_eventIn_85 : decode cM_eventIn 85 = .ok (.aload_n 0, 1) := by decide +kernel
theorem dM_eventIn_86 : decode cM_eventIn 86 = .ok (.getfield 98, 3) := by decide +kernel
theorem dM_eventIn_89 : decode cM_eventIn 89 = .ok (.iastore, 1) := by decide +kernel
theorem dM_eventIn_90 : decode cM_eventIn 90 = .ok (.iload_n 3, 1) := by decide +kernel
theorem dM_eventIn_91 : decode cM_eventIn 91 = .ok (.sipush 239, 3) := by decide +kernel
theorem dM_eventIn_94 : decode cM_eventIn 94 = .ok (.if_icmp .le 27, 3) := by decide +kernel
theorem dM_eventIn_97 : decode cM_eventIn 97 = .ok (.aload_n 0, 1) := by decide +kernel
theorem dM_eventIn_98 : decode cM_eventIn 98 = .ok (.iload 5, 2) := by decide +kernel
theorem dM_eventIn_100 : decode cM_eventIn 100 = .ok (.iload_n 3, 1) := by decide +kernel
theorem dM_eventIn_101 : decode cM_eventIn 101 = .ok (.sipush 255, 3) := by decide +kernel
theorem dM_eventIn_104 : decode cM_eventIn 104 = .ok (.if_icmp .ne 13, 3) := by decide +kernel
theorem dM_eventIn_107 : decode cM_eventIn 107 = .ok (.aload_n 0, 1) := by decide +kernel
theorem dM_eventIn_108 : decode cM_eventIn 108 = .ok (.getfield 22, 3) := by decide +kernel
theorem dM_eventIn_111 : decode cM_eventIn 111 = .ok (.iload 5, 2) := by decide +kernel
theorem dM_eventIn_113 : decode cM_eventIn 113 = .ok (.iaload, 1) := by decide +kernel
theorem dM_eventIn_114 : decode cM_eventIn 114 = .ok (.goto 4, 3) := by decide +kernel
theorem dM_eventIn_117 : decode cM_eventIn 117 = .ok (.iconst (-1), 1) := by decide +kernel
theorem dM_eventIn_118 : decode cM_eventIn 118 = .ok (.invokevirtual 130, 3) := by decide +kernel
theorem dM_eventIn_121 : decode cM_eventIn 121 = .ok (.aload_n 0, 1) := by decide +kernel
theorem dM_eventIn_122 : decode cM_eventIn 122 = .ok (.getfield 56, 3) := by decide +kernel
theorem dM_eventIn_125 : decode cM_eventIn 125 = .ok (.ifCond .le 5, 3) := by decide +kernel
theorem dM_eventIn_128 : decode cM_eventIn 128 = .ok (.iconst 0, 1) := by decide +kernel
theorem dM_eventIn_129 : decode cM_eventIn 129 = .ok (.ireturn, 1) := by decide +kernel
theorem dM_eventIn_130 : decode cM_eventIn 130 = .ok (.iload_n 3, 1) := by decide +kernel
theorem dM_eventIn_131 : decode cM_eventIn 131 = .ok (.sipush 255, 3) := by decide +kernel
theorem dM_eventIn_134 : decode cM_eventIn 134 = .ok (.if_icmp .ne 38, 3) := by decide +kernel
theorem dM_eventIn_137 : decode cM_eventIn 137 = .ok (.aload_n 0, 1) := by decide +kernel
theorem dM_eventIn_138 : decode cM_eventIn 138 = .ok (.getfield 22, 3) := by decide +kernel
theorem dM_eventIn_141 : decode cM_eventIn 141 = .ok (.iload 5, 2) := by decide +kernel
theorem dM_eventIn_143 : decode cM_eventIn 143 = .ok (.iaload, 1) := by decide +kernel
theorem dM_eventIn_144 : decode cM_eventIn 144 = .ok (.bipush 47, 2) := by decide +kernel
theorem dM_eventIn_146 : decode cM_eventIn 146 = .ok (.if_icmp .ne 26, 3) := by decide +kernel
theorem dM_eventIn_149 : decode cM_eventIn 149 = .ok (.aload_n 0, 1) := by decide +kernel
theorem dM_eventIn_150 : decode cM_eventIn 150 = .ok (.getfield 62, 3) := by decide +kernel
theorem dM_eventIn_153 : decode cM_eventIn 153 = .ok (.aload_n 0, 1) := by decide +kernel
theorem dM_eventIn_154 : decode cM_eventIn 154 = .ok (.getfield 65, 3) := by decide +kernel
theorem dM_eventIn_157 : decode cM_eventIn 157 = .ok (.if_icmp .ge 13, 3) := by decide +kernel
theorem dM_eventIn_160 : decode cM_eventIn 160 = .ok (.aload_n 0, 1) := by decide +kernel
theorem dM_eventIn_161 : decode cM_eventIn 161 = .ok (.bipush 7, 2) := by decide +kernel
theorem dM_eventIn_163 : decode cM_eventIn 163 = .ok (.aload_n 0, 1) := by decide +kernel
theorem dM_eventIn_164 : decode cM_eventIn 164 = .ok (.getfield 62, 3) := by decide +kernel
theorem dM_eventIn_167 : decode cM_eventIn 167 = .ok (.invokevirtual 68, 3) := by decide +kernel
theorem dM_eventIn_170 : decode cM_eventIn 170 = .ok (.iconst 0, 1) := by decide +kernel
theorem dM_eventIn_171 : decode cM_eventIn 171 = .ok (.ireturn, 1) := by decide +kernel
theorem dM_eventIn_172 : decode cM_eventIn 172 = .ok (.aload_n 0, 1) := by decide +kernel
theorem dM_eventIn_173 : decode cM_eventIn 173 = .ok (.getfield 13, 3) := by decide +kernel
theorem dM_eventIn_176 : decode cM_eventIn 176 = .ok (.iload 5, 2) := by decide +kernel
theorem dM_eventIn_178 : decode cM_eventIn 178 = .ok (.iload_n 2, 1) := by decide +kernel
theorem dM_eventIn_179 : decode cM_eventIn 179 = .ok (.iastore, 1) := by decide +kernel
theorem dM_eventIn_180 : decode cM_eventIn 180 = .ok (.aload_n 0, 1) := by decide +kernel
theorem dM_eventIn_181 : decode cM_eventIn 181 = .ok (.getfield 16, 3) := by decide +kernel
theorem dM_eventIn_184 : decode cM_eventIn 184 = .ok (.iload 5, 2) := by decide +kernel
theorem dM_eventIn_186 : decode cM_eventIn 186 = .ok (.iload_n 1, 1) := by decide +kernel
theorem dM_eventIn_187 : decode cM_eventIn 187 = .ok (.iastore, 1) := by decide +kernel
theorem dM_eventIn_188 : decode cM_eventIn 188 = .ok (.aload_n 0, 1) := by decide +kernel
theorem dM_eventIn_189 : decode cM_eventIn 189 = .ok (.getfield 19, 3) := by decide +kernel
theorem dM_eventIn_192 : decode cM_eventIn 192 = .ok (.iload 5, 2) := by decide +kernel
theorem dM_eventIn_194 : decode cM_eventIn 194 = .ok (.iload_n 3, 1) := by decide +kernel
theorem dM_eventIn_195 : decode cM_eventIn 195 = .ok (.iastore, 1) := by decide +kernel
theorem dM_eventIn_196 : decode cM_eventIn 196 = .ok (.aload_n 0, 1) := by decide +kernel
theorem dM_eventIn_197 : decode cM_eventIn 197 = .ok (.dup, 1) := by decide +kernel
theorem dM_eventIn_198 : decode cM_eventIn 198 = .ok (.getfield 95, 3) := by decide +kernel
theorem dM_eventIn_201 : decode cM_eventIn 201 = .ok (.iconst 1, 1) := by decide +kernel
theorem dM_eventIn_202 : decode cM_eventIn 202 = .ok (.iadd, 1) := by decide +kernel
theorem dM_eventIn_203 : decode cM_eventIn 203 = .ok (.putfield 95, 3) := by decide +kernel
theorem dM_eventIn_206 : decode cM_eventIn 206 = .ok (.aload_n 0, 1) := by decide +kernel
theorem dM_eventIn_207 : decode cM_eventIn 207 = .ok (.dup, 1) := by decide +kernel
theorem dM_eventIn_208 : decode cM_eventIn 208 = .ok (.getfield 98, 3) := by decide +kernel
theorem dM_eventIn_211 : decode cM_eventIn 211 = .ok (.iload_n 3, 1) := by decide +kernel
theorem dM_eventIn_212 : decode cM_eventIn 212 = .ok (.sipush 239, 3) := by decide +kernel
theorem dM_eventIn_215 : decode cM_eventIn 215 = .ok (.if_icmp .le 13, 3) := by decide +kernel
theorem dM_eventIn_218 : decode cM_eventIn 218 = .ok (.aload_n 0, 1) := by decide +kernel
theorem dM_eventIn_219 : decode cM_eventIn 219 = .ok (.getfield 31, 3) := by decide +kernel
theorem dM_eventIn_222 : decode cM_eventIn 222 = .ok (.iload 5, 2) := by decide +kernel
theorem dM_eventIn_224 : decode cM_eventIn 224 = .ok (.iaload, 1) := by decide +kernel
theorem dM_eventIn_225 : decode cM_eventIn 225 = .ok (.goto 4, 3) := by decide +kernel
theorem dM_eventIn_228 : decode cM_eventIn 228 = .ok (.iconst 0, 1) := by decide +kernel
theorem dM_eventIn_229 : decode cM_eventIn 229 = .ok (.iadd, 1) := by decide +kernel
theorem dM_eventIn_230 : decode cM_eventIn 230 = .ok (.putfield 98, 3) := by decide +kernel
theorem dM_eventIn_233 : decode cM_eventIn 233 = .ok (.aload_n 0, 1) := by decide +kernel
theorem dM_eventIn_234 : decode cM_eventIn 234 = .ok (.getfield 95, 3) := by decide +kernel
theorem dM_eventIn_237 : decode cM_eventIn 237 = .ok (.sipush 1000, 3) := by decide +kernel
theorem dM_eventIn_240 : decode cM_eventIn 240 = .ok (.if_icmp .gt 13, 3) := by decide +kernel
theorem dM_eventIn_243 : decode cM_eventIn 243 = .ok (.aload_n 0, 1) := by decide +kernel
theorem dM_eventIn_244 : decode cM_eventIn 244 = .ok (.getfield 98, 3) := by decide +kernel
theorem dM_eventIn_247 : decode cM_eventIn 247 = .ok (.sipush 8000, 3) := by decide +kernel
theorem dM_eventIn_250 : decode cM_eventIn 250 = .ok (.if_icmp .le 11, 3) := by decide +kernel
theorem dM_eventIn_253 : decode cM_eventIn 253 = .ok (.aload_n 0, 1) := by decide +kernel
theorem dM_eventIn_254 : decode cM_eventIn 254 = .ok (.bipush 9, 2) := by decide +kernel
theorem dM_eventIn_256 : decode cM_eventIn 256 = .ok (.iload 4, 2) := by decide +kernel
theorem dM_eventIn_258 : decode cM_eventIn 258 = .ok (.invokevirtual 68, 3) := by decide +kernel
theorem dM_eventIn_261 : decode cM_eventIn 261 = .ok (.iconst 1, 1) := by decide +kernel
theorem dM_eventIn_262 : decode cM_eventIn 262 = .ok (.ireturn, 1) := by decide +kernel
def jM_eventIn_253 (iv : Nat → Int32) (av : Nat → Nat → Int32) (x4 : Int32) : Option (Int32 × (Nat → Int32) × (Nat → Nat → Int32)) := (fM_fail iv av (9 : Int32) x4).bind fun (iv1, av1) => some ((1 : Int32), iv1, av1)
def jM_eventIn_229 (iv : Nat → Int32) (av : Nat → Nat → Int32) (x4 : Int32) (s1 : Int32) (s2 : Int32) : Option (Int32 × (Nat → Int32) × (Nat → Nat → Int32)) := if (1000 : Int32) < ((upd iv 11 (s1 + s2)) 10) then (jM_eventIn_253 (upd iv 11 (s1 + s2)) av x4) else (if ((upd iv 11 (s1 + s2)) 11) ≤ (8000 : Int32) then (some ((1 : Int32), upd iv 11 (s1 + s2), av)) else (jM_eventIn_253 (upd iv 11 (s1 + s2)) av x4))
def jM_eventIn_172 (iv : Nat → Int32) (av : Nat → Nat → Int32) (x1 : Int32) (x2 : Int32) (x3 : Int32) (x4 : Int32) (x5 : Int32) : Option (Int32 × (Nat → Int32) × (Nat → Nat → Int32)) := if x5 < 0 ∨ 1001 ≤ x5.toNatClampNeg then none else (if x5 < 0 ∨ 1001 ≤ x5.toNatClampNeg then none else (if x5 < 0 ∨ 1001 ≤ x5.toNatClampNeg then none else (if x3 ≤ (239 : Int32) then (jM_eventIn_229 (upd iv 10 ((iv 10) + (1 : Int32))) (up2 (up2 (up2 av 1 x5.toNatClampNeg x2) 2 x5.toNatClampNeg x1) 3 x5.toNatClampNeg x3) x4 ((upd iv 10 ((iv 10) + (1 : Int32))) 11) (0 : Int32)) else (if x5 < 0 ∨ 1001 ≤ x5.toNatClampNeg then none else (jM_eventIn_229 (upd iv 10 ((iv 10) + (1 : Int32))) (up2 (up2 (up2 av 1 x5.toNatClampNeg x2) 2 x5.toNatClampNeg x1) 3 x5.toNatClampNeg x3) x4 ((upd iv 10 ((iv 10) + (1 : Int32))) 11) ((up2 (up2 (up2 av 1 x5.toNatClampNeg x2) 2 x5.toNatClampNeg x1) 3 x5.toNatClampNeg x3) 7 x5.toNatClampNeg))))))
def jM_eventIn_121 (iv : Nat → Int32) (av : Nat → Nat → Int32) (x1 : Int32) (x2 : Int32) (x3 : Int32) (x4 : Int32) (x5 : Int32) : Option (Int32 × (Nat → Int32) × (Nat → Nat → Int32)) := if (iv 4) ≤ 0 then (if x3 = (255 : Int32) then (if x5 < 0 ∨ 1001 ≤ x5.toNatClampNeg then none else (if (av 4 x5.toNatClampNeg) = (47 : Int32) then (if (iv 3) ≤ (iv 2) then (some ((0 : Int32), iv, av)) else ((fM_fail iv av (7 : Int32) (iv 2)).bind fun (iv6, av6) => some ((0 : Int32), iv6, av6))) else (jM_eventIn_172 iv av x1 x2 x3 x4 x5))) else (jM_eventIn_172 iv av x1 x2 x3 x4 x5)) else (some ((0 : Int32), iv, av))
def jM_eventIn_118 (iv : Nat → Int32) (av : Nat → Nat → Int32) (x1 : Int32) (x2 : Int32) (x3 : Int32) (x4 : Int32) (x5 : Int32) (s1 : Int32) (s2 : Int32) : Option (Int32 × (Nat → Int32) × (Nat → Nat → Int32)) := (fM_follow iv av s1 s2).bind fun (iv1, av1) => jM_eventIn_121 iv1 av1 x1 x2 x3 x4 x5
def jM_eventIn_70 (iv : Nat → Int32) (av : Nat → Nat → Int32) (x1 : Int32) (x2 : Int32) (x3 : Int32) (x4 : Int32) (x5 : Int32) (s1 : Int32) (s2 : Int32) : Option (Int32 × (Nat → Int32) × (Nat → Nat → Int32)) := if s1 < 0 ∨ 1001 ≤ s1.toNatClampNeg then none else (if x5 < 0 ∨ 1001 ≤ x5.toNatClampNeg then none else (if x5 < 0 ∨ 1001 ≤ x5.toNatClampNeg then none else (if x3 ≤ (239 : Int32) then (jM_eventIn_121 iv (up2 (up2 (up2 av 5 s1.toNatClampNeg s2) 7 x5.toNatClampNeg (-1 : Int32)) 6 x5.toNatClampNeg (iv 11)) x1 x2 x3 x4 x5) else (if x3 = (255 : Int32) then (if x5 < 0 ∨ 1001 ≤ x5.toNatClampNeg then none else (jM_eventIn_118 iv (up2 (up2 (up2 av 5 s1.toNatClampNeg s2) 7 x5.toNatClampNeg (-1 : Int32)) 6 x5.toNatClampNeg (iv 11)) x1 x2 x3 x4 x5 x5 ((up2 (up2 (up2 av 5 s1.toNatClampNeg s2) 7 x5.toNatClampNeg (-1 : Int32)) 6 x5.toNatClampNeg (iv 11)) 4 x5.toNatClampNeg))) else (jM_eventIn_118 iv (up2 (up2 (up2 av 5 s1.toNatClampNeg s2) 7 x5.toNatClampNeg (-1 : Int32)) 6 x5.toNatClampNeg (iv 11)) x1 x2 x3 x4 x5 x5 (-1 : Int32))))))
def jM_eventIn_69 (iv : Nat → Int32) (av : Nat → Nat → Int32) (x1 : Int32) (x2 : Int32) (x3 : Int32) (x4 : Int32) (x5 : Int32) (s1 : Int32) : Option (Int32 × (Nat → Int32) × (Nat → Nat → Int32)) := jM_eventIn_70 iv av x1 x2 x3 x4 x5 s1 (-1 : Int32)
def jM_eventIn_62 (iv : Nat → Int32) (av : Nat → Nat → Int32) (x1 : Int32) (x2 : Int32) (x3 : Int32) (x4 : Int32) (x5 : Int32) (s1 : Int32) : Option (Int32 × (Nat → Int32) × (Nat → Nat → Int32)) := (fM_small iv av).bind fun (r1, iv1, av1) => jM_eventIn_70 iv1 av1 x1 x2 x3 x4 x5 s1 r1
def jM_eventIn_34 (iv : Nat → Int32) (av : Nat → Nat → Int32) (x1 : Int32) (x2 : Int32) (x3 : Int32) (x4 : Int32) (x5 : Int32) (s1 : Int32) (s2 : Int32) : Option (Int32 × (Nat → Int32) × (Nat → Nat → Int32)) := if s1 < 0 ∨ 1001 ≤ s1.toNatClampNeg then none else (if x3 < (192 : Int32) then (jM_eventIn_62 iv (up2 av 4 s1.toNatClampNeg s2) x1 x2 x3 x4 x5 x5) else (if x3 ≤ (223 : Int32) then (jM_eventIn_69 iv (up2 av 4 s1.toNatClampNeg s2) x1 x2 x3 x4 x5 x5) else (if (240 : Int32) ≤ x3 then (jM_eventIn_69 iv (up2 av 4 s1.toNatClampNeg s2) x1 x2 x3 x4 x5 x5) else (jM_eventIn_62 iv (up2 av 4 s1.toNatClampNeg s2) x1 x2 x3 x4 x5 x5))))
def jM_eventIn_26 (iv : Nat → Int32) (av : Nat → Nat → Int32) (x1 : Int32) (x2 : Int32) (x3 : Int32) (x4 : Int32) (x5 : Int32) (s1 : Int32) : Option (Int32 × (Nat → Int32) × (Nat → Nat → Int32)) := jM_eventIn_34 iv av x1 x2 x3 x4 x5 s1 (-1 : Int32)
def fM_eventIn (iv : Nat → Int32) (av : Nat → Nat → Int32) (x1 : Int32) (x2 : Int32) (x3 : Int32) (x4 : Int32) : Option (Int32 × (Nat → Int32) × (Nat → Nat → Int32)) := if x3 = (240 : Int32) then (jM_eventIn_26 iv av x1 x2 x3 x4 (iv 10) (iv 10)) else (if x3 = (247 : Int32) then (jM_eventIn_26 iv av x1 x2 x3 x4 (iv 10) (iv 10)) else ((fM_small iv av).bind fun (r3, iv3, av3) => jM_eventIn_34 iv3 av3 x1 x2 x3 x4 (iv 10) (iv 10) r3))
set_option maxHeartbeats 4000000 in
set_option maxRecDepth 100000 in
theorem wM_eventIn_253 {p : Program} {l : Launch} {e : Env} {s : State} {m : MethodId} {args : Array Value} {below : List Frame} {meth : Method} {c : Code} {g : gT} {q : Nat} {ad : Nat → Nat} {X : va_W} {rv : Option Value} {iv' : Nat → Int32} {av' : Nat → Nat → Int32} {r' : Int32} (C : mCx p m c cM_eventIn 6 s args g "MidiDeskModel") (hr : meth.sig.returnType = (some .boolean)) (hlk : meth.locks = false) (hrv : rv = some (.int r')) (iv : Nat → Int32) (av : Nat → Nat → Int32) (x4 : Int32) (H : Heap) (locs : List Loc) (ls : Array Slot) (hl : lv_has ls 6 [(0, .ref q), (4, .int x4)]) (hw : mWd g (mA g q ad X s.heap.size) s.heap q ad X iv av H locs) (hf : jM_eventIn_253 iv av x4 = some (r', iv', av')) : mG p l e rM_eventIn s m args below meth c g q ad X rv iv' av' H locs 0 0 (F0 m 253 ls []) := by
  unfold jM_eventIn_253 at hf
  refine lv_aload_n C.1.1 C.1.2.1 dM_eventIn_253 rfl (lv_at hl 0 rfl) ?_
  refine lv_bipush (v := (9 : Int32)) C.1.1 C.1.2.1 dM_eventIn_254 (by decide) ?_
  refine lv_iload C.1.1 C.1.2.1 dM_eventIn_256 (lv_at hl 1 rfl) ?_
  obtain ⟨⟨iv1, av1⟩, g1, hf⟩ := ts_b hf
  dsimp only at hf
  refine m_callV (rest := []) (As := [.int (9 : Int32), .int x4]) (rv := none) C hl.1 hw (cM_fail_met g1) (callW_of (rm := rM_fail) 2 C.1.2.2.2.2 gw_812 gw_814 gw_28 gw_55 gw_815 kM_fail ⟨Nat.le_of_ble_eq_true rfl, Nat.le_of_ble_eq_true rfl⟩) rfl rfl (Nat.le_of_ble_eq_true rfl) dM_eventIn_258 ⟨Nat.le_of_ble_eq_true rfl, Nat.le_of_ble_eq_true rfl⟩ (fun H locs hw => ?_)
  refine W.eq (g2 := F0 m 261 ls []) rfl ?_
  refine lv_iconst (v := (1 : Int32)) C.1.1 C.1.2.1 dM_eventIn_261 (by decide) ?_
  exact m_retz C hr hlk hrv hw (Or.inr rfl) hf ⟨Nat.le_of_ble_eq_true rfl, Nat.le_of_ble_eq_true rfl⟩ dM_eventIn_262
set_option maxHeartbeats 4000000 in
set_option maxRecDepth 100000 in
theorem wM_eventIn_229 {p : Program} {l : Launch} {e : Env} {s : State} {m : MethodId} {args : Array Value} {below : List Frame} {meth : Method} {c : Code} {g : gT} {q : Nat} {ad : Nat → Nat} {X : va_W} {rv : Option Value} {iv' : Nat → Int32} {av' : Nat → Nat → Int32} {r' : Int32} (C : mCx p m c cM_eventIn 6 s args g "MidiDeskModel") (hr : meth.sig.returnType = (some .boolean)) (hlk : meth.locks = false) (hrv : rv = some (.int r')) (iv : Nat → Int32) (av : Nat → Nat → Int32) (x4 : Int32) (s1 : Int32) (s2 : Int32) (H : Heap) (locs : List Loc) (ls : Array Slot) (hl : lv_has ls 6 [(0, .ref q), (4, .int x4)]) (hw : mWd g (mA g q ad X s.heap.size) s.heap q ad X iv av H locs) (hf : jM_eventIn_229 iv av x4 s1 s2 = some (r', iv', av')) : mG p l e rM_eventIn s m args below meth c g q ad X rv iv' av' H locs 0 0 (F0 m 229 ls [.int s2, .int s1, .ref q]) := by
  unfold jM_eventIn_229 at hf
  refine lv_iadd C.1.1 C.1.2.1 dM_eventIn_229 ?_
  refine mp_many C hw dM_eventIn_230 (fun H locs hw => ?_)
  refine lv_aload_n C.1.1 C.1.2.1 dM_eventIn_233 rfl (lv_at hl 0 rfl) ?_
  refine mg_events C hw dM_eventIn_234 ?_
  refine lv_sipush (v := (1000 : Int32)) C.1.1 C.1.2.1 dM_eventIn_237 (by decide) ?_
  refine lv_icmp_gt (tgt := 253) C.1.1 C.1.2.1 dM_eventIn_240 (by decide) (fun c1 => ?_) (fun c1 => ?_)
  · have hf := ts_t hf c1
    exact wM_eventIn_253 C hr hlk hrv (upd iv 11 (s1 + s2)) av x4 _ _ ls (lv_sub hl [0, 1] rfl) hw hf
  · have hf := ts_f hf c1
    refine lv_aload_n C.1.1 C.1.2.1 dM_eventIn_243 rfl (lv_at hl 0 rfl) ?_
    refine mg_many C hw dM_eventIn_244 ?_
    refine lv_sipush (v := (8000 : Int32)) C.1.1 C.1.2.1 dM_eventIn_247 (by decide) ?_
    refine lv_icmp_le (tgt := 261) C.1.1 C.1.2.1 dM_eventIn_250 (by decide) (fun c2 => ?_) (fun c2 => ?_)
    · have hf := ts_t hf c2
      refine lv_iconst (v := (1 : Int32)) C.1.1 C.1.2.1 dM_eventIn_261 (by decide) ?_
      exact m_retz C hr hlk hrv hw (Or.inr rfl) hf ⟨Nat.le_of_ble_eq_true rfl, Nat.le_of_ble_eq_true rfl⟩ dM_eventIn_262
    · have hf := ts_f hf c2
      exact wM_eventIn_253 C hr hlk hrv (upd iv 11 (s1 + s2)) av x4 _ _ ls (lv_sub hl [0, 1] rfl) hw hf
set_option maxHeartbeats 4000000 in
set_option maxRecDepth 100000 in
theorem wM_eventIn_172 {p : Program} {l : Launch} {e : Env} {s : State} {m : MethodId} {args : Array Value} {below : List Frame} {meth : Method} {c : Code} {g : gT} {q : Nat} {ad : Nat → Nat} {X : va_W} {rv : Option Value} {iv' : Nat → Int32} {av' : Nat → Nat → Int32} {r' : Int32} (C : mCx p m c cM_eventIn 6 s args g "MidiDeskModel") (hr : meth.sig.returnType = (some .boolean)) (hlk : meth.locks = false) (hrv : rv = some (.int r')) (iv : Nat → Int32) (av : Nat → Nat → Int32) (x1 : Int32) (x2 : Int32) (x3 : Int32) (x4 : Int32) (x5 : Int32) (H : Heap) (locs : List Loc) (ls : Array Slot) (hl : lv_has ls 6 [(0, .ref q), (1, .int x1), (2, .int x2), (3, .int x3), (4, .int x4), (5, .int x5)]) (hw : mWd g (mA g q ad X s.heap.size) s.heap q ad X iv av H locs) (hf : jM_eventIn_172 iv av x1 x2 x3 x4 x5 = some (r', iv', av')) : mG p l e rM_eventIn s m args below meth c g q ad X rv iv' av' H locs 0 0 (F0 m 172 ls []) := by
  unfold jM_eventIn_172 at hf
  refine lv_aload_n C.1.1 C.1.2.1 dM_eventIn_172 rfl (lv_at hl 0 rfl) ?_
  refine mg_ticks C hw dM_eventIn_173 ?_
  refine lv_iload C.1.1 C.1.2.1 dM_eventIn_176 (lv_at hl 5 rfl) ?_
  refine lv_iload_n C.1.1 C.1.2.1 dM_eventIn_178 rfl (lv_at hl 2 rfl) ?_
  obtain ⟨h1, hf⟩ := ts_g hf
  refine ms_ticks C hw h1 dM_eventIn_179 (fun H locs hw => ?_)
  refine lv_aload_n C.1.1 C.1.2.1 dM_eventIn_180 rfl (lv_at hl 0 rfl) ?_
  refine mg_trackOf C hw dM_eventIn_181 ?_
  refine lv_iload C.1.1 C.1.2.1 dM_eventIn_184 (lv_at hl 5 rfl) ?_
  refine lv_iload_n C.1.1 C.1.2.1 dM_eventIn_186 rfl (lv_at hl 1 rfl) ?_
  obtain ⟨h2, hf⟩ := ts_g hf
  refine ms_trackOf C hw h2 dM_eventIn_187 (fun H locs hw => ?_)
  refine lv_aload_n C.1.1 C.1.2.1 dM_eventIn_188 rfl (lv_at hl 0 rfl) ?_
  refine mg_status C hw dM_eventIn_189 ?_
  refine lv_iload C.1.1 C.1.2.1 dM_eventIn_192 (lv_at hl 5 rfl) ?_
  refine lv_iload_n C.1.1 C.1.2.1 dM_eventIn_194 rfl (lv_at hl 3 rfl) ?_
  obtain ⟨h3, hf⟩ := ts_g hf
  refine ms_status C hw h3 dM_eventIn_195 (fun H locs hw => ?_)
  refine lv_aload_n C.1.1 C.1.2.1 dM_eventIn_196 rfl (lv_at hl 0 rfl) ?_
  refine lv_dup C.1.1 C.1.2.1 dM_eventIn_197 rfl ?_
  refine mg_events C hw dM_eventIn_198 ?_
  refine lv_iconst (v := (1 : Int32)) C.1.1 C.1.2.1 dM_eventIn_201 (by decide) ?_
  refine lv_iadd C.1.1 C.1.2.1 dM_eventIn_202 ?_
  refine mp_events C hw dM_eventIn_203 (fun H locs hw => ?_)
  refine lv_aload_n C.1.1 C.1.2.1 dM_eventIn_206 rfl (lv_at hl 0 rfl) ?_
  refine lv_dup C.1.1 C.1.2.1 dM_eventIn_207 rfl ?_
  refine mg_many C hw dM_eventIn_208 ?_
  refine lv_iload_n C.1.1 C.1.2.1 dM_eventIn_211 rfl (lv_at hl 3 rfl) ?_
  refine lv_sipush (v := (239 : Int32)) C.1.1 C.1.2.1 dM_eventIn_212 (by decide) ?_
  refine lv_icmp_le (tgt := 228) C.1.1 C.1.2.1 dM_eventIn_215 (by decide) (fun c4 => ?_) (fun c4 => ?_)
  · have hf := ts_t hf c4
    refine lv_iconst (v := (0 : Int32)) C.1.1 C.1.2.1 dM_eventIn_228 (by decide) ?_
    exact wM_eventIn_229 C hr hlk hrv (upd iv 10 ((iv 10) + (1 : Int32))) (up2 (up2 (up2 av 1 x5.toNatClampNeg x2) 2 x5.toNatClampNeg x1) 3 x5.toNatClampNeg x3) x4 ((upd iv 10 ((iv 10) + (1 : Int32))) 11) (0 : Int32) _ _ ls (lv_sub hl [0, 4] rfl) hw hf
  · have hf := ts_f hf c4
    refine lv_aload_n C.1.1 C.1.2.1 dM_eventIn_218 rfl (lv_at hl 0 rfl) ?_
    refine mg_counts C hw dM_eventIn_219 ?_
    refine lv_iload C.1.1 C.1.2.1 dM_eventIn_222 (lv_at hl 5 rfl) ?_
    obtain ⟨h5, hf⟩ := ts_g hf
    refine ma_counts C hw h5 dM_eventIn_224 ?_
    refine lv_goto (tgt := 229) C.1.1 C.1.2.1 dM_eventIn_225 (by decide) ?_
    exact wM_eventIn_229 C hr hlk hrv (upd iv 10 ((iv 10) + (1 : Int32))) (up2 (up2 (up2 av 1 x5.toNatClampNeg x2) 2 x5.toNatClampNeg x1) 3 x5.toNatClampNeg x3) x4 ((upd iv 10 ((iv 10) + (1 : Int32))) 11) ((up2 (up2 (up2 av 1 x5.toNatClampNeg x2) 2 x5.toNatClampNeg x1) 3 x5.toNatClampNeg x3) 7 x5.toNatClampNeg) _ _ ls (lv_sub hl [0, 4] rfl) hw hf
set_option maxHeartbeats 4000000 in
set_option maxRecDepth 100000 in
theorem wM_eventIn_121 {p : Program} {l : Launch} {e : Env} {s : State} {m : MethodId} {args : Array Value} {below : List Frame} {meth : Method} {c : Code} {g : gT} {q : Nat} {ad : Nat → Nat} {X : va_W} {rv : Option Value} {iv' : Nat → Int32} {av' : Nat → Nat → Int32} {r' : Int32} (C : mCx p m c cM_eventIn 6 s args g "MidiDeskModel") (hr : meth.sig.returnType = (some .boolean)) (hlk : meth.locks = false) (hrv : rv = some (.int r')) (iv : Nat → Int32) (av : Nat → Nat → Int32) (x1 : Int32) (x2 : Int32) (x3 : Int32) (x4 : Int32) (x5 : Int32) (H : Heap) (locs : List Loc) (ls : Array Slot) (hl : lv_has ls 6 [(0, .ref q), (1, .int x1), (2, .int x2), (3, .int x3), (4, .int x4), (5, .int x5)]) (hw : mWd g (mA g q ad X s.heap.size) s.heap q ad X iv av H locs) (hf : jM_eventIn_121 iv av x1 x2 x3 x4 x5 = some (r', iv', av')) : mG p l e rM_eventIn s m args below meth c g q ad X rv iv' av' H locs 0 0 (F0 m 121 ls []) := by
  unfold jM_eventIn_121 at hf
  refine lv_aload_n C.1.1 C.1.2.1 dM_eventIn_121 rfl (lv_at hl 0 rfl) ?_
  refine mg_fault C hw dM_eventIn_122 ?_
  refine lv_if_le (tgt := 130) C.1.1 C.1.2.1 dM_eventIn_125 (by decide) (fun c1 => ?_) (fun c1 => ?_)
  · have hf := ts_t hf c1
    refine lv_iload_n C.1.1 C.1.2.1 dM_eventIn_130 rfl (lv_at hl 3 rfl) ?_
    refine lv_sipush (v := (255 : Int32)) C.1.1 C.1.2.1 dM_eventIn_131 (by decide) ?_
    refine lv_icmp_ne (tgt := 172) C.1.1 C.1.2.1 dM_eventIn_134 (by decide) (fun c2 => ?_) (fun c2 => ?_)
    · have hf := ts_f hf c2
      exact wM_eventIn_172 C hr hlk hrv iv av x1 x2 x3 x4 x5 _ _ ls (lv_sub hl [0, 1, 2, 3, 4, 5] rfl) hw hf
    · have hf := ts_t hf c2
      refine lv_aload_n C.1.1 C.1.2.1 dM_eventIn_137 rfl (lv_at hl 0 rfl) ?_
      refine mg_first C hw dM_eventIn_138 ?_
      refine lv_iload C.1.1 C.1.2.1 dM_eventIn_141 (lv_at hl 5 rfl) ?_
      obtain ⟨h3, hf⟩ := ts_g hf
      refine ma_first C hw h3 dM_eventIn_143 ?_
      refine lv_bipush (v := (47 : Int32)) C.1.1 C.1.2.1 dM_eventIn_144 (by decide) ?_
      refine lv_icmp_ne (tgt := 172) C.1.1 C.1.2.1 dM_eventIn_146 (by decide) (fun c4 => ?_) (fun c4 => ?_)
      · have hf := ts_f hf c4
        exact wM_eventIn_172 C hr hlk hrv iv av x1 x2 x3 x4 x5 _ _ ls (lv_sub hl [0, 1, 2, 3, 4, 5] rfl) hw hf
      · have hf := ts_t hf c4
        refine lv_aload_n C.1.1 C.1.2.1 dM_eventIn_149 rfl (lv_at hl 0 rfl) ?_
        refine mg_at C hw dM_eventIn_150 ?_
        refine lv_aload_n C.1.1 C.1.2.1 dM_eventIn_153 rfl (lv_at hl 0 rfl) ?_
        refine mg_end C hw dM_eventIn_154 ?_
        refine lv_icmp_ge (tgt := 170) C.1.1 C.1.2.1 dM_eventIn_157 (by decide) (fun c5 => ?_) (fun c5 => ?_)
        · have hf := ts_t hf c5
          refine lv_iconst (v := (0 : Int32)) C.1.1 C.1.2.1 dM_eventIn_170 (by decide) ?_
          exact m_retz C hr hlk hrv hw (Or.inl rfl) hf ⟨Nat.le_of_ble_eq_true rfl, Nat.le_of_ble_eq_true rfl⟩ dM_eventIn_171
        · have hf := ts_f hf c5
          refine lv_aload_n C.1.1 C.1.2.1 dM_eventIn_160 rfl (lv_at hl 0 rfl) ?_
          refine lv_bipush (v := (7 : Int32)) C.1.1 C.1.2.1 dM_eventIn_161 (by decide) ?_
          refine lv_aload_n C.1.1 C.1.2.1 dM_eventIn_163 rfl (lv_at hl 0 rfl) ?_
          refine mg_at C hw dM_eventIn_164 ?_
          obtain ⟨⟨iv6, av6⟩, g6, hf⟩ := ts_b hf
          dsimp only at hf
          refine m_callV (rest := []) (As := [.int (7 : Int32), .int (iv 2)]) (rv := none) C hl.1 hw (cM_fail_met g6) (callW_of (rm := rM_fail) 2 C.1.2.2.2.2 gw_812 gw_814 gw_28 gw_55 gw_815 kM_fail ⟨Nat.le_of_ble_eq_true rfl, Nat.le_of_ble_eq_true rfl⟩) rfl rfl (Nat.le_of_ble_eq_true rfl) dM_eventIn_167 ⟨Nat.le_of_ble_eq_true rfl, Nat.le_of_ble_eq_true rfl⟩ (fun H locs hw => ?_)
          refine W.eq (g2 := F0 m 170 ls []) rfl ?_
          refine lv_iconst (v := (0 : Int32)) C.1.1 C.1.2.1 dM_eventIn_170 (by decide) ?_
          exact m_retz C hr hlk hrv hw (Or.inl rfl) hf ⟨Nat.le_of_ble_eq_true rfl, Nat.le_of_ble_eq_true rfl⟩ dM_eventIn_171
  · have hf := ts_f hf c1
    refine lv_iconst (v := (0 : Int32)) C.1.1 C.1.2.1 dM_eventIn_128 (by decide) ?_
    exact m_retz C hr hlk hrv hw (Or.inl rfl) hf ⟨Nat.le_of_ble_eq_true rfl, Nat.le_of_ble_eq_true rfl⟩ dM_eventIn_129
set_option maxHeartbeats 4000000 in
set_option maxRecDepth 100000 in
theorem wM_eventIn_118 {p : Program} {l : Launch} {e : Env} {s : State} {m : MethodId} {args : Array Value} {below : List Frame} {meth : Method} {c : Code} {g : gT} {q : Nat} {ad : Nat → Nat} {X : va_W} {rv : Option Value} {iv' : Nat → Int32} {av' : Nat → Nat → Int32} {r' : Int32} (C : mCx p m c cM_eventIn 6 s args g "MidiDeskModel") (hr : meth.sig.returnType = (some .boolean)) (hlk : meth.locks = false) (hrv : rv = some (.int r')) (iv : Nat → Int32) (av : Nat → Nat → Int32) (x1 : Int32) (x2 : Int32) (x3 : Int32) (x4 : Int32) (x5 : Int32) (s1 : Int32) (s2 : Int32) (H : Heap) (locs : List Loc) (ls : Array Slot) (hl : lv_has ls 6 [(0, .ref q), (1, .int x1), (2, .int x2), (3, .int x3), (4, .int x4), (5, .int x5)]) (hw : mWd g (mA g q ad X s.heap.size) s.heap q ad X iv av H locs) (hf : jM_eventIn_118 iv av x1 x2 x3 x4 x5 s1 s2 = some (r', iv', av')) : mG p l e rM_eventIn s m args below meth c g q ad X rv iv' av' H locs 0 0 (F0 m 118 ls [.int s2, .int s1, .ref q]) := by
  unfold jM_eventIn_118 at hf
  obtain ⟨⟨iv1, av1⟩, g1, hf⟩ := ts_b hf
  dsimp only at hf
  refine m_callV (rest := []) (As := [.int s1, .int s2]) (rv := none) C hl.1 hw (cM_follow_met g1) (callW_of (rm := rM_follow) 2 C.1.2.2.2.2 gw_840 gw_842 gw_33 gw_55 gw_843 kM_follow ⟨Nat.le_of_ble_eq_true rfl, Nat.le_of_ble_eq_true rfl⟩) rfl rfl (Nat.le_of_ble_eq_true rfl) dM_eventIn_118 ⟨Nat.le_of_ble_eq_true rfl, Nat.le_of_ble_eq_true rfl⟩ (fun H locs hw => ?_)
  refine W.eq (g2 := F0 m 121 ls []) rfl ?_
  exact wM_eventIn_121 C hr hlk hrv iv1 av1 x1 x2 x3 x4 x5 _ _ ls (lv_sub hl [0, 1, 2, 3, 4, 5] rfl) hw hf
set_option maxHeartbeats 4000000 in
set_option maxRecDepth 100000 in
theorem wM_eventIn_70 {p : Program} {l : Launch} {e : Env} {s : State} {m : MethodId} {args : Array Value} {below : List Frame} {meth : Method} {c : Code} {g : gT} {q : Nat} {ad : Nat → Nat} {X : va_W} {rv : Option Value} {iv' : Nat → Int32} {av' : Nat → Nat → Int32} {r' : Int32} (C : mCx p m c cM_eventIn 6 s args g "MidiDeskModel") (hr : meth.sig.returnType = (some .boolean)) (hlk : meth.locks = false) (hrv : rv = some (.int r')) (iv : Nat → Int32) (av : Nat → Nat → Int32) (x1 : Int32) (x2 : Int32) (x3 : Int32) (x4 : Int32) (x5 : Int32) (s1 : Int32) (s2 : Int32) (H : Heap) (locs : List Loc) (ls : Array Slot) (hl : lv_has ls 6 [(0, .ref q), (1, .int x1), (2, .int x2), (3, .int x3), (4, .int x4), (5, .int x5)]) (hw : mWd g (mA g q ad X s.heap.size) s.heap q ad X iv av H locs) (hf : jM_eventIn_70 iv av x1 x2 x3 x4 x5 s1 s2 = some (r', iv', av')) : mG p l e rM_eventIn s m args below meth c g q ad X rv iv' av' H locs 0 0 (F0 m 70 ls [.int s2, .int s1, .ref (ad 5)]) := by
  unfold jM_eventIn_70 at hf
  obtain ⟨h1, hf⟩ := ts_g hf
  refine ms_second C hw h1 dM_eventIn_70 (fun H locs hw => ?_)
  refine lv_aload_n C.1.1 C.1.2.1 dM_eventIn_71 rfl (lv_at hl 0 rfl) ?_
  refine mg_counts C hw dM_eventIn_72 ?_
  refine lv_iload C.1.1 C.1.2.1 dM_eventIn_75 (lv_at hl 5 rfl) ?_
  refine lv_iconst (v := (-1 : Int32)) C.1.1 C.1.2.1 dM_eventIn_77 (by decide) ?_
  obtain ⟨h2, hf⟩ := ts_g hf
  refine ms_counts C hw h2 dM_eventIn_78 (fun H locs hw => ?_)
  refine lv_aload_n C.1.1 C.1.2.1 dM_eventIn_79 rfl (lv_at hl 0 rfl) ?_
  refine mg_from C hw dM_eventIn_80 ?_
  refine lv_iload C.1.1 C.1.2.1 dM_eventIn_83 (lv_at hl 5 rfl) ?_
  refine lv_aload_n C.1.1 C.1.2.1 dM_eventIn_85 rfl (lv_at hl 0 rfl) ?_
  refine mg_many C hw dM_eventIn_86 ?_
  obtain ⟨h3, hf⟩ := ts_g hf
  refine ms_from C hw h3 dM_eventIn_89 (fun H locs hw => ?_)
  refine lv_iload_n C.1.1 C.1.2.1 dM_eventIn_90 rfl (lv_at hl 3 rfl) ?_
  refine lv_sipush (v := (239 : Int32)) C.1.1 C.1.2.1 dM_eventIn_91 (by decide) ?_
  refine lv_icmp_le (tgt := 121) C.1.1 C.1.2.1 dM_eventIn_94 (by decide) (fun c4 => ?_) (fun c4 => ?_)
  · have hf := ts_t hf c4
    exact wM_eventIn_121 C hr hlk hrv iv (up2 (up2 (up2 av 5 s1.toNatClampNeg s2) 7 x5.toNatClampNeg (-1 : Int32)) 6 x5.toNatClampNeg (iv 11)) x1 x2 x3 x4 x5 _ _ ls (lv_sub hl [0, 1, 2, 3, 4, 5] rfl) hw hf
  · have hf := ts_f hf c4
    refine lv_aload_n C.1.1 C.1.2.1 dM_eventIn_97 rfl (lv_at hl 0 rfl) ?_
    refine lv_iload C.1.1 C.1.2.1 dM_eventIn_98 (lv_at hl 5 rfl) ?_
    refine lv_iload_n C.1.1 C.1.2.1 dM_eventIn_100 rfl (lv_at hl 3 rfl) ?_
    refine lv_sipush (v := (255 : Int32)) C.1.1 C.1.2.1 dM_eventIn_101 (by decide) ?_
    refine lv_icmp_ne (tgt := 117) C.1.1 C.1.2.1 dM_eventIn_104 (by decide) (fun c5 => ?_) (fun c5 => ?_)
    · have hf := ts_f hf c5
      refine lv_iconst (v := (-1 : Int32)) C.1.1 C.1.2.1 dM_eventIn_117 (by decide) ?_
      exact wM_eventIn_118 C hr hlk hrv iv (up2 (up2 (up2 av 5 s1.toNatClampNeg s2) 7 x5.toNatClampNeg (-1 : Int32)) 6 x5.toNatClampNeg (iv 11)) x1 x2 x3 x4 x5 x5 (-1 : Int32) _ _ ls (lv_sub hl [0, 1, 2, 3, 4, 5] rfl) hw hf
    · have hf := ts_t hf c5
      refine lv_aload_n C.1.1 C.1.2.1 dM_eventIn_107 rfl (lv_at hl 0 rfl) ?_
      refine mg_first C hw dM_eventIn_108 ?_
      refine lv_iload C.1.1 C.1.2.1 dM_eventIn_111 (lv_at hl 5 rfl) ?_
      obtain ⟨h6, hf⟩ := ts_g hf
      refine ma_first C hw h6 dM_eventIn_113 ?_
      refine lv_goto (tgt := 118) C.1.1 C.1.2.1 dM_eventIn_114 (by decide) ?_
      exact wM_eventIn_118 C hr hlk hrv iv (up2 (up2 (up2 av 5 s1.toNatClampNeg s2) 7 x5.toNatClampNeg (-1 : Int32)) 6 x5.toNatClampNeg (iv 11)) x1 x2 x3 x4 x5 x5 ((up2 (up2 (up2 av 5 s1.toNatClampNeg s2) 7 x5.toNatClampNeg (-1 : Int32)) 6 x5.toNatClampNeg (iv 11)) 4 x5.toNatClampNeg) _ _ ls (lv_sub hl [0, 1, 2, 3, 4, 5] rfl) hw hf
set_option maxHeartbeats 4000000 in
set_option maxRecDepth 100000 in
theorem wM_eventIn_69 {p : Program} {l : Launch} {e : Env} {s : State} {m : MethodId} {args : Array Value} {below : List Frame} {meth : Method} {c : Code} {g : gT} {q : Nat} {ad : Nat → Nat} {X : va_W} {rv : Option Value} {iv' : Nat → Int32} {av' : Nat → Nat → Int32} {r' : Int32} (C : mCx p m c cM_eventIn 6 s args g "MidiDeskModel") (hr : meth.sig.returnType = (some .boolean)) (hlk : meth.locks = false) (hrv : rv = some (.int r')) (iv : Nat → Int32) (av : Nat → Nat → Int32) (x1 : Int32) (x2 : Int32) (x3 : Int32) (x4 : Int32) (x5 : Int32) (s1 : Int32) (H : Heap) (locs : List Loc) (ls : Array Slot) (hl : lv_has ls 6 [(0, .ref q), (1, .int x1), (2, .int x2), (3, .int x3), (4, .int x4), (5, .int x5)]) (hw : mWd g (mA g q ad X s.heap.size) s.heap q ad X iv av H locs) (hf : jM_eventIn_69 iv av x1 x2 x3 x4 x5 s1 = some (r', iv', av')) : mG p l e rM_eventIn s m args below meth c g q ad X rv iv' av' H locs 0 0 (F0 m 69 ls [.int s1, .ref (ad 5)]) := by
  unfold jM_eventIn_69 at hf
  refine lv_iconst (v := (-1 : Int32)) C.1.1 C.1.2.1 dM_eventIn_69 (by decide) ?_
  exact wM_eventIn_70 C hr hlk hrv iv av x1 x2 x3 x4 x5 s1 (-1 : Int32) _ _ ls (lv_sub hl [0, 1, 2, 3, 4, 5] rfl) hw hf
set_option maxHeartbeats 4000000 in
set_option maxRecDepth 100000 in
theorem wM_eventIn_62 {p : Program} {l : Launch} {e : Env} {s : State} {m : MethodId} {args : Array Value} {below : List Frame} {meth : Method} {c : Code} {g : gT} {q : Nat} {ad : Nat → Nat} {X : va_W} {rv : Option Value} {iv' : Nat → Int32} {av' : Nat → Nat → Int32} {r' : Int32} (C : mCx p m c cM_eventIn 6 s args g "MidiDeskModel") (hr : meth.sig.returnType = (some .boolean)) (hlk : meth.locks = false) (hrv : rv = some (.int r')) (iv : Nat → Int32) (av : Nat → Nat → Int32) (x1 : Int32) (x2 : Int32) (x3 : Int32) (x4 : Int32) (x5 : Int32) (s1 : Int32) (H : Heap) (locs : List Loc) (ls : Array Slot) (hl : lv_has ls 6 [(0, .ref q), (1, .int x1), (2, .int x2), (3, .int x3), (4, .int x4), (5, .int x5)]) (hw : mWd g (mA g q ad X s.heap.size) s.heap q ad X iv av H locs) (hf : jM_eventIn_62 iv av x1 x2 x3 x4 x5 s1 = some (r', iv', av')) : mG p l e rM_eventIn s m args below meth c g q ad X rv iv' av' H locs 0 0 (F0 m 62 ls [.int s1, .ref (ad 5)]) := by
  unfold jM_eventIn_62 at hf
  refine lv_aload_n C.1.1 C.1.2.1 dM_eventIn_62 rfl (lv_at hl 0 rfl) ?_
  obtain ⟨⟨r1, iv1, av1⟩, g1, hf⟩ := ts_b hf
  dsimp only at hf
  refine m_callV (rest := [.int s1, .ref (ad 5)]) (As := []) (rv := (some (.int r1))) C hl.1 hw (cM_small_met g1) (callW_of (rm := rM_small) 0 C.1.2.2.2.2 gw_836 gw_838 gw_32 gw_55 gw_839 kM_small ⟨Nat.le_of_ble_eq_true rfl, Nat.le_of_ble_eq_true rfl⟩) rfl rfl (Nat.le_of_ble_eq_true rfl) dM_eventIn_63 ⟨Nat.le_of_ble_eq_true rfl, Nat.le_of_ble_eq_true rfl⟩ (fun H locs hw => ?_)
  refine W.eq (g2 := F0 m 66 ls [.int r1, .int s1, .ref (ad 5)]) rfl ?_
  refine lv_goto (tgt := 70) C.1.1 C.1.2.1 dM_eventIn_66 (by decide) ?_
  exact wM_eventIn_70 C hr hlk hrv iv1 av1 x1 x2 x3 x4 x5 s1 r1 _ _ ls (lv_sub hl [0, 1, 2, 3, 4, 5] rfl) hw hf
set_option maxHeartbeats 4000000 in
set_option maxRecDepth 100000 in
theorem wM_eventIn_34 {p : Program} {l : Launch} {e : Env} {s : State} {m : MethodId} {args : Array Value} {below : List Frame} {meth : Method} {c : Code} {g : gT} {q : Nat} {ad : Nat → Nat} {X : va_W} {rv : Option Value} {iv' : Nat → Int32} {av' : Nat → Nat → Int32} {r' : Int32} (C : mCx p m c cM_eventIn 6 s args g "MidiDeskModel") (hr : meth.sig.returnType = (some .boolean)) (hlk : meth.locks = false) (hrv : rv = some (.int r')) (iv : Nat → Int32) (av : Nat → Nat → Int32) (x1 : Int32) (x2 : Int32) (x3 : Int32) (x4 : Int32) (x5 : Int32) (s1 : Int32) (s2 : Int32) (H : Heap) (locs : List Loc) (ls : Array Slot) (hl : lv_has ls 6 [(0, .ref q), (1, .int x1), (2, .int x2), (3, .int x3), (4, .int x4), (5, .int x5)]) (hw : mWd g (mA g q ad X s.heap.size) s.heap q ad X iv av H locs) (hf : jM_eventIn_34 iv av x1 x2 x3 x4 x5 s1 s2 = some (r', iv', av')) : mG p l e rM_eventIn s m args below meth c g q ad X rv iv' av' H locs 0 0 (F0 m 34 ls [.int s2, .int s1, .ref (ad 4)]) := by
  unfold jM_eventIn_34 at hf
  obtain ⟨h1, hf⟩ := ts_g hf
  refine ms_first C hw h1 dM_eventIn_34 (fun H locs hw => ?_)
  refine lv_aload_n C.1.1 C.1.2.1 dM_eventIn_35 rfl (lv_at hl 0 rfl) ?_
  refine mg_second C hw dM_eventIn_36 ?_
  refine lv_iload C.1.1 C.1.2.1 dM_eventIn_39 (lv_at hl 5 rfl) ?_
  refine lv_iload_n C.1.1 C.1.2.1 dM_eventIn_41 rfl (lv_at hl 3 rfl) ?_
  refine lv_sipush (v := (192 : Int32)) C.1.1 C.1.2.1 dM_eventIn_42 (by decide) ?_
  refine lv_icmp_lt (tgt := 62) C.1.1 C.1.2.1 dM_eventIn_45 (by decide) (fun c2 => ?_) (fun c2 => ?_)
  · have hf := ts_t hf c2
    exact wM_eventIn_62 C hr hlk hrv iv (up2 av 4 s1.toNatClampNeg s2) x1 x2 x3 x4 x5 x5 _ _ ls (lv_sub hl [0, 1, 2, 3, 4, 5] rfl) hw hf
  · have hf := ts_f hf c2
    refine lv_iload_n C.1.1 C.1.2.1 dM_eventIn_48 rfl (lv_at hl 3 rfl) ?_
    refine lv_sipush (v := (223 : Int32)) C.1.1 C.1.2.1 dM_eventIn_49 (by decide) ?_
    refine lv_icmp_le (tgt := 69) C.1.1 C.1.2.1 dM_eventIn_52 (by decide) (fun c3 => ?_) (fun c3 => ?_)
    · have hf := ts_t hf c3
      exact wM_eventIn_69 C hr hlk hrv iv (up2 av 4 s1.toNatClampNeg s2) x1 x2 x3 x4 x5 x5 _ _ ls (lv_sub hl [0, 1, 2, 3, 4, 5] rfl) hw hf
    · have hf := ts_f hf c3
      refine lv_iload_n C.1.1 C.1.2.1 dM_eventIn_55 rfl (lv_at hl 3 rfl) ?_
      refine lv_sipush (v := (240 : Int32)) C.1.1 C.1.2.1 dM_eventIn_56 (by decide) ?_
      refine lv_icmp_ge (tgt := 69) C.1.1 C.1.2.1 dM_eventIn_59 (by decide) (fun c4 => ?_) (fun c4 => ?_)
      · have hf := ts_t hf c4
        exact wM_eventIn_69 C hr hlk hrv iv (up2 av 4 s1.toNatClampNeg s2) x1 x2 x3 x4 x5 x5 _ _ ls (lv_sub hl [0, 1, 2, 3, 4, 5] rfl) hw hf
      · have hf := ts_f hf c4
        exact wM_eventIn_62 C hr hlk hrv iv (up2 av 4 s1.toNatClampNeg s2) x1 x2 x3 x4 x5 x5 _ _ ls (lv_sub hl [0, 1, 2, 3, 4, 5] rfl) hw hf
set_option maxHeartbeats 4000000 in
set_option maxRecDepth 100000 in
theorem wM_eventIn_26 {p : Program} {l : Launch} {e : Env} {s : State} {m : MethodId} {args : Array Value} {below : List Frame} {meth : Method} {c : Code} {g : gT} {q : Nat} {ad : Nat → Nat} {X : va_W} {rv : Option Value} {iv' : Nat → Int32} {av' : Nat → Nat → Int32} {r' : Int32} (C : mCx p m c cM_eventIn 6 s args g "MidiDeskModel") (hr : meth.sig.returnType = (some .boolean)) (hlk : meth.locks = false) (hrv : rv = some (.int r')) (iv : Nat → Int32) (av : Nat → Nat → Int32) (x1 : Int32) (x2 : Int32) (x3 : Int32) (x4 : Int32) (x5 : Int32) (s1 : Int32) (H : Heap) (locs : List Loc) (ls : Array Slot) (hl : lv_has ls 6 [(0, .ref q), (1, .int x1), (2, .int x2), (3, .int x3), (4, .int x4), (5, .int x5)]) (hw : mWd g (mA g q ad X s.heap.size) s.heap q ad X iv av H locs) (hf : jM_eventIn_26 iv av x1 x2 x3 x4 x5 s1 = some (r', iv', av')) : mG p l e rM_eventIn s m args below meth c g q ad X rv iv' av' H locs 0 0 (F0 m 26 ls [.int s1, .ref (ad 4)]) := by
  unfold jM_eventIn_26 at hf
  refine lv_iconst (v := (-1 : Int32)) C.1.1 C.1.2.1 dM_eventIn_26 (by decide) ?_
  refine lv_goto (tgt := 34) C.1.1 C.1.2.1 dM_eventIn_27 (by decide) ?_
  exact wM_eventIn_34 C hr hlk hrv iv av x1 x2 x3 x4 x5 s1 (-1 : Int32) _ _ ls (lv_sub hl [0, 1, 2, 3, 4, 5] rfl) hw hf
set_option maxHeartbeats 4000000 in
set_option maxRecDepth 100000 in
theorem cM_eventIn_met {l : Launch} {g : gT} {q : Nat} {ad : Nat → Nat} {X : va_W} {iv iv' : Nat → Int32} {av av' : Nat → Nat → Int32} {x1 : Int32} {x2 : Int32} {x3 : Int32} {x4 : Int32} {r' : Int32} (hf : fM_eventIn iv av x1 x2 x3 x4 = some (r', iv', av')) : mMet l yM_eventIn cM_eventIn 6 (some .boolean) rM_eventIn g q ad X iv av [.ref q, .int x1, .int x2, .int x3, .int x4] (some (.int r')) iv' av' := by
  refine m_entry (by decide) (Nat.le_of_ble_eq_true rfl) ?_
  intro p e s m args below meth c ls C hr hlk hnm hl hw
  have hrv : ((some (.int r')) : Option Value) = (some (.int r')) := rfl
  have C : mCx p m c cM_eventIn 6 s args g "MidiDeskModel" := C
  have hl : lv_has ls 6 [(0, .ref q), (1, .int x1), (2, .int x2), (3, .int x3), (4, .int x4)] := hl
  unfold fM_eventIn at hf
  refine lv_aload_n C.1.1 C.1.2.1 dM_eventIn_0 rfl (lv_at hl 0 rfl) ?_
  refine mg_events C hw dM_eventIn_1 ?_
  refine lv_istore (lv' := [(5, .int (iv 10)), (0, .ref q), (1, .int x1), (2, .int x2), (3, .int x3), (4, .int x4)]) C.1.1 C.1.2.1 dM_eventIn_4 hl (by decide) rfl (fun ls hl => ?_)
  refine lv_aload_n C.1.1 C.1.2.1 dM_eventIn_6 rfl (lv_at hl 1 rfl) ?_
  refine mg_first C hw dM_eventIn_7 ?_
  refine lv_iload C.1.1 C.1.2.1 dM_eventIn_10 (lv_at hl 0 rfl) ?_
  refine lv_iload_n C.1.1 C.1.2.1 dM_eventIn_12 rfl (lv_at hl 4 rfl) ?_
  refine lv_sipush (v := (240 : Int32)) C.1.1 C.1.2.1 dM_eventIn_13 (by decide) ?_
  refine lv_icmp_eq (tgt := 26) C.1.1 C.1.2.1 dM_eventIn_16 (by decide) (fun c1 => ?_) (fun c1 => ?_)
  · have hf := ts_t hf c1
    exact wM_eventIn_26 C hr hlk hrv iv av x1 x2 x3 x4 (iv 10) (iv 10) _ _ ls (lv_sub hl [1, 2, 3, 4, 5, 0] rfl) hw hf
  · have hf := ts_f hf c1
    refine lv_iload_n C.1.1 C.1.2.1 dM_eventIn_19 rfl (lv_at hl 4 rfl) ?_
    refine lv_sipush (v := (247 : Int32)) C.1.1 C.1.2.1 dM_eventIn_20 (by decide) ?_
    refine lv_icmp_ne (tgt := 30) C.1.1 C.1.2.1 dM_eventIn_23 (by decide) (fun c2 => ?_) (fun c2 => ?_)
    · have hf := ts_f hf c2
      refine lv_aload_n C.1.1 C.1.2.1 dM_eventIn_30 rfl (lv_at hl 1 rfl) ?_
      obtain ⟨⟨r3, iv3, av3⟩, g3, hf⟩ := ts_b hf
      dsimp only at hf
      refine m_callV (rest := [.int (iv 10), .ref (ad 4)]) (As := []) (rv := (some (.int r3))) C hl.1 hw (cM_small_met g3) (callW_of (rm := rM_small) 0 C.1.2.2.2.2 gw_836 gw_838 gw_32 gw_55 gw_839 kM_small ⟨Nat.le_of_ble_eq_true rfl, Nat.le_of_ble_eq_true rfl⟩) rfl rfl (Nat.le_of_ble_eq_true rfl) dM_eventIn_31 ⟨Nat.le_of_ble_eq_true rfl, Nat.le_of_ble_eq_true rfl⟩ (fun H locs hw => ?_)
      refine W.eq (g2 := F0 m 34 ls [.int r3, .int (iv 10), .ref (ad 4)]) rfl ?_
      exact wM_eventIn_34 C hr hlk hrv iv3 av3 x1 x2 x3 x4 (iv 10) (iv 10) r3 _ _ ls (lv_sub hl [1, 2, 3, 4, 5, 0] rfl) hw hf
    · have hf := ts_t hf c2
      exact wM_eventIn_26 C hr hlk hrv iv av x1 x2 x3 x4 (iv 10) (iv 10) _ _ ls (lv_sub hl [1, 2, 3, 4, 5, 0] rfl) hw hf
end
section
abbrev cM_track : ByteArray := prog_8_method_11_code
abbrev yM_track : MethodName := ⟨"MidiDeskModel", "track", "(I)V"⟩
theorem kM_track : yM_track.cls ≠ "java/lang/invoke/MethodHandle" ∧ yM_track.cls ≠ "java/lang/invoke/VarHandle" ∧ (parseMethodDescriptor yM_track.desc).map (fun d => d.parameters.length) = some 1 := by decide +kernel
abbrev rM_track : Room := { frames := 5, cells := 0, slots := 0, locals := 120 }
theorem dM_track_0 : decode cM_track 0 = .ok (.iconst 0, 1) := by decide +kernel
theorem dM_track_1 : decode cM_track 1 = .ok (.istore_n 2, 1) := by decide +kernel
theorem dM_track_2 : decode cM_track 2 = .ok (.lconst 0, 1) := by decide +kernel
theorem dM_track_3 : decode cM_track 3 = .ok (.lstore_n 3, 1) := by decide +kernel
theorem dM_track_4 : decode cM_track 4 = .ok (.iconst 1, 1) := by decide +kernel
theorem dM_track_5 : decode cM_track 5 = .ok (.istore 5, 2) := by decide +kernel
theorem dM_track_7 : decode cM_track 7 = .ok (.iload 5, 2) := by decide +kernel
theorem dM_track_9 : decode cM_track 9 = .ok (.ifCond .eq 170, 3) := by decide +kernel
theorem dM_track_12 : decode cM_track 12 = .ok (.aload_n 0, 1) := by decide +kernel
theorem dM_track_13 : decode cM_track 13 = .ok (.getfield 56, 3) := by decide +kernel
theorem dM_track_16 : decode cM_track 16 = .ok (.ifCond .ne 163, 3) := by decide +kernel
theorem dM_track_19 : decode cM_track 19 = .ok (.aload_n 0, 1) := by decide +kernel
theorem dM_track_20 : decode cM_track 20 = .ok (.getfield 62, 3) := by decide +kernel
theorem dM_track_23 : decode cM_track 23 = .ok (.istore 6, 2) := by decide +kernel
theorem dM_track_25 : decode cM_track 25 = .ok (.lload_n 3, 1) := by decide +kernel
theorem dM_track_26 : decode cM_track 26 = .ok (.aload_n 0, 1) := by decide +kernel
theorem dM_track_27 : decode cM_track 27 = .ok (.invokevirtual 117, 3) := by decide +kernel
theorem dM_track_30 : decode cM_track 30 = .ok (.i2l, 1) := by decide +kernel
theorem dM_track_31 : decode cM_track 31 = .ok (.ladd, 1) := by decide +kernel
theorem dM_track_32 : decode cM_track 32 = .ok (.lstore_n 3, 1) := by decide +kernel
theorem dM_track_33 : decode cM_track 33 = .ok (.lload_n 3, 1) := by decide +kernel
theorem dM_track_34 : decode cM_track 34 = .ok (.ldc2_w 121, 3) := by decide +kernel
theorem dM_track_37 : decode cM_track 37 = .ok (.lcmp, 1) := by decide +kernel
theorem dM_track_38 : decode cM_track 38 = .ok (.ifCond .le 11, 3) := by decide +kernel
theorem dM_track_41 : decode cM_track 41 = .ok (.aload_n 0, 1) := by decide +kernel
theorem dM_track_42 : decode cM_track 42 = .ok (.bipush 11, 2) := by decide +kernel
theorem dM_track_44 : decode cM_track 44 = .ok (.iload 6, 2) := by decide +kernel
theorem dM_track_46 : decode cM_track 46 = .ok (.invokevirtual 68, 3) := by decide +kernel
theorem dM_track_49 : decode cM_track 49 = .ok (.aload_n 0, 1) := by decide +kernel
theorem dM_track_50 : decode cM_track 50 = .ok (.getfield 62, 3) := by decide +kernel
theorem dM_track_53 : decode cM_track 53 = .ok (.istore 6, 2) := by decide +kernel
theorem dM_track_55 : decode cM_track 55 = .ok (.aload_n 0, 1) := by decide +kernel
theorem dM_track_56 : decode cM_track 56 = .ok (.iconst 1, 1) := by decide +kernel
theorem dM_track_57 : decode cM_track 57 = .ok (.invokevirtual 74, 3) := by decide +kernel
theorem dM_track_60 : decode cM_track 60 = .ok (.l2i, 1) := by decide +kernel
theorem dM_track_61 : decode cM_track 61 = .ok (.istore 7, 2) := by decide +kernel
theorem dM_track_63 : decode cM_track 63 = .ok (.aload_n 0, 1) := by decide +kernel
theorem dM_track_64 : decode cM_track 64 = .ok (.getfield 56, 3) := by decide +kernel
theorem dM_track_67 : decode cM_track 67 = .ok (.ifCond .le 6, 3) := by decide +kernel
theorem dM_track_70 : decode cM_track 70 = .ok (.goto (-63), 3) := by decide +kernel
theorem dM_track_73 : decode cM_track 73 = .ok (.iload 7, 2) := by decide +kernel
theorem dM_track_75 : decode cM_track 75 = .ok (.sipush 128, 3) := by decide +kernel
theorem dM_track_78 : decode cM_track 78 = .ok (.if_icmp .ge 7, 3) := by decide +kernel
theorem dM_track_81 : decode cM_track 81 = .ok (.iload_n 2, 1) := by decide +kernel
theorem dM_track_82 : decode cM_track 82 = .ok (.ifCond .eq 35, 3) := by decide +kernel
theorem dM_track_85 : decode cM_track 85 = .ok (.iload 7, 2) := by decide +kernel
theorem dM_track_87 : decode cM_track 87 = .ok (.sipush 240, 3) := by decide +kernel
theorem dM_track_90 : decode cM_track 90 = .ok (.if_icmp .le 11, 3) := by decide +kernel
theorem dM_track_93 : decode cM_track 93 = .ok (.iload 7, 2) := by decide +kernel
theorem dM_track_95 : decode cM_track 95 = .ok (.sipush 247, 3) := by decide +kernel
theorem dM_track_98 : decode cM_track 98 = .ok (.if_icmp .lt 19, 3) := by decide +kernel
theorem dM_track_101 : decode cM_track 101 = .ok (.iload 7, 2) := by decide +kernel
theorem dM_track_103 : decode cM_track 103 = .ok (.sipush 247, 3) := by decide +kernel
theorem dM_track_106 : decode cM_track 106 = .ok (.if_icmp .le 18, 3) := by decide +kernel
theorem dM_track_109 : decode cM_track 109 = .ok (.iload 7, 2) := by decide +kernel
theorem dM_track_111 : decode cM_track 111 = .ok (.sipush 255, 3) := by decide +kernel
theorem dM_track_114 : decode cM_track 114 = .ok (.if_icmp .ge 10, 3) := by decide +kernel
theorem dM_track_117 : decode cM_track 117 = .ok (.aload_n 0, 1) := by decide +kernel
theorem dM_track_118 : decode cM_track 118 = .ok (.iconst 5, 1) := by decide +kernel
theorem dM_track_119 : decode cM_track 119 = .ok (.iload 6, 2) := by decide +kernel
theorem dM_track_121 : decode cM_track 121 = .ok (.invokevirtual 68, 3) := by decide +kernel
theorem dM_track_124 : decode cM_track 124 = .ok (.iload 7, 2) := by decide +kernel
theorem dM_track_126 : decode cM_track 126 = .ok (.sipush 128, 3) := by decide +kernel
theorem dM_track_129 : decode cM_track 129 = .ok (.if_icmp .ge 12, 3) := by decide +kernel
theorem dM_track_132 : decode cM_track 132 = .ok (.aload_n 0, 1) := by decide +kernel
theorem dM_track_133 : decode cM_track 133 = .ok (.iload 6, 2) := by decide +kernel
theorem dM_track_135 : decode cM_track 135 = .ok (.putfield 62, 3) := by decide +kernel
theorem dM_track_138 : decode cM_track 138 = .ok (.iload_n 2, 1) := by decide +kernel
theorem dM_track_139 : decode cM_track 139 = .ok (.istore 7, 2) := by decide +kernel
theorem dM_track_141 : decode cM_track 141 = .ok (.iload 7, 2) := by decide +kernel
theorem dM_track_143 : decode cM_track 143 = .ok (.sipush 240, 3) := by decide +kernel
theorem dM_track_146 : decode cM_track 146 = .ok (.if_icmp .ge 8, 3) := by decide +kernel
theorem dM_track_149 : decode cM_track 149 = .ok (.iload 7, 2) := by decide +kernel
theorem dM_track_151 : decode cM_track 151 = .ok (.goto 4, 3) := by decide +kernel
theorem dM_track_154 : decode cM_track 154 = .ok (.iconst 0, 1) := by decide +kernel
theorem dM_track_155 : decode cM_track 155 = .ok (.istore_n 2, 1) := by decide +kernel
theorem dM_track_156 : decode cM_track 156 = .ok (.aload_n 0, 1) := by decide +kernel
theorem dM_track_157 : decode cM_track 157 = .ok (.getfield 56, 3) := by decide +kernel
theorem dM_track_160 : decode cM_track 160 = .ok (.ifCond .ne 16, 3) := by decide +kernel
theorem dM_track_163 : decode cM_track 163 = .ok (.aload_n 0, 1) := by decide +kernel
theorem dM_track_164 : decode cM_track 164 = .ok (.iload_n 1, 1) := by decide +kernel
theorem dM_track_165 : decode cM_track 165 = .ok (.lload_n 3, 1) := by decide +kernel
theorem dM_track_166 : decode cM_track 166 = .ok (.l2i, 1) := by decide +kernel
theorem dM_track_167 : decode cM_track 167 = .ok (.iload 7, 2) := by decide +kernel
theorem dM_track_169 : decode cM_track 169 = .ok (.iload 6, 2) := by decide +kernel
theorem dM_track_171 : decode cM_track 171 = .ok (.invokevirtual 123, 3) := by decide +kernel
theorem dM_track_174 : decode cM_track 174 = .ok (.istore 5, 2) := by decide +kernel
theorem dM_track_176 : decode cM_track 176 = .ok (.goto (-169), 3) := by decide +kernel
theorem dM_track_179 : decode cM_track 179 = .ok (.return_, 1) := by decide +kernel
def jM_track_176 (K7 : (Nat → Int32) → (Nat → Nat → Int32) → Int32 → Int32 → Int64 → Int32 → Option ((Nat → Int32) × (Nat → Nat → Int32))) (iv : Nat → Int32) (av : Nat → Nat → Int32) (x1 : Int32) (x2 : Int32) (y3 : Int64) (x5 : Int32) : Option ((Nat → Int32) × (Nat → Nat → Int32)) := K7 iv av x1 x2 y3 x5
def jM_track_155 (K7 : (Nat → Int32) → (Nat → Nat → Int32) → Int32 → Int32 → Int64 → Int32 → Option ((Nat → Int32) × (Nat → Nat → Int32))) (iv : Nat → Int32) (av : Nat → Nat → Int32) (x1 : Int32) (y3 : Int64) (x5 : Int32) (x6 : Int32) (x7 : Int32) (s0 : Int32) : Option ((Nat → Int32) × (Nat → Nat → Int32)) := if (iv 4) = 0 then ((fM_eventIn iv av x1 y3.toInt32 x7 x6).bind fun (r2, iv2, av2) => jM_track_176 K7 iv2 av2 x1 s0 y3 r2) else (jM_track_176 K7 iv av x1 s0 y3 x5)
def jM_track_141 (K7 : (Nat → Int32) → (Nat → Nat → Int32) → Int32 → Int32 → Int64 → Int32 → Option ((Nat → Int32) × (Nat → Nat → Int32))) (iv : Nat → Int32) (av : Nat → Nat → Int32) (x1 : Int32) (y3 : Int64) (x5 : Int32) (x6 : Int32) (x7 : Int32) : Option ((Nat → Int32) × (Nat → Nat → Int32)) := if (240 : Int32) ≤ x7 then (jM_track_155 K7 iv av x1 y3 x5 x6 x7 (0 : Int32)) else (jM_track_155 K7 iv av x1 y3 x5 x6 x7 x7)
def jM_track_124 (K7 : (Nat → Int32) → (Nat → Nat → Int32) → Int32 → Int32 → Int64 → Int32 → Option ((Nat → Int32) × (Nat → Nat → Int32))) (iv : Nat → Int32) (av : Nat → Nat → Int32) (x1 : Int32) (x2 : Int32) (y3 : Int64) (x5 : Int32) (x6 : Int32) (x7 : Int32) : Option ((Nat → Int32) × (Nat → Nat → Int32)) := if (128 : Int32) ≤ x7 then (jM_track_141 K7 iv av x1 y3 x5 x6 x7) else (jM_track_141 K7 (upd iv 2 x6) av x1 y3 x5 x6 x2)
def jM_track_117 (K7 : (Nat → Int32) → (Nat → Nat → Int32) → Int32 → Int32 → Int64 → Int32 → Option ((Nat → Int32) × (Nat → Nat → Int32))) (iv : Nat → Int32) (av : Nat → Nat → Int32) (x1 : Int32) (x2 : Int32) (y3 : Int64) (x5 : Int32) (x6 : Int32) (x7 : Int32) : Option ((Nat → Int32) × (Nat → Nat → Int32)) := (fM_fail iv av (5 : Int32) x6).bind fun (iv1, av1) => jM_track_124 K7 iv1 av1 x1 x2 y3 x5 x6 x7
def jM_track_101 (K7 : (Nat → Int32) → (Nat → Nat → Int32) → Int32 → Int32 → Int64 → Int32 → Option ((Nat → Int32) × (Nat → Nat → Int32))) (iv : Nat → Int32) (av : Nat → Nat → Int32) (x1 : Int32) (x2 : Int32) (y3 : Int64) (x5 : Int32) (x6 : Int32) (x7 : Int32) : Option ((Nat → Int32) × (Nat → Nat → Int32)) := if x7 ≤ (247 : Int32) then (jM_track_124 K7 iv av x1 x2 y3 x5 x6 x7) else (if (255 : Int32) ≤ x7 then (jM_track_124 K7 iv av x1 x2 y3 x5 x6 x7) else (jM_track_117 K7 iv av x1 x2 y3 x5 x6 x7))
def jM_track_85 (K7 : (Nat → Int32) → (Nat → Nat → Int32) → Int32 → Int32 → Int64 → Int32 → Option ((Nat → Int32) × (Nat → Nat → Int32))) (iv : Nat → Int32) (av : Nat → Nat → Int32) (x1 : Int32) (x2 : Int32) (y3 : Int64) (x5 : Int32) (x6 : Int32) (x7 : Int32) : Option ((Nat → Int32) × (Nat → Nat → Int32)) := if x7 ≤ (240 : Int32) then (jM_track_101 K7 iv av x1 x2 y3 x5 x6 x7) else (if x7 < (247 : Int32) then (jM_track_117 K7 iv av x1 x2 y3 x5 x6 x7) else (jM_track_101 K7 iv av x1 x2 y3 x5 x6 x7))
def jM_track_49 (K7 : (Nat → Int32) → (Nat → Nat → Int32) → Int32 → Int32 → Int64 → Int32 → Option ((Nat → Int32) × (Nat → Nat → Int32))) (iv : Nat → Int32) (av : Nat → Nat → Int32) (x1 : Int32) (x2 : Int32) (y3 : Int64) (x5 : Int32) : Option ((Nat → Int32) × (Nat → Nat → Int32)) := (fM_taken iv av (1 : Int32)).bind fun (r1, iv1, av1) => if (iv1 4) ≤ 0 then (if (128 : Int32) ≤ r1.toInt32 then (jM_track_85 K7 iv1 av1 x1 x2 y3 x5 (iv 2) r1.toInt32) else (if x2 = 0 then (jM_track_117 K7 iv1 av1 x1 x2 y3 x5 (iv 2) r1.toInt32) else (jM_track_85 K7 iv1 av1 x1 x2 y3 x5 (iv 2) r1.toInt32))) else (K7 iv1 av1 x1 x2 y3 x5)
def lM_track_7 : Nat → (Nat → Int32) → (Nat → Nat → Int32) → Int32 → Int32 → Int64 → Int32 → Option ((Nat → Int32) × (Nat → Nat → Int32))
  | 0 => fun _ _ _ _ _ _ => none
  | k + 1 => fun iv av x1 x2 y3 x5 => if x5 = 0 then (some (iv, av)) else (if (iv 4) = 0 then ((fM_number iv av).bind fun (r3, iv3, av3) => if (lg_cmp (y3 + r3.toInt64) (268435455 : Int64)) ≤ 0 then (jM_track_49 (lM_track_7 k) iv3 av3 x1 x2 (y3 + r3.toInt64) x5) else ((fM_fail iv3 av3 (11 : Int32) (iv 2)).bind fun (iv5, av5) => jM_track_49 (lM_track_7 k) iv5 av5 x1 x2 (y3 + r3.toInt64) x5)) else (some (iv, av)))
def fM_track (iv : Nat → Int32) (av : Nat → Nat → Int32) (x1 : Int32) : Option ((Nat → Int32) × (Nat → Nat → Int32)) := lM_track_7 FU iv av x1 (0 : Int32) (0 : Int64) (1 : Int32)
set_option maxHeartbeats 4000000 in
set_option maxRecDepth 100000 in
theorem wM_track_176 {p : Program} {l : Launch} {e : Env} {s : State} {m : MethodId} {args : Array Value} {below : List Frame} {meth : Method} {c : Code} {g : gT} {q : Nat} {ad : Nat → Nat} {X : va_W} {rv : Option Value} {iv' : Nat → Int32} {av' : Nat → Nat → Int32} (C : mCx p m c cM_track 8 s args g "MidiDeskModel") (hr : meth.sig.returnType = none) (hlk : meth.locks = false) (hrv : rv = none) {K7 : (Nat → Int32) → (Nat → Nat → Int32) → Int32 → Int32 → Int64 → Int32 → Option ((Nat → Int32) × (Nat → Nat → Int32))} (hK7 : ∀ (iv : Nat → Int32) (av : Nat → Nat → Int32) (x1 : Int32) (x2 : Int32) (y3 : Int64) (x5 : Int32) (H : Heap) (locs : List Loc) (ls : Array Slot), lv_has ls 8 [(0, .ref q), (1, .int x1), (2, .int x2), (3, .long y3), (5, .int x5)] → mWd g (mA g q ad X s.heap.size) s.heap q ad X iv av H locs → K7 iv av x1 x2 y3 x5 = some (iv', av') → mG p l e rM_track s m args below meth c g q ad X rv iv' av' H locs 0 0 (F0 m 7 ls [])) (iv : Nat → Int32) (av : Nat → Nat → Int32) (x1 : Int32) (x2 : Int32) (y3 : Int64) (x5 : Int32) (H : Heap) (locs : List Loc) (ls : Array Slot) (hl : lv_has ls 8 [(0, .ref q), (1, .int x1), (2, .int x2), (3, .long y3), (5, .int x5)]) (hw : mWd g (mA g q ad X s.heap.size) s.heap q ad X iv av H locs) (hf : jM_track_176 K7 iv av x1 x2 y3 x5 = some (iv', av')) : mG p l e rM_track s m args below meth c g q ad X rv iv' av' H locs 0 0 (F0 m 176 ls []) := by
  unfold jM_track_176 at hf
  refine lv_goto (tgt := 7) C.1.1 C.1.2.1 dM_track_176 (by decide) ?_
  exact hK7 iv av x1 x2 y3 x5 _ _ ls (lv_sub hl [0, 1, 2, 3, 4] rfl) hw hf
set_option maxHeartbeats 4000000 in
set_option maxRecDepth 100000 in
theorem wM_track_155 {p : Program} {l : Launch} {e : Env} {s : State} {m : MethodId} {args : Array Value} {below : List Frame} {meth : Method} {c : Code} {g : gT} {q : Nat} {ad : Nat → Nat} {X : va_W} {rv : Option Value} {iv' : Nat → Int32} {av' : Nat → Nat → Int32} (C : mCx p m c cM_track 8 s args g "MidiDeskModel") (hr : meth.sig.returnType = none) (hlk : meth.locks = false) (hrv : rv = none) {K7 : (Nat → Int32) → (Nat → Nat → Int32) → Int32 → Int32 → Int64 → Int32 → Option ((Nat → Int32) × (Nat → Nat → Int32))} (hK7 : ∀ (iv : Nat → Int32) (av : Nat → Nat → Int32) (x1 : Int32) (x2 : Int32) (y3 : Int64) (x5 : Int32) (H : Heap) (locs : List Loc) (ls : Array Slot), lv_has ls 8 [(0, .ref q), (1, .int x1), (2, .int x2), (3, .long y3), (5, .int x5)] → mWd g (mA g q ad X s.heap.size) s.heap q ad X iv av H locs → K7 iv av x1 x2 y3 x5 = some (iv', av') → mG p l e rM_track s m args below meth c g q ad X rv iv' av' H locs 0 0 (F0 m 7 ls [])) (iv : Nat → Int32) (av : Nat → Nat → Int32) (x1 : Int32) (y3 : Int64) (x5 : Int32) (x6 : Int32) (x7 : Int32) (s0 : Int32) (H : Heap) (locs : List Loc) (ls : Array Slot) (hl : lv_has ls 8 [(0, .ref q), (1, .int x1), (3, .long y3), (5, .int x5), (6, .int x6), (7, .int x7)]) (hw : mWd g (mA g q ad X s.heap.size) s.heap q ad X iv av H locs) (hf : jM_track_155 K7 iv av x1 y3 x5 x6 x7 s0 = some (iv', av')) : mG p l e rM_track s m args below meth c g q ad X rv iv' av' H locs 0 0 (F0 m 155 ls [.int s0]) := by
  unfold jM_track_155 at hf
  refine lv_istore_n (lv' := [(2, .int s0), (0, .ref q), (1, .int x1), (3, .long y3), (5, .int x5), (6, .int x6), (7, .int x7)]) C.1.1 C.1.2.1 dM_track_155 rfl hl (by decide) rfl (fun ls hl => ?_)
  refine lv_aload_n C.1.1 C.1.2.1 dM_track_156 rfl (lv_at hl 1 rfl) ?_
  refine mg_fault C hw dM_track_157 ?_
  refine lv_if_ne (tgt := 176) C.1.1 C.1.2.1 dM_track_160 (by decide) (fun c1 => ?_) (fun c1 => ?_)
  · have hf := ts_f hf c1
    exact wM_track_176 C hr hlk hrv hK7 iv av x1 s0 y3 x5 _ _ ls (lv_sub hl [1, 2, 0, 3, 4] rfl) hw hf
  · have hf := ts_t hf c1
    refine lv_aload_n C.1.1 C.1.2.1 dM_track_163 rfl (lv_at hl 1 rfl) ?_
    refine lv_iload_n C.1.1 C.1.2.1 dM_track_164 rfl (lv_at hl 2 rfl) ?_
    refine lv_lload_n C.1.1 C.1.2.1 dM_track_165 rfl (lv_at hl 3 rfl) ?_
    refine lv_l2i C.1.1 C.1.2.1 dM_track_166 rfl ?_
    refine lv_iload C.1.1 C.1.2.1 dM_track_167 (lv_at hl 6 rfl) ?_
    refine lv_iload C.1.1 C.1.2.1 dM_track_169 (lv_at hl 5 rfl) ?_
    obtain ⟨⟨r2, iv2, av2⟩, g2, hf⟩ := ts_b hf
    dsimp only at hf
    refine m_callV (rest := []) (As := [.int x1, .int y3.toInt32, .int x7, .int x6]) (rv := (some (.int r2))) C hl.1 hw (cM_eventIn_met g2) (callW_of (rm := rM_eventIn) 4 C.1.2.2.2.2 gw_832 gw_834 gw_31 gw_55 gw_835 kM_eventIn ⟨Nat.le_of_ble_eq_true rfl, Nat.le_of_ble_eq_true rfl⟩) rfl rfl (Nat.le_of_ble_eq_true rfl) dM_track_171 ⟨Nat.le_of_ble_eq_true rfl, Nat.le_of_ble_eq_true rfl⟩ (fun H locs hw => ?_)
    refine W.eq (g2 := F0 m 174 ls [.int r2]) rfl ?_
    refine lv_istore (lv' := [(5, .int r2), (2, .int s0), (0, .ref q), (1, .int x1), (3, .long y3), (6, .int x6), (7, .int x7)]) C.1.1 C.1.2.1 dM_track_174 hl (by decide) rfl (fun ls hl => ?_)
    exact wM_track_176 C hr hlk hrv hK7 iv2 av2 x1 s0 y3 r2 _ _ ls (lv_sub hl [2, 3, 1, 4, 0] rfl) hw hf
set_option maxHeartbeats 4000000 in
set_option maxRecDepth 100000 in
theorem wM_track_141 {p : Program} {l : Launch} {e : Env} {s : State} {m : MethodId} {args : Array Value} {below : List Frame} {meth : Method} {c : Code} {g : gT} {q : Nat} {ad : Nat → Nat} {X : va_W} {rv : Option Value} {iv' : Nat → Int32} {av' : Nat → Nat → Int32} (C : mCx p m c cM_track 8 s args g "MidiDeskModel") (hr : meth.sig.returnType = none) (hlk : meth.locks = false) (hrv : rv = none) {K7 : (Nat → Int32) → (Nat → Nat → Int32) → Int32 → Int32 → Int64 → Int32 → Option ((Nat → Int32) × (Nat → Nat → Int32))} (hK7 : ∀ (iv : Nat → Int32) (av : Nat → Nat → Int32) (x1 : Int32) (x2 : Int32) (y3 : Int64) (x5 : Int32) (H : Heap) (locs : List Loc) (ls : Array Slot), lv_has ls 8 [(0, .ref q), (1, .int x1), (2, .int x2), (3, .long y3), (5, .int x5)] → mWd g (mA g q ad X s.heap.size) s.heap q ad X iv av H locs → K7 iv av x1 x2 y3 x5 = some (iv', av') → mG p l e rM_track s m args below meth c g q ad X rv iv' av' H locs 0 0 (F0 m 7 ls [])) (iv : Nat → Int32) (av : Nat → Nat → Int32) (x1 : Int32) (y3 : Int64) (x5 : Int32) (x6 : Int32) (x7 : Int32) (H : Heap) (locs : List Loc) (ls : Array Slot) (hl : lv_has ls 8 [(0, .ref q), (1, .int x1), (3, .long y3), (5, .int x5), (6, .int x6), (7, .int x7)]) (hw : mWd g (mA g q ad X s.heap.size) s.heap q ad X iv av H locs) (hf : jM_track_141 K7 iv av x1 y3 x5 x6 x7 = some (iv', av')) : mG p l e rM_track s m args below meth c g q ad X rv iv' av' H locs 0 0 (F0 m 141 ls []) := by
  unfold jM_track_141 at hf
  refine lv_iload C.1.1 C.1.2.1 dM_track_141 (lv_at hl 5 rfl) ?_
  refine lv_sipush (v := (240 : Int32)) C.1.1 C.1.2.1 dM_track_143 (by decide) ?_
  refine lv_icmp_ge (tgt := 154) C.1.1 C.1.2.1 dM_track_146 (by decide) (fun c1 => ?_) (fun c1 => ?_)
  · have hf := ts_t hf c1
    refine lv_iconst (v := (0 : Int32)) C.1.1 C.1.2.1 dM_track_154 (by decide) ?_
    exact wM_track_155 C hr hlk hrv hK7 iv av x1 y3 x5 x6 x7 (0 : Int32) _ _ ls (lv_sub hl [0, 1, 2, 3, 4, 5] rfl) hw hf
  · have hf := ts_f hf c1
    refine lv_iload C.1.1 C.1.2.1 dM_track_149 (lv_at hl 5 rfl) ?_
    refine lv_goto (tgt := 155) C.1.1 C.1.2.1 dM_track_151 (by decide) ?_
    exact wM_track_155 C hr hlk hrv hK7 iv av x1 y3 x5 x6 x7 x7 _ _ ls (lv_sub hl [0, 1, 2, 3, 4, 5] rfl) hw hf
set_option maxHeartbeats 4000000 in
set_option maxRecDepth 100000 in
theorem wM_track_124 {p : Program} {l : Launch} {e : Env} {s : State} {m : MethodId} {args : Array Value} {below : List Frame} {meth : Method} {c : Code} {g : gT} {q : Nat} {ad : Nat → Nat} {X : va_W} {rv : Option Value} {iv' : Nat → Int32} {av' : Nat → Nat → Int32} (C : mCx p m c cM_track 8 s args g "MidiDeskModel") (hr : meth.sig.returnType = none) (hlk : meth.locks = false) (hrv : rv = none) {K7 : (Nat → Int32) → (Nat → Nat → Int32) → Int32 → Int32 → Int64 → Int32 → Option ((Nat → Int32) × (Nat → Nat → Int32))} (hK7 : ∀ (iv : Nat → Int32) (av : Nat → Nat → Int32) (x1 : Int32) (x2 : Int32) (y3 : Int64) (x5 : Int32) (H : Heap) (locs : List Loc) (ls : Array Slot), lv_has ls 8 [(0, .ref q), (1, .int x1), (2, .int x2), (3, .long y3), (5, .int x5)] → mWd g (mA g q ad X s.heap.size) s.heap q ad X iv av H locs → K7 iv av x1 x2 y3 x5 = some (iv', av') → mG p l e rM_track s m args below meth c g q ad X rv iv' av' H locs 0 0 (F0 m 7 ls [])) (iv : Nat → Int32) (av : Nat → Nat → Int32) (x1 : Int32) (x2 : Int32) (y3 : Int64) (x5 : Int32) (x6 : Int32) (x7 : Int32) (H : Heap) (locs : List Loc) (ls : Array Slot) (hl : lv_has ls 8 [(0, .ref q), (1, .int x1), (2, .int x2), (3, .long y3), (5, .int x5), (6, .int x6), (7, .int x7)]) (hw : mWd g (mA g q ad X s.heap.size) s.heap q ad X iv av H locs) (hf : jM_track_124 K7 iv av x1 x2 y3 x5 x6 x7 = some (iv', av')) : mG p l e rM_track s m args below meth c g q ad X rv iv' av' H locs 0 0 (F0 m 124 ls []) := by
  unfold jM_track_124 at hf
  refine lv_iload C.1.1 C.1.2.1 dM_track_124 (lv_at hl 6 rfl) ?_
  refine lv_sipush (v := (128 : Int32)) C.1.1 C.1.2.1 dM_track_126 (by decide) ?_
  refine lv_icmp_ge (tgt := 141) C.1.1 C.1.2.1 dM_track_129 (by decide) (fun c1 => ?_) (fun c1 => ?_)
  · have hf := ts_t hf c1
    exact wM_track_141 C hr hlk hrv hK7 iv av x1 y3 x5 x6 x7 _ _ ls (lv_sub hl [0, 1, 3, 4, 5, 6] rfl) hw hf
  · have hf := ts_f hf c1
    refine lv_aload_n C.1.1 C.1.2.1 dM_track_132 rfl (lv_at hl 0 rfl) ?_
    refine lv_iload C.1.1 C.1.2.1 dM_track_133 (lv_at hl 5 rfl) ?_
    refine mp_at C hw dM_track_135 (fun H locs hw => ?_)
    refine lv_iload_n C.1.1 C.1.2.1 dM_track_138 rfl (lv_at hl 2 rfl) ?_
    refine lv_istore (lv' := [(7, .int x2), (0, .ref q), (1, .int x1), (2, .int x2), (3, .long y3), (5, .int x5), (6, .int x6)]) C.1.1 C.1.2.1 dM_track_139 hl (by decide) rfl (fun ls hl => ?_)
    exact wM_track_141 C hr hlk hrv hK7 (upd iv 2 x6) av x1 y3 x5 x6 x2 _ _ ls (lv_sub hl [1, 2, 4, 5, 6, 0] rfl) hw hf
set_option maxHeartbeats 4000000 in
set_option maxRecDepth 100000 in
theorem wM_track_117 {p : Program} {l : Launch} {e : Env} {s : State} {m : MethodId} {args : Array Value} {below : List Frame} {meth : Method} {c : Code} {g : gT} {q : Nat} {ad : Nat → Nat} {X : va_W} {rv : Option Value} {iv' : Nat → Int32} {av' : Nat → Nat → Int32} (C : mCx p m c cM_track 8 s args g "MidiDeskModel") (hr : meth.sig.returnType = none) (hlk : meth.locks = false) (hrv : rv = none) {K7 : (Nat → Int32) → (Nat → Nat → Int32) → Int32 → Int32 → Int64 → Int32 → Option ((Nat → Int32) × (Nat → Nat → Int32))} (hK7 : ∀ (iv : Nat → Int32) (av : Nat → Nat → Int32) (x1 : Int32) (x2 : Int32) (y3 : Int64) (x5 : Int32) (H : Heap) (locs : List Loc) (ls : Array Slot), lv_has ls 8 [(0, .ref q), (1, .int x1), (2, .int x2), (3, .long y3), (5, .int x5)] → mWd g (mA g q ad X s.heap.size) s.heap q ad X iv av H locs → K7 iv av x1 x2 y3 x5 = some (iv', av') → mG p l e rM_track s m args below meth c g q ad X rv iv' av' H locs 0 0 (F0 m 7 ls [])) (iv : Nat → Int32) (av : Nat → Nat → Int32) (x1 : Int32) (x2 : Int32) (y3 : Int64) (x5 : Int32) (x6 : Int32) (x7 : Int32) (H : Heap) (locs : List Loc) (ls : Array Slot) (hl : lv_has ls 8 [(0, .ref q), (1, .int x1), (2, .int x2), (3, .long y3), (5, .int x5), (6, .int x6), (7, .int x7)]) (hw : mWd g (mA g q ad X s.heap.size) s.heap q ad X iv av H locs) (hf : jM_track_117 K7 iv av x1 x2 y3 x5 x6 x7 = some (iv', av')) : mG p l e rM_track s m args below meth c g q ad X rv iv' av' H locs 0 0 (F0 m 117 ls []) := by
  unfold jM_track_117 at hf
  refine lv_aload_n C.1.1 C.1.2.1 dM_track_117 rfl (lv_at hl 0 rfl) ?_
  refine lv_iconst (v := (5 : Int32)) C.1.1 C.1.2.1 dM_track_118 (by decide) ?_
  refine lv_iload C.1.1 C.1.2.1 dM_track_119 (lv_at hl 5 rfl) ?_
  obtain ⟨⟨iv1, av1⟩, g1, hf⟩ := ts_b hf
  dsimp only at hf
  refine m_callV (rest := []) (As := [.int (5 : Int32), .int x6]) (rv := none) C hl.1 hw (cM_fail_met g1) (callW_of (rm := rM_fail) 2 C.1.2.2.2.2 gw_812 gw_814 gw_28 gw_55 gw_815 kM_fail ⟨Nat.le_of_ble_eq_true rfl, Nat.le_of_ble_eq_true rfl⟩) rfl rfl (Nat.le_of_ble_eq_true rfl) dM_track_121 ⟨Nat.le_of_ble_eq_true rfl, Nat.le_of_ble_eq_true rfl⟩ (fun H locs hw => ?_)
  refine W.eq (g2 := F0 m 124 ls []) rfl ?_
  exact wM_track_124 C hr hlk hrv hK7 iv1 av1 x1 x2 y3 x5 x6 x7 _ _ ls (lv_sub hl [0, 1, 2, 3, 4, 5, 6] rfl) hw hf
set_option maxHeartbeats 4000000 in
set_option maxRecDepth 100000 in
theorem wM_track_101 {p : Program} {l : Launch} {e : Env} {s : State} {m : MethodId} {args : Array Value} {below : List Frame} {meth : Method} {c : Code} {g : gT} {q : Nat} {ad : Nat → Nat} {X : va_W} {rv : Option Value} {iv' : Nat → Int32} {av' : Nat → Nat → Int32} (C : mCx p m c cM_track 8 s args g "MidiDeskModel") (hr : meth.sig.returnType = none) (hlk : meth.locks = false) (hrv : rv = none) {K7 : (Nat → Int32) → (Nat → Nat → Int32) → Int32 → Int32 → Int64 → Int32 → Option ((Nat → Int32) × (Nat → Nat → Int32))} (hK7 : ∀ (iv : Nat → Int32) (av : Nat → Nat → Int32) (x1 : Int32) (x2 : Int32) (y3 : Int64) (x5 : Int32) (H : Heap) (locs : List Loc) (ls : Array Slot), lv_has ls 8 [(0, .ref q), (1, .int x1), (2, .int x2), (3, .long y3), (5, .int x5)] → mWd g (mA g q ad X s.heap.size) s.heap q ad X iv av H locs → K7 iv av x1 x2 y3 x5 = some (iv', av') → mG p l e rM_track s m args below meth c g q ad X rv iv' av' H locs 0 0 (F0 m 7 ls [])) (iv : Nat → Int32) (av : Nat → Nat → Int32) (x1 : Int32) (x2 : Int32) (y3 : Int64) (x5 : Int32) (x6 : Int32) (x7 : Int32) (H : Heap) (locs : List Loc) (ls : Array Slot) (hl : lv_has ls 8 [(0, .ref q), (1, .int x1), (2, .int x2), (3, .long y3), (5, .int x5), (6, .int x6), (7, .int x7)]) (hw : mWd g (mA g q ad X s.heap.size) s.heap q ad X iv av H locs) (hf : jM_track_101 K7 iv av x1 x2 y3 x5 x6 x7 = some (iv', av')) : mG p l e rM_track s m args below meth c g q ad X rv iv' av' H locs 0 0 (F0 m 101 ls []) := by
  unfold jM_track_101 at hf
  refine lv_iload C.1.1 C.1.2.1 dM_track_101 (lv_at hl 6 rfl) ?_
  refine lv_sipush (v := (247 : Int32)) C.1.1 C.1.2.1 dM_track_103 (by decide) ?_
  refine lv_icmp_le (tgt := 124) C.1.1 C.1.2.1 dM_track_106 (by decide) (fun c1 => ?_) (fun c1 => ?_)
  · have hf := ts_t hf c1
    exact wM_track_124 C hr hlk hrv hK7 iv av x1 x2 y3 x5 x6 x7 _ _ ls (lv_sub hl [0, 1, 2, 3, 4, 5, 6] rfl) hw hf
  · have hf := ts_f hf c1
    refine lv_iload C.1.1 C.1.2.1 dM_track_109 (lv_at hl 6 rfl) ?_
    refine lv_sipush (v := (255 : Int32)) C.1.1 C.1.2.1 dM_track_111 (by decide) ?_
    refine lv_icmp_ge (tgt := 124) C.1.1 C.1.2.1 dM_track_114 (by decide) (fun c2 => ?_) (fun c2 => ?_)
    · have hf := ts_t hf c2
      exact wM_track_124 C hr hlk hrv hK7 iv av x1 x2 y3 x5 x6 x7 _ _ ls (lv_sub hl [0, 1, 2, 3, 4, 5, 6] rfl) hw hf
    · have hf := ts_f hf c2
      exact wM_track_117 C hr hlk hrv hK7 iv av x1 x2 y3 x5 x6 x7 _ _ ls (lv_sub hl [0, 1, 2, 3, 4, 5, 6] rfl) hw hf
set_option maxHeartbeats 4000000 in
set_option maxRecDepth 100000 in
theorem wM_track_85 {p : Program} {l : Launch} {e : Env} {s : State} {m : MethodId} {args : Array Value} {below : List Frame} {meth : Method} {c : Code} {g : gT} {q : Nat} {ad : Nat → Nat} {X : va_W} {rv : Option Value} {iv' : Nat → Int32} {av' : Nat → Nat → Int32} (C : mCx p m c cM_track 8 s args g "MidiDeskModel") (hr : meth.sig.returnType = none) (hlk : meth.locks = false) (hrv : rv = none) {K7 : (Nat → Int32) → (Nat → Nat → Int32) → Int32 → Int32 → Int64 → Int32 → Option ((Nat → Int32) × (Nat → Nat → Int32))} (hK7 : ∀ (iv : Nat → Int32) (av : Nat → Nat → Int32) (x1 : Int32) (x2 : Int32) (y3 : Int64) (x5 : Int32) (H : Heap) (locs : List Loc) (ls : Array Slot), lv_has ls 8 [(0, .ref q), (1, .int x1), (2, .int x2), (3, .long y3), (5, .int x5)] → mWd g (mA g q ad X s.heap.size) s.heap q ad X iv av H locs → K7 iv av x1 x2 y3 x5 = some (iv', av') → mG p l e rM_track s m args below meth c g q ad X rv iv' av' H locs 0 0 (F0 m 7 ls [])) (iv : Nat → Int32) (av : Nat → Nat → Int32) (x1 : Int32) (x2 : Int32) (y3 : Int64) (x5 : Int32) (x6 : Int32) (x7 : Int32) (H : Heap) (locs : List Loc) (ls : Array Slot) (hl : lv_has ls 8 [(0, .ref q), (1, .int x1), (2, .int x2), (3, .long y3), (5, .int x5), (6, .int x6), (7, .int x7)]) (hw : mWd g (mA g q ad X s.heap.size) s.heap q ad X iv av H locs) (hf : jM_track_85 K7 iv av x1 x2 y3 x5 x6 x7 = some (iv', av')) : mG p l e rM_track s m args below meth c g q ad X rv iv' av' H locs 0 0 (F0 m 85 ls []) := by
  unfold jM_track_85 at hf
  refine lv_iload C.1.1 C.1.2.1 dM_track_85 (lv_at hl 6 rfl) ?_
  refine lv_sipush (v := (240 : Int32)) C.1.1 C.1.2.1 dM_track_87 (by decide) ?_
  refine lv_icmp_le (tgt := 101) C.1.1 C.1.2.1 dM_track_90 (by decide) (fun c1 => ?_) (fun c1 => ?_)
  · have hf := ts_t hf c1
    exact wM_track_101 C hr hlk hrv hK7 iv av x1 x2 y3 x5 x6 x7 _ _ ls (lv_sub hl [0, 1, 2, 3, 4, 5, 6] rfl) hw hf
  · have hf := ts_f hf c1
    refine lv_iload C.1.1 C.1.2.1 dM_track_93 (lv_at hl 6 rfl) ?_
    refine lv_sipush (v := (247 : Int32)) C.1.1 C.1.2.1 dM_track_95 (by decide) ?_
    refine lv_icmp_lt (tgt := 117) C.1.1 C.1.2.1 dM_track_98 (by decide) (fun c2 => ?_) (fun c2 => ?_)
    · have hf := ts_t hf c2
      exact wM_track_117 C hr hlk hrv hK7 iv av x1 x2 y3 x5 x6 x7 _ _ ls (lv_sub hl [0, 1, 2, 3, 4, 5, 6] rfl) hw hf
    · have hf := ts_f hf c2
      exact wM_track_101 C hr hlk hrv hK7 iv av x1 x2 y3 x5 x6 x7 _ _ ls (lv_sub hl [0, 1, 2, 3, 4, 5, 6] rfl) hw hf
set_option maxHeartbeats 4000000 in
set_option maxRecDepth 100000 in
theorem wM_track_49 {p : Program} {l : Launch} {e : Env} {s : State} {m : MethodId} {args : Array Value} {below : List Frame} {meth : Method} {c : Code} {g : gT} {q : Nat} {ad : Nat → Nat} {X : va_W} {rv : Option Value} {iv' : Nat → Int32} {av' : Nat → Nat → Int32} (C : mCx p m c cM_track 8 s args g "MidiDeskModel") (hr : meth.sig.returnType = none) (hlk : meth.locks = false) (hrv : rv = none) {K7 : (Nat → Int32) → (Nat → Nat → Int32) → Int32 → Int32 → Int64 → Int32 → Option ((Nat → Int32) × (Nat → Nat → Int32))} (hK7 : ∀ (iv : Nat → Int32) (av : Nat → Nat → Int32) (x1 : Int32) (x2 : Int32) (y3 : Int64) (x5 : Int32) (H : Heap) (locs : List Loc) (ls : Array Slot), lv_has ls 8 [(0, .ref q), (1, .int x1), (2, .int x2), (3, .long y3), (5, .int x5)] → mWd g (mA g q ad X s.heap.size) s.heap q ad X iv av H locs → K7 iv av x1 x2 y3 x5 = some (iv', av') → mG p l e rM_track s m args below meth c g q ad X rv iv' av' H locs 0 0 (F0 m 7 ls [])) (iv : Nat → Int32) (av : Nat → Nat → Int32) (x1 : Int32) (x2 : Int32) (y3 : Int64) (x5 : Int32) (H : Heap) (locs : List Loc) (ls : Array Slot) (hl : lv_has ls 8 [(0, .ref q), (1, .int x1), (2, .int x2), (3, .long y3), (5, .int x5)]) (hw : mWd g (mA g q ad X s.heap.size) s.heap q ad X iv av H locs) (hf : jM_track_49 K7 iv av x1 x2 y3 x5 = some (iv', av')) : mG p l e rM_track s m args below meth c g q ad X rv iv' av' H locs 0 0 (F0 m 49 ls []) := by
  unfold jM_track_49 at hf
  refine lv_aload_n C.1.1 C.1.2.1 dM_track_49 rfl (lv_at hl 0 rfl) ?_
  refine mg_at C hw dM_track_50 ?_
  refine lv_istore (lv' := [(6, .int (iv 2)), (0, .ref q), (1, .int x1), (2, .int x2), (3, .long y3), (5, .int x5)]) C.1.1 C.1.2.1 dM_track_53 hl (by decide) rfl (fun ls hl => ?_)
  refine lv_aload_n C.1.1 C.1.2.1 dM_track_55 rfl (lv_at hl 1 rfl) ?_
  refine lv_iconst (v := (1 : Int32)) C.1.1 C.1.2.1 dM_track_56 (by decide) ?_
  obtain ⟨⟨r1, iv1, av1⟩, g1, hf⟩ := ts_b hf
  dsimp only at hf
  refine m_callV (rest := []) (As := [.int (1 : Int32)]) (rv := (some (.long r1))) C hl.1 hw (cM_taken_met g1) (callW_of (rm := rM_taken) 1 C.1.2.2.2.2 gw_808 gw_810 gw_27 gw_55 gw_811 kM_taken ⟨Nat.le_of_ble_eq_true rfl, Nat.le_of_ble_eq_true rfl⟩) rfl rfl (Nat.le_of_ble_eq_true rfl) dM_track_57 ⟨Nat.le_of_ble_eq_true rfl, Nat.le_of_ble_eq_true rfl⟩ (fun H locs hw => ?_)
  refine W.eq (g2 := F0 m 60 ls [.long r1]) rfl ?_
  refine lv_l2i C.1.1 C.1.2.1 dM_track_60 rfl ?_
  refine lv_istore (lv' := [(7, .int r1.toInt32), (6, .int (iv 2)), (0, .ref q), (1, .int x1), (2, .int x2), (3, .long y3), (5, .int x5)]) C.1.1 C.1.2.1 dM_track_61 hl (by decide) rfl (fun ls hl => ?_)
  refine lv_aload_n C.1.1 C.1.2.1 dM_track_63 rfl (lv_at hl 2 rfl) ?_
  refine mg_fault C hw dM_track_64 ?_
  refine lv_if_le (tgt := 73) C.1.1 C.1.2.1 dM_track_67 (by decide) (fun c2 => ?_) (fun c2 => ?_)
  · have hf := ts_t hf c2
    refine lv_iload C.1.1 C.1.2.1 dM_track_73 (lv_at hl 0 rfl) ?_
    refine lv_sipush (v := (128 : Int32)) C.1.1 C.1.2.1 dM_track_75 (by decide) ?_
    refine lv_icmp_ge (tgt := 85) C.1.1 C.1.2.1 dM_track_78 (by decide) (fun c3 => ?_) (fun c3 => ?_)
    · have hf := ts_t hf c3
      exact wM_track_85 C hr hlk hrv hK7 iv1 av1 x1 x2 y3 x5 (iv 2) r1.toInt32 _ _ ls (lv_sub hl [2, 3, 4, 5, 6, 1, 0] rfl) hw hf
    · have hf := ts_f hf c3
      refine lv_iload_n C.1.1 C.1.2.1 dM_track_81 rfl (lv_at hl 4 rfl) ?_
      refine lv_if_eq (tgt := 117) C.1.1 C.1.2.1 dM_track_82 (by decide) (fun c4 => ?_) (fun c4 => ?_)
      · have hf := ts_t hf c4
        exact wM_track_117 C hr hlk hrv hK7 iv1 av1 x1 x2 y3 x5 (iv 2) r1.toInt32 _ _ ls (lv_sub hl [2, 3, 4, 5, 6, 1, 0] rfl) hw hf
      · have hf := ts_f hf c4
        exact wM_track_85 C hr hlk hrv hK7 iv1 av1 x1 x2 y3 x5 (iv 2) r1.toInt32 _ _ ls (lv_sub hl [2, 3, 4, 5, 6, 1, 0] rfl) hw hf
  · have hf := ts_f hf c2
    refine lv_goto (tgt := 7) C.1.1 C.1.2.1 dM_track_70 (by decide) ?_
    exact hK7 iv1 av1 x1 x2 y3 x5 _ _ ls (lv_sub hl [2, 3, 4, 5, 6] rfl) hw hf
set_option maxHeartbeats 4000000 in
set_option maxRecDepth 100000 in
theorem wM_track_7 {p : Program} {l : Launch} {e : Env} {s : State} {m : MethodId} {args : Array Value} {below : List Frame} {meth : Method} {c : Code} {g : gT} {q : Nat} {ad : Nat → Nat} {X : va_W} {rv : Option Value} {iv' : Nat → Int32} {av' : Nat → Nat → Int32} (C : mCx p m c cM_track 8 s args g "MidiDeskModel") (hr : meth.sig.returnType = none) (hlk : meth.locks = false) (hrv : rv = none) (k : Nat) : ∀ (iv : Nat → Int32) (av : Nat → Nat → Int32) (x1 : Int32) (x2 : Int32) (y3 : Int64) (x5 : Int32) (H : Heap) (locs : List Loc) (ls : Array Slot), lv_has ls 8 [(0, .ref q), (1, .int x1), (2, .int x2), (3, .long y3), (5, .int x5)] → mWd g (mA g q ad X s.heap.size) s.heap q ad X iv av H locs → lM_track_7 k iv av x1 x2 y3 x5 = some (iv', av') → mG p l e rM_track s m args below meth c g q ad X rv iv' av' H locs 0 0 (F0 m 7 ls []) := by
  induction k with
  | zero => intro iv av x1 x2 y3 x5 H locs ls hl hw hf; cases hf
  | succ k ih =>
    intro iv av x1 x2 y3 x5 H locs ls hl hw hf
    have hf : (if x5 = 0 then (some (iv, av)) else (if (iv 4) = 0 then ((fM_number iv av).bind fun (r3, iv3, av3) => if (lg_cmp (y3 + r3.toInt64) (268435455 : Int64)) ≤ 0 then (jM_track_49 (lM_track_7 k) iv3 av3 x1 x2 (y3 + r3.toInt64) x5) else ((fM_fail iv3 av3 (11 : Int32) (iv 2)).bind fun (iv5, av5) => jM_track_49 (lM_track_7 k) iv5 av5 x1 x2 (y3 + r3.toInt64) x5)) else (some (iv, av)))) = some (iv', av') := hf
    refine lv_iload C.1.1 C.1.2.1 dM_track_7 (lv_at hl 4 rfl) ?_
    refine lv_if_eq (tgt := 179) C.1.1 C.1.2.1 dM_track_9 (by decide) (fun c1 => ?_) (fun c1 => ?_)
    · have hf := ts_t hf c1
      exact m_retv C hr hlk hrv hw hf ⟨Nat.le_of_ble_eq_true rfl, Nat.le_of_ble_eq_true rfl⟩ dM_track_179
    · have hf := ts_f hf c1
      refine lv_aload_n C.1.1 C.1.2.1 dM_track_12 rfl (lv_at hl 0 rfl) ?_
      refine mg_fault C hw dM_track_13 ?_
      refine lv_if_ne (tgt := 179) C.1.1 C.1.2.1 dM_track_16 (by decide) (fun c2 => ?_) (fun c2 => ?_)
      · have hf := ts_f hf c2
        exact m_retv C hr hlk hrv hw hf ⟨Nat.le_of_ble_eq_true rfl, Nat.le_of_ble_eq_true rfl⟩ dM_track_179
      · have hf := ts_t hf c2
        refine lv_aload_n C.1.1 C.1.2.1 dM_track_19 rfl (lv_at hl 0 rfl) ?_
        refine mg_at C hw dM_track_20 ?_
        refine lv_istore (lv' := [(6, .int (iv 2)), (0, .ref q), (1, .int x1), (2, .int x2), (3, .long y3), (5, .int x5)]) C.1.1 C.1.2.1 dM_track_23 hl (by decide) rfl (fun ls hl => ?_)
        refine lv_lload_n C.1.1 C.1.2.1 dM_track_25 rfl (lv_at hl 4 rfl) ?_
        refine lv_aload_n C.1.1 C.1.2.1 dM_track_26 rfl (lv_at hl 1 rfl) ?_
        obtain ⟨⟨r3, iv3, av3⟩, g3, hf⟩ := ts_b hf
        dsimp only at hf
        refine m_callV (rest := [.long y3]) (As := []) (rv := (some (.int r3))) C hl.1 hw (cM_number_met g3) (callW_of (rm := rM_number) 0 C.1.2.2.2.2 gw_827 gw_829 gw_30 gw_55 gw_830 kM_number ⟨Nat.le_of_ble_eq_true rfl, Nat.le_of_ble_eq_true rfl⟩) rfl rfl (Nat.le_of_ble_eq_true rfl) dM_track_27 ⟨Nat.le_of_ble_eq_true rfl, Nat.le_of_ble_eq_true rfl⟩ (fun H locs hw => ?_)
        refine W.eq (g2 := F0 m 30 ls [.int r3, .long y3]) rfl ?_
        refine lv_i2l C.1.1 C.1.2.1 dM_track_30 rfl ?_
        refine lv_ladd C.1.1 C.1.2.1 dM_track_31 ?_
        refine lv_lstore_n (lv' := [(3, .long (y3 + r3.toInt64)), (6, .int (iv 2)), (0, .ref q), (1, .int x1), (2, .int x2), (5, .int x5)]) C.1.1 C.1.2.1 dM_track_32 rfl hl (by decide) rfl (fun ls hl => ?_)
        refine lv_lload_n C.1.1 C.1.2.1 dM_track_33 rfl (lv_at hl 0 rfl) ?_
        refine lv_ldc2 C.1.1 C.1.2.1 C.1.2.2.2.1 (C.1.2.2.2.2 _ gw_831) dM_track_34 ?_
        refine W.lcmp C.1.1 C.1.2.1 dM_track_37 ?_
        refine lv_if_le (tgt := 49) C.1.1 C.1.2.1 dM_track_38 (by decide) (fun c4 => ?_) (fun c4 => ?_)
        · have hf := ts_t hf c4
          exact wM_track_49 C hr hlk hrv ih iv3 av3 x1 x2 (y3 + r3.toInt64) x5 _ _ ls (lv_sub hl [2, 3, 4, 0, 5] rfl) hw hf
        · have hf := ts_f hf c4
          refine lv_aload_n C.1.1 C.1.2.1 dM_track_41 rfl (lv_at hl 2 rfl) ?_
          refine lv_bipush (v := (11 : Int32)) C.1.1 C.1.2.1 dM_track_42 (by decide) ?_
          refine lv_iload C.1.1 C.1.2.1 dM_track_44 (lv_at hl 1 rfl) ?_
          obtain ⟨⟨iv5, av5⟩, g5, hf⟩ := ts_b hf
          dsimp only at hf
          refine m_callV (rest := []) (As := [.int (11 : Int32), .int (iv 2)]) (rv := none) C hl.1 hw (cM_fail_met g5) (callW_of (rm := rM_fail) 2 C.1.2.2.2.2 gw_812 gw_814 gw_28 gw_55 gw_815 kM_fail ⟨Nat.le_of_ble_eq_true rfl, Nat.le_of_ble_eq_true rfl⟩) rfl rfl (Nat.le_of_ble_eq_true rfl) dM_track_46 ⟨Nat.le_of_ble_eq_true rfl, Nat.le_of_ble_eq_true rfl⟩ (fun H locs hw => ?_)
          refine W.eq (g2 := F0 m 49 ls []) rfl ?_
          exact wM_track_49 C hr hlk hrv ih iv5 av5 x1 x2 (y3 + r3.toInt64) x5 _ _ ls (lv_sub hl [2, 3, 4, 0, 5] rfl) hw hf
set_option maxHeartbeats 4000000 in
set_option maxRecDepth 100000 in
theorem cM_track_met {l : Launch} {g : gT} {q : Nat} {ad : Nat → Nat} {X : va_W} {iv iv' : Nat → Int32} {av av' : Nat → Nat → Int32} {x1 : Int32} (hf : fM_track iv av x1 = some (iv', av')) : mMet l yM_track cM_track 8 none rM_track g q ad X iv av [.ref q, .int x1] none iv' av' := by
  refine m_entry (by decide) (Nat.le_of_ble_eq_true rfl) ?_
  intro p e s m args below meth c ls C hr hlk hnm hl hw
  have hrv : (none : Option Value) = none := rfl
  have C : mCx p m c cM_track 8 s args g "MidiDeskModel" := C
  have hl : lv_has ls 8 [(0, .ref q), (1, .int x1)] := hl
  unfold fM_track at hf
  refine lv_iconst (v := (0 : Int32)) C.1.1 C.1.2.1 dM_track_0 (by decide) ?_
  refine lv_istore_n (lv' := [(2, .int (0 : Int32)), (0, .ref q), (1, .int x1)]) C.1.1 C.1.2.1 dM_track_1 rfl hl (by decide) rfl (fun ls hl => ?_)
  refine lv_lconst (v := 0) C.1.1 C.1.2.1 dM_track_2 (by decide) ?_
  refine lv_lstore_n (lv' := [(3, .long (0 : Int64)), (2, .int (0 : Int32)), (0, .ref q), (1, .int x1)]) C.1.1 C.1.2.1 dM_track_3 rfl hl (by decide) rfl (fun ls hl => ?_)
  refine lv_iconst (v := (1 : Int32)) C.1.1 C.1.2.1 dM_track_4 (by decide) ?_
  refine lv_istore (lv' := [(5, .int (1 : Int32)), (3, .long (0 : Int64)), (2, .int (0 : Int32)), (0, .ref q), (1, .int x1)]) C.1.1 C.1.2.1 dM_track_5 hl (by decide) rfl (fun ls hl => ?_)
  exact wM_track_7 C hr hlk hrv FU iv av x1 (0 : Int32) (0 : Int64) (1 : Int32) _ _ ls (lv_sub hl [3, 4, 2, 1, 0] rfl) hw hf
abbrev cM_isBefore : ByteArray := prog_8_method_18_code
abbrev yM_isBefore : MethodName := ⟨"MidiDeskModel", "isBefore", "(II)Z"⟩
theorem kM_isBefore : yM_isBefore.cls ≠ "java/lang/invoke/MethodHandle" ∧ yM_isBefore.cls ≠ "java/lang/invoke/VarHandle" ∧ (parseMethodDescriptor yM_isBefore.desc).map (fun d => d.parameters.length) = some 2 := by decide +kernel
abbrev rM_isBefore : Room := { frames := 0, cells := 0, slots := 0, locals := 0 }
theorem dM_isBefore_0 : decode cM_isBefore 0 = .ok (.aload_n 0, 1) := by decide +kernel
theorem dM_isBefore_1 : decode cM_isBefore 1 = .ok (.getfield 13, 3) := by decide +kernel
theorem dM_isBefore_4 : decode cM_isBefore 4 = .ok (.iload_n 1, 1) := by decide +kernel
theorem dM_isBefore_5 : decode cM_isBefore 5 = .ok (.iaload, 1) := by decide +kernel
theorem dM_isBefore_6 : decode cM_isBefore 6 = .ok (.aload_n 0, 1) := by decide +kernel
theorem dM_isBefore_7 : decode cM_isBefore 7 = .ok (.getfield 13, 3) := by decide +kernel
theorem dM_isBefore_10 : decode cM_isBefore 10 = .ok (.iload_n 2, 1) := by decide +kernel
theorem dM_isBefore_11 : decode cM_isBefore 11 = .ok (.iaload, 1) := by decide +kernel
theorem dM_isBefore_12 : decode cM_isBefore 12 = .ok (.if_icmp .lt 33, 3) := by decide +kernel
theorem dM_isBefore_15 : decode cM_isBefore 15 = .ok (.aload_n 0, 1) := by decide +kernel
theorem dM_isBefore_16 : decode cM_isBefore 16 = .ok (.getfield 13, 3) := by decide +kernel
theorem dM_isBefore_19 : decode cM_isBefore 19 = .ok (.iload_n 1, 1) := by decide +kernel
theorem dM_isBefore_20 : decode cM_isBefore 20 = .ok (.iaload, 1) := by decide +kernel
theorem dM_isBefore_21 : decode cM_isBefore 21 = .ok (.aload_n 0, 1) := by decide +kernel
theorem dM_isBefore_22 : decode cM_isBefore 22 = .ok (.getfield 13, 3) := by decide +kernel
theorem dM_isBefore_25 : decode cM_isBefore 25 = .ok (.iload_n 2, 1) := by decide +kernel
theorem dM_isBefore_26 : decode cM_isBefore 26 = .ok (.iaload, 1) := by decide +kernel
theorem dM_isBefore_27 : decode cM_isBefore 27 = .ok (.if_icmp .ne 22, 3) := by decide +kernel
theorem dM_isBefore_30 : decode cM_isBefore 30 = .ok (.aload_n 0, 1) := by decide +kernel
theorem dM_isBefore_31 : decode cM_isBefore 31 = .ok (.getfield 16, 3) := by decide +kernel
theorem dM_isBefore_34 : decode cM_isBefore 34 = .ok (.iload_n 1, 1) := by decide +kernel
theorem dM_isBefore_35 : decode cM_isBefore 35 = .ok (.iaload, 1) := by decide +kernel
theorem dM_isBefore_36 : decode cM_isBefore 36 = .ok (.aload_n 0, 1) := by decide +kernel
theorem dM_isBefore_37 : decode cM_isBefore 37 = .ok (.getfield 16, 3) := by decide +kernel
theorem dM_isBefore_40 : decode cM_isBefore 40 = .ok (.iload_n 2, 1) := by decide +kernel
theorem dM_isBefore_41 : decode cM_isBefore 41 = .ok (.iaload, 1) := by decide +kernel
theorem dM_isBefore_42 : decode cM_isBefore 42 = .ok (.if_icmp .ge 7, 3) := by decide +kernel
theorem dM_isBefore_45 : decode cM_isBefore 45 = .ok (.iconst 1, 1) := by decide +kernel
theorem dM_isBefore_46 : decode cM_isBefore 46 = .ok (.goto 4, 3) := by decide +kernel
theorem dM_isBefore_49 : decode cM_isBefore 49 = .ok (.iconst 0, 1) := by decide +kernel
theorem dM_isBefore_50 : decode cM_isBefore 50 = .ok (.ireturn, 1) := by decide +kernel
def fM_isBefore (iv : Nat → Int32) (av : Nat → Nat → Int32) (x1 : Int32) (x2 : Int32) : Option (Int32 × (Nat → Int32) × (Nat → Nat → Int32)) := if x1 < 0 ∨ 1001 ≤ x1.toNatClampNeg then none else (if x2 < 0 ∨ 1001 ≤ x2.toNatClampNeg then none else (if (av 1 x1.toNatClampNeg) < (av 1 x2.toNatClampNeg) then (some ((1 : Int32), iv, av)) else (if x1 < 0 ∨ 1001 ≤ x1.toNatClampNeg then none else (if x2 < 0 ∨ 1001 ≤ x2.toNatClampNeg then none else (if (av 1 x1.toNatClampNeg) = (av 1 x2.toNatClampNeg) then (if x1 < 0 ∨ 1001 ≤ x1.toNatClampNeg then none else (if x2 < 0 ∨ 1001 ≤ x2.toNatClampNeg then none else (if (av 2 x2.toNatClampNeg) ≤ (av 2 x1.toNatClampNeg) then (some ((0 : Int32), iv, av)) else (some ((1 : Int32), iv, av))))) else (some ((0 : Int32), iv, av)))))))
set_option maxHeartbeats 4000000 in
set_option maxRecDepth 100000 in
theorem cM_isBefore_met {l : Launch} {g : gT} {q : Nat} {ad : Nat → Nat} {X : va_W} {iv iv' : Nat → Int32} {av av' : Nat → Nat → Int32} {x1 : Int32} {x2 : Int32} {r' : Int32} (hf : fM_isBefore iv av x1 x2 = some (r', iv', av')) : mMet l yM_isBefore cM_isBefore 3 (some .boolean) rM_isBefore g q ad X iv av [.ref q, .int x1, .int x2] (some (.int r')) iv' av' := by
  refine m_entry (by decide) (Nat.le_of_ble_eq_true rfl) ?_
  intro p e s m args below meth c ls C hr hlk hnm hl hw
  have hrv : ((some (.int r')) : Option Value) = (some (.int r')) := rfl
  have C : mCx p m c cM_isBefore 3 s args g "MidiDeskModel" := C
  have hl : lv_has ls 3 [(0, .ref q), (1, .int x1), (2, .int x2)] := hl
  unfold fM_isBefore at hf
  refine lv_aload_n C.1.1 C.1.2.1 dM_isBefore_0 rfl (lv_at hl 0 rfl) ?_
  refine mg_ticks C hw dM_isBefore_1 ?_
  refine lv_iload_n C.1.1 C.1.2.1 dM_isBefore_4 rfl (lv_at hl 1 rfl) ?_
  obtain ⟨h1, hf⟩ := ts_g hf
  refine ma_ticks C hw h1 dM_isBefore_5 ?_
  refine lv_aload_n C.1.1 C.1.2.1 dM_isBefore_6 rfl (lv_at hl 0 rfl) ?_
  refine mg_ticks C hw dM_isBefore_7 ?_
  refine lv_iload_n C.1.1 C.1.2.1 dM_isBefore_10 rfl (lv_at hl 2 rfl) ?_
  obtain ⟨h2, hf⟩ := ts_g hf
  refine ma_ticks C hw h2 dM_isBefore_11 ?_
  refine lv_icmp_lt (tgt := 45) C.1.1 C.1.2.1 dM_isBefore_12 (by decide) (fun c3 => ?_) (fun c3 => ?_)
  · have hf := ts_t hf c3
    refine lv_iconst (v := (1 : Int32)) C.1.1 C.1.2.1 dM_isBefore_45 (by decide) ?_
    refine lv_goto (tgt := 50) C.1.1 C.1.2.1 dM_isBefore_46 (by decide) ?_
    exact m_retz C hr hlk hrv hw (Or.inr rfl) hf ⟨Nat.le_of_ble_eq_true rfl, Nat.le_of_ble_eq_true rfl⟩ dM_isBefore_50
  · have hf := ts_f hf c3
    refine lv_aload_n C.1.1 C.1.2.1 dM_isBefore_15 rfl (lv_at hl 0 rfl) ?_
    refine mg_ticks C hw dM_isBefore_16 ?_
    refine lv_iload_n C.1.1 C.1.2.1 dM_isBefore_19 rfl (lv_at hl 1 rfl) ?_
    obtain ⟨h4, hf⟩ := ts_g hf
    refine ma_ticks C hw h4 dM_isBefore_20 ?_
    refine lv_aload_n C.1.1 C.1.2.1 dM_isBefore_21 rfl (lv_at hl 0 rfl) ?_
    refine mg_ticks C hw dM_isBefore_22 ?_
    refine lv_iload_n C.1.1 C.1.2.1 dM_isBefore_25 rfl (lv_at hl 2 rfl) ?_
    obtain ⟨h5, hf⟩ := ts_g hf
    refine ma_ticks C hw h5 dM_isBefore_26 ?_
    refine lv_icmp_ne (tgt := 49) C.1.1 C.1.2.1 dM_isBefore_27 (by decide) (fun c6 => ?_) (fun c6 => ?_)
    · have hf := ts_f hf c6
      refine lv_iconst (v := (0 : Int32)) C.1.1 C.1.2.1 dM_isBefore_49 (by decide) ?_
      exact m_retz C hr hlk hrv hw (Or.inl rfl) hf ⟨Nat.le_of_ble_eq_true rfl, Nat.le_of_ble_eq_true rfl⟩ dM_isBefore_50
    · have hf := ts_t hf c6
      refine lv_aload_n C.1.1 C.1.2.1 dM_isBefore_30 rfl (lv_at hl 0 rfl) ?_
      refine mg_trackOf C hw dM_isBefore_31 ?_
      refine lv_iload_n C.1.1 C.1.2.1 dM_isBefore_34 rfl (lv_at hl 1 rfl) ?_
      obtain ⟨h7, hf⟩ := ts_g hf
      refine ma_trackOf C hw h7 dM_isBefore_35 ?_
      refine lv_aload_n C.1.1 C.1.2.1 dM_isBefore_36 rfl (lv_at hl 0 rfl) ?_
      refine mg_trackOf C hw dM_isBefore_37 ?_
      refine lv_iload_n C.1.1 C.1.2.1 dM_isBefore_40 rfl (lv_at hl 2 rfl) ?_
      obtain ⟨h8, hf⟩ := ts_g hf
      refine ma_trackOf C hw h8 dM_isBefore_41 ?_
      refine lv_icmp_ge (tgt := 49) C.1.1 C.1.2.1 dM_isBefore_42 (by decide) (fun c9 => ?_) (fun c9 => ?_)
      · have hf := ts_t hf c9
        refine lv_iconst (v := (0 : Int32)) C.1.1 C.1.2.1 dM_isBefore_49 (by decide) ?_
        exact m_retz C hr hlk hrv hw (Or.inl rfl) hf ⟨Nat.le_of_ble_eq_true rfl, Nat.le_of_ble_eq_true rfl⟩ dM_isBefore_50
      · have hf := ts_f hf c9
        refine lv_iconst (v := (1 : Int32)) C.1.1 C.1.2.1 dM_isBefore_45 (by decide) ?_
        refine lv_goto (tgt := 50) C.1.1 C.1.2.1 dM_isBefore_46 (by decide) ?_
        exact m_retz C hr hlk hrv hw (Or.inr rfl) hf ⟨Nat.le_of_ble_eq_true rfl, Nat.le_of_ble_eq_true rfl⟩ dM_isBefore_50
abbrev cM_again : ByteArray := prog_8_method_19_code
abbrev yM_again : MethodName := ⟨"MidiDeskModel", "again", "()V"⟩
theorem kM_again : yM_again.cls ≠ "java/lang/invoke/MethodHandle" ∧ yM_again.cls ≠ "java/lang/invoke/VarHandle" ∧ (parseMethodDescriptor yM_again.desc).map (fun d => d.parameters.length) = some 0 := by decide +kernel
abbrev rM_again : Room := { frames := 1, cells := 0, slots := 0, locals := 22 }
theorem dM_again_0 : decode cM_again 0 = .ok (.iconst 1, 1) := by decide +kernel
theorem dM_again_1 : decode cM_again 1 = .ok (.istore_n 1, 1) := by decide +kernel
theorem dM_again_2 : decode cM_again 2 = .ok (.iload_n 1, 1) := by decide +kernel
theorem dM_again_3 : decode cM_again 3 = .ok (.aload_n 0, 1) := by decide +kernel
theorem dM_again_4 : decode cM_again 4 = .ok (.getfield 95, 3) := by decide +kernel
theorem dM_again_7 : decode cM_again 7 = .ok (.if_icmp .ge 65, 3) := by decide +kernel
theorem dM_again_10 : decode cM_again 10 = .ok (.aload_n 0, 1) := by decide +kernel
theorem dM_again_11 : decode cM_again 11 = .ok (.getfield 34, 3) := by decide +kernel
theorem dM_again_14 : decode cM_again 14 = .ok (.iload_n 1, 1) := by decide +kernel
theorem dM_again_15 : decode cM_again 15 = .ok (.iaload, 1) := by decide +kernel
theorem dM_again_16 : decode cM_again 16 = .ok (.istore_n 2, 1) := by decide +kernel
theorem dM_again_17 : decode cM_again 17 = .ok (.iload_n 1, 1) := by decide +kernel
theorem dM_again_18 : decode cM_again 18 = .ok (.istore_n 3, 1) := by decide +kernel
theorem dM_again_19 : decode cM_again 19 = .ok (.iload_n 3, 1) := by decide +kernel
theorem dM_again_20 : decode cM_again 20 = .ok (.ifCond .le 39, 3) := by decide +kernel
theorem dM_again_23 : decode cM_again 23 = .ok (.aload_n 0, 1) := by decide +kernel
theorem dM_again_24 : decode cM_again 24 = .ok (.iload_n 2, 1) := by decide +kernel
theorem dM_again_25 : decode cM_again 25 = .ok (.aload_n 0, 1) := by decide +kernel
theorem dM_again_26 : decode cM_again 26 = .ok (.getfield 34, 3) := by decide +kernel
theorem dM_again_29 : decode cM_again 29 = .ok (.iload_n 3, 1) := by decide +kernel
theorem dM_again_30 : decode cM_again 30 = .ok (.iconst 1, 1) := by decide +kernel
theorem dM_again_31 : decode cM_again 31 = .ok (.isub, 1) := by decide +kernel
theorem dM_again_32 : decode cM_again 32 = .ok (.iaload, 1) := by decide +kernel
theorem dM_again_33 : decode cM_again 33 = .ok (.invokevirtual 140, 3) := by decide +kernel
theorem dM_again_36 : decode cM_again 36 = .ok (.ifCond .eq 23, 3) := by decide +kernel
theorem dM_again_39 : decode cM_again 39 = .ok (.aload_n 0, 1) := by decide +kernel
theorem dM_again_40 : decode cM_again 40 = .ok (.getfield 34, 3) := by decide +kernel
theorem dM_again_43 : decode cM_again 43 = .ok (.iload_n 3, 1) := by decide +kernel
theorem dM_again_44 : decode cM_again 44 = .ok (.aload_n 0, 1) := by decide +kernel
theorem dM_again_45 : decode cM_again 45 = .ok (.getfield 34, 3) := by decide +kernel
theorem dM_again_48 : decode cM_again 48 = .ok (.iload_n 3, 1) := by decide +kernel
theorem dM_again_49 : decode cM_again 49 = .ok (.iconst 1, 1) := by decide +kernel
theorem dM_again_50 : decode cM_again 50 = .ok (.isub, 1) := by decide +kernel
theorem dM_again_51 : decode cM_again 51 = .ok (.iaload, 1) := by decide +kernel
theorem dM_again_52 : decode cM_again 52 = .ok (.iastore, 1) := by decide +kernel
theorem dM_again_53 : decode cM_again 53 = .ok (.iinc 3 (-1), 3) := by decide +kernel
theorem dM_again_56 : decode cM_again 56 = .ok (.goto (-37), 3) := by decide +kernel
theorem dM_again_59 : decode cM_again 59 = .ok (.aload_n 0, 1) := by decide +kernel
theorem dM_again_60 : decode cM_again 60 = .ok (.getfield 34, 3) := by decide +kernel
theorem dM_again_63 : decode cM_again 63 = .ok (.iload_n 3, 1) := by decide +kernel
theorem dM_again_64 : decode cM_again 64 = .ok (.iload_n 2, 1) := by decide +kernel
theorem dM_again_65 : decode cM_again 65 = .ok (.iastore, 1) := by decide +kernel
theorem dM_again_66 : decode cM_again 66 = .ok (.iinc 1 1, 3) := by decide +kernel
theorem dM_again_69 : decode cM_again 69 = .ok (.goto (-67), 3) := by decide +kernel
theorem dM_again_72 : decode cM_again 72 = .ok (.return_, 1) := by decide +kernel
def jM_again_59 (K2 : (Nat → Int32) → (Nat → Nat → Int32) → Int32 → Option ((Nat → Int32) × (Nat → Nat → Int32))) (iv : Nat → Int32) (av : Nat → Nat → Int32) (x1 : Int32) (x2 : Int32) (x3 : Int32) : Option ((Nat → Int32) × (Nat → Nat → Int32)) := if x3 < 0 ∨ 1001 ≤ x3.toNatClampNeg then none else (K2 iv (up2 av 8 x3.toNatClampNeg x2) (x1 + 1))
def lM_again_19 (K2 : (Nat → Int32) → (Nat → Nat → Int32) → Int32 → Option ((Nat → Int32) × (Nat → Nat → Int32))) : Nat → (Nat → Int32) → (Nat → Nat → Int32) → Int32 → Int32 → Int32 → Option ((Nat → Int32) × (Nat → Nat → Int32))
  | 0 => fun _ _ _ _ _ => none
  | k + 1 => fun iv av x1 x2 x3 => if x3 ≤ 0 then (jM_again_59 K2 iv av x1 x2 x3) else (if (x3 - (1 : Int32)) < 0 ∨ 1001 ≤ (x3 - (1 : Int32)).toNatClampNeg then none else ((fM_isBefore iv av x2 (av 8 (x3 - (1 : Int32)).toNatClampNeg)).bind fun (r3, iv3, av3) => if r3 = 0 then (jM_again_59 K2 iv3 av3 x1 x2 x3) else (if (x3 - (1 : Int32)) < 0 ∨ 1001 ≤ (x3 - (1 : Int32)).toNatClampNeg then none else (if x3 < 0 ∨ 1001 ≤ x3.toNatClampNeg then none else (lM_again_19 K2 k iv3 (up2 av3 8 x3.toNatClampNeg (av3 8 (x3 - (1 : Int32)).toNatClampNeg)) x1 x2 (x3 + (-1)))))))
def lM_again_2 : Nat → (Nat → Int32) → (Nat → Nat → Int32) → Int32 → Option ((Nat → Int32) × (Nat → Nat → Int32))
  | 0 => fun _ _ _ => none
  | k + 1 => fun iv av x1 => if (iv 10) ≤ x1 then (some (iv, av)) else (if x1 < 0 ∨ 1001 ≤ x1.toNatClampNeg then none else (lM_again_19 (lM_again_2 k) FU iv av x1 (av 8 x1.toNatClampNeg) x1))
def fM_again (iv : Nat → Int32) (av : Nat → Nat → Int32) : Option ((Nat → Int32) × (Nat → Nat → Int32)) := lM_again_2 FU iv av (1 : Int32)
set_option maxHeartbeats 4000000 in
set_option maxRecDepth 100000 in
theorem wM_again_59 {p : Program} {l : Launch} {e : Env} {s : State} {m : MethodId} {args : Array Value} {below : List Frame} {meth : Method} {c : Code} {g : gT} {q : Nat} {ad : Nat → Nat} {X : va_W} {rv : Option Value} {iv' : Nat → Int32} {av' : Nat → Nat → Int32} (C : mCx p m c cM_again 4 s args g "MidiDeskModel") (hr : meth.sig.returnType = none) (hlk : meth.locks = false) (hrv : rv = none) {K2 : (Nat → Int32) → (Nat → Nat → Int32) → Int32 → Option ((Nat → Int32) × (Nat → Nat → Int32))} (hK2 : ∀ (iv : Nat → Int32) (av : Nat → Nat → Int32) (x1 : Int32) (H : Heap) (locs : List Loc) (ls : Array Slot), lv_has ls 4 [(0, .ref q), (1, .int x1)] → mWd g (mA g q ad X s.heap.size) s.heap q ad X iv av H locs → K2 iv av x1 = some (iv', av') → mG p l e rM_again s m args below meth c g q ad X rv iv' av' H locs 0 0 (F0 m 2 ls [])) (iv : Nat → Int32) (av : Nat → Nat → Int32) (x1 : Int32) (x2 : Int32) (x3 : Int32) (H : Heap) (locs : List Loc) (ls : Array Slot) (hl : lv_has ls 4 [(0, .ref q), (1, .int x1), (2, .int x2), (3, .int x3)]) (hw : mWd g (mA g q ad X s.heap.size) s.heap q ad X iv av H locs) (hf : jM_again_59 K2 iv av x1 x2 x3 = some (iv', av')) : mG p l e rM_again s m args below meth c g q ad X rv iv' av' H locs 0 0 (F0 m 59 ls []) := by
  unfold jM_again_59 at hf
  refine lv_aload_n C.1.1 C.1.2.1 dM_again_59 rfl (lv_at hl 0 rfl) ?_
  refine mg_order C hw dM_again_60 ?_
  refine lv_iload_n C.1.1 C.1.2.1 dM_again_63 rfl (lv_at hl 3 rfl) ?_
  refine lv_iload_n C.1.1 C.1.2.1 dM_again_64 rfl (lv_at hl 2 rfl) ?_
  obtain ⟨h1, hf⟩ := ts_g hf
  refine ms_order C hw h1 dM_again_65 (fun H locs hw => ?_)
  refine lv_iinc (v := x1 + 1) (lv' := [(1, .int (x1 + 1)), (0, .ref q), (2, .int x2), (3, .int x3)]) C.1.1 C.1.2.1 dM_again_66 hl (k := 1) rfl rfl (by decide) rfl (fun ls hl => ?_)
  refine lv_goto (tgt := 2) C.1.1 C.1.2.1 dM_again_69 (by decide) ?_
  exact hK2 iv (up2 av 8 x3.toNatClampNeg x2) (x1 + 1) _ _ ls (lv_sub hl [1, 0] rfl) hw hf
set_option maxHeartbeats 4000000 in
set_option maxRecDepth 100000 in
theorem wM_again_19 {p : Program} {l : Launch} {e : Env} {s : State} {m : MethodId} {args : Array Value} {below : List Frame} {meth : Method} {c : Code} {g : gT} {q : Nat} {ad : Nat → Nat} {X : va_W} {rv : Option Value} {iv' : Nat → Int32} {av' : Nat → Nat → Int32} (C : mCx p m c cM_again 4 s args g "MidiDeskModel") (hr : meth.sig.returnType = none) (hlk : meth.locks = false) (hrv : rv = none) {K2 : (Nat → Int32) → (Nat → Nat → Int32) → Int32 → Option ((Nat → Int32) × (Nat → Nat → Int32))} (hK2 : ∀ (iv : Nat → Int32) (av : Nat → Nat → Int32) (x1 : Int32) (H : Heap) (locs : List Loc) (ls : Array Slot), lv_has ls 4 [(0, .ref q), (1, .int x1)] → mWd g (mA g q ad X s.heap.size) s.heap q ad X iv av H locs → K2 iv av x1 = some (iv', av') → mG p l e rM_again s m args below meth c g q ad X rv iv' av' H locs 0 0 (F0 m 2 ls [])) (k : Nat) : ∀ (iv : Nat → Int32) (av : Nat → Nat → Int32) (x1 : Int32) (x2 : Int32) (x3 : Int32) (H : Heap) (locs : List Loc) (ls : Array Slot), lv_has ls 4 [(0, .ref q), (1, .int x1), (2, .int x2), (3, .int x3)] → mWd g (mA g q ad X s.heap.size) s.heap q ad X iv av H locs → lM_again_19 K2 k iv av x1 x2 x3 = some (iv', av') → mG p l e rM_again s m args below meth c g q ad X rv iv' av' H locs 0 0 (F0 m 19 ls []) := by
  induction k with
  | zero => intro iv av x1 x2 x3 H locs ls hl hw hf; cases hf
  | succ k ih =>
    intro iv av x1 x2 x3 H locs ls hl hw hf
    have hf : (if x3 ≤ 0 then (jM_again_59 K2 iv av x1 x2 x3) else (if (x3 - (1 : Int32)) < 0 ∨ 1001 ≤ (x3 - (1 : Int32)).toNatClampNeg then none else ((fM_isBefore iv av x2 (av 8 (x3 - (1 : Int32)).toNatClampNeg)).bind fun (r3, iv3, av3) => if r3 = 0 then (jM_again_59 K2 iv3 av3 x1 x2 x3) else (if (x3 - (1 : Int32)) < 0 ∨ 1001 ≤ (x3 - (1 : Int32)).toNatClampNeg then none else (if x3 < 0 ∨ 1001 ≤ x3.toNatClampNeg then none else (lM_again_19 K2 k iv3 (up2 av3 8 x3.toNatClampNeg (av3 8 (x3 - (1 : Int32)).toNatClampNeg)) x1 x2 (x3 + (-1)))))))) = some (iv', av') := hf
    refine lv_iload_n C.1.1 C.1.2.1 dM_again_19 rfl (lv_at hl 3 rfl) ?_
    refine lv_if_le (tgt := 59) C.1.1 C.1.2.1 dM_again_20 (by decide) (fun c1 => ?_) (fun c1 => ?_)
    · have hf := ts_t hf c1
      exact wM_again_59 C hr hlk hrv hK2 iv av x1 x2 x3 _ _ ls (lv_sub hl [0, 1, 2, 3] rfl) hw hf
    · have hf := ts_f hf c1
      refine lv_aload_n C.1.1 C.1.2.1 dM_again_23 rfl (lv_at hl 0 rfl) ?_
      refine lv_iload_n C.1.1 C.1.2.1 dM_again_24 rfl (lv_at hl 2 rfl) ?_
      refine lv_aload_n C.1.1 C.1.2.1 dM_again_25 rfl (lv_at hl 0 rfl) ?_
      refine mg_order C hw dM_again_26 ?_
      refine lv_iload_n C.1.1 C.1.2.1 dM_again_29 rfl (lv_at hl 3 rfl) ?_
      refine lv_iconst (v := (1 : Int32)) C.1.1 C.1.2.1 dM_again_30 (by decide) ?_
      refine lv_isub C.1.1 C.1.2.1 dM_again_31 ?_
      obtain ⟨h2, hf⟩ := ts_g hf
      refine ma_order C hw h2 dM_again_32 ?_
      obtain ⟨⟨r3, iv3, av3⟩, g3, hf⟩ := ts_b hf
      dsimp only at hf
      refine m_callV (rest := []) (As := [.int x2, .int (av 8 (x3 - (1 : Int32)).toNatClampNeg)]) (rv := (some (.int r3))) C hl.1 hw (cM_isBefore_met g3) (callW_of (rm := rM_isBefore) 2 C.1.2.2.2.2 gw_856 gw_858 gw_37 gw_55 gw_859 kM_isBefore ⟨Nat.le_of_ble_eq_true rfl, Nat.le_of_ble_eq_true rfl⟩) rfl rfl (Nat.le_of_ble_eq_true rfl) dM_again_33 ⟨Nat.le_of_ble_eq_true rfl, Nat.le_of_ble_eq_true rfl⟩ (fun H locs hw => ?_)
      refine W.eq (g2 := F0 m 36 ls [.int r3]) rfl ?_
      refine lv_if_eq (tgt := 59) C.1.1 C.1.2.1 dM_again_36 (by decide) (fun c4 => ?_) (fun c4 => ?_)
      · have hf := ts_t hf c4
        exact wM_again_59 C hr hlk hrv hK2 iv3 av3 x1 x2 x3 _ _ ls (lv_sub hl [0, 1, 2, 3] rfl) hw hf
      · have hf := ts_f hf c4
        refine lv_aload_n C.1.1 C.1.2.1 dM_again_39 rfl (lv_at hl 0 rfl) ?_
        refine mg_order C hw dM_again_40 ?_
        refine lv_iload_n C.1.1 C.1.2.1 dM_again_43 rfl (lv_at hl 3 rfl) ?_
        refine lv_aload_n C.1.1 C.1.2.1 dM_again_44 rfl (lv_at hl 0 rfl) ?_
        refine mg_order C hw dM_again_45 ?_
        refine lv_iload_n C.1.1 C.1.2.1 dM_again_48 rfl (lv_at hl 3 rfl) ?_
        refine lv_iconst (v := (1 : Int32)) C.1.1 C.1.2.1 dM_again_49 (by decide) ?_
        refine lv_isub C.1.1 C.1.2.1 dM_again_50 ?_
        obtain ⟨h5, hf⟩ := ts_g hf
        refine ma_order C hw h5 dM_again_51 ?_
        obtain ⟨h6, hf⟩ := ts_g hf
        refine ms_order C hw h6 dM_again_52 (fun H locs hw => ?_)
        refine lv_iinc (v := x3 + (-1)) (lv' := [(3, .int (x3 + (-1))), (0, .ref q), (1, .int x1), (2, .int x2)]) C.1.1 C.1.2.1 dM_again_53 hl (k := 3) rfl rfl (by decide) rfl (fun ls hl => ?_)
        refine lv_goto (tgt := 19) C.1.1 C.1.2.1 dM_again_56 (by decide) ?_
        exact ih iv3 (up2 av3 8 x3.toNatClampNeg (av3 8 (x3 - (1 : Int32)).toNatClampNeg)) x1 x2 (x3 + (-1)) _ _ ls (lv_sub hl [1, 2, 3, 0] rfl) hw hf
set_option maxHeartbeats 4000000 in
set_option maxRecDepth 100000 in
theorem wM_again_2 {p : Program} {l : Launch} {e : Env} {s : State} {m : MethodId} {args : Array Value} {below : List Frame} {meth : Method} {c : Code} {g : gT} {q : Nat} {ad : Nat → Nat} {X : va_W} {rv : Option Value} {iv' : Nat → Int32} {av' : Nat → Nat → Int32} (C : mCx p m c cM_again 4 s args g "MidiDeskModel") (hr : meth.sig.returnType = none) (hlk : meth.locks = false) (hrv : rv = none) (k : Nat) : ∀ (iv : Nat → Int32) (av : Nat → Nat → Int32) (x1 : Int32) (H : Heap) (locs : List Loc) (ls : Array Slot), lv_has ls 4 [(0, .ref q), (1, .int x1)] → mWd g (mA g q ad X s.heap.size) s.heap q ad X iv av H locs → lM_again_2 k iv av x1 = some (iv', av') → mG p l e rM_again s m args below meth c g q ad X rv iv' av' H locs 0 0 (F0 m 2 ls []) := by
  induction k with
  | zero => intro iv av x1 H locs ls hl hw hf; cases hf
  | succ k ih =>
    intro iv av x1 H locs ls hl hw hf
    have hf : (if (iv 10) ≤ x1 then (some (iv, av)) else (if x1 < 0 ∨ 1001 ≤ x1.toNatClampNeg then none else (lM_again_19 (lM_again_2 k) FU iv av x1 (av 8 x1.toNatClampNeg) x1))) = some (iv', av') := hf
    refine lv_iload_n C.1.1 C.1.2.1 dM_again_2 rfl (lv_at hl 1 rfl) ?_
    refine lv_aload_n C.1.1 C.1.2.1 dM_again_3 rfl (lv_at hl 0 rfl) ?_
    refine mg_events C hw dM_again_4 ?_
    refine lv_icmp_ge (tgt := 72) C.1.1 C.1.2.1 dM_again_7 (by decide) (fun c1 => ?_) (fun c1 => ?_)
    · have hf := ts_t hf c1
      exact m_retv C hr hlk hrv hw hf ⟨Nat.le_of_ble_eq_true rfl, Nat.le_of_ble_eq_true rfl⟩ dM_again_72
    · have hf := ts_f hf c1
      refine lv_aload_n C.1.1 C.1.2.1 dM_again_10 rfl (lv_at hl 0 rfl) ?_
      refine mg_order C hw dM_again_11 ?_
      refine lv_iload_n C.1.1 C.1.2.1 dM_again_14 rfl (lv_at hl 1 rfl) ?_
      obtain ⟨h2, hf⟩ := ts_g hf
      refine ma_order C hw h2 dM_again_15 ?_
      refine lv_istore_n (lv' := [(2, .int (av 8 x1.toNatClampNeg)), (0, .ref q), (1, .int x1)]) C.1.1 C.1.2.1 dM_again_16 rfl hl (by decide) rfl (fun ls hl => ?_)
      refine lv_iload_n C.1.1 C.1.2.1 dM_again_17 rfl (lv_at hl 2 rfl) ?_
      refine lv_istore_n (lv' := [(3, .int x1), (2, .int (av 8 x1.toNatClampNeg)), (0, .ref q), (1, .int x1)]) C.1.1 C.1.2.1 dM_again_18 rfl hl (by decide) rfl (fun ls hl => ?_)
      exact wM_again_19 C hr hlk hrv ih FU iv av x1 (av 8 x1.toNatClampNeg) x1 _ _ ls (lv_sub hl [2, 3, 1, 0] rfl) hw hf
set_option maxHeartbeats 4000000 in
set_option maxRecDepth 100000 in
theorem cM_again_met {l : Launch} {g : gT} {q : Nat} {ad : Nat → Nat} {X : va_W} {iv iv' : Nat → Int32} {av av' : Nat → Nat → Int32} (hf : fM_again iv av = some (iv', av')) : mMet l yM_again cM_again 4 none rM_again g q ad X iv av [.ref q] none iv' av' := by
  refine m_entry (by decide) (Nat.le_of_ble_eq_true rfl) ?_
  intro p e s m args below meth c ls C hr hlk hnm hl hw
  have hrv : (none : Option Value) = none := rfl
  have C : mCx p m c cM_again 4 s args g "MidiDeskModel" := C
  have hl : lv_has ls 4 [(0, .ref q)] := hl
  unfold fM_again at hf
  refine lv_iconst (v := (1 : Int32)) C.1.1 C.1.2.1 dM_again_0 (by decide) ?_
  refine lv_istore_n (lv' := [(1, .int (1 : Int32)), (0, .ref q)]) C.1.1 C.1.2.1 dM_again_1 rfl hl (by decide) rfl (fun ls hl => ?_)
  exact wM_again_2 C hr hlk hrv FU iv av (1 : Int32) _ _ ls (lv_sub hl [1, 0] rfl) hw hf
abbrev cM_sort : ByteArray := prog_8_method_17_code
abbrev yM_sort : MethodName := ⟨"MidiDeskModel", "sort", "()V"⟩
theorem kM_sort : yM_sort.cls ≠ "java/lang/invoke/MethodHandle" ∧ yM_sort.cls ≠ "java/lang/invoke/VarHandle" ∧ (parseMethodDescriptor yM_sort.desc).map (fun d => d.parameters.length) = some 0 := by decide +kernel
abbrev rM_sort : Room := { frames := 2, cells := 0, slots := 0, locals := 45 }
theorem dM_sort_0 : decode cM_sort 0 = .ok (.iconst 0, 1) := by decide +kernel
theorem dM_sort_1 : decode cM_sort 1 = .ok (.istore_n 1, 1) := by decide +kernel
theorem dM_sort_2 : decode cM_sort 2 = .ok (.iload_n 1, 1) := by decide +kernel
theorem dM_sort_3 : decode cM_sort 3 = .ok (.aload_n 0, 1) := by decide +kernel
theorem dM_sort_4 : decode cM_sort 4 = .ok (.getfield 95, 3) := by decide +kernel
theorem dM_sort_7 : decode cM_sort 7 = .ok (.if_icmp .ge 16, 3) := by decide +kernel
theorem dM_sort_10 : decode cM_sort 10 = .ok (.aload_n 0, 1) := by decide +kernel
theorem dM_sort_11 : decode cM_sort 11 = .ok (.getfield 34, 3) := by decide +kernel
theorem dM_sort_14 : decode cM_sort 14 = .ok (.iload_n 1, 1) := by decide +kernel
theorem dM_sort_15 : decode cM_sort 15 = .ok (.iload_n 1, 1) := by decide +kernel
theorem dM_sort_16 : decode cM_sort 16 = .ok (.iastore, 1) := by decide +kernel
theorem dM_sort_17 : decode cM_sort 17 = .ok (.iinc 1 1, 3) := by decide +kernel
theorem dM_sort_20 : decode cM_sort 20 = .ok (.goto (-18), 3) := by decide +kernel
theorem dM_sort_23 : decode cM_sort 23 = .ok (.aload_n 0, 1) := by decide +kernel
theorem dM_sort_24 : decode cM_sort 24 = .ok (.invokevirtual 137, 3) := by decide +kernel
theorem dM_sort_27 : decode cM_sort 27 = .ok (.return_, 1) := by decide +kernel
def lM_sort_2 : Nat → (Nat → Int32) → (Nat → Nat → Int32) → Int32 → Option ((Nat → Int32) × (Nat → Nat → Int32))
  | 0 => fun _ _ _ => none
  | k + 1 => fun iv av x1 => if (iv 10) ≤ x1 then ((fM_again iv av).bind fun (iv2, av2) => some (iv2, av2)) else (if x1 < 0 ∨ 1001 ≤ x1.toNatClampNeg then none else (lM_sort_2 k iv (up2 av 8 x1.toNatClampNeg x1) (x1 + 1)))
def fM_sort (iv : Nat → Int32) (av : Nat → Nat → Int32) : Option ((Nat → Int32) × (Nat → Nat → Int32)) := lM_sort_2 FU iv av (0 : Int32)
set_option maxHeartbeats 4000000 in
set_option maxRecDepth 100000 in
theorem wM_sort_2 {p : Program} {l : Launch} {e : Env} {s : State} {m : MethodId} {args : Array Value} {below : List Frame} {meth : Method} {c : Code} {g : gT} {q : Nat} {ad : Nat → Nat} {X : va_W} {rv : Option Value} {iv' : Nat → Int32} {av' : Nat → Nat → Int32} (C : mCx p m c cM_sort 2 s args g "MidiDeskModel") (hr : meth.sig.returnType = none) (hlk : meth.locks = false) (hrv : rv = none) (k : Nat) : ∀ (iv : Nat → Int32) (av : Nat → Nat → Int32) (x1 : Int32) (H : Heap) (locs : List Loc) (ls : Array Slot), lv_has ls 2 [(0, .ref q), (1, .int x1)] → mWd g (mA g q ad X s.heap.size) s.heap q ad X iv av H locs → lM_sort_2 k iv av x1 = some (iv', av') → mG p l e rM_sort s m args below meth c g q ad X rv iv' av' H locs 0 0 (F0 m 2 ls []) := by
  induction k with
  | zero => intro iv av x1 H locs ls hl hw hf; cases hf
  | succ k ih =>
    intro iv av x1 H locs ls hl hw hf
    have hf : (if (iv 10) ≤ x1 then ((fM_again iv av).bind fun (iv2, av2) => some (iv2, av2)) else (if x1 < 0 ∨ 1001 ≤ x1.toNatClampNeg then none else (lM_sort_2 k iv (up2 av 8 x1.toNatClampNeg x1) (x1 + 1)))) = some (iv', av') := hf
    refine lv_iload_n C.1.1 C.1.2.1 dM_sort_2 rfl (lv_at hl 1 rfl) ?_
    refine lv_aload_n C.1.1 C.1.2.1 dM_sort_3 rfl (lv_at hl 0 rfl) ?_
    refine mg_events C hw dM_sort_4 ?_
    refine lv_icmp_ge (tgt := 23) C.1.1 C.1.2.1 dM_sort_7 (by decide) (fun c1 => ?_) (fun c1 => ?_)
    · have hf := ts_t hf c1
      refine lv_aload_n C.1.1 C.1.2.1 dM_sort_23 rfl (lv_at hl 0 rfl) ?_
      obtain ⟨⟨iv2, av2⟩, g2, hf⟩ := ts_b hf
      dsimp only at hf
      refine m_callV (rest := []) (As := []) (rv := none) C hl.1 hw (cM_again_met g2) (callW_of (rm := rM_again) 0 C.1.2.2.2.2 gw_852 gw_854 gw_36 gw_55 gw_855 kM_again ⟨Nat.le_of_ble_eq_true rfl, Nat.le_of_ble_eq_true rfl⟩) rfl rfl (Nat.le_of_ble_eq_true rfl) dM_sort_24 ⟨Nat.le_of_ble_eq_true rfl, Nat.le_of_ble_eq_true rfl⟩ (fun H locs hw => ?_)
      refine W.eq (g2 := F0 m 27 ls []) rfl ?_
      exact m_retv C hr hlk hrv hw hf ⟨Nat.le_of_ble_eq_true rfl, Nat.le_of_ble_eq_true rfl⟩ dM_sort_27
    · have hf := ts_f hf c1
      refine lv_aload_n C.1.1 C.1.2.1 dM_sort_10 rfl (lv_at hl 0 rfl) ?_
      refine mg_order C hw dM_sort_11 ?_
      refine lv_iload_n C.1.1 C.1.2.1 dM_sort_14 rfl (lv_at hl 1 rfl) ?_
      refine lv_iload_n C.1.1 C.1.2.1 dM_sort_15 rfl (lv_at hl 1 rfl) ?_
      obtain ⟨h3, hf⟩ := ts_g hf
      refine ms_order C hw h3 dM_sort_16 (fun H locs hw => ?_)
      refine lv_iinc (v := x1 + 1) (lv' := [(1, .int (x1 + 1)), (0, .ref q)]) C.1.1 C.1.2.1 dM_sort_17 hl (k := 1) rfl rfl (by decide) rfl (fun ls hl => ?_)
      refine lv_goto (tgt := 2) C.1.1 C.1.2.1 dM_sort_20 (by decide) ?_
      exact ih iv (up2 av 8 x1.toNatClampNeg x1) (x1 + 1) _ _ ls (lv_sub hl [1, 0] rfl) hw hf
set_option maxHeartbeats 4000000 in
set_option maxRecDepth 100000 in
theorem cM_sort_met {l : Launch} {g : gT} {q : Nat} {ad : Nat → Nat} {X : va_W} {iv iv' : Nat → Int32} {av av' : Nat → Nat → Int32} (hf : fM_sort iv av = some (iv', av')) : mMet l yM_sort cM_sort 2 none rM_sort g q ad X iv av [.ref q] none iv' av' := by
  refine m_entry (by decide) (Nat.le_of_ble_eq_true rfl) ?_
  intro p e s m args below meth c ls C hr hlk hnm hl hw
  have hrv : (none : Option Value) = none := rfl
  have C : mCx p m c cM_sort 2 s args g "MidiDeskModel" := C
  have hl : lv_has ls 2 [(0, .ref q)] := hl
  unfold fM_sort at hf
  refine lv_iconst (v := (0 : Int32)) C.1.1 C.1.2.1 dM_sort_0 (by decide) ?_
  refine lv_istore_n (lv' := [(1, .int (0 : Int32)), (0, .ref q)]) C.1.1 C.1.2.1 dM_sort_1 rfl hl (by decide) rfl (fun ls hl => ?_)
  exact wM_sort_2 C hr hlk hrv FU iv av (0 : Int32) _ _ ls (lv_sub hl [1, 0] rfl) hw hf
abbrev cM_read : ByteArray := prog_8_method_10_code
abbrev yM_read : MethodName := ⟨"MidiDeskModel", "read", "()I"⟩
theorem kM_read : yM_read.cls ≠ "java/lang/invoke/MethodHandle" ∧ yM_read.cls ≠ "java/lang/invoke/VarHandle" ∧ (parseMethodDescriptor yM_read.desc).map (fun d => d.parameters.length) = some 0 := by decide +kernel
abbrev rM_read : Room := { frames := 6, cells := 0, slots := 0, locals := 147 }
theorem dM_read_0 : decode cM_read 0 = .ok (.aload_n 0, 1) := by decide +kernel
theorem dM_read_1 : decode cM_read 1 = .ok (.iconst 0, 1) := by decide +kernel
theorem dM_read_2 : decode cM_read 2 = .ok (.putfield 47, 3) := by decide +kernel
theorem dM_read_5 : decode cM_read 5 = .ok (.aload_n 0, 1) := by decide +kernel
theorem dM_read_6 : decode cM_read 6 = .ok (.iconst 0, 1) := by decide +kernel
theorem dM_read_7 : decode cM_read 7 = .ok (.putfield 62, 3) := by decide +kernel
theorem dM_read_10 : decode cM_read 10 = .ok (.aload_n 0, 1) := by decide +kernel
theorem dM_read_11 : decode cM_read 11 = .ok (.aload_n 0, 1) := by decide +kernel
theorem dM_read_12 : decode cM_read 12 = .ok (.getfield 51, 3) := by decide +kernel
theorem dM_read_15 : decode cM_read 15 = .ok (.putfield 65, 3) := by decide +kernel
theorem dM_read_18 : decode cM_read 18 = .ok (.aload_n 0, 1) := by decide +kernel
theorem dM_read_19 : decode cM_read 19 = .ok (.iconst 0, 1) := by decide +kernel
theorem dM_read_20 : decode cM_read 20 = .ok (.putfield 56, 3) := by decide +kernel
theorem dM_read_23 : decode cM_read 23 = .ok (.aload_n 0, 1) := by decide +kernel
theorem dM_read_24 : decode cM_read 24 = .ok (.iconst 0, 1) := by decide +kernel
theorem dM_read_25 : decode cM_read 25 = .ok (.putfield 59, 3) := by decide +kernel
theorem dM_read_28 : decode cM_read 28 = .ok (.aload_n 0, 1) := by decide +kernel
theorem dM_read_29 : decode cM_read 29 = .ok (.iconst 0, 1) := by decide +kernel
theorem dM_read_30 : decode cM_read 30 = .ok (.putfield 95, 3) := by decide +kernel
theorem dM_read_33 : decode cM_read 33 = .ok (.aload_n 0, 1) := by decide +kernel
theorem dM_read_34 : decode cM_read 34 = .ok (.iconst 0, 1) := by decide +kernel
theorem dM_read_35 : decode cM_read 35 = .ok (.putfield 98, 3) := by decide +kernel
theorem dM_read_38 : decode cM_read 38 = .ok (.aload_n 0, 1) := by decide +kernel
theorem dM_read_39 : decode cM_read 39 = .ok (.invokevirtual 101, 3) := by decide +kernel
theorem dM_read_42 : decode cM_read 42 = .ok (.iconst 0, 1) := by decide +kernel
theorem dM_read_43 : decode cM_read 43 = .ok (.istore_n 1, 1) := by decide +kernel
theorem dM_read_44 : decode cM_read 44 = .ok (.aload_n 0, 1) := by decide +kernel
theorem dM_read_45 : decode cM_read 45 = .ok (.getfield 56, 3) := by decide +kernel
theorem dM_read_48 : decode cM_read 48 = .ok (.ifCond .ne 165, 3) := by decide +kernel
theorem dM_read_51 : decode cM_read 51 = .ok (.aload_n 0, 1) := by decide +kernel
theorem dM_read_52 : decode cM_read 52 = .ok (.getfield 62, 3) := by decide +kernel
theorem dM_read_55 : decode cM_read 55 = .ok (.aload_n 0, 1) := by decide +kernel
theorem dM_read_56 : decode cM_read 56 = .ok (.getfield 51, 3) := by decide +kernel
theorem dM_read_59 : decode cM_read 59 = .ok (.if_icmp .ge 154, 3) := by decide +kernel
theorem dM_read_62 : decode cM_read 62 = .ok (.aload_n 0, 1) := by decide +kernel
theorem dM_read_63 : decode cM_read 63 = .ok (.aload_n 0, 1) := by decide +kernel
theorem dM_read_64 : decode cM_read 64 = .ok (.getfield 51, 3) := by decide +kernel
theorem dM_read_67 : decode cM_read 67 = .ok (.putfield 65, 3) := by decide +kernel
theorem dM_read_70 : decode cM_read 70 = .ok (.aload_n 0, 1) := by decide +kernel
theorem dM_read_71 : decode cM_read 71 = .ok (.getfield 62, 3) := by decide +kernel
theorem dM_read_74 : decode cM_read 74 = .ok (.istore_n 2, 1) := by decide +kernel
theorem dM_read_75 : decode cM_read 75 = .ok (.aload_n 0, 1) := by decide +kernel
theorem dM_read_76 : decode cM_read 76 = .ok (.iconst 4, 1) := by decide +kernel
theorem dM_read_77 : decode cM_read 77 = .ok (.invokevirtual 74, 3) := by decide +kernel
theorem dM_read_80 : decode cM_read 80 = .ok (.ldc2_w 104, 3) := by decide +kernel
theorem dM_read_83 : decode cM_read 83 = .ok (.lcmp, 1) := by decide +kernel
theorem dM_read_84 : decode cM_read 84 = .ok (.ifCond .ne 7, 3) := by decide +kernel
theorem dM_read_87 : decode cM_read 87 = .ok (.iconst 1, 1) := by decide +kernel
theorem dM_read_88 : decode cM_read 88 = .ok (.goto 4, 3) := by decide +kernel
theorem dM_read_91 : decode cM_read 91 = .ok (.iconst 0, 1) := by decide +kernel
theorem dM_read_92 : decode cM_read 92 = .ok (.istore_n 3, 1) := by decide +kernel
theorem dM_read_93 : decode cM_read 93 = .ok (.aload_n 0, 1) := by decide +kernel
theorem dM_read_94 : decode cM_read 94 = .ok (.getfield 56, 3) := by decide +kernel
theorem dM_read_97 : decode cM_read 97 = .ok (.ifCond .ne 22, 3) := by decide +kernel
theorem dM_read_100 : decode cM_read 100 = .ok (.iload_n 3, 1) := by decide +kernel
theorem dM_read_101 : decode cM_read 101 = .ok (.ifCond .eq 18, 3) := by decide +kernel
theorem dM_read_104 : decode cM_read 104 = .ok (.iload_n 1, 1) := by decide +kernel
theorem dM_read_105 : decode cM_read 105 = .ok (.aload_n 0, 1) := by decide +kernel
theorem dM_read_106 : decode cM_read 106 = .ok (.getfield 85, 3) := by decide +kernel
theorem dM_read_109 : decode cM_read 109 = .ok (.if_icmp .ne 10, 3) := by decide +kernel
theorem dM_read_112 : decode cM_read 112 = .ok (.aload_n 0, 1) := by decide +kernel
theorem dM_read_113 : decode cM_read 113 = .ok (.bipush 10, 2) := by decide +kernel
theorem dM_read_115 : decode cM_read 115 = .ok (.iload_n 2, 1) := by decide +kernel
theorem dM_read_116 : decode cM_read 116 = .ok (.invokevirtual 68, 3) := by decide +kernel
theorem dM_read_119 : decode cM_read 119 = .ok (.aload_n 0, 1) := by decide +kernel
theorem dM_read_120 : decode cM_read 120 = .ok (.iconst 4, 1) := by decide +kernel
theorem dM_read_121 : decode cM_read 121 = .ok (.invokevirtual 74, 3) := by decide +kernel
theorem dM_read_124 : decode cM_read 124 = .ok (.lstore 4, 2) := by decide +kernel
theorem dM_read_126 : decode cM_read 126 = .ok (.aload_n 0, 1) := by decide +kernel
theorem dM_read_127 : decode cM_read 127 = .ok (.getfield 56, 3) := by decide +kernel
theorem dM_read_130 : decode cM_read 130 = .ok (.ifCond .ne 29, 3) := by decide +kernel
theorem dM_read_133 : decode cM_read 133 = .ok (.aload_n 0, 1) := by decide +kernel
theorem dM_read_134 : decode cM_read 134 = .ok (.getfield 62, 3) := by decide +kernel
theorem dM_read_137 : decode cM_read 137 = .ok (.i2l, 1) := by decide +kernel
theorem dM_read_138 : decode cM_read 138 = .ok (.lload 4, 2) := by decide +kernel
theorem dM_read_140 : decode cM_read 140 = .ok (.ladd, 1) := by decide +kernel
theorem dM_read_141 : decode cM_read 141 = .ok (.aload_n 0, 1) := by decide +kernel
theorem dM_read_142 : decode cM_read 142 = .ok (.getfield 51, 3) := by decide +kernel
theorem dM_read_145 : decode cM_read 145 = .ok (.i2l, 1) := by decide +kernel
theorem dM_read_146 : decode cM_read 146 = .ok (.lcmp, 1) := by decide +kernel
theorem dM_read_147 : decode cM_read 147 = .ok (.ifCond .le 12, 3) := by decide +kernel
theorem dM_read_150 : decode cM_read 150 = .ok (.aload_n 0, 1) := by decide +kernel
theorem dM_read_151 : decode cM_read 151 = .ok (.iconst 1, 1) := by decide +kernel
theorem dM_read_152 : decode cM_read 152 = .ok (.aload_n 0, 1) := by decide +kernel
theorem dM_read_153 : decode cM_read 153 = .ok (.getfield 51, 3) := by decide +kernel
theorem dM_read_156 : decode cM_read 156 = .ok (.invokevirtual 68, 3) := by decide +kernel
theorem dM_read_159 : decode cM_read 159 = .ok (.aload_n 0, 1) := by decide +kernel
theorem dM_read_160 : decode cM_read 160 = .ok (.getfield 56, 3) := by decide +kernel
theorem dM_read_163 : decode cM_read 163 = .ok (.ifCond .le 6, 3) := by decide +kernel
theorem dM_read_166 : decode cM_read 166 = .ok (.goto (-122), 3) := by decide +kernel
theorem dM_read_169 : decode cM_read 169 = .ok (.aload_n 0, 1) := by decide +kernel
theorem dM_read_170 : decode cM_read 170 = .ok (.aload_n 0, 1) := by decide +kernel
theorem dM_read_171 : decode cM_read 171 = .ok (.getfield 62, 3) := by decide +kernel
theorem dM_read_174 : decode cM_read 174 = .ok (.lload 4, 2) := by decide +kernel
theorem dM_read_176 : decode cM_read 176 = .ok (.l2i, 1) := by decide +kernel
theorem dM_read_177 : decode cM_read 177 = .ok (.iadd, 1) := by decide +kernel
theorem dM_read_178 : decode cM_read 178 = .ok (.putfield 65, 3) := by decide +kernel
theorem dM_read_181 : decode cM_read 181 = .ok (.iload_n 3, 1) := by decide +kernel
theorem dM_read_182 : decode cM_read 182 = .ok (.ifCond .eq 8, 3) := by decide +kernel
theorem dM_read_185 : decode cM_read 185 = .ok (.aload_n 0, 1) := by decide +kernel
theorem dM_read_186 : decode cM_read 186 = .ok (.iload_n 1, 1) := by decide +kernel
theorem dM_read_187 : decode cM_read 187 = .ok (.invokevirtual 106, 3) := by decide +kernel
theorem dM_read_190 : decode cM_read 190 = .ok (.aload_n 0, 1) := by decide +kernel
theorem dM_read_191 : decode cM_read 191 = .ok (.aload_n 0, 1) := by decide +kernel
theorem dM_read_192 : decode cM_read 192 = .ok (.getfield 65, 3) := by decide +kernel
theorem dM_read_195 : decode cM_read 195 = .ok (.putfield 62, 3) := by decide +kernel
theorem dM_read_198 : decode cM_read 198 = .ok (.iload_n 3, 1) := by decide +kernel
theorem dM_read_199 : decode cM_read 199 = .ok (.ifCond .eq 9, 3) := by decide +kernel
theorem dM_read_202 : decode cM_read 202 = .ok (.iload_n 1, 1) := by decide +kernel
theorem dM_read_203 : decode cM_read 203 = .ok (.iconst 1, 1) := by decide +kernel
theorem dM_read_204 : decode cM_read 204 = .ok (.iadd, 1) := by decide +kernel
theorem dM_read_205 : decode cM_read 205 = .ok (.goto 4, 3) := by decide +kernel
theorem dM_read_208 : decode cM_read 208 = .ok (.iload_n 1, 1) := by decide +kernel
theorem dM_read_209 : decode cM_read 209 = .ok (.istore_n 1, 1) := by decide +kernel
theorem dM_read_210 : decode cM_read 210 = .ok (.goto (-166), 3) := by decide +kernel
theorem dM_read_213 : decode cM_read 213 = .ok (.iload_n 1, 1) := by decide +kernel
theorem dM_read_214 : decode cM_read 214 = .ok (.aload_n 0, 1) := by decide +kernel
theorem dM_read_215 : decode cM_read 215 = .ok (.getfield 85, 3) := by decide +kernel
theorem dM_read_218 : decode cM_read 218 = .ok (.if_icmp .ge 13, 3) := by decide +kernel
theorem dM_read_221 : decode cM_read 221 = .ok (.aload_n 0, 1) := by decide +kernel
theorem dM_read_222 : decode cM_read 222 = .ok (.bipush 10, 2) := by decide +kernel
theorem dM_read_224 : decode cM_read 224 = .ok (.aload_n 0, 1) := by decide +kernel
theorem dM_read_225 : decode cM_read 225 = .ok (.getfield 51, 3) := by decide +kernel
theorem dM_read_228 : decode cM_read 228 = .ok (.invokevirtual 68, 3) := by decide +kernel
theorem dM_read_231 : decode cM_read 231 = .ok (.aload_n 0, 1) := by decide +kernel
theorem dM_read_232 : decode cM_read 232 = .ok (.aload_n 0, 1) := by decide +kernel
theorem dM_read_233 : decode cM_read 233 = .ok (.getfield 56, 3) := by decide +kernel
theorem dM_read_236 : decode cM_read 236 = .ok (.ifCond .ne 7, 3) := by decide +kernel
theorem dM_read_239 : decode cM_read 239 = .ok (.iconst 1, 1) := by decide +kernel
theorem dM_read_240 : decode cM_read 240 = .ok (.goto 4, 3) := by decide +kernel
theorem dM_read_243 : decode cM_read 243 = .ok (.iconst 0, 1) := by decide +kernel
theorem dM_read_244 : decode cM_read 244 = .ok (.putfield 110, 3) := by decide +kernel
theorem dM_read_247 : decode cM_read 247 = .ok (.aload_n 0, 1) := by decide +kernel
theorem dM_read_248 : decode cM_read 248 = .ok (.iconst 0, 1) := by decide +kernel
theorem dM_read_249 : decode cM_read 249 = .ok (.putfield 51, 3) := by decide +kernel
theorem dM_read_252 : decode cM_read 252 = .ok (.aload_n 0, 1) := by decide +kernel
theorem dM_read_253 : decode cM_read 253 = .ok (.getfield 110, 3) := by decide +kernel
theorem dM_read_256 : decode cM_read 256 = .ok (.ifCond .eq 10, 3) := by decide +kernel
theorem dM_read_259 : decode cM_read 259 = .ok (.aload_n 0, 1) := by decide +kernel
theorem dM_read_260 : decode cM_read 260 = .ok (.invokevirtual 114, 3) := by decide +kernel
theorem dM_read_263 : decode cM_read 263 = .ok (.goto 8, 3) := by decide +kernel
theorem dM_read_266 : decode cM_read 266 = .ok (.aload_n 0, 1) := by decide +kernel
theorem dM_read_267 : decode cM_read 267 = .ok (.iconst 0, 1) := by decide +kernel
theorem dM_read_268 : decode cM_read 268 = .ok (.putfield 95, 3) := by decide +kernel
theorem dM_read_271 : decode cM_read 271 = .ok (.aload_n 0, 1) := by decide +kernel
theorem dM_read_272 : decode cM_read 272 = .ok (.getfield 56, 3) := by decide +kernel
theorem dM_read_275 : decode cM_read 275 = .ok (.bipush 16, 2) := by decide +kernel
theorem dM_read_277 : decode cM_read 277 = .ok (.aload_n 0, 1) := by decide +kernel
theorem dM_read_278 : decode cM_read 278 = .ok (.getfield 59, 3) := by decide +kernel
theorem dM_read_281 : decode cM_read 281 = .ok (.imul, 1) := by decide +kernel
theorem dM_read_282 : decode cM_read 282 = .ok (.iadd, 1) := by decide +kernel
theorem dM_read_283 : decode cM_read 283 = .ok (.ireturn, 1) := by decide +kernel
def jM_read_209 (K44 : (Nat → Int32) → (Nat → Nat → Int32) → Int32 → Option (Int32 × (Nat → Int32) × (Nat → Nat → Int32))) (iv : Nat → Int32) (av : Nat → Nat → Int32) (s0 : Int32) : Option (Int32 × (Nat → Int32) × (Nat → Nat → Int32)) := K44 iv av s0
def jM_read_190 (K44 : (Nat → Int32) → (Nat → Nat → Int32) → Int32 → Option (Int32 × (Nat → Int32) × (Nat → Nat → Int32))) (iv : Nat → Int32) (av : Nat → Nat → Int32) (x1 : Int32) (x3 : Int32) : Option (Int32 × (Nat → Int32) × (Nat → Nat → Int32)) := if x3 = 0 then (jM_read_209 K44 (upd iv 2 (iv 3)) av x1) else (jM_read_209 K44 (upd iv 2 (iv 3)) av (x1 + (1 : Int32)))
def jM_read_159 (K44 : (Nat → Int32) → (Nat → Nat → Int32) → Int32 → Option (Int32 × (Nat → Int32) × (Nat → Nat → Int32))) (iv : Nat → Int32) (av : Nat → Nat → Int32) (x1 : Int32) (x3 : Int32) (y4 : Int64) : Option (Int32 × (Nat → Int32) × (Nat → Nat → Int32)) := if (iv 4) ≤ 0 then (if x3 = 0 then (jM_read_190 K44 (upd iv 3 ((iv 2) + y4.toInt32)) av x1 x3) else ((fM_track (upd iv 3 ((iv 2) + y4.toInt32)) av x1).bind fun (iv3, av3) => jM_read_190 K44 iv3 av3 x1 x3)) else (K44 iv av x1)
def jM_read_119 (K44 : (Nat → Int32) → (Nat → Nat → Int32) → Int32 → Option (Int32 × (Nat → Int32) × (Nat → Nat → Int32))) (iv : Nat → Int32) (av : Nat → Nat → Int32) (x1 : Int32) (x3 : Int32) : Option (Int32 × (Nat → Int32) × (Nat → Nat → Int32)) := (fM_taken iv av (4 : Int32)).bind fun (r1, iv1, av1) => if (iv1 4) = 0 then (if (lg_cmp (((iv1 2).toInt64) + r1) ((iv1 1).toInt64)) ≤ 0 then (jM_read_159 K44 iv1 av1 x1 x3 r1) else ((fM_fail iv1 av1 (1 : Int32) (iv1 1)).bind fun (iv4, av4) => jM_read_159 K44 iv4 av4 x1 x3 r1)) else (jM_read_159 K44 iv1 av1 x1 x3 r1)
def jM_read_92 (K44 : (Nat → Int32) → (Nat → Nat → Int32) → Int32 → Option (Int32 × (Nat → Int32) × (Nat → Nat → Int32))) (iv : Nat → Int32) (av : Nat → Nat → Int32) (x1 : Int32) (x2 : Int32) (s0 : Int32) : Option (Int32 × (Nat → Int32) × (Nat → Nat → Int32)) := if (iv 4) = 0 then (if s0 = 0 then (jM_read_119 K44 iv av x1 s0) else (if x1 = (iv 8) then ((fM_fail iv av (10 : Int32) x2).bind fun (iv4, av4) => jM_read_119 K44 iv4 av4 x1 s0) else (jM_read_119 K44 iv av x1 s0))) else (jM_read_119 K44 iv av x1 s0)
def jM_read_271 (iv : Nat → Int32) (av : Nat → Nat → Int32) : Option (Int32 × (Nat → Int32) × (Nat → Nat → Int32)) := some ((iv 4) + ((16 : Int32) * (iv 5)), iv, av)
def jM_read_244 (iv : Nat → Int32) (av : Nat → Nat → Int32) (s1 : Int32) : Option (Int32 × (Nat → Int32) × (Nat → Nat → Int32)) := if ¬ (s1 = 0 ∨ s1 = 1) then none else (if ((upd (upd iv 6 s1) 1 (0 : Int32)) 6) = 0 then (jM_read_271 (upd (upd (upd iv 6 s1) 1 (0 : Int32)) 10 (0 : Int32)) av) else ((fM_sort (upd (upd iv 6 s1) 1 (0 : Int32)) av).bind fun (iv3, av3) => jM_read_271 iv3 av3))
def jM_read_231 (iv : Nat → Int32) (av : Nat → Nat → Int32) : Option (Int32 × (Nat → Int32) × (Nat → Nat → Int32)) := if (iv 4) = 0 then (jM_read_244 iv av (1 : Int32)) else (jM_read_244 iv av (0 : Int32))
def jM_read_213 (iv : Nat → Int32) (av : Nat → Nat → Int32) (x1 : Int32) : Option (Int32 × (Nat → Int32) × (Nat → Nat → Int32)) := if (iv 8) ≤ x1 then (jM_read_231 iv av) else ((fM_fail iv av (10 : Int32) (iv 1)).bind fun (iv2, av2) => jM_read_231 iv2 av2)
def lM_read_44 : Nat → (Nat → Int32) → (Nat → Nat → Int32) → Int32 → Option (Int32 × (Nat → Int32) × (Nat → Nat → Int32))
  | 0 => fun _ _ _ => none
  | k + 1 => fun iv av x1 => if (iv 4) = 0 then (if (iv 1) ≤ (iv 2) then (jM_read_213 iv av x1) else ((fM_taken (upd iv 3 (iv 1)) av (4 : Int32)).bind fun (r3, iv3, av3) => if (lg_cmp r3 (1297379947 : Int64)) = 0 then (jM_read_92 (lM_read_44 k) iv3 av3 x1 ((upd iv 3 (iv 1)) 2) (1 : Int32)) else (jM_read_92 (lM_read_44 k) iv3 av3 x1 ((upd iv 3 (iv 1)) 2) (0 : Int32)))) else (jM_read_213 iv av x1)
def fM_read (iv : Nat → Int32) (av : Nat → Nat → Int32) : Option (Int32 × (Nat → Int32) × (Nat → Nat → Int32)) := (fM_head (upd (upd (upd (upd (upd (upd (upd iv 0 (0 : Int32)) 2 (0 : Int32)) 3 ((upd (upd iv 0 (0 : Int32)) 2 (0 : Int32)) 1)) 4 (0 : Int32)) 5 (0 : Int32)) 10 (0 : Int32)) 11 (0 : Int32)) av).bind fun (iv1, av1) => lM_read_44 FU iv1 av1 (0 : Int32)
set_option maxHeartbeats 4000000 in
set_option maxRecDepth 100000 in
theorem wM_read_209 {p : Program} {l : Launch} {e : Env} {s : State} {m : MethodId} {args : Array Value} {below : List Frame} {meth : Method} {c : Code} {g : gT} {q : Nat} {ad : Nat → Nat} {X : va_W} {rv : Option Value} {iv' : Nat → Int32} {av' : Nat → Nat → Int32} {r' : Int32} (C : mCx p m c cM_read 6 s args g "MidiDeskModel") (hr : meth.sig.returnType = (some .int)) (hlk : meth.locks = false) (hrv : rv = some (.int r')) {K44 : (Nat → Int32) → (Nat → Nat → Int32) → Int32 → Option (Int32 × (Nat → Int32) × (Nat → Nat → Int32))} (hK44 : ∀ (iv : Nat → Int32) (av : Nat → Nat → Int32) (x1 : Int32) (H : Heap) (locs : List Loc) (ls : Array Slot), lv_has ls 6 [(0, .ref q), (1, .int x1)] → mWd g (mA g q ad X s.heap.size) s.heap q ad X iv av H locs → K44 iv av x1 = some (r', iv', av') → mG p l e rM_read s m args below meth c g q ad X rv iv' av' H locs 0 0 (F0 m 44 ls [])) (iv : Nat → Int32) (av : Nat → Nat → Int32) (s0 : Int32) (H : Heap) (locs : List Loc) (ls : Array Slot) (hl : lv_has ls 6 [(0, .ref q)]) (hw : mWd g (mA g q ad X s.heap.size) s.heap q ad X iv av H locs) (hf : jM_read_209 K44 iv av s0 = some (r', iv', av')) : mG p l e rM_read s m args below meth c g q ad X rv iv' av' H locs 0 0 (F0 m 209 ls [.int s0]) := by
  unfold jM_read_209 at hf
  refine lv_istore_n (lv' := [(1, .int s0), (0, .ref q)]) C.1.1 C.1.2.1 dM_read_209 rfl hl (by decide) rfl (fun ls hl => ?_)
  refine lv_goto (tgt := 44) C.1.1 C.1.2.1 dM_read_210 (by decide) ?_
  exact hK44 iv av s0 _ _ ls (lv_sub hl [1, 0] rfl) hw hf
set_option maxHeartbeats 4000000 in
set_option maxRecDepth 100000 in
theorem wM_read_190 {p : Program} {l : Launch} {e : Env} {s : State} {m : MethodId} {args : Array Value} {below : List Frame} {meth : Method} {c : Code} {g : gT} {q : Nat} {ad : Nat → Nat} {X : va_W} {rv : Option Value} {iv' : Nat → Int32} {av' : Nat → Nat → Int32} {r' : Int32} (C : mCx p m c cM_read 6 s args g "MidiDeskModel") (hr : meth.sig.returnType = (some .int)) (hlk : meth.locks = false) (hrv : rv = some (.int r')) {K44 : (Nat → Int32) → (Nat → Nat → Int32) → Int32 → Option (Int32 × (Nat → Int32) × (Nat → Nat → Int32))} (hK44 : ∀ (iv : Nat → Int32) (av : Nat → Nat → Int32) (x1 : Int32) (H : Heap) (locs : List Loc) (ls : Array Slot), lv_has ls 6 [(0, .ref q), (1, .int x1)] → mWd g (mA g q ad X s.heap.size) s.heap q ad X iv av H locs → K44 iv av x1 = some (r', iv', av') → mG p l e rM_read s m args below meth c g q ad X rv iv' av' H locs 0 0 (F0 m 44 ls [])) (iv : Nat → Int32) (av : Nat → Nat → Int32) (x1 : Int32) (x3 : Int32) (H : Heap) (locs : List Loc) (ls : Array Slot) (hl : lv_has ls 6 [(0, .ref q), (1, .int x1), (3, .int x3)]) (hw : mWd g (mA g q ad X s.heap.size) s.heap q ad X iv av H locs) (hf : jM_read_190 K44 iv av x1 x3 = some (r', iv', av')) : mG p l e rM_read s m args below meth c g q ad X rv iv' av' H locs 0 0 (F0 m 190 ls []) := by
  unfold jM_read_190 at hf
  refine lv_aload_n C.1.1 C.1.2.1 dM_read_190 rfl (lv_at hl 0 rfl) ?_
  refine lv_aload_n C.1.1 C.1.2.1 dM_read_191 rfl (lv_at hl 0 rfl) ?_
  refine mg_end C hw dM_read_192 ?_
  refine mp_at C hw dM_read_195 (fun H locs hw => ?_)
  refine lv_iload_n C.1.1 C.1.2.1 dM_read_198 rfl (lv_at hl 2 rfl) ?_
  refine lv_if_eq (tgt := 208) C.1.1 C.1.2.1 dM_read_199 (by decide) (fun c1 => ?_) (fun c1 => ?_)
  · have hf := ts_t hf c1
    refine lv_iload_n C.1.1 C.1.2.1 dM_read_208 rfl (lv_at hl 1 rfl) ?_
    exact wM_read_209 C hr hlk hrv hK44 (upd iv 2 (iv 3)) av x1 _ _ ls (lv_sub hl [0] rfl) hw hf
  · have hf := ts_f hf c1
    refine lv_iload_n C.1.1 C.1.2.1 dM_read_202 rfl (lv_at hl 1 rfl) ?_
    refine lv_iconst (v := (1 : Int32)) C.1.1 C.1.2.1 dM_read_203 (by decide) ?_
    refine lv_iadd C.1.1 C.1.2.1 dM_read_204 ?_
    refine lv_goto (tgt := 209) C.1.1 C.1.2.1 dM_read_205 (by decide) ?_
    exact wM_read_209 C hr hlk hrv hK44 (upd iv 2 (iv 3)) av (x1 + (1 : Int32)) _ _ ls (lv_sub hl [0] rfl) hw hf
set_option maxHeartbeats 4000000 in
set_option maxRecDepth 100000 in
theorem wM_read_159 {p : Program} {l : Launch} {e : Env} {s : State} {m : MethodId} {args : Array Value} {below : List Frame} {meth : Method} {c : Code} {g : gT} {q : Nat} {ad : Nat → Nat} {X : va_W} {rv : Option Value} {iv' : Nat → Int32} {av' : Nat → Nat → Int32} {r' : Int32} (C : mCx p m c cM_read 6 s args g "MidiDeskModel") (hr : meth.sig.returnType = (some .int)) (hlk : meth.locks = false) (hrv : rv = some (.int r')) {K44 : (Nat → Int32) → (Nat → Nat → Int32) → Int32 → Option (Int32 × (Nat → Int32) × (Nat → Nat → Int32))} (hK44 : ∀ (iv : Nat → Int32) (av : Nat → Nat → Int32) (x1 : Int32) (H : Heap) (locs : List Loc) (ls : Array Slot), lv_has ls 6 [(0, .ref q), (1, .int x1)] → mWd g (mA g q ad X s.heap.size) s.heap q ad X iv av H locs → K44 iv av x1 = some (r', iv', av') → mG p l e rM_read s m args below meth c g q ad X rv iv' av' H locs 0 0 (F0 m 44 ls [])) (iv : Nat → Int32) (av : Nat → Nat → Int32) (x1 : Int32) (x3 : Int32) (y4 : Int64) (H : Heap) (locs : List Loc) (ls : Array Slot) (hl : lv_has ls 6 [(0, .ref q), (1, .int x1), (3, .int x3), (4, .long y4)]) (hw : mWd g (mA g q ad X s.heap.size) s.heap q ad X iv av H locs) (hf : jM_read_159 K44 iv av x1 x3 y4 = some (r', iv', av')) : mG p l e rM_read s m args below meth c g q ad X rv iv' av' H locs 0 0 (F0 m 159 ls []) := by
  unfold jM_read_159 at hf
  refine lv_aload_n C.1.1 C.1.2.1 dM_read_159 rfl (lv_at hl 0 rfl) ?_
  refine mg_fault C hw dM_read_160 ?_
  refine lv_if_le (tgt := 169) C.1.1 C.1.2.1 dM_read_163 (by decide) (fun c1 => ?_) (fun c1 => ?_)
  · have hf := ts_t hf c1
    refine lv_aload_n C.1.1 C.1.2.1 dM_read_169 rfl (lv_at hl 0 rfl) ?_
    refine lv_aload_n C.1.1 C.1.2.1 dM_read_170 rfl (lv_at hl 0 rfl) ?_
    refine mg_at C hw dM_read_171 ?_
    refine lv_lload C.1.1 C.1.2.1 dM_read_174 (lv_at hl 3 rfl) ?_
    refine lv_l2i C.1.1 C.1.2.1 dM_read_176 rfl ?_
    refine lv_iadd C.1.1 C.1.2.1 dM_read_177 ?_
    refine mp_end C hw dM_read_178 (fun H locs hw => ?_)
    refine lv_iload_n C.1.1 C.1.2.1 dM_read_181 rfl (lv_at hl 2 rfl) ?_
    refine lv_if_eq (tgt := 190) C.1.1 C.1.2.1 dM_read_182 (by decide) (fun c2 => ?_) (fun c2 => ?_)
    · have hf := ts_t hf c2
      exact wM_read_190 C hr hlk hrv hK44 (upd iv 3 ((iv 2) + y4.toInt32)) av x1 x3 _ _ ls (lv_sub hl [0, 1, 2] rfl) hw hf
    · have hf := ts_f hf c2
      refine lv_aload_n C.1.1 C.1.2.1 dM_read_185 rfl (lv_at hl 0 rfl) ?_
      refine lv_iload_n C.1.1 C.1.2.1 dM_read_186 rfl (lv_at hl 1 rfl) ?_
      obtain ⟨⟨iv3, av3⟩, g3, hf⟩ := ts_b hf
      dsimp only at hf
      refine m_callV (rest := []) (As := [.int x1]) (rv := none) C hl.1 hw (cM_track_met g3) (callW_of (rm := rM_track) 1 C.1.2.2.2.2 gw_823 gw_825 gw_29 gw_55 gw_826 kM_track ⟨Nat.le_of_ble_eq_true rfl, Nat.le_of_ble_eq_true rfl⟩) rfl rfl (Nat.le_of_ble_eq_true rfl) dM_read_187 ⟨Nat.le_of_ble_eq_true rfl, Nat.le_of_ble_eq_true rfl⟩ (fun H locs hw => ?_)
      refine W.eq (g2 := F0 m 190 ls []) rfl ?_
      exact wM_read_190 C hr hlk hrv hK44 iv3 av3 x1 x3 _ _ ls (lv_sub hl [0, 1, 2] rfl) hw hf
  · have hf := ts_f hf c1
    refine lv_goto (tgt := 44) C.1.1 C.1.2.1 dM_read_166 (by decide) ?_
    exact hK44 iv av x1 _ _ ls (lv_sub hl [0, 1] rfl) hw hf
set_option maxHeartbeats 4000000 in
set_option maxRecDepth 100000 in
theorem wM_read_119 {p : Program} {l : Launch} {e : Env} {s : State} {m : MethodId} {args : Array Value} {below : List Frame} {meth : Method} {c : Code} {g : gT} {q : Nat} {ad : Nat → Nat} {X : va_W} {rv : Option Value} {iv' : Nat → Int32} {av' : Nat → Nat → Int32} {r' : Int32} (C : mCx p m c cM_read 6 s args g "MidiDeskModel") (hr : meth.sig.returnType = (some .int)) (hlk : meth.locks = false) (hrv : rv = some (.int r')) {K44 : (Nat → Int32) → (Nat → Nat → Int32) → Int32 → Option (Int32 × (Nat → Int32) × (Nat → Nat → Int32))} (hK44 : ∀ (iv : Nat → Int32) (av : Nat → Nat → Int32) (x1 : Int32) (H : Heap) (locs : List Loc) (ls : Array Slot), lv_has ls 6 [(0, .ref q), (1, .int x1)] → mWd g (mA g q ad X s.heap.size) s.heap q ad X iv av H locs → K44 iv av x1 = some (r', iv', av') → mG p l e rM_read s m args below meth c g q ad X rv iv' av' H locs 0 0 (F0 m 44 ls [])) (iv : Nat → Int32) (av : Nat → Nat → Int32) (x1 : Int32) (x3 : Int32) (H : Heap) (locs : List Loc) (ls : Array Slot) (hl : lv_has ls 6 [(0, .ref q), (1, .int x1), (3, .int x3)]) (hw : mWd g (mA g q ad X s.heap.size) s.heap q ad X iv av H locs) (hf : jM_read_119 K44 iv av x1 x3 = some (r', iv', av')) : mG p l e rM_read s m args below meth c g q ad X rv iv' av' H locs 0 0 (F0 m 119 ls []) := by
  unfold jM_read_119 at hf
  refine lv_aload_n C.1.1 C.1.2.1 dM_read_119 rfl (lv_at hl 0 rfl) ?_
  refine lv_iconst (v := (4 : Int32)) C.1.1 C.1.2.1 dM_read_120 (by decide) ?_
  obtain ⟨⟨r1, iv1, av1⟩, g1, hf⟩ := ts_b hf
  dsimp only at hf
  refine m_callV (rest := []) (As := [.int (4 : Int32)]) (rv := (some (.long r1))) C hl.1 hw (cM_taken_met g1) (callW_of (rm := rM_taken) 1 C.1.2.2.2.2 gw_808 gw_810 gw_27 gw_55 gw_811 kM_taken ⟨Nat.le_of_ble_eq_true rfl, Nat.le_of_ble_eq_true rfl⟩) rfl rfl (Nat.le_of_ble_eq_true rfl) dM_read_121 ⟨Nat.le_of_ble_eq_true rfl, Nat.le_of_ble_eq_true rfl⟩ (fun H locs hw => ?_)
  refine W.eq (g2 := F0 m 124 ls [.long r1]) rfl ?_
  refine lv_lstore (lv' := [(4, .long r1), (0, .ref q), (1, .int x1), (3, .int x3)]) C.1.1 C.1.2.1 dM_read_124 hl (by decide) rfl (fun ls hl => ?_)
  refine lv_aload_n C.1.1 C.1.2.1 dM_read_126 rfl (lv_at hl 1 rfl) ?_
  refine mg_fault C hw dM_read_127 ?_
  refine lv_if_ne (tgt := 159) C.1.1 C.1.2.1 dM_read_130 (by decide) (fun c2 => ?_) (fun c2 => ?_)
  · have hf := ts_f hf c2
    exact wM_read_159 C hr hlk hrv hK44 iv1 av1 x1 x3 r1 _ _ ls (lv_sub hl [1, 2, 3, 0] rfl) hw hf
  · have hf := ts_t hf c2
    refine lv_aload_n C.1.1 C.1.2.1 dM_read_133 rfl (lv_at hl 1 rfl) ?_
    refine mg_at C hw dM_read_134 ?_
    refine lv_i2l C.1.1 C.1.2.1 dM_read_137 rfl ?_
    refine lv_lload C.1.1 C.1.2.1 dM_read_138 (lv_at hl 0 rfl) ?_
    refine lv_ladd C.1.1 C.1.2.1 dM_read_140 ?_
    refine lv_aload_n C.1.1 C.1.2.1 dM_read_141 rfl (lv_at hl 1 rfl) ?_
    refine mg_size C hw dM_read_142 ?_
    refine lv_i2l C.1.1 C.1.2.1 dM_read_145 rfl ?_
    refine W.lcmp C.1.1 C.1.2.1 dM_read_146 ?_
    refine lv_if_le (tgt := 159) C.1.1 C.1.2.1 dM_read_147 (by decide) (fun c3 => ?_) (fun c3 => ?_)
    · have hf := ts_t hf c3
      exact wM_read_159 C hr hlk hrv hK44 iv1 av1 x1 x3 r1 _ _ ls (lv_sub hl [1, 2, 3, 0] rfl) hw hf
    · have hf := ts_f hf c3
      refine lv_aload_n C.1.1 C.1.2.1 dM_read_150 rfl (lv_at hl 1 rfl) ?_
      refine lv_iconst (v := (1 : Int32)) C.1.1 C.1.2.1 dM_read_151 (by decide) ?_
      refine lv_aload_n C.1.1 C.1.2.1 dM_read_152 rfl (lv_at hl 1 rfl) ?_
      refine mg_size C hw dM_read_153 ?_
      obtain ⟨⟨iv4, av4⟩, g4, hf⟩ := ts_b hf
      dsimp only at hf
      refine m_callV (rest := []) (As := [.int (1 : Int32), .int (iv1 1)]) (rv := none) C hl.1 hw (cM_fail_met g4) (callW_of (rm := rM_fail) 2 C.1.2.2.2.2 gw_812 gw_814 gw_28 gw_55 gw_815 kM_fail ⟨Nat.le_of_ble_eq_true rfl, Nat.le_of_ble_eq_true rfl⟩) rfl rfl (Nat.le_of_ble_eq_true rfl) dM_read_156 ⟨Nat.le_of_ble_eq_true rfl, Nat.le_of_ble_eq_true rfl⟩ (fun H locs hw => ?_)
      refine W.eq (g2 := F0 m 159 ls []) rfl ?_
      exact wM_read_159 C hr hlk hrv hK44 iv4 av4 x1 x3 r1 _ _ ls (lv_sub hl [1, 2, 3, 0] rfl) hw hf
set_option maxHeartbeats 4000000 in
set_option maxRecDepth 100000 in
theorem wM_read_92 {p : Program} {l : Launch} {e : Env} {s : State} {m : MethodId} {args : Array Value} {below : List Frame} {meth : Method} {c : Code} {g : gT} {q : Nat} {ad : Nat → Nat} {X : va_W} {rv : Option Value} {iv' : Nat → Int32} {av' : Nat → Nat → Int32} {r' : Int32} (C : mCx p m c cM_read 6 s args g "MidiDeskModel") (hr : meth.sig.returnType = (some .int)) (hlk : meth.locks = false) (hrv : rv = some (.int r')) {K44 : (Nat → Int32) → (Nat → Nat → Int32) → Int32 → Option (Int32 × (Nat → Int32) × (Nat → Nat → Int32))} (hK44 : ∀ (iv : Nat → Int32) (av : Nat → Nat → Int32) (x1 : Int32) (H : Heap) (locs : List Loc) (ls : Array Slot), lv_has ls 6 [(0, .ref q), (1, .int x1)] → mWd g (mA g q ad X s.heap.size) s.heap q ad X iv av H locs → K44 iv av x1 = some (r', iv', av') → mG p l e rM_read s m args below meth c g q ad X rv iv' av' H locs 0 0 (F0 m 44 ls [])) (iv : Nat → Int32) (av : Nat → Nat → Int32) (x1 : Int32) (x2 : Int32) (s0 : Int32) (H : Heap) (locs : List Loc) (ls : Array Slot) (hl : lv_has ls 6 [(0, .ref q), (1, .int x1), (2, .int x2)]) (hw : mWd g (mA g q ad X s.heap.size) s.heap q ad X iv av H locs) (hf : jM_read_92 K44 iv av x1 x2 s0 = some (r', iv', av')) : mG p l e rM_read s m args below meth c g q ad X rv iv' av' H locs 0 0 (F0 m 92 ls [.int s0]) := by
  unfold jM_read_92 at hf
  refine lv_istore_n (lv' := [(3, .int s0), (0, .ref q), (1, .int x1), (2, .int x2)]) C.1.1 C.1.2.1 dM_read_92 rfl hl (by decide) rfl (fun ls hl => ?_)
  refine lv_aload_n C.1.1 C.1.2.1 dM_read_93 rfl (lv_at hl 1 rfl) ?_
  refine mg_fault C hw dM_read_94 ?_
  refine lv_if_ne (tgt := 119) C.1.1 C.1.2.1 dM_read_97 (by decide) (fun c1 => ?_) (fun c1 => ?_)
  · have hf := ts_f hf c1
    exact wM_read_119 C hr hlk hrv hK44 iv av x1 s0 _ _ ls (lv_sub hl [1, 2, 0] rfl) hw hf
  · have hf := ts_t hf c1
    refine lv_iload_n C.1.1 C.1.2.1 dM_read_100 rfl (lv_at hl 0 rfl) ?_
    refine lv_if_eq (tgt := 119) C.1.1 C.1.2.1 dM_read_101 (by decide) (fun c2 => ?_) (fun c2 => ?_)
    · have hf := ts_t hf c2
      exact wM_read_119 C hr hlk hrv hK44 iv av x1 s0 _ _ ls (lv_sub hl [1, 2, 0] rfl) hw hf
    · have hf := ts_f hf c2
      refine lv_iload_n C.1.1 C.1.2.1 dM_read_104 rfl (lv_at hl 2 rfl) ?_
      refine lv_aload_n C.1.1 C.1.2.1 dM_read_105 rfl (lv_at hl 1 rfl) ?_
      refine mg_tracks C hw dM_read_106 ?_
      refine lv_icmp_ne (tgt := 119) C.1.1 C.1.2.1 dM_read_109 (by decide) (fun c3 => ?_) (fun c3 => ?_)
      · have hf := ts_f hf c3
        exact wM_read_119 C hr hlk hrv hK44 iv av x1 s0 _ _ ls (lv_sub hl [1, 2, 0] rfl) hw hf
      · have hf := ts_t hf c3
        refine lv_aload_n C.1.1 C.1.2.1 dM_read_112 rfl (lv_at hl 1 rfl) ?_
        refine lv_bipush (v := (10 : Int32)) C.1.1 C.1.2.1 dM_read_113 (by decide) ?_
        refine lv_iload_n C.1.1 C.1.2.1 dM_read_115 rfl (lv_at hl 3 rfl) ?_
        obtain ⟨⟨iv4, av4⟩, g4, hf⟩ := ts_b hf
        dsimp only at hf
        refine m_callV (rest := []) (As := [.int (10 : Int32), .int x2]) (rv := none) C hl.1 hw (cM_fail_met g4) (callW_of (rm := rM_fail) 2 C.1.2.2.2.2 gw_812 gw_814 gw_28 gw_55 gw_815 kM_fail ⟨Nat.le_of_ble_eq_true rfl, Nat.le_of_ble_eq_true rfl⟩) rfl rfl (Nat.le_of_ble_eq_true rfl) dM_read_116 ⟨Nat.le_of_ble_eq_true rfl, Nat.le_of_ble_eq_true rfl⟩ (fun H locs hw => ?_)
        refine W.eq (g2 := F0 m 119 ls []) rfl ?_
        exact wM_read_119 C hr hlk hrv hK44 iv4 av4 x1 s0 _ _ ls (lv_sub hl [1, 2, 0] rfl) hw hf
set_option maxHeartbeats 4000000 in
set_option maxRecDepth 100000 in
theorem wM_read_271 {p : Program} {l : Launch} {e : Env} {s : State} {m : MethodId} {args : Array Value} {below : List Frame} {meth : Method} {c : Code} {g : gT} {q : Nat} {ad : Nat → Nat} {X : va_W} {rv : Option Value} {iv' : Nat → Int32} {av' : Nat → Nat → Int32} {r' : Int32} (C : mCx p m c cM_read 6 s args g "MidiDeskModel") (hr : meth.sig.returnType = (some .int)) (hlk : meth.locks = false) (hrv : rv = some (.int r')) (iv : Nat → Int32) (av : Nat → Nat → Int32) (H : Heap) (locs : List Loc) (ls : Array Slot) (hl : lv_has ls 6 [(0, .ref q)]) (hw : mWd g (mA g q ad X s.heap.size) s.heap q ad X iv av H locs) (hf : jM_read_271 iv av = some (r', iv', av')) : mG p l e rM_read s m args below meth c g q ad X rv iv' av' H locs 0 0 (F0 m 271 ls []) := by
  unfold jM_read_271 at hf
  refine lv_aload_n C.1.1 C.1.2.1 dM_read_271 rfl (lv_at hl 0 rfl) ?_
  refine mg_fault C hw dM_read_272 ?_
  refine lv_bipush (v := (16 : Int32)) C.1.1 C.1.2.1 dM_read_275 (by decide) ?_
  refine lv_aload_n C.1.1 C.1.2.1 dM_read_277 rfl (lv_at hl 0 rfl) ?_
  refine mg_place C hw dM_read_278 ?_
  refine lv_imul C.1.1 C.1.2.1 dM_read_281 ?_
  refine lv_iadd C.1.1 C.1.2.1 dM_read_282 ?_
  exact m_reti C hr hlk hrv hw hf ⟨Nat.le_of_ble_eq_true rfl, Nat.le_of_ble_eq_true rfl⟩ dM_read_283
set_option maxHeartbeats 4000000 in
set_option maxRecDepth 100000 in
theorem wM_read_244 {p : Program} {l : Launch} {e : Env} {s : State} {m : MethodId} {args : Array Value} {below : List Frame} {meth : Method} {c : Code} {g : gT} {q : Nat} {ad : Nat → Nat} {X : va_W} {rv : Option Value} {iv' : Nat → Int32} {av' : Nat → Nat → Int32} {r' : Int32} (C : mCx p m c cM_read 6 s args g "MidiDeskModel") (hr : meth.sig.returnType = (some .int)) (hlk : meth.locks = false) (hrv : rv = some (.int r')) (iv : Nat → Int32) (av : Nat → Nat → Int32) (s1 : Int32) (H : Heap) (locs : List Loc) (ls : Array Slot) (hl : lv_has ls 6 [(0, .ref q)]) (hw : mWd g (mA g q ad X s.heap.size) s.heap q ad X iv av H locs) (hf : jM_read_244 iv av s1 = some (r', iv', av')) : mG p l e rM_read s m args below meth c g q ad X rv iv' av' H locs 0 0 (F0 m 244 ls [.int s1, .ref q]) := by
  unfold jM_read_244 at hf
  obtain ⟨h1, hf⟩ := ts_g hf
  refine mp_there C hw (Decidable.not_not.mp h1) dM_read_244 (fun H locs hw => ?_)
  refine lv_aload_n C.1.1 C.1.2.1 dM_read_247 rfl (lv_at hl 0 rfl) ?_
  refine lv_iconst (v := (0 : Int32)) C.1.1 C.1.2.1 dM_read_248 (by decide) ?_
  refine mp_size C hw dM_read_249 (fun H locs hw => ?_)
  refine lv_aload_n C.1.1 C.1.2.1 dM_read_252 rfl (lv_at hl 0 rfl) ?_
  refine mg_there C hw dM_read_253 ?_
  refine lv_if_eq (tgt := 266) C.1.1 C.1.2.1 dM_read_256 (by decide) (fun c2 => ?_) (fun c2 => ?_)
  · have hf := ts_t hf c2
    refine lv_aload_n C.1.1 C.1.2.1 dM_read_266 rfl (lv_at hl 0 rfl) ?_
    refine lv_iconst (v := (0 : Int32)) C.1.1 C.1.2.1 dM_read_267 (by decide) ?_
    refine mp_events C hw dM_read_268 (fun H locs hw => ?_)
    exact wM_read_271 C hr hlk hrv (upd (upd (upd iv 6 s1) 1 (0 : Int32)) 10 (0 : Int32)) av _ _ ls (lv_sub hl [0] rfl) hw hf
  · have hf := ts_f hf c2
    refine lv_aload_n C.1.1 C.1.2.1 dM_read_259 rfl (lv_at hl 0 rfl) ?_
    obtain ⟨⟨iv3, av3⟩, g3, hf⟩ := ts_b hf
    dsimp only at hf
    refine m_callV (rest := []) (As := []) (rv := none) C hl.1 hw (cM_sort_met g3) (callW_of (rm := rM_sort) 0 C.1.2.2.2.2 gw_848 gw_850 gw_35 gw_55 gw_851 kM_sort ⟨Nat.le_of_ble_eq_true rfl, Nat.le_of_ble_eq_true rfl⟩) rfl rfl (Nat.le_of_ble_eq_true rfl) dM_read_260 ⟨Nat.le_of_ble_eq_true rfl, Nat.le_of_ble_eq_true rfl⟩ (fun H locs hw => ?_)
    refine W.eq (g2 := F0 m 263 ls []) rfl ?_
    refine lv_goto (tgt := 271) C.1.1 C.1.2.1 dM_read_263 (by decide) ?_
    exact wM_read_271 C hr hlk hrv iv3 av3 _ _ ls (lv_sub hl [0] rfl) hw hf
set_option maxHeartbeats 4000000 in
set_option maxRecDepth 100000 in
theorem wM_read_231 {p : Program} {l : Launch} {e : Env} {s : State} {m : MethodId} {args : Array Value} {below : List Frame} {meth : Method} {c : Code} {g : gT} {q : Nat} {ad : Nat → Nat} {X : va_W} {rv : Option Value} {iv' : Nat → Int32} {av' : Nat → Nat → Int32} {r' : Int32} (C : mCx p m c cM_read 6 s args g "MidiDeskModel") (hr : meth.sig.returnType = (some .int)) (hlk : meth.locks = false) (hrv : rv = some (.int r')) (iv : Nat → Int32) (av : Nat → Nat → Int32) (H : Heap) (locs : List Loc) (ls : Array Slot) (hl : lv_has ls 6 [(0, .ref q)]) (hw : mWd g (mA g q ad X s.heap.size) s.heap q ad X iv av H locs) (hf : jM_read_231 iv av = some (r', iv', av')) : mG p l e rM_read s m args below meth c g q ad X rv iv' av' H locs 0 0 (F0 m 231 ls []) := by
  unfold jM_read_231 at hf
  refine lv_aload_n C.1.1 C.1.2.1 dM_read_231 rfl (lv_at hl 0 rfl) ?_
  refine lv_aload_n C.1.1 C.1.2.1 dM_read_232 rfl (lv_at hl 0 rfl) ?_
  refine mg_fault C hw dM_read_233 ?_
  refine lv_if_ne (tgt := 243) C.1.1 C.1.2.1 dM_read_236 (by decide) (fun c1 => ?_) (fun c1 => ?_)
  · have hf := ts_f hf c1
    refine lv_iconst (v := (0 : Int32)) C.1.1 C.1.2.1 dM_read_243 (by decide) ?_
    exact wM_read_244 C hr hlk hrv iv av (0 : Int32) _ _ ls (lv_sub hl [0] rfl) hw hf
  · have hf := ts_t hf c1
    refine lv_iconst (v := (1 : Int32)) C.1.1 C.1.2.1 dM_read_239 (by decide) ?_
    refine lv_goto (tgt := 244) C.1.1 C.1.2.1 dM_read_240 (by decide) ?_
    exact wM_read_244 C hr hlk hrv iv av (1 : Int32) _ _ ls (lv_sub hl [0] rfl) hw hf
set_option maxHeartbeats 4000000 in
set_option maxRecDepth 100000 in
theorem wM_read_213 {p : Program} {l : Launch} {e : Env} {s : State} {m : MethodId} {args : Array Value} {below : List Frame} {meth : Method} {c : Code} {g : gT} {q : Nat} {ad : Nat → Nat} {X : va_W} {rv : Option Value} {iv' : Nat → Int32} {av' : Nat → Nat → Int32} {r' : Int32} (C : mCx p m c cM_read 6 s args g "MidiDeskModel") (hr : meth.sig.returnType = (some .int)) (hlk : meth.locks = false) (hrv : rv = some (.int r')) (iv : Nat → Int32) (av : Nat → Nat → Int32) (x1 : Int32) (H : Heap) (locs : List Loc) (ls : Array Slot) (hl : lv_has ls 6 [(0, .ref q), (1, .int x1)]) (hw : mWd g (mA g q ad X s.heap.size) s.heap q ad X iv av H locs) (hf : jM_read_213 iv av x1 = some (r', iv', av')) : mG p l e rM_read s m args below meth c g q ad X rv iv' av' H locs 0 0 (F0 m 213 ls []) := by
  unfold jM_read_213 at hf
  refine lv_iload_n C.1.1 C.1.2.1 dM_read_213 rfl (lv_at hl 1 rfl) ?_
  refine lv_aload_n C.1.1 C.1.2.1 dM_read_214 rfl (lv_at hl 0 rfl) ?_
  refine mg_tracks C hw dM_read_215 ?_
  refine lv_icmp_ge (tgt := 231) C.1.1 C.1.2.1 dM_read_218 (by decide) (fun c1 => ?_) (fun c1 => ?_)
  · have hf := ts_t hf c1
    exact wM_read_231 C hr hlk hrv iv av _ _ ls (lv_sub hl [0] rfl) hw hf
  · have hf := ts_f hf c1
    refine lv_aload_n C.1.1 C.1.2.1 dM_read_221 rfl (lv_at hl 0 rfl) ?_
    refine lv_bipush (v := (10 : Int32)) C.1.1 C.1.2.1 dM_read_222 (by decide) ?_
    refine lv_aload_n C.1.1 C.1.2.1 dM_read_224 rfl (lv_at hl 0 rfl) ?_
    refine mg_size C hw dM_read_225 ?_
    obtain ⟨⟨iv2, av2⟩, g2, hf⟩ := ts_b hf
    dsimp only at hf
    refine m_callV (rest := []) (As := [.int (10 : Int32), .int (iv 1)]) (rv := none) C hl.1 hw (cM_fail_met g2) (callW_of (rm := rM_fail) 2 C.1.2.2.2.2 gw_812 gw_814 gw_28 gw_55 gw_815 kM_fail ⟨Nat.le_of_ble_eq_true rfl, Nat.le_of_ble_eq_true rfl⟩) rfl rfl (Nat.le_of_ble_eq_true rfl) dM_read_228 ⟨Nat.le_of_ble_eq_true rfl, Nat.le_of_ble_eq_true rfl⟩ (fun H locs hw => ?_)
    refine W.eq (g2 := F0 m 231 ls []) rfl ?_
    exact wM_read_231 C hr hlk hrv iv2 av2 _ _ ls (lv_sub hl [0] rfl) hw hf
set_option maxHeartbeats 4000000 in
set_option maxRecDepth 100000 in
theorem wM_read_44 {p : Program} {l : Launch} {e : Env} {s : State} {m : MethodId} {args : Array Value} {below : List Frame} {meth : Method} {c : Code} {g : gT} {q : Nat} {ad : Nat → Nat} {X : va_W} {rv : Option Value} {iv' : Nat → Int32} {av' : Nat → Nat → Int32} {r' : Int32} (C : mCx p m c cM_read 6 s args g "MidiDeskModel") (hr : meth.sig.returnType = (some .int)) (hlk : meth.locks = false) (hrv : rv = some (.int r')) (k : Nat) : ∀ (iv : Nat → Int32) (av : Nat → Nat → Int32) (x1 : Int32) (H : Heap) (locs : List Loc) (ls : Array Slot), lv_has ls 6 [(0, .ref q), (1, .int x1)] → mWd g (mA g q ad X s.heap.size) s.heap q ad X iv av H locs → lM_read_44 k iv av x1 = some (r', iv', av') → mG p l e rM_read s m args below meth c g q ad X rv iv' av' H locs 0 0 (F0 m 44 ls []) := by
  induction k with
  | zero => intro iv av x1 H locs ls hl hw hf; cases hf
  | succ k ih =>
    intro iv av x1 H locs ls hl hw hf
    have hf : (if (iv 4) = 0 then (if (iv 1) ≤ (iv 2) then (jM_read_213 iv av x1) else ((fM_taken (upd iv 3 (iv 1)) av (4 : Int32)).bind fun (r3, iv3, av3) => if (lg_cmp r3 (1297379947 : Int64)) = 0 then (jM_read_92 (lM_read_44 k) iv3 av3 x1 ((upd iv 3 (iv 1)) 2) (1 : Int32)) else (jM_read_92 (lM_read_44 k) iv3 av3 x1 ((upd iv 3 (iv 1)) 2) (0 : Int32)))) else (jM_read_213 iv av x1)) = some (r', iv', av') := hf
    refine lv_aload_n C.1.1 C.1.2.1 dM_read_44 rfl (lv_at hl 0 rfl) ?_
    refine mg_fault C hw dM_read_45 ?_
    refine lv_if_ne (tgt := 213) C.1.1 C.1.2.1 dM_read_48 (by decide) (fun c1 => ?_) (fun c1 => ?_)
    · have hf := ts_f hf c1
      exact wM_read_213 C hr hlk hrv iv av x1 _ _ ls (lv_sub hl [0, 1] rfl) hw hf
    · have hf := ts_t hf c1
      refine lv_aload_n C.1.1 C.1.2.1 dM_read_51 rfl (lv_at hl 0 rfl) ?_
      refine mg_at C hw dM_read_52 ?_
      refine lv_aload_n C.1.1 C.1.2.1 dM_read_55 rfl (lv_at hl 0 rfl) ?_
      refine mg_size C hw dM_read_56 ?_
      refine lv_icmp_ge (tgt := 213) C.1.1 C.1.2.1 dM_read_59 (by decide) (fun c2 => ?_) (fun c2 => ?_)
      · have hf := ts_t hf c2
        exact wM_read_213 C hr hlk hrv iv av x1 _ _ ls (lv_sub hl [0, 1] rfl) hw hf
      · have hf := ts_f hf c2
        refine lv_aload_n C.1.1 C.1.2.1 dM_read_62 rfl (lv_at hl 0 rfl) ?_
        refine lv_aload_n C.1.1 C.1.2.1 dM_read_63 rfl (lv_at hl 0 rfl) ?_
        refine mg_size C hw dM_read_64 ?_
        refine mp_end C hw dM_read_67 (fun H locs hw => ?_)
        refine lv_aload_n C.1.1 C.1.2.1 dM_read_70 rfl (lv_at hl 0 rfl) ?_
        refine mg_at C hw dM_read_71 ?_
        refine lv_istore_n (lv' := [(2, .int ((upd iv 3 (iv 1)) 2)), (0, .ref q), (1, .int x1)]) C.1.1 C.1.2.1 dM_read_74 rfl hl (by decide) rfl (fun ls hl => ?_)
        refine lv_aload_n C.1.1 C.1.2.1 dM_read_75 rfl (lv_at hl 1 rfl) ?_
        refine lv_iconst (v := (4 : Int32)) C.1.1 C.1.2.1 dM_read_76 (by decide) ?_
        obtain ⟨⟨r3, iv3, av3⟩, g3, hf⟩ := ts_b hf
        dsimp only at hf
        refine m_callV (rest := []) (As := [.int (4 : Int32)]) (rv := (some (.long r3))) C hl.1 hw (cM_taken_met g3) (callW_of (rm := rM_taken) 1 C.1.2.2.2.2 gw_808 gw_810 gw_27 gw_55 gw_811 kM_taken ⟨Nat.le_of_ble_eq_true rfl, Nat.le_of_ble_eq_true rfl⟩) rfl rfl (Nat.le_of_ble_eq_true rfl) dM_read_77 ⟨Nat.le_of_ble_eq_true rfl, Nat.le_of_ble_eq_true rfl⟩ (fun H locs hw => ?_)
        refine W.eq (g2 := F0 m 80 ls [.long r3]) rfl ?_
        refine lv_ldc2 C.1.1 C.1.2.1 C.1.2.2.2.1 (C.1.2.2.2.2 _ gw_822) dM_read_80 ?_
        refine W.lcmp C.1.1 C.1.2.1 dM_read_83 ?_
        refine lv_if_ne (tgt := 91) C.1.1 C.1.2.1 dM_read_84 (by decide) (fun c4 => ?_) (fun c4 => ?_)
        · have hf := ts_f hf c4
          refine lv_iconst (v := (0 : Int32)) C.1.1 C.1.2.1 dM_read_91 (by decide) ?_
          exact wM_read_92 C hr hlk hrv ih iv3 av3 x1 ((upd iv 3 (iv 1)) 2) (0 : Int32) _ _ ls (lv_sub hl [1, 2, 0] rfl) hw hf
        · have hf := ts_t hf c4
          refine lv_iconst (v := (1 : Int32)) C.1.1 C.1.2.1 dM_read_87 (by decide) ?_
          refine lv_goto (tgt := 92) C.1.1 C.1.2.1 dM_read_88 (by decide) ?_
          exact wM_read_92 C hr hlk hrv ih iv3 av3 x1 ((upd iv 3 (iv 1)) 2) (1 : Int32) _ _ ls (lv_sub hl [1, 2, 0] rfl) hw hf
set_option maxHeartbeats 4000000 in
set_option maxRecDepth 100000 in
theorem cM_read_met {l : Launch} {g : gT} {q : Nat} {ad : Nat → Nat} {X : va_W} {iv iv' : Nat → Int32} {av av' : Nat → Nat → Int32} {r' : Int32} (hf : fM_read iv av = some (r', iv', av')) : mMet l yM_read cM_read 6 (some .int) rM_read g q ad X iv av [.ref q] (some (.int r')) iv' av' := by
  refine m_entry (by decide) (Nat.le_of_ble_eq_true rfl) ?_
  intro p e s m args below meth c ls C hr hlk hnm hl hw
  have hrv : ((some (.int r')) : Option Value) = (some (.int r')) := rfl
  have C : mCx p m c cM_read 6 s args g "MidiDeskModel" := C
  have hl : lv_has ls 6 [(0, .ref q)] := hl
  unfold fM_read at hf
  refine lv_aload_n C.1.1 C.1.2.1 dM_read_0 rfl (lv_at hl 0 rfl) ?_
  refine lv_iconst (v := (0 : Int32)) C.1.1 C.1.2.1 dM_read_1 (by decide) ?_
  refine mp_thrown C hw dM_read_2 (fun H locs hw => ?_)
  refine lv_aload_n C.1.1 C.1.2.1 dM_read_5 rfl (lv_at hl 0 rfl) ?_
  refine lv_iconst (v := (0 : Int32)) C.1.1 C.1.2.1 dM_read_6 (by decide) ?_
  refine mp_at C hw dM_read_7 (fun H locs hw => ?_)
  refine lv_aload_n C.1.1 C.1.2.1 dM_read_10 rfl (lv_at hl 0 rfl) ?_
  refine lv_aload_n C.1.1 C.1.2.1 dM_read_11 rfl (lv_at hl 0 rfl) ?_
  refine mg_size C hw dM_read_12 ?_
  refine mp_end C hw dM_read_15 (fun H locs hw => ?_)
  refine lv_aload_n C.1.1 C.1.2.1 dM_read_18 rfl (lv_at hl 0 rfl) ?_
  refine lv_iconst (v := (0 : Int32)) C.1.1 C.1.2.1 dM_read_19 (by decide) ?_
  refine mp_fault C hw dM_read_20 (fun H locs hw => ?_)
  refine lv_aload_n C.1.1 C.1.2.1 dM_read_23 rfl (lv_at hl 0 rfl) ?_
  refine lv_iconst (v := (0 : Int32)) C.1.1 C.1.2.1 dM_read_24 (by decide) ?_
  refine mp_place C hw dM_read_25 (fun H locs hw => ?_)
  refine lv_aload_n C.1.1 C.1.2.1 dM_read_28 rfl (lv_at hl 0 rfl) ?_
  refine lv_iconst (v := (0 : Int32)) C.1.1 C.1.2.1 dM_read_29 (by decide) ?_
  refine mp_events C hw dM_read_30 (fun H locs hw => ?_)
  refine lv_aload_n C.1.1 C.1.2.1 dM_read_33 rfl (lv_at hl 0 rfl) ?_
  refine lv_iconst (v := (0 : Int32)) C.1.1 C.1.2.1 dM_read_34 (by decide) ?_
  refine mp_many C hw dM_read_35 (fun H locs hw => ?_)
  refine lv_aload_n C.1.1 C.1.2.1 dM_read_38 rfl (lv_at hl 0 rfl) ?_
  obtain ⟨⟨iv1, av1⟩, g1, hf⟩ := ts_b hf
  dsimp only at hf
  refine m_callV (rest := []) (As := []) (rv := none) C hl.1 hw (cM_head_met g1) (callW_of (rm := rM_head) 0 C.1.2.2.2.2 gw_804 gw_806 gw_26 gw_55 gw_807 kM_head ⟨Nat.le_of_ble_eq_true rfl, Nat.le_of_ble_eq_true rfl⟩) rfl rfl (Nat.le_of_ble_eq_true rfl) dM_read_39 ⟨Nat.le_of_ble_eq_true rfl, Nat.le_of_ble_eq_true rfl⟩ (fun H locs hw => ?_)
  refine W.eq (g2 := F0 m 42 ls []) rfl ?_
  refine lv_iconst (v := (0 : Int32)) C.1.1 C.1.2.1 dM_read_42 (by decide) ?_
  refine lv_istore_n (lv' := [(1, .int (0 : Int32)), (0, .ref q)]) C.1.1 C.1.2.1 dM_read_43 rfl hl (by decide) rfl (fun ls hl => ?_)
  exact wM_read_44 C hr hlk hrv FU iv1 av1 (0 : Int32) _ _ ls (lv_sub hl [1, 0] rfl) hw hf
end
section
abbrev cM_isTempo : ByteArray := prog_8_method_16_code
abbrev yM_isTempo : MethodName := ⟨"MidiDeskModel", "isTempo", "(I)Z"⟩
theorem kM_isTempo : yM_isTempo.cls ≠ "java/lang/invoke/MethodHandle" ∧ yM_isTempo.cls ≠ "java/lang/invoke/VarHandle" ∧ (parseMethodDescriptor yM_isTempo.desc).map (fun d => d.parameters.length) = some 1 := by decide +kernel
abbrev rM_isTempo : Room := { frames := 0, cells := 0, slots := 0, locals := 0 }
theorem dM_isTempo_0 : decode cM_isTempo 0 = .ok (.aload_n 0, 1) := by decide +kernel
theorem dM_isTempo_1 : decode cM_isTempo 1 = .ok (.getfield 19, 3) := by decide +kernel
theorem dM_isTempo_4 : decode cM_isTempo 4 = .ok (.iload_n 1, 1) := by decide +kernel
theorem dM_isTempo_5 : decode cM_isTempo 5 = .ok (.iaload, 1) := by decide +kernel
theorem dM_isTempo_6 : decode cM_isTempo 6 = .ok (.sipush 255, 3) := by decide +kernel
theorem dM_isTempo_9 : decode cM_isTempo 9 = .ok (.if_icmp .ne 18, 3) := by decide +kernel
theorem dM_isTempo_12 : decode cM_isTempo 12 = .ok (.aload_n 0, 1) := by decide +kernel
theorem dM_isTempo_13 : decode cM_isTempo 13 = .ok (.getfield 22, 3) := by decide +kernel
theorem dM_isTempo_16 : decode cM_isTempo 16 = .ok (.iload_n 1, 1) := by decide +kernel
theorem dM_isTempo_17 : decode cM_isTempo 17 = .ok (.iaload, 1) := by decide +kernel
theorem dM_isTempo_18 : decode cM_isTempo 18 = .ok (.bipush 81, 2) := by decide +kernel
theorem dM_isTempo_20 : decode cM_isTempo 20 = .ok (.if_icmp .ne 7, 3) := by decide +kernel
theorem dM_isTempo_23 : decode cM_isTempo 23 = .ok (.iconst 1, 1) := by decide +kernel
theorem dM_isTempo_24 : decode cM_isTempo 24 = .ok (.goto 4, 3) := by decide +kernel
theorem dM_isTempo_27 : decode cM_isTempo 27 = .ok (.iconst 0, 1) := by decide +kernel
theorem dM_isTempo_28 : decode cM_isTempo 28 = .ok (.ireturn, 1) := by decide +kernel
def fM_isTempo (iv : Nat → Int32) (av : Nat → Nat → Int32) (x1 : Int32) : Option (Int32 × (Nat → Int32) × (Nat → Nat → Int32)) := if x1 < 0 ∨ 1001 ≤ x1.toNatClampNeg then none else (if (av 3 x1.toNatClampNeg) = (255 : Int32) then (if x1 < 0 ∨ 1001 ≤ x1.toNatClampNeg then none else (if (av 4 x1.toNatClampNeg) = (81 : Int32) then (some ((1 : Int32), iv, av)) else (some ((0 : Int32), iv, av)))) else (some ((0 : Int32), iv, av)))
set_option maxHeartbeats 4000000 in
set_option maxRecDepth 100000 in
theorem cM_isTempo_met {l : Launch} {g : gT} {q : Nat} {ad : Nat → Nat} {X : va_W} {iv iv' : Nat → Int32} {av av' : Nat → Nat → Int32} {x1 : Int32} {r' : Int32} (hf : fM_isTempo iv av x1 = some (r', iv', av')) : mMet l yM_isTempo cM_isTempo 2 (some .boolean) rM_isTempo g q ad X iv av [.ref q, .int x1] (some (.int r')) iv' av' := by
  refine m_entry (by decide) (Nat.le_of_ble_eq_true rfl) ?_
  intro p e s m args below meth c ls C hr hlk hnm hl hw
  have hrv : ((some (.int r')) : Option Value) = (some (.int r')) := rfl
  have C : mCx p m c cM_isTempo 2 s args g "MidiDeskModel" := C
  have hl : lv_has ls 2 [(0, .ref q), (1, .int x1)] := hl
  unfold fM_isTempo at hf
  refine lv_aload_n C.1.1 C.1.2.1 dM_isTempo_0 rfl (lv_at hl 0 rfl) ?_
  refine mg_status C hw dM_isTempo_1 ?_
  refine lv_iload_n C.1.1 C.1.2.1 dM_isTempo_4 rfl (lv_at hl 1 rfl) ?_
  obtain ⟨h1, hf⟩ := ts_g hf
  refine ma_status C hw h1 dM_isTempo_5 ?_
  refine lv_sipush (v := (255 : Int32)) C.1.1 C.1.2.1 dM_isTempo_6 (by decide) ?_
  refine lv_icmp_ne (tgt := 27) C.1.1 C.1.2.1 dM_isTempo_9 (by decide) (fun c2 => ?_) (fun c2 => ?_)
  · have hf := ts_f hf c2
    refine lv_iconst (v := (0 : Int32)) C.1.1 C.1.2.1 dM_isTempo_27 (by decide) ?_
    exact m_retz C hr hlk hrv hw (Or.inl rfl) hf ⟨Nat.le_of_ble_eq_true rfl, Nat.le_of_ble_eq_true rfl⟩ dM_isTempo_28
  · have hf := ts_t hf c2
    refine lv_aload_n C.1.1 C.1.2.1 dM_isTempo_12 rfl (lv_at hl 0 rfl) ?_
    refine mg_first C hw dM_isTempo_13 ?_
    refine lv_iload_n C.1.1 C.1.2.1 dM_isTempo_16 rfl (lv_at hl 1 rfl) ?_
    obtain ⟨h3, hf⟩ := ts_g hf
    refine ma_first C hw h3 dM_isTempo_17 ?_
    refine lv_bipush (v := (81 : Int32)) C.1.1 C.1.2.1 dM_isTempo_18 (by decide) ?_
    refine lv_icmp_ne (tgt := 27) C.1.1 C.1.2.1 dM_isTempo_20 (by decide) (fun c4 => ?_) (fun c4 => ?_)
    · have hf := ts_f hf c4
      refine lv_iconst (v := (0 : Int32)) C.1.1 C.1.2.1 dM_isTempo_27 (by decide) ?_
      exact m_retz C hr hlk hrv hw (Or.inl rfl) hf ⟨Nat.le_of_ble_eq_true rfl, Nat.le_of_ble_eq_true rfl⟩ dM_isTempo_28
    · have hf := ts_t hf c4
      refine lv_iconst (v := (1 : Int32)) C.1.1 C.1.2.1 dM_isTempo_23 (by decide) ?_
      refine lv_goto (tgt := 28) C.1.1 C.1.2.1 dM_isTempo_24 (by decide) ?_
      exact m_retz C hr hlk hrv hw (Or.inr rfl) hf ⟨Nat.le_of_ble_eq_true rfl, Nat.le_of_ble_eq_true rfl⟩ dM_isTempo_28
abbrev cM_has : ByteArray := prog_8_method_20_code
abbrev yM_has : MethodName := ⟨"MidiDeskModel", "has", "(I)Z"⟩
theorem kM_has : yM_has.cls ≠ "java/lang/invoke/MethodHandle" ∧ yM_has.cls ≠ "java/lang/invoke/VarHandle" ∧ (parseMethodDescriptor yM_has.desc).map (fun d => d.parameters.length) = some 1 := by decide +kernel
abbrev rM_has : Room := { frames := 0, cells := 0, slots := 0, locals := 0 }
theorem dM_has_0 : decode cM_has 0 = .ok (.aload_n 0, 1) := by decide +kernel
theorem dM_has_1 : decode cM_has 1 = .ok (.getfield 110, 3) := by decide +kernel
theorem dM_has_4 : decode cM_has 4 = .ok (.ifCond .eq 19, 3) := by decide +kernel
theorem dM_has_7 : decode cM_has 7 = .ok (.iload_n 1, 1) := by decide +kernel
theorem dM_has_8 : decode cM_has 8 = .ok (.ifCond .lt 15, 3) := by decide +kernel
theorem dM_has_11 : decode cM_has 11 = .ok (.iload_n 1, 1) := by decide +kernel
theorem dM_has_12 : decode cM_has 12 = .ok (.aload_n 0, 1) := by decide +kernel
theorem dM_has_13 : decode cM_has 13 = .ok (.getfield 95, 3) := by decide +kernel
theorem dM_has_16 : decode cM_has 16 = .ok (.if_icmp .ge 7, 3) := by decide +kernel
theorem dM_has_19 : decode cM_has 19 = .ok (.iconst 1, 1) := by decide +kernel
theorem dM_has_20 : decode cM_has 20 = .ok (.goto 4, 3) := by decide +kernel
theorem dM_has_23 : decode cM_has 23 = .ok (.iconst 0, 1) := by decide +kernel
theorem dM_has_24 : decode cM_has 24 = .ok (.ireturn, 1) := by decide +kernel
def fM_has (iv : Nat → Int32) (av : Nat → Nat → Int32) (x1 : Int32) : Option (Int32 × (Nat → Int32) × (Nat → Nat → Int32)) := if (iv 6) = 0 then (some ((0 : Int32), iv, av)) else (if x1 < 0 then (some ((0 : Int32), iv, av)) else (if (iv 10) ≤ x1 then (some ((0 : Int32), iv, av)) else (some ((1 : Int32), iv, av))))
set_option maxHeartbeats 4000000 in
set_option maxRecDepth 100000 in
theorem cM_has_met {l : Launch} {g : gT} {q : Nat} {ad : Nat → Nat} {X : va_W} {iv iv' : Nat → Int32} {av av' : Nat → Nat → Int32} {x1 : Int32} {r' : Int32} (hf : fM_has iv av x1 = some (r', iv', av')) : mMet l yM_has cM_has 2 (some .boolean) rM_has g q ad X iv av [.ref q, .int x1] (some (.int r')) iv' av' := by
  refine m_entry (by decide) (Nat.le_of_ble_eq_true rfl) ?_
  intro p e s m args below meth c ls C hr hlk hnm hl hw
  have hrv : ((some (.int r')) : Option Value) = (some (.int r')) := rfl
  have C : mCx p m c cM_has 2 s args g "MidiDeskModel" := C
  have hl : lv_has ls 2 [(0, .ref q), (1, .int x1)] := hl
  unfold fM_has at hf
  refine lv_aload_n C.1.1 C.1.2.1 dM_has_0 rfl (lv_at hl 0 rfl) ?_
  refine mg_there C hw dM_has_1 ?_
  refine lv_if_eq (tgt := 23) C.1.1 C.1.2.1 dM_has_4 (by decide) (fun c1 => ?_) (fun c1 => ?_)
  · have hf := ts_t hf c1
    refine lv_iconst (v := (0 : Int32)) C.1.1 C.1.2.1 dM_has_23 (by decide) ?_
    exact m_retz C hr hlk hrv hw (Or.inl rfl) hf ⟨Nat.le_of_ble_eq_true rfl, Nat.le_of_ble_eq_true rfl⟩ dM_has_24
  · have hf := ts_f hf c1
    refine lv_iload_n C.1.1 C.1.2.1 dM_has_7 rfl (lv_at hl 1 rfl) ?_
    refine lv_if_lt (tgt := 23) C.1.1 C.1.2.1 dM_has_8 (by decide) (fun c2 => ?_) (fun c2 => ?_)
    · have hf := ts_t hf c2
      refine lv_iconst (v := (0 : Int32)) C.1.1 C.1.2.1 dM_has_23 (by decide) ?_
      exact m_retz C hr hlk hrv hw (Or.inl rfl) hf ⟨Nat.le_of_ble_eq_true rfl, Nat.le_of_ble_eq_true rfl⟩ dM_has_24
    · have hf := ts_f hf c2
      refine lv_iload_n C.1.1 C.1.2.1 dM_has_11 rfl (lv_at hl 1 rfl) ?_
      refine lv_aload_n C.1.1 C.1.2.1 dM_has_12 rfl (lv_at hl 0 rfl) ?_
      refine mg_events C hw dM_has_13 ?_
      refine lv_icmp_ge (tgt := 23) C.1.1 C.1.2.1 dM_has_16 (by decide) (fun c3 => ?_) (fun c3 => ?_)
      · have hf := ts_t hf c3
        refine lv_iconst (v := (0 : Int32)) C.1.1 C.1.2.1 dM_has_23 (by decide) ?_
        exact m_retz C hr hlk hrv hw (Or.inl rfl) hf ⟨Nat.le_of_ble_eq_true rfl, Nat.le_of_ble_eq_true rfl⟩ dM_has_24
      · have hf := ts_f hf c3
        refine lv_iconst (v := (1 : Int32)) C.1.1 C.1.2.1 dM_has_19 (by decide) ?_
        refine lv_goto (tgt := 24) C.1.1 C.1.2.1 dM_has_20 (by decide) ?_
        exact m_retz C hr hlk hrv hw (Or.inr rfl) hf ⟨Nat.le_of_ble_eq_true rfl, Nat.le_of_ble_eq_true rfl⟩ dM_has_24
abbrev cM_event : ByteArray := prog_8_method_21_code
abbrev yM_event : MethodName := ⟨"MidiDeskModel", "event", "(II)I"⟩
theorem kM_event : yM_event.cls ≠ "java/lang/invoke/MethodHandle" ∧ yM_event.cls ≠ "java/lang/invoke/VarHandle" ∧ (parseMethodDescriptor yM_event.desc).map (fun d => d.parameters.length) = some 2 := by decide +kernel
abbrev rM_event : Room := { frames := 1, cells := 0, slots := 0, locals := 21 }
theorem dM_event_0 : decode cM_event 0 = .ok (.aload_n 0, 1) := by decide +kernel
theorem dM_event_1 : decode cM_event 1 = .ok (.iconst 0, 1) := by decide +kernel
theorem dM_event_2 : decode cM_event 2 = .ok (.putfield 47, 3) := by decide +kernel
theorem dM_event_5 : decode cM_event 5 = .ok (.aload_n 0, 1) := by decide +kernel
theorem dM_event_6 : decode cM_event 6 = .ok (.iload_n 1, 1) := by decide +kernel
theorem dM_event_7 : decode cM_event 7 = .ok (.invokevirtual 144, 3) := by decide +kernel
theorem dM_event_10 : decode cM_event 10 = .ok (.ifCond .ne 5, 3) := by decide +kernel
theorem dM_event_13 : decode cM_event 13 = .ok (.iconst (-1), 1) := by decide +kernel
theorem dM_event_14 : decode cM_event 14 = .ok (.ireturn, 1) := by decide +kernel
theorem dM_event_15 : decode cM_event 15 = .ok (.aload_n 0, 1) := by decide +kernel
theorem dM_event_16 : decode cM_event 16 = .ok (.getfield 34, 3) := by decide +kernel
theorem dM_event_19 : decode cM_event 19 = .ok (.iload_n 1, 1) := by decide +kernel
theorem dM_event_20 : decode cM_event 20 = .ok (.iaload, 1) := by decide +kernel
theorem dM_event_21 : decode cM_event 21 = .ok (.istore_n 3, 1) := by decide +kernel
theorem dM_event_22 : decode cM_event 22 = .ok (.iload_n 2, 1) := by decide +kernel
theorem dM_event_23 : decode cM_event 23 = .ok (.tableswitch 79 0 5 #[37, 44, 51, 58, 65, 72], 37) := by decide +kernel
theorem dM_event_60 : decode cM_event 60 = .ok (.aload_n 0, 1) := by decide +kernel
theorem dM_event_61 : decode cM_event 61 = .ok (.getfield 13, 3) := by decide +kernel
theorem dM_event_64 : decode cM_event 64 = .ok (.iload_n 3, 1) := by decide +kernel
theorem dM_event_65 : decode cM_event 65 = .ok (.iaload, 1) := by decide +kernel
theorem dM_event_66 : decode cM_event 66 = .ok (.ireturn, 1) := by decide +kernel
theorem dM_event_67 : decode cM_event 67 = .ok (.aload_n 0, 1) := by decide +kernel
theorem dM_event_68 : decode cM_event 68 = .ok (.getfield 16, 3) := by decide +kernel
theorem dM_event_71 : decode cM_event 71 = .ok (.iload_n 3, 1) := by decide +kernel
theorem dM_event_72 : decode cM_event 72 = .ok (.iaload, 1) := by decide +kernel
theorem dM_event_73 : decode cM_event 73 = .ok (.ireturn, 1) := by decide +kernel
theorem dM_event_74 : decode cM_event 74 = .ok (.aload_n 0, 1) := by decide +kernel
theorem dM_event_75 : decode cM_event 75 = .ok (.getfield 19, 3) := by decide +kernel
theorem dM_event_78 : decode cM_event 78 = .ok (.iload_n 3, 1) := by decide +kernel
theorem dM_event_79 : decode cM_event 79 = .ok (.iaload, 1) := by decide +kernel
theorem dM_event_80 : decode cM_event 80 = .ok (.ireturn, 1) := by decide +kernel
theorem dM_event_81 : decode cM_event 81 = .ok (.aload_n 0, 1) := by decide +kernel
theorem dM_event_82 : decode cM_event 82 = .ok (.getfield 22, 3) := by decide +kernel
theorem dM_event_85 : decode cM_event 85 = .ok (.iload_n 3, 1) := by decide +kernel
theorem dM_event_86 : decode cM_event 86 = .ok (.iaload, 1) := by decide +kernel
theorem dM_event_87 : decode cM_event 87 = .ok (.ireturn, 1) := by decide +kernel
theorem dM_event_88 : decode cM_event 88 = .ok (.aload_n 0, 1) := by decide +kernel
theorem dM_event_89 : decode cM_event 89 = .ok (.getfield 25, 3) := by decide +kernel
theorem dM_event_92 : decode cM_event 92 = .ok (.iload_n 3, 1) := by decide +kernel
theorem dM_event_93 : decode cM_event 93 = .ok (.iaload, 1) := by decide +kernel
theorem dM_event_94 : decode cM_event 94 = .ok (.ireturn, 1) := by decide +kernel
theorem dM_event_95 : decode cM_event 95 = .ok (.aload_n 0, 1) := by decide +kernel
theorem dM_event_96 : decode cM_event 96 = .ok (.getfield 31, 3) := by decide +kernel
theorem dM_event_99 : decode cM_event 99 = .ok (.iload_n 3, 1) := by decide +kernel
theorem dM_event_100 : decode cM_event 100 = .ok (.iaload, 1) := by decide +kernel
theorem dM_event_101 : decode cM_event 101 = .ok (.ireturn, 1) := by decide +kernel
theorem dM_event_102 : decode cM_event 102 = .ok (.iconst (-1), 1) := by decide +kernel
theorem dM_event_103 : decode cM_event 103 = .ok (.ireturn, 1) := by decide +kernel
def fM_event (iv : Nat → Int32) (av : Nat → Nat → Int32) (x1 : Int32) (x2 : Int32) : Option (Int32 × (Nat → Int32) × (Nat → Nat → Int32)) := (fM_has (upd iv 0 (0 : Int32)) av x1).bind fun (r1, iv1, av1) => if r1 = 0 then (some ((-1 : Int32), iv1, av1)) else (if x1 < 0 ∨ 1001 ≤ x1.toNatClampNeg then none else (if x2 = 0 then (if (av1 8 x1.toNatClampNeg) < 0 ∨ 1001 ≤ (av1 8 x1.toNatClampNeg).toNatClampNeg then none else (some (av1 1 (av1 8 x1.toNatClampNeg).toNatClampNeg, iv1, av1))) else (if x2 = 1 then (if (av1 8 x1.toNatClampNeg) < 0 ∨ 1001 ≤ (av1 8 x1.toNatClampNeg).toNatClampNeg then none else (some (av1 2 (av1 8 x1.toNatClampNeg).toNatClampNeg, iv1, av1))) else (if x2 = 2 then (if (av1 8 x1.toNatClampNeg) < 0 ∨ 1001 ≤ (av1 8 x1.toNatClampNeg).toNatClampNeg then none else (some (av1 3 (av1 8 x1.toNatClampNeg).toNatClampNeg, iv1, av1))) else (if x2 = 3 then (if (av1 8 x1.toNatClampNeg) < 0 ∨ 1001 ≤ (av1 8 x1.toNatClampNeg).toNatClampNeg then none else (some (av1 4 (av1 8 x1.toNatClampNeg).toNatClampNeg, iv1, av1))) else (if x2 = 4 then (if (av1 8 x1.toNatClampNeg) < 0 ∨ 1001 ≤ (av1 8 x1.toNatClampNeg).toNatClampNeg then none else (some (av1 5 (av1 8 x1.toNatClampNeg).toNatClampNeg, iv1, av1))) else (if x2 = 5 then (if (av1 8 x1.toNatClampNeg) < 0 ∨ 1001 ≤ (av1 8 x1.toNatClampNeg).toNatClampNeg then none else (some (av1 7 (av1 8 x1.toNatClampNeg).toNatClampNeg, iv1, av1))) else (some ((-1 : Int32), iv1, av1)))))))))
set_option maxHeartbeats 4000000 in
set_option maxRecDepth 100000 in
theorem cM_event_met {l : Launch} {g : gT} {q : Nat} {ad : Nat → Nat} {X : va_W} {iv iv' : Nat → Int32} {av av' : Nat → Nat → Int32} {x1 : Int32} {x2 : Int32} {r' : Int32} (hf : fM_event iv av x1 x2 = some (r', iv', av')) : mMet l yM_event cM_event 4 (some .int) rM_event g q ad X iv av [.ref q, .int x1, .int x2] (some (.int r')) iv' av' := by
  refine m_entry (by decide) (Nat.le_of_ble_eq_true rfl) ?_
  intro p e s m args below meth c ls C hr hlk hnm hl hw
  have hrv : ((some (.int r')) : Option Value) = (some (.int r')) := rfl
  have C : mCx p m c cM_event 4 s args g "MidiDeskModel" := C
  have hl : lv_has ls 4 [(0, .ref q), (1, .int x1), (2, .int x2)] := hl
  unfold fM_event at hf
  refine lv_aload_n C.1.1 C.1.2.1 dM_event_0 rfl (lv_at hl 0 rfl) ?_
  refine lv_iconst (v := (0 : Int32)) C.1.1 C.1.2.1 dM_event_1 (by decide) ?_
  refine mp_thrown C hw dM_event_2 (fun H locs hw => ?_)
  refine lv_aload_n C.1.1 C.1.2.1 dM_event_5 rfl (lv_at hl 0 rfl) ?_
  refine lv_iload_n C.1.1 C.1.2.1 dM_event_6 rfl (lv_at hl 1 rfl) ?_
  obtain ⟨⟨r1, iv1, av1⟩, g1, hf⟩ := ts_b hf
  dsimp only at hf
  refine m_callV (rest := []) (As := [.int x1]) (rv := (some (.int r1))) C hl.1 hw (cM_has_met g1) (callW_of (rm := rM_has) 1 C.1.2.2.2.2 gw_864 gw_866 gw_38 gw_55 gw_867 kM_has ⟨Nat.le_of_ble_eq_true rfl, Nat.le_of_ble_eq_true rfl⟩) rfl rfl (Nat.le_of_ble_eq_true rfl) dM_event_7 ⟨Nat.le_of_ble_eq_true rfl, Nat.le_of_ble_eq_true rfl⟩ (fun H locs hw => ?_)
  refine W.eq (g2 := F0 m 10 ls [.int r1]) rfl ?_
  refine lv_if_ne (tgt := 15) C.1.1 C.1.2.1 dM_event_10 (by decide) (fun c2 => ?_) (fun c2 => ?_)
  · have hf := ts_f hf c2
    refine lv_aload_n C.1.1 C.1.2.1 dM_event_15 rfl (lv_at hl 0 rfl) ?_
    refine mg_order C hw dM_event_16 ?_
    refine lv_iload_n C.1.1 C.1.2.1 dM_event_19 rfl (lv_at hl 1 rfl) ?_
    obtain ⟨h3, hf⟩ := ts_g hf
    refine ma_order C hw h3 dM_event_20 ?_
    refine lv_istore_n (lv' := [(3, .int (av1 8 x1.toNatClampNeg)), (0, .ref q), (1, .int x1), (2, .int x2)]) C.1.1 C.1.2.1 dM_event_21 rfl hl (by decide) rfl (fun ls hl => ?_)
    refine lv_iload_n C.1.1 C.1.2.1 dM_event_22 rfl (lv_at hl 3 rfl) ?_
    rcases Decidable.em (x2 = 0) with c4 | c4
    · have hf := ts_t hf c4
      refine lv_tableIn (off := 37) (tgt := 60) C.1.1 C.1.2.1 dM_event_23 (by rw [c4]; decide) (by rw [c4]; decide) (by rw [c4]; decide) (by decide) ?_
      refine lv_aload_n C.1.1 C.1.2.1 dM_event_60 rfl (lv_at hl 1 rfl) ?_
      refine mg_ticks C hw dM_event_61 ?_
      refine lv_iload_n C.1.1 C.1.2.1 dM_event_64 rfl (lv_at hl 0 rfl) ?_
      obtain ⟨h5, hf⟩ := ts_g hf
      refine ma_ticks C hw h5 dM_event_65 ?_
      exact m_reti C hr hlk hrv hw hf ⟨Nat.le_of_ble_eq_true rfl, Nat.le_of_ble_eq_true rfl⟩ dM_event_66
    have hf := ts_f hf c4
    rcases Decidable.em (x2 = 1) with c6 | c6
    · have hf := ts_t hf c6
      refine lv_tableIn (off := 44) (tgt := 67) C.1.1 C.1.2.1 dM_event_23 (by rw [c6]; decide) (by rw [c6]; decide) (by rw [c6]; decide) (by decide) ?_
      refine lv_aload_n C.1.1 C.1.2.1 dM_event_67 rfl (lv_at hl 1 rfl) ?_
      refine mg_trackOf C hw dM_event_68 ?_
      refine lv_iload_n C.1.1 C.1.2.1 dM_event_71 rfl (lv_at hl 0 rfl) ?_
      obtain ⟨h7, hf⟩ := ts_g hf
      refine ma_trackOf C hw h7 dM_event_72 ?_
      exact m_reti C hr hlk hrv hw hf ⟨Nat.le_of_ble_eq_true rfl, Nat.le_of_ble_eq_true rfl⟩ dM_event_73
    have hf := ts_f hf c6
    rcases Decidable.em (x2 = 2) with c8 | c8
    · have hf := ts_t hf c8
      refine lv_tableIn (off := 51) (tgt := 74) C.1.1 C.1.2.1 dM_event_23 (by rw [c8]; decide) (by rw [c8]; decide) (by rw [c8]; decide) (by decide) ?_
      refine lv_aload_n C.1.1 C.1.2.1 dM_event_74 rfl (lv_at hl 1 rfl) ?_
      refine mg_status C hw dM_event_75 ?_
      refine lv_iload_n C.1.1 C.1.2.1 dM_event_78 rfl (lv_at hl 0 rfl) ?_
      obtain ⟨h9, hf⟩ := ts_g hf
      refine ma_status C hw h9 dM_event_79 ?_
      exact m_reti C hr hlk hrv hw hf ⟨Nat.le_of_ble_eq_true rfl, Nat.le_of_ble_eq_true rfl⟩ dM_event_80
    have hf := ts_f hf c8
    rcases Decidable.em (x2 = 3) with c10 | c10
    · have hf := ts_t hf c10
      refine lv_tableIn (off := 58) (tgt := 81) C.1.1 C.1.2.1 dM_event_23 (by rw [c10]; decide) (by rw [c10]; decide) (by rw [c10]; decide) (by decide) ?_
      refine lv_aload_n C.1.1 C.1.2.1 dM_event_81 rfl (lv_at hl 1 rfl) ?_
      refine mg_first C hw dM_event_82 ?_
      refine lv_iload_n C.1.1 C.1.2.1 dM_event_85 rfl (lv_at hl 0 rfl) ?_
      obtain ⟨h11, hf⟩ := ts_g hf
      refine ma_first C hw h11 dM_event_86 ?_
      exact m_reti C hr hlk hrv hw hf ⟨Nat.le_of_ble_eq_true rfl, Nat.le_of_ble_eq_true rfl⟩ dM_event_87
    have hf := ts_f hf c10
    rcases Decidable.em (x2 = 4) with c12 | c12
    · have hf := ts_t hf c12
      refine lv_tableIn (off := 65) (tgt := 88) C.1.1 C.1.2.1 dM_event_23 (by rw [c12]; decide) (by rw [c12]; decide) (by rw [c12]; decide) (by decide) ?_
      refine lv_aload_n C.1.1 C.1.2.1 dM_event_88 rfl (lv_at hl 1 rfl) ?_
      refine mg_second C hw dM_event_89 ?_
      refine lv_iload_n C.1.1 C.1.2.1 dM_event_92 rfl (lv_at hl 0 rfl) ?_
      obtain ⟨h13, hf⟩ := ts_g hf
      refine ma_second C hw h13 dM_event_93 ?_
      exact m_reti C hr hlk hrv hw hf ⟨Nat.le_of_ble_eq_true rfl, Nat.le_of_ble_eq_true rfl⟩ dM_event_94
    have hf := ts_f hf c12
    rcases Decidable.em (x2 = 5) with c14 | c14
    · have hf := ts_t hf c14
      refine lv_tableIn (off := 72) (tgt := 95) C.1.1 C.1.2.1 dM_event_23 (by rw [c14]; decide) (by rw [c14]; decide) (by rw [c14]; decide) (by decide) ?_
      refine lv_aload_n C.1.1 C.1.2.1 dM_event_95 rfl (lv_at hl 1 rfl) ?_
      refine mg_counts C hw dM_event_96 ?_
      refine lv_iload_n C.1.1 C.1.2.1 dM_event_99 rfl (lv_at hl 0 rfl) ?_
      obtain ⟨h15, hf⟩ := ts_g hf
      refine ma_counts C hw h15 dM_event_100 ?_
      exact m_reti C hr hlk hrv hw hf ⟨Nat.le_of_ble_eq_true rfl, Nat.le_of_ble_eq_true rfl⟩ dM_event_101
    have hf := ts_f hf c14
    refine lv_tableOut (tgt := 102) C.1.1 C.1.2.1 dM_event_23 (by have c4n := lv_neT (a := 0) c4 (by decide); have c6n := lv_neT (a := 1) c6 (by decide); have c8n := lv_neT (a := 2) c8 (by decide); have c10n := lv_neT (a := 3) c10 (by decide); have c12n := lv_neT (a := 4) c12 (by decide); have c14n := lv_neT (a := 5) c14 (by decide); omega) (by decide) ?_
    refine lv_iconst (v := (-1 : Int32)) C.1.1 C.1.2.1 dM_event_102 (by decide) ?_
    exact m_reti C hr hlk hrv hw hf ⟨Nat.le_of_ble_eq_true rfl, Nat.le_of_ble_eq_true rfl⟩ dM_event_103
  · have hf := ts_t hf c2
    refine lv_iconst (v := (-1 : Int32)) C.1.1 C.1.2.1 dM_event_13 (by decide) ?_
    exact m_reti C hr hlk hrv hw hf ⟨Nat.le_of_ble_eq_true rfl, Nat.le_of_ble_eq_true rfl⟩ dM_event_14
abbrev cM_byteOf : ByteArray := prog_8_method_22_code
abbrev yM_byteOf : MethodName := ⟨"MidiDeskModel", "byteOf", "(II)I"⟩
theorem kM_byteOf : yM_byteOf.cls ≠ "java/lang/invoke/MethodHandle" ∧ yM_byteOf.cls ≠ "java/lang/invoke/VarHandle" ∧ (parseMethodDescriptor yM_byteOf.desc).map (fun d => d.parameters.length) = some 2 := by decide +kernel
abbrev rM_byteOf : Room := { frames := 1, cells := 0, slots := 0, locals := 21 }
theorem dM_byteOf_0 : decode cM_byteOf 0 = .ok (.aload_n 0, 1) := by decide +kernel
theorem dM_byteOf_1 : decode cM_byteOf 1 = .ok (.iconst 0, 1) := by decide +kernel
theorem dM_byteOf_2 : decode cM_byteOf 2 = .ok (.putfield 47, 3) := by decide +kernel
theorem dM_byteOf_5 : decode cM_byteOf 5 = .ok (.aload_n 0, 1) := by decide +kernel
theorem dM_byteOf_6 : decode cM_byteOf 6 = .ok (.iload_n 1, 1) := by decide +kernel
theorem dM_byteOf_7 : decode cM_byteOf 7 = .ok (.invokevirtual 144, 3) := by decide +kernel
theorem dM_byteOf_10 : decode cM_byteOf 10 = .ok (.ifCond .eq 43, 3) := by decide +kernel
theorem dM_byteOf_13 : decode cM_byteOf 13 = .ok (.iload_n 2, 1) := by decide +kernel
theorem dM_byteOf_14 : decode cM_byteOf 14 = .ok (.ifCond .lt 39, 3) := by decide +kernel
theorem dM_byteOf_17 : decode cM_byteOf 17 = .ok (.iload_n 2, 1) := by decide +kernel
theorem dM_byteOf_18 : decode cM_byteOf 18 = .ok (.aload_n 0, 1) := by decide +kernel
theorem dM_byteOf_19 : decode cM_byteOf 19 = .ok (.getfield 31, 3) := by decide +kernel
theorem dM_byteOf_22 : decode cM_byteOf 22 = .ok (.aload_n 0, 1) := by decide +kernel
theorem dM_byteOf_23 : decode cM_byteOf 23 = .ok (.getfield 34, 3) := by decide +kernel
theorem dM_byteOf_26 : decode cM_byteOf 26 = .ok (.iload_n 1, 1) := by decide +kernel
theorem dM_byteOf_27 : decode cM_byteOf 27 = .ok (.iaload, 1) := by decide +kernel
theorem dM_byteOf_28 : decode cM_byteOf 28 = .ok (.iaload, 1) := by decide +kernel
theorem dM_byteOf_29 : decode cM_byteOf 29 = .ok (.if_icmp .ge 24, 3) := by decide +kernel
theorem dM_byteOf_32 : decode cM_byteOf 32 = .ok (.aload_n 0, 1) := by decide +kernel
theorem dM_byteOf_33 : decode cM_byteOf 33 = .ok (.getfield 40, 3) := by decide +kernel
theorem dM_byteOf_36 : decode cM_byteOf 36 = .ok (.aload_n 0, 1) := by decide +kernel
theorem dM_byteOf_37 : decode cM_byteOf 37 = .ok (.getfield 28, 3) := by decide +kernel
theorem dM_byteOf_40 : decode cM_byteOf 40 = .ok (.aload_n 0, 1) := by decide +kernel
theorem dM_byteOf_41 : decode cM_byteOf 41 = .ok (.getfield 34, 3) := by decide +kernel
theorem dM_byteOf_44 : decode cM_byteOf 44 = .ok (.iload_n 1, 1) := by decide +kernel
theorem dM_byteOf_45 : decode cM_byteOf 45 = .ok (.iaload, 1) := by decide +kernel
theorem dM_byteOf_46 : decode cM_byteOf 46 = .ok (.iaload, 1) := by decide +kernel
theorem dM_byteOf_47 : decode cM_byteOf 47 = .ok (.iload_n 2, 1) := by decide +kernel
theorem dM_byteOf_48 : decode cM_byteOf 48 = .ok (.iadd, 1) := by decide +kernel
theorem dM_byteOf_49 : decode cM_byteOf 49 = .ok (.iaload, 1) := by decide +kernel
theorem dM_byteOf_50 : decode cM_byteOf 50 = .ok (.goto 4, 3) := by decide +kernel
theorem dM_byteOf_53 : decode cM_byteOf 53 = .ok (.iconst (-1), 1) := by decide +kernel
theorem dM_byteOf_54 : decode cM_byteOf 54 = .ok (.ireturn, 1) := by decide +kernel
def fM_byteOf (iv : Nat → Int32) (av : Nat → Nat → Int32) (x1 : Int32) (x2 : Int32) : Option (Int32 × (Nat → Int32) × (Nat → Nat → Int32)) := (fM_has (upd iv 0 (0 : Int32)) av x1).bind fun (r1, iv1, av1) => if r1 = 0 then (some ((-1 : Int32), iv1, av1)) else (if x2 < 0 then (some ((-1 : Int32), iv1, av1)) else (if x1 < 0 ∨ 1001 ≤ x1.toNatClampNeg then none else (if (av1 8 x1.toNatClampNeg) < 0 ∨ 1001 ≤ (av1 8 x1.toNatClampNeg).toNatClampNeg then none else (if (av1 7 (av1 8 x1.toNatClampNeg).toNatClampNeg) ≤ x2 then (some ((-1 : Int32), iv1, av1)) else (if x1 < 0 ∨ 1001 ≤ x1.toNatClampNeg then none else (if (av1 8 x1.toNatClampNeg) < 0 ∨ 1001 ≤ (av1 8 x1.toNatClampNeg).toNatClampNeg then none else (if ((av1 6 (av1 8 x1.toNatClampNeg).toNatClampNeg) + x2) < 0 ∨ 20100 ≤ ((av1 6 (av1 8 x1.toNatClampNeg).toNatClampNeg) + x2).toNatClampNeg then none else (some (av1 10 ((av1 6 (av1 8 x1.toNatClampNeg).toNatClampNeg) + x2).toNatClampNeg, iv1, av1)))))))))
set_option maxHeartbeats 4000000 in
set_option maxRecDepth 100000 in
theorem cM_byteOf_met {l : Launch} {g : gT} {q : Nat} {ad : Nat → Nat} {X : va_W} {iv iv' : Nat → Int32} {av av' : Nat → Nat → Int32} {x1 : Int32} {x2 : Int32} {r' : Int32} (hf : fM_byteOf iv av x1 x2 = some (r', iv', av')) : mMet l yM_byteOf cM_byteOf 3 (some .int) rM_byteOf g q ad X iv av [.ref q, .int x1, .int x2] (some (.int r')) iv' av' := by
  refine m_entry (by decide) (Nat.le_of_ble_eq_true rfl) ?_
  intro p e s m args below meth c ls C hr hlk hnm hl hw
  have hrv : ((some (.int r')) : Option Value) = (some (.int r')) := rfl
  have C : mCx p m c cM_byteOf 3 s args g "MidiDeskModel" := C
  have hl : lv_has ls 3 [(0, .ref q), (1, .int x1), (2, .int x2)] := hl
  unfold fM_byteOf at hf
  refine lv_aload_n C.1.1 C.1.2.1 dM_byteOf_0 rfl (lv_at hl 0 rfl) ?_
  refine lv_iconst (v := (0 : Int32)) C.1.1 C.1.2.1 dM_byteOf_1 (by decide) ?_
  refine mp_thrown C hw dM_byteOf_2 (fun H locs hw => ?_)
  refine lv_aload_n C.1.1 C.1.2.1 dM_byteOf_5 rfl (lv_at hl 0 rfl) ?_
  refine lv_iload_n C.1.1 C.1.2.1 dM_byteOf_6 rfl (lv_at hl 1 rfl) ?_
  obtain ⟨⟨r1, iv1, av1⟩, g1, hf⟩ := ts_b hf
  dsimp only at hf
  refine m_callV (rest := []) (As := [.int x1]) (rv := (some (.int r1))) C hl.1 hw (cM_has_met g1) (callW_of (rm := rM_has) 1 C.1.2.2.2.2 gw_864 gw_866 gw_38 gw_55 gw_867 kM_has ⟨Nat.le_of_ble_eq_true rfl, Nat.le_of_ble_eq_true rfl⟩) rfl rfl (Nat.le_of_ble_eq_true rfl) dM_byteOf_7 ⟨Nat.le_of_ble_eq_true rfl, Nat.le_of_ble_eq_true rfl⟩ (fun H locs hw => ?_)
  refine W.eq (g2 := F0 m 10 ls [.int r1]) rfl ?_
  refine lv_if_eq (tgt := 53) C.1.1 C.1.2.1 dM_byteOf_10 (by decide) (fun c2 => ?_) (fun c2 => ?_)
  · have hf := ts_t hf c2
    refine lv_iconst (v := (-1 : Int32)) C.1.1 C.1.2.1 dM_byteOf_53 (by decide) ?_
    exact m_reti C hr hlk hrv hw hf ⟨Nat.le_of_ble_eq_true rfl, Nat.le_of_ble_eq_true rfl⟩ dM_byteOf_54
  · have hf := ts_f hf c2
    refine lv_iload_n C.1.1 C.1.2.1 dM_byteOf_13 rfl (lv_at hl 2 rfl) ?_
    refine lv_if_lt (tgt := 53) C.1.1 C.1.2.1 dM_byteOf_14 (by decide) (fun c3 => ?_) (fun c3 => ?_)
    · have hf := ts_t hf c3
      refine lv_iconst (v := (-1 : Int32)) C.1.1 C.1.2.1 dM_byteOf_53 (by decide) ?_
      exact m_reti C hr hlk hrv hw hf ⟨Nat.le_of_ble_eq_true rfl, Nat.le_of_ble_eq_true rfl⟩ dM_byteOf_54
    · have hf := ts_f hf c3
      refine lv_iload_n C.1.1 C.1.2.1 dM_byteOf_17 rfl (lv_at hl 2 rfl) ?_
      refine lv_aload_n C.1.1 C.1.2.1 dM_byteOf_18 rfl (lv_at hl 0 rfl) ?_
      refine mg_counts C hw dM_byteOf_19 ?_
      refine lv_aload_n C.1.1 C.1.2.1 dM_byteOf_22 rfl (lv_at hl 0 rfl) ?_
      refine mg_order C hw dM_byteOf_23 ?_
      refine lv_iload_n C.1.1 C.1.2.1 dM_byteOf_26 rfl (lv_at hl 1 rfl) ?_
      obtain ⟨h4, hf⟩ := ts_g hf
      refine ma_order C hw h4 dM_byteOf_27 ?_
      obtain ⟨h5, hf⟩ := ts_g hf
      refine ma_counts C hw h5 dM_byteOf_28 ?_
      refine lv_icmp_ge (tgt := 53) C.1.1 C.1.2.1 dM_byteOf_29 (by decide) (fun c6 => ?_) (fun c6 => ?_)
      · have hf := ts_t hf c6
        refine lv_iconst (v := (-1 : Int32)) C.1.1 C.1.2.1 dM_byteOf_53 (by decide) ?_
        exact m_reti C hr hlk hrv hw hf ⟨Nat.le_of_ble_eq_true rfl, Nat.le_of_ble_eq_true rfl⟩ dM_byteOf_54
      · have hf := ts_f hf c6
        refine lv_aload_n C.1.1 C.1.2.1 dM_byteOf_32 rfl (lv_at hl 0 rfl) ?_
        refine mg_bytes C hw dM_byteOf_33 ?_
        refine lv_aload_n C.1.1 C.1.2.1 dM_byteOf_36 rfl (lv_at hl 0 rfl) ?_
        refine mg_from C hw dM_byteOf_37 ?_
        refine lv_aload_n C.1.1 C.1.2.1 dM_byteOf_40 rfl (lv_at hl 0 rfl) ?_
        refine mg_order C hw dM_byteOf_41 ?_
        refine lv_iload_n C.1.1 C.1.2.1 dM_byteOf_44 rfl (lv_at hl 1 rfl) ?_
        obtain ⟨h7, hf⟩ := ts_g hf
        refine ma_order C hw h7 dM_byteOf_45 ?_
        obtain ⟨h8, hf⟩ := ts_g hf
        refine ma_from C hw h8 dM_byteOf_46 ?_
        refine lv_iload_n C.1.1 C.1.2.1 dM_byteOf_47 rfl (lv_at hl 2 rfl) ?_
        refine lv_iadd C.1.1 C.1.2.1 dM_byteOf_48 ?_
        obtain ⟨h9, hf⟩ := ts_g hf
        refine ma_bytes C hw h9 dM_byteOf_49 ?_
        refine lv_goto (tgt := 54) C.1.1 C.1.2.1 dM_byteOf_50 (by decide) ?_
        exact m_reti C hr hlk hrv hw hf ⟨Nat.le_of_ble_eq_true rfl, Nat.le_of_ble_eq_true rfl⟩ dM_byteOf_54
abbrev cM_parts : ByteArray := prog_8_method_23_code
abbrev yM_parts : MethodName := ⟨"MidiDeskModel", "parts", "()J"⟩
theorem kM_parts : yM_parts.cls ≠ "java/lang/invoke/MethodHandle" ∧ yM_parts.cls ≠ "java/lang/invoke/VarHandle" ∧ (parseMethodDescriptor yM_parts.desc).map (fun d => d.parameters.length) = some 0 := by decide +kernel
abbrev rM_parts : Room := { frames := 0, cells := 0, slots := 0, locals := 0 }
theorem dM_parts_0 : decode cM_parts 0 = .ok (.aload_n 0, 1) := by decide +kernel
theorem dM_parts_1 : decode cM_parts 1 = .ok (.getfield 88, 3) := by decide +kernel
theorem dM_parts_4 : decode cM_parts 4 = .ok (.ldc 43, 2) := by decide +kernel
theorem dM_parts_6 : decode cM_parts 6 = .ok (.if_icmp .ge 9, 3) := by decide +kernel
theorem dM_parts_9 : decode cM_parts 9 = .ok (.aload_n 0, 1) := by decide +kernel
theorem dM_parts_10 : decode cM_parts 10 = .ok (.getfield 88, 3) := by decide +kernel
theorem dM_parts_13 : decode cM_parts 13 = .ok (.i2l, 1) := by decide +kernel
theorem dM_parts_14 : decode cM_parts 14 = .ok (.lreturn, 1) := by decide +kernel
theorem dM_parts_15 : decode cM_parts 15 = .ok (.sipush 256, 3) := by decide +kernel
theorem dM_parts_18 : decode cM_parts 18 = .ok (.aload_n 0, 1) := by decide +kernel
theorem dM_parts_19 : decode cM_parts 19 = .ok (.getfield 88, 3) := by decide +kernel
theorem dM_parts_22 : decode cM_parts 22 = .ok (.bipush 8, 2) := by decide +kernel
theorem dM_parts_24 : decode cM_parts 24 = .ok (.ishr, 1) := by decide +kernel
theorem dM_parts_25 : decode cM_parts 25 = .ok (.isub, 1) := by decide +kernel
theorem dM_parts_26 : decode cM_parts 26 = .ok (.istore_n 1, 1) := by decide +kernel
theorem dM_parts_27 : decode cM_parts 27 = .ok (.iload_n 1, 1) := by decide +kernel
theorem dM_parts_28 : decode cM_parts 28 = .ok (.bipush 29, 2) := by decide +kernel
theorem dM_parts_30 : decode cM_parts 30 = .ok (.if_icmp .ne 19, 3) := by decide +kernel
theorem dM_parts_33 : decode cM_parts 33 = .ok (.ldc2_w 147, 3) := by decide +kernel
theorem dM_parts_36 : decode cM_parts 36 = .ok (.aload_n 0, 1) := by decide +kernel
theorem dM_parts_37 : decode cM_parts 37 = .ok (.getfield 88, 3) := by decide +kernel
theorem dM_parts_40 : decode cM_parts 40 = .ok (.sipush 255, 3) := by decide +kernel
theorem dM_parts_43 : decode cM_parts 43 = .ok (.iand, 1) := by decide +kernel
theorem dM_parts_44 : decode cM_parts 44 = .ok (.i2l, 1) := by decide +kernel
theorem dM_parts_45 : decode cM_parts 45 = .ok (.lmul, 1) := by decide +kernel
theorem dM_parts_46 : decode cM_parts 46 = .ok (.goto 15, 3) := by decide +kernel
theorem dM_parts_49 : decode cM_parts 49 = .ok (.iload_n 1, 1) := by decide +kernel
theorem dM_parts_50 : decode cM_parts 50 = .ok (.i2l, 1) := by decide +kernel
theorem dM_parts_51 : decode cM_parts 51 = .ok (.aload_n 0, 1) := by decide +kernel
theorem dM_parts_52 : decode cM_parts 52 = .ok (.getfield 88, 3) := by decide +kernel
theorem dM_parts_55 : decode cM_parts 55 = .ok (.sipush 255, 3) := by decide +kernel
theorem dM_parts_58 : decode cM_parts 58 = .ok (.iand, 1) := by decide +kernel
theorem dM_parts_59 : decode cM_parts 59 = .ok (.i2l, 1) := by decide +kernel
theorem dM_parts_60 : decode cM_parts 60 = .ok (.lmul, 1) := by decide +kernel
theorem dM_parts_61 : decode cM_parts 61 = .ok (.lreturn, 1) := by decide +kernel
def fM_parts (iv : Nat → Int32) (av : Nat → Nat → Int32) : Option (Int64 × (Nat → Int32) × (Nat → Nat → Int32)) := if (32768 : Int32) ≤ (iv 9) then (if ((256 : Int32) - ((iv 9) >>> ((8 : Int32) &&& 31))) = (29 : Int32) then (some ((3 : Int64) * (((iv 9) &&& (255 : Int32)).toInt64), iv, av)) else (some ((((256 : Int32) - ((iv 9) >>> ((8 : Int32) &&& 31))).toInt64) * (((iv 9) &&& (255 : Int32)).toInt64), iv, av))) else (some ((iv 9).toInt64, iv, av))
set_option maxHeartbeats 4000000 in
set_option maxRecDepth 100000 in
theorem cM_parts_met {l : Launch} {g : gT} {q : Nat} {ad : Nat → Nat} {X : va_W} {iv iv' : Nat → Int32} {av av' : Nat → Nat → Int32} {r' : Int64} (hf : fM_parts iv av = some (r', iv', av')) : mMet l yM_parts cM_parts 2 (some .long) rM_parts g q ad X iv av [.ref q] (some (.long r')) iv' av' := by
  refine m_entry (by decide) (Nat.le_of_ble_eq_true rfl) ?_
  intro p e s m args below meth c ls C hr hlk hnm hl hw
  have hrv : ((some (.long r')) : Option Value) = (some (.long r')) := rfl
  have C : mCx p m c cM_parts 2 s args g "MidiDeskModel" := C
  have hl : lv_has ls 2 [(0, .ref q)] := hl
  unfold fM_parts at hf
  refine lv_aload_n C.1.1 C.1.2.1 dM_parts_0 rfl (lv_at hl 0 rfl) ?_
  refine mg_division C hw dM_parts_1 ?_
  refine lv_ldc C.1.1 C.1.2.1 C.1.2.2.2.1 (C.1.2.2.2.2 _ gw_714) dM_parts_4 ?_
  refine lv_icmp_ge (tgt := 15) C.1.1 C.1.2.1 dM_parts_6 (by decide) (fun c1 => ?_) (fun c1 => ?_)
  · have hf := ts_t hf c1
    refine lv_sipush (v := (256 : Int32)) C.1.1 C.1.2.1 dM_parts_15 (by decide) ?_
    refine lv_aload_n C.1.1 C.1.2.1 dM_parts_18 rfl (lv_at hl 0 rfl) ?_
    refine mg_division C hw dM_parts_19 ?_
    refine lv_bipush (v := (8 : Int32)) C.1.1 C.1.2.1 dM_parts_22 (by decide) ?_
    refine lv_ishr C.1.1 C.1.2.1 dM_parts_24 ?_
    refine lv_isub C.1.1 C.1.2.1 dM_parts_25 ?_
    refine lv_istore_n (lv' := [(1, .int ((256 : Int32) - ((iv 9) >>> ((8 : Int32) &&& 31)))), (0, .ref q)]) C.1.1 C.1.2.1 dM_parts_26 rfl hl (by decide) rfl (fun ls hl => ?_)
    refine lv_iload_n C.1.1 C.1.2.1 dM_parts_27 rfl (lv_at hl 0 rfl) ?_
    refine lv_bipush (v := (29 : Int32)) C.1.1 C.1.2.1 dM_parts_28 (by decide) ?_
    refine lv_icmp_ne (tgt := 49) C.1.1 C.1.2.1 dM_parts_30 (by decide) (fun c2 => ?_) (fun c2 => ?_)
    · have hf := ts_f hf c2
      refine lv_iload_n C.1.1 C.1.2.1 dM_parts_49 rfl (lv_at hl 0 rfl) ?_
      refine lv_i2l C.1.1 C.1.2.1 dM_parts_50 rfl ?_
      refine lv_aload_n C.1.1 C.1.2.1 dM_parts_51 rfl (lv_at hl 1 rfl) ?_
      refine mg_division C hw dM_parts_52 ?_
      refine lv_sipush (v := (255 : Int32)) C.1.1 C.1.2.1 dM_parts_55 (by decide) ?_
      refine lv_iand C.1.1 C.1.2.1 dM_parts_58 ?_
      refine lv_i2l C.1.1 C.1.2.1 dM_parts_59 rfl ?_
      refine lv_lmul C.1.1 C.1.2.1 dM_parts_60 ?_
      exact m_retl C hr hlk hrv hw hf ⟨Nat.le_of_ble_eq_true rfl, Nat.le_of_ble_eq_true rfl⟩ dM_parts_61
    · have hf := ts_t hf c2
      refine lv_ldc2 C.1.1 C.1.2.1 C.1.2.2.2.1 (C.1.2.2.2.2 _ gw_896) dM_parts_33 ?_
      refine lv_aload_n C.1.1 C.1.2.1 dM_parts_36 rfl (lv_at hl 1 rfl) ?_
      refine mg_division C hw dM_parts_37 ?_
      refine lv_sipush (v := (255 : Int32)) C.1.1 C.1.2.1 dM_parts_40 (by decide) ?_
      refine lv_iand C.1.1 C.1.2.1 dM_parts_43 ?_
      refine lv_i2l C.1.1 C.1.2.1 dM_parts_44 rfl ?_
      refine lv_lmul C.1.1 C.1.2.1 dM_parts_45 ?_
      refine lv_goto (tgt := 61) C.1.1 C.1.2.1 dM_parts_46 (by decide) ?_
      exact m_retl C hr hlk hrv hw hf ⟨Nat.le_of_ble_eq_true rfl, Nat.le_of_ble_eq_true rfl⟩ dM_parts_61
  · have hf := ts_f hf c1
    refine lv_aload_n C.1.1 C.1.2.1 dM_parts_9 rfl (lv_at hl 0 rfl) ?_
    refine mg_division C hw dM_parts_10 ?_
    refine lv_i2l C.1.1 C.1.2.1 dM_parts_13 rfl ?_
    exact m_retl C hr hlk hrv hw hf ⟨Nat.le_of_ble_eq_true rfl, Nat.le_of_ble_eq_true rfl⟩ dM_parts_14
abbrev cM_timed : ByteArray := prog_8_method_24_code
abbrev yM_timed : MethodName := ⟨"MidiDeskModel", "timed", "(I)J"⟩
theorem kM_timed : yM_timed.cls ≠ "java/lang/invoke/MethodHandle" ∧ yM_timed.cls ≠ "java/lang/invoke/VarHandle" ∧ (parseMethodDescriptor yM_timed.desc).map (fun d => d.parameters.length) = some 1 := by decide +kernel
abbrev rM_timed : Room := { frames := 1, cells := 0, slots := 0, locals := 21 }
theorem dM_timed_0 : decode cM_timed 0 = .ok (.aload_n 0, 1) := by decide +kernel
theorem dM_timed_1 : decode cM_timed 1 = .ok (.getfield 88, 3) := by decide +kernel
theorem dM_timed_4 : decode cM_timed 4 = .ok (.sipush 32767, 3) := by decide +kernel
theorem dM_timed_7 : decode cM_timed 7 = .ok (.if_icmp .le 35, 3) := by decide +kernel
theorem dM_timed_10 : decode cM_timed 10 = .ok (.sipush 256, 3) := by decide +kernel
theorem dM_timed_13 : decode cM_timed 13 = .ok (.aload_n 0, 1) := by decide +kernel
theorem dM_timed_14 : decode cM_timed 14 = .ok (.getfield 88, 3) := by decide +kernel
theorem dM_timed_17 : decode cM_timed 17 = .ok (.bipush 8, 2) := by decide +kernel
theorem dM_timed_19 : decode cM_timed 19 = .ok (.ishr, 1) := by decide +kernel
theorem dM_timed_20 : decode cM_timed 20 = .ok (.isub, 1) := by decide +kernel
theorem dM_timed_21 : decode cM_timed 21 = .ok (.bipush 29, 2) := by decide +kernel
theorem dM_timed_23 : decode cM_timed 23 = .ok (.if_icmp .ne 12, 3) := by decide +kernel
theorem dM_timed_26 : decode cM_timed 26 = .ok (.ldc2_w 149, 3) := by decide +kernel
theorem dM_timed_29 : decode cM_timed 29 = .ok (.iload_n 1, 1) := by decide +kernel
theorem dM_timed_30 : decode cM_timed 30 = .ok (.i2l, 1) := by decide +kernel
theorem dM_timed_31 : decode cM_timed 31 = .ok (.lmul, 1) := by decide +kernel
theorem dM_timed_32 : decode cM_timed 32 = .ok (.goto 9, 3) := by decide +kernel
theorem dM_timed_35 : decode cM_timed 35 = .ok (.ldc2_w 151, 3) := by decide +kernel
theorem dM_timed_38 : decode cM_timed 38 = .ok (.iload_n 1, 1) := by decide +kernel
theorem dM_timed_39 : decode cM_timed 39 = .ok (.i2l, 1) := by decide +kernel
theorem dM_timed_40 : decode cM_timed 40 = .ok (.lmul, 1) := by decide +kernel
theorem dM_timed_41 : decode cM_timed 41 = .ok (.lreturn, 1) := by decide +kernel
theorem dM_timed_42 : decode cM_timed 42 = .ok (.lconst 0, 1) := by decide +kernel
theorem dM_timed_43 : decode cM_timed 43 = .ok (.lstore_n 2, 1) := by decide +kernel
theorem dM_timed_44 : decode cM_timed 44 = .ok (.iconst 0, 1) := by decide +kernel
theorem dM_timed_45 : decode cM_timed 45 = .ok (.istore 4, 2) := by decide +kernel
theorem dM_timed_47 : decode cM_timed 47 = .ok (.ldc 153, 2) := by decide +kernel
theorem dM_timed_49 : decode cM_timed 49 = .ok (.istore 5, 2) := by decide +kernel
theorem dM_timed_51 : decode cM_timed 51 = .ok (.iconst 0, 1) := by decide +kernel
theorem dM_timed_52 : decode cM_timed 52 = .ok (.istore 6, 2) := by decide +kernel
theorem dM_timed_54 : decode cM_timed 54 = .ok (.iload 6, 2) := by decide +kernel
theorem dM_timed_56 : decode cM_timed 56 = .ok (.aload_n 0, 1) := by decide +kernel
theorem dM_timed_57 : decode cM_timed 57 = .ok (.getfield 95, 3) := by decide +kernel
theorem dM_timed_60 : decode cM_timed 60 = .ok (.if_icmp .ge 94, 3) := by decide +kernel
theorem dM_timed_63 : decode cM_timed 63 = .ok (.aload_n 0, 1) := by decide +kernel
theorem dM_timed_64 : decode cM_timed 64 = .ok (.getfield 34, 3) := by decide +kernel
theorem dM_timed_67 : decode cM_timed 67 = .ok (.iload 6, 2) := by decide +kernel
theorem dM_timed_69 : decode cM_timed 69 = .ok (.iaload, 1) := by decide +kernel
theorem dM_timed_70 : decode cM_timed 70 = .ok (.istore 7, 2) := by decide +kernel
theorem dM_timed_72 : decode cM_timed 72 = .ok (.aload_n 0, 1) := by decide +kernel
theorem dM_timed_73 : decode cM_timed 73 = .ok (.iload 7, 2) := by decide +kernel
theorem dM_timed_75 : decode cM_timed 75 = .ok (.invokevirtual 154, 3) := by decide +kernel
theorem dM_timed_78 : decode cM_timed 78 = .ok (.ifCond .eq 70, 3) := by decide +kernel
theorem dM_timed_81 : decode cM_timed 81 = .ok (.aload_n 0, 1) := by decide +kernel
theorem dM_timed_82 : decode cM_timed 82 = .ok (.getfield 82, 3) := by decide +kernel
theorem dM_timed_85 : decode cM_timed 85 = .ok (.iconst 2, 1) := by decide +kernel
theorem dM_timed_86 : decode cM_timed 86 = .ok (.if_icmp .ne 13, 3) := by decide +kernel
theorem dM_timed_89 : decode cM_timed 89 = .ok (.aload_n 0, 1) := by decide +kernel
theorem dM_timed_90 : decode cM_timed 90 = .ok (.getfield 16, 3) := by decide +kernel
theorem dM_timed_93 : decode cM_timed 93 = .ok (.iload 7, 2) := by decide +kernel
theorem dM_timed_95 : decode cM_timed 95 = .ok (.iaload, 1) := by decide +kernel
theorem dM_timed_96 : decode cM_timed 96 = .ok (.ifCond .gt 52, 3) := by decide +kernel
theorem dM_timed_99 : decode cM_timed 99 = .ok (.aload_n 0, 1) := by decide +kernel
theorem dM_timed_100 : decode cM_timed 100 = .ok (.getfield 13, 3) := by decide +kernel
theorem dM_timed_103 : decode cM_timed 103 = .ok (.iload 7, 2) := by decide +kernel
theorem dM_timed_105 : decode cM_timed 105 = .ok (.iaload, 1) := by decide +kernel
theorem dM_timed_106 : decode cM_timed 106 = .ok (.iload_n 1, 1) := by decide +kernel
theorem dM_timed_107 : decode cM_timed 107 = .ok (.if_icmp .le 6, 3) := by decide +kernel
theorem dM_timed_110 : decode cM_timed 110 = .ok (.goto 38, 3) := by decide +kernel
theorem dM_timed_113 : decode cM_timed 113 = .ok (.lload_n 2, 1) := by decide +kernel
theorem dM_timed_114 : decode cM_timed 114 = .ok (.iload 5, 2) := by decide +kernel
theorem dM_timed_116 : decode cM_timed 116 = .ok (.i2l, 1) := by decide +kernel
theorem dM_timed_117 : decode cM_timed 117 = .ok (.aload_n 0, 1) := by decide +kernel
theorem dM_timed_118 : decode cM_timed 118 = .ok (.getfield 13, 3) := by decide +kernel
theorem dM_timed_121 : decode cM_timed 121 = .ok (.iload 7, 2) := by decide +kernel
theorem dM_timed_123 : decode cM_timed 123 = .ok (.iaload, 1) := by decide +kernel
theorem dM_timed_124 : decode cM_timed 124 = .ok (.iload 4, 2) := by decide +kernel
theorem dM_timed_126 : decode cM_timed 126 = .ok (.isub, 1) := by decide +kernel
theorem dM_timed_127 : decode cM_timed 127 = .ok (.i2l, 1) := by decide +kernel
theorem dM_timed_128 : decode cM_timed 128 = .ok (.lmul, 1) := by decide +kernel
theorem dM_timed_129 : decode cM_timed 129 = .ok (.ladd, 1) := by decide +kernel
theorem dM_timed_130 : decode cM_timed 130 = .ok (.lstore_n 2, 1) := by decide +kernel
theorem dM_timed_131 : decode cM_timed 131 = .ok (.aload_n 0, 1) := by decide +kernel
theorem dM_timed_132 : decode cM_timed 132 = .ok (.getfield 13, 3) := by decide +kernel
theorem dM_timed_135 : decode cM_timed 135 = .ok (.iload 7, 2) := by decide +kernel
theorem dM_timed_137 : decode cM_timed 137 = .ok (.iaload, 1) := by decide +kernel
theorem dM_timed_138 : decode cM_timed 138 = .ok (.istore 4, 2) := by decide +kernel
theorem dM_timed_140 : decode cM_timed 140 = .ok (.aload_n 0, 1) := by decide +kernel
theorem dM_timed_141 : decode cM_timed 141 = .ok (.iload 7, 2) := by decide +kernel
theorem dM_timed_143 : decode cM_timed 143 = .ok (.invokevirtual 133, 3) := by decide +kernel
theorem dM_timed_146 : decode cM_timed 146 = .ok (.istore 5, 2) := by decide +kernel
theorem dM_timed_148 : decode cM_timed 148 = .ok (.iinc 6 1, 3) := by decide +kernel
theorem dM_timed_151 : decode cM_timed 151 = .ok (.goto (-97), 3) := by decide +kernel
theorem dM_timed_154 : decode cM_timed 154 = .ok (.lload_n 2, 1) := by decide +kernel
theorem dM_timed_155 : decode cM_timed 155 = .ok (.iload 5, 2) := by decide +kernel
theorem dM_timed_157 : decode cM_timed 157 = .ok (.i2l, 1) := by decide +kernel
theorem dM_timed_158 : decode cM_timed 158 = .ok (.iload_n 1, 1) := by decide +kernel
theorem dM_timed_159 : decode cM_timed 159 = .ok (.iload 4, 2) := by decide +kernel
theorem dM_timed_161 : decode cM_timed 161 = .ok (.isub, 1) := by decide +kernel
theorem dM_timed_162 : decode cM_timed 162 = .ok (.i2l, 1) := by decide +kernel
theorem dM_timed_163 : decode cM_timed 163 = .ok (.lmul, 1) := by decide +kernel
theorem dM_timed_164 : decode cM_timed 164 = .ok (.ladd, 1) := by decide +kernel
theorem dM_timed_165 : decode cM_timed 165 = .ok (.lreturn, 1) := by decide +kernel
def jM_timed_148 (K54 : (Nat → Int32) → (Nat → Nat → Int32) → Int32 → Int64 → Int32 → Int32 → Int32 → Option (Int64 × (Nat → Int32) × (Nat → Nat → Int32))) (iv : Nat → Int32) (av : Nat → Nat → Int32) (x1 : Int32) (y2 : Int64) (x4 : Int32) (x5 : Int32) (x6 : Int32) : Option (Int64 × (Nat → Int32) × (Nat → Nat → Int32)) := K54 iv av x1 y2 x4 x5 (x6 + 1)
def jM_timed_99 (K54 : (Nat → Int32) → (Nat → Nat → Int32) → Int32 → Int64 → Int32 → Int32 → Int32 → Option (Int64 × (Nat → Int32) × (Nat → Nat → Int32))) (iv : Nat → Int32) (av : Nat → Nat → Int32) (x1 : Int32) (y2 : Int64) (x4 : Int32) (x5 : Int32) (x6 : Int32) (x7 : Int32) : Option (Int64 × (Nat → Int32) × (Nat → Nat → Int32)) := if x7 < 0 ∨ 1001 ≤ x7.toNatClampNeg then none else (if (av 1 x7.toNatClampNeg) ≤ x1 then (if x7 < 0 ∨ 1001 ≤ x7.toNatClampNeg then none else (if x7 < 0 ∨ 1001 ≤ x7.toNatClampNeg then none else ((fM_tempo iv av x7).bind fun (r5, iv5, av5) => jM_timed_148 K54 iv5 av5 x1 (y2 + (x5.toInt64 * (((av 1 x7.toNatClampNeg) - x4).toInt64))) (av 1 x7.toNatClampNeg) r5 x6))) else (jM_timed_148 K54 iv av x1 y2 x4 x5 x6))
def lM_timed_54 : Nat → (Nat → Int32) → (Nat → Nat → Int32) → Int32 → Int64 → Int32 → Int32 → Int32 → Option (Int64 × (Nat → Int32) × (Nat → Nat → Int32))
  | 0 => fun _ _ _ _ _ _ _ => none
  | k + 1 => fun iv av x1 y2 x4 x5 x6 => if (iv 10) ≤ x6 then (some (y2 + (x5.toInt64 * ((x1 - x4).toInt64)), iv, av)) else (if x6 < 0 ∨ 1001 ≤ x6.toNatClampNeg then none else ((fM_isTempo iv av (av 8 x6.toNatClampNeg)).bind fun (r3, iv3, av3) => if r3 = 0 then (jM_timed_148 (lM_timed_54 k) iv3 av3 x1 y2 x4 x5 x6) else (if (iv3 7) = (2 : Int32) then (if (av 8 x6.toNatClampNeg) < 0 ∨ 1001 ≤ (av 8 x6.toNatClampNeg).toNatClampNeg then none else (if 0 < (av3 2 (av 8 x6.toNatClampNeg).toNatClampNeg) then (jM_timed_148 (lM_timed_54 k) iv3 av3 x1 y2 x4 x5 x6) else (jM_timed_99 (lM_timed_54 k) iv3 av3 x1 y2 x4 x5 x6 (av 8 x6.toNatClampNeg)))) else (jM_timed_99 (lM_timed_54 k) iv3 av3 x1 y2 x4 x5 x6 (av 8 x6.toNatClampNeg)))))
def fM_timed (iv : Nat → Int32) (av : Nat → Nat → Int32) (x1 : Int32) : Option (Int64 × (Nat → Int32) × (Nat → Nat → Int32)) := if (iv 9) ≤ (32767 : Int32) then (lM_timed_54 FU iv av x1 (0 : Int64) (0 : Int32) (500000 : Int32) (0 : Int32)) else (if ((256 : Int32) - ((iv 9) >>> ((8 : Int32) &&& 31))) = (29 : Int32) then (some ((100100 : Int64) * x1.toInt64, iv, av)) else (some ((1000000 : Int64) * x1.toInt64, iv, av)))
set_option maxHeartbeats 4000000 in
set_option maxRecDepth 100000 in
theorem wM_timed_148 {p : Program} {l : Launch} {e : Env} {s : State} {m : MethodId} {args : Array Value} {below : List Frame} {meth : Method} {c : Code} {g : gT} {q : Nat} {ad : Nat → Nat} {X : va_W} {rv : Option Value} {iv' : Nat → Int32} {av' : Nat → Nat → Int32} {r' : Int64} (C : mCx p m c cM_timed 8 s args g "MidiDeskModel") (hr : meth.sig.returnType = (some .long)) (hlk : meth.locks = false) (hrv : rv = some (.long r')) {K54 : (Nat → Int32) → (Nat → Nat → Int32) → Int32 → Int64 → Int32 → Int32 → Int32 → Option (Int64 × (Nat → Int32) × (Nat → Nat → Int32))} (hK54 : ∀ (iv : Nat → Int32) (av : Nat → Nat → Int32) (x1 : Int32) (y2 : Int64) (x4 : Int32) (x5 : Int32) (x6 : Int32) (H : Heap) (locs : List Loc) (ls : Array Slot), lv_has ls 8 [(0, .ref q), (1, .int x1), (2, .long y2), (4, .int x4), (5, .int x5), (6, .int x6)] → mWd g (mA g q ad X s.heap.size) s.heap q ad X iv av H locs → K54 iv av x1 y2 x4 x5 x6 = some (r', iv', av') → mG p l e rM_timed s m args below meth c g q ad X rv iv' av' H locs 0 0 (F0 m 54 ls [])) (iv : Nat → Int32) (av : Nat → Nat → Int32) (x1 : Int32) (y2 : Int64) (x4 : Int32) (x5 : Int32) (x6 : Int32) (H : Heap) (locs : List Loc) (ls : Array Slot) (hl : lv_has ls 8 [(0, .ref q), (1, .int x1), (2, .long y2), (4, .int x4), (5, .int x5), (6, .int x6)]) (hw : mWd g (mA g q ad X s.heap.size) s.heap q ad X iv av H locs) (hf : jM_timed_148 K54 iv av x1 y2 x4 x5 x6 = some (r', iv', av')) : mG p l e rM_timed s m args below meth c g q ad X rv iv' av' H locs 0 0 (F0 m 148 ls []) := by
  unfold jM_timed_148 at hf
  refine lv_iinc (v := x6 + 1) (lv' := [(6, .int (x6 + 1)), (0, .ref q), (1, .int x1), (2, .long y2), (4, .int x4), (5, .int x5)]) C.1.1 C.1.2.1 dM_timed_148 hl (k := 5) rfl rfl (by decide) rfl (fun ls hl => ?_)
  refine lv_goto (tgt := 54) C.1.1 C.1.2.1 dM_timed_151 (by decide) ?_
  exact hK54 iv av x1 y2 x4 x5 (x6 + 1) _ _ ls (lv_sub hl [1, 2, 3, 4, 5, 0] rfl) hw hf
set_option maxHeartbeats 4000000 in
set_option maxRecDepth 100000 in
theorem wM_timed_99 {p : Program} {l : Launch} {e : Env} {s : State} {m : MethodId} {args : Array Value} {below : List Frame} {meth : Method} {c : Code} {g : gT} {q : Nat} {ad : Nat → Nat} {X : va_W} {rv : Option Value} {iv' : Nat → Int32} {av' : Nat → Nat → Int32} {r' : Int64} (C : mCx p m c cM_timed 8 s args g "MidiDeskModel") (hr : meth.sig.returnType = (some .long)) (hlk : meth.locks = false) (hrv : rv = some (.long r')) {K54 : (Nat → Int32) → (Nat → Nat → Int32) → Int32 → Int64 → Int32 → Int32 → Int32 → Option (Int64 × (Nat → Int32) × (Nat → Nat → Int32))} (hK54 : ∀ (iv : Nat → Int32) (av : Nat → Nat → Int32) (x1 : Int32) (y2 : Int64) (x4 : Int32) (x5 : Int32) (x6 : Int32) (H : Heap) (locs : List Loc) (ls : Array Slot), lv_has ls 8 [(0, .ref q), (1, .int x1), (2, .long y2), (4, .int x4), (5, .int x5), (6, .int x6)] → mWd g (mA g q ad X s.heap.size) s.heap q ad X iv av H locs → K54 iv av x1 y2 x4 x5 x6 = some (r', iv', av') → mG p l e rM_timed s m args below meth c g q ad X rv iv' av' H locs 0 0 (F0 m 54 ls [])) (iv : Nat → Int32) (av : Nat → Nat → Int32) (x1 : Int32) (y2 : Int64) (x4 : Int32) (x5 : Int32) (x6 : Int32) (x7 : Int32) (H : Heap) (locs : List Loc) (ls : Array Slot) (hl : lv_has ls 8 [(0, .ref q), (1, .int x1), (2, .long y2), (4, .int x4), (5, .int x5), (6, .int x6), (7, .int x7)]) (hw : mWd g (mA g q ad X s.heap.size) s.heap q ad X iv av H locs) (hf : jM_timed_99 K54 iv av x1 y2 x4 x5 x6 x7 = some (r', iv', av')) : mG p l e rM_timed s m args below meth c g q ad X rv iv' av' H locs 0 0 (F0 m 99 ls []) := by
  unfold jM_timed_99 at hf
  refine lv_aload_n C.1.1 C.1.2.1 dM_timed_99 rfl (lv_at hl 0 rfl) ?_
  refine mg_ticks C hw dM_timed_100 ?_
  refine lv_iload C.1.1 C.1.2.1 dM_timed_103 (lv_at hl 6 rfl) ?_
  obtain ⟨h1, hf⟩ := ts_g hf
  refine ma_ticks C hw h1 dM_timed_105 ?_
  refine lv_iload_n C.1.1 C.1.2.1 dM_timed_106 rfl (lv_at hl 1 rfl) ?_
  refine lv_icmp_le (tgt := 113) C.1.1 C.1.2.1 dM_timed_107 (by decide) (fun c2 => ?_) (fun c2 => ?_)
  · have hf := ts_t hf c2
    refine lv_lload_n C.1.1 C.1.2.1 dM_timed_113 rfl (lv_at hl 2 rfl) ?_
    refine lv_iload C.1.1 C.1.2.1 dM_timed_114 (lv_at hl 4 rfl) ?_
    refine lv_i2l C.1.1 C.1.2.1 dM_timed_116 rfl ?_
    refine lv_aload_n C.1.1 C.1.2.1 dM_timed_117 rfl (lv_at hl 0 rfl) ?_
    refine mg_ticks C hw dM_timed_118 ?_
    refine lv_iload C.1.1 C.1.2.1 dM_timed_121 (lv_at hl 6 rfl) ?_
    obtain ⟨h3, hf⟩ := ts_g hf
    refine ma_ticks C hw h3 dM_timed_123 ?_
    refine lv_iload C.1.1 C.1.2.1 dM_timed_124 (lv_at hl 3 rfl) ?_
    refine lv_isub C.1.1 C.1.2.1 dM_timed_126 ?_
    refine lv_i2l C.1.1 C.1.2.1 dM_timed_127 rfl ?_
    refine lv_lmul C.1.1 C.1.2.1 dM_timed_128 ?_
    refine lv_ladd C.1.1 C.1.2.1 dM_timed_129 ?_
    refine lv_lstore_n (lv' := [(2, .long (y2 + (x5.toInt64 * (((av 1 x7.toNatClampNeg) - x4).toInt64)))), (0, .ref q), (1, .int x1), (4, .int x4), (5, .int x5), (6, .int x6), (7, .int x7)]) C.1.1 C.1.2.1 dM_timed_130 rfl hl (by decide) rfl (fun ls hl => ?_)
    refine lv_aload_n C.1.1 C.1.2.1 dM_timed_131 rfl (lv_at hl 1 rfl) ?_
    refine mg_ticks C hw dM_timed_132 ?_
    refine lv_iload C.1.1 C.1.2.1 dM_timed_135 (lv_at hl 6 rfl) ?_
    obtain ⟨h4, hf⟩ := ts_g hf
    refine ma_ticks C hw h4 dM_timed_137 ?_
    refine lv_istore (lv' := [(4, .int (av 1 x7.toNatClampNeg)), (2, .long (y2 + (x5.toInt64 * (((av 1 x7.toNatClampNeg) - x4).toInt64)))), (0, .ref q), (1, .int x1), (5, .int x5), (6, .int x6), (7, .int x7)]) C.1.1 C.1.2.1 dM_timed_138 hl (by decide) rfl (fun ls hl => ?_)
    refine lv_aload_n C.1.1 C.1.2.1 dM_timed_140 rfl (lv_at hl 2 rfl) ?_
    refine lv_iload C.1.1 C.1.2.1 dM_timed_141 (lv_at hl 6 rfl) ?_
    obtain ⟨⟨r5, iv5, av5⟩, g5, hf⟩ := ts_b hf
    dsimp only at hf
    refine m_callV (rest := []) (As := [.int x7]) (rv := (some (.int r5))) C hl.1 hw (cM_tempo_met g5) (callW_of (rm := rM_tempo) 1 C.1.2.2.2.2 gw_844 gw_846 gw_34 gw_55 gw_847 kM_tempo ⟨Nat.le_of_ble_eq_true rfl, Nat.le_of_ble_eq_true rfl⟩) rfl rfl (Nat.le_of_ble_eq_true rfl) dM_timed_143 ⟨Nat.le_of_ble_eq_true rfl, Nat.le_of_ble_eq_true rfl⟩ (fun H locs hw => ?_)
    refine W.eq (g2 := F0 m 146 ls [.int r5]) rfl ?_
    refine lv_istore (lv' := [(5, .int r5), (4, .int (av 1 x7.toNatClampNeg)), (2, .long (y2 + (x5.toInt64 * (((av 1 x7.toNatClampNeg) - x4).toInt64)))), (0, .ref q), (1, .int x1), (6, .int x6), (7, .int x7)]) C.1.1 C.1.2.1 dM_timed_146 hl (by decide) rfl (fun ls hl => ?_)
    exact wM_timed_148 C hr hlk hrv hK54 iv5 av5 x1 (y2 + (x5.toInt64 * (((av 1 x7.toNatClampNeg) - x4).toInt64))) (av 1 x7.toNatClampNeg) r5 x6 _ _ ls (lv_sub hl [3, 4, 2, 1, 0, 5] rfl) hw hf
  · have hf := ts_f hf c2
    refine lv_goto (tgt := 148) C.1.1 C.1.2.1 dM_timed_110 (by decide) ?_
    exact wM_timed_148 C hr hlk hrv hK54 iv av x1 y2 x4 x5 x6 _ _ ls (lv_sub hl [0, 1, 2, 3, 4, 5] rfl) hw hf
set_option maxHeartbeats 4000000 in
set_option maxRecDepth 100000 in
theorem wM_timed_54 {p : Program} {l : Launch} {e : Env} {s : State} {m : MethodId} {args : Array Value} {below : List Frame} {meth : Method} {c : Code} {g : gT} {q : Nat} {ad : Nat → Nat} {X : va_W} {rv : Option Value} {iv' : Nat → Int32} {av' : Nat → Nat → Int32} {r' : Int64} (C : mCx p m c cM_timed 8 s args g "MidiDeskModel") (hr : meth.sig.returnType = (some .long)) (hlk : meth.locks = false) (hrv : rv = some (.long r')) (k : Nat) : ∀ (iv : Nat → Int32) (av : Nat → Nat → Int32) (x1 : Int32) (y2 : Int64) (x4 : Int32) (x5 : Int32) (x6 : Int32) (H : Heap) (locs : List Loc) (ls : Array Slot), lv_has ls 8 [(0, .ref q), (1, .int x1), (2, .long y2), (4, .int x4), (5, .int x5), (6, .int x6)] → mWd g (mA g q ad X s.heap.size) s.heap q ad X iv av H locs → lM_timed_54 k iv av x1 y2 x4 x5 x6 = some (r', iv', av') → mG p l e rM_timed s m args below meth c g q ad X rv iv' av' H locs 0 0 (F0 m 54 ls []) := by
  induction k with
  | zero => intro iv av x1 y2 x4 x5 x6 H locs ls hl hw hf; cases hf
  | succ k ih =>
    intro iv av x1 y2 x4 x5 x6 H locs ls hl hw hf
    have hf : (if (iv 10) ≤ x6 then (some (y2 + (x5.toInt64 * ((x1 - x4).toInt64)), iv, av)) else (if x6 < 0 ∨ 1001 ≤ x6.toNatClampNeg then none else ((fM_isTempo iv av (av 8 x6.toNatClampNeg)).bind fun (r3, iv3, av3) => if r3 = 0 then (jM_timed_148 (lM_timed_54 k) iv3 av3 x1 y2 x4 x5 x6) else (if (iv3 7) = (2 : Int32) then (if (av 8 x6.toNatClampNeg) < 0 ∨ 1001 ≤ (av 8 x6.toNatClampNeg).toNatClampNeg then none else (if 0 < (av3 2 (av 8 x6.toNatClampNeg).toNatClampNeg) then (jM_timed_148 (lM_timed_54 k) iv3 av3 x1 y2 x4 x5 x6) else (jM_timed_99 (lM_timed_54 k) iv3 av3 x1 y2 x4 x5 x6 (av 8 x6.toNatClampNeg)))) else (jM_timed_99 (lM_timed_54 k) iv3 av3 x1 y2 x4 x5 x6 (av 8 x6.toNatClampNeg)))))) = some (r', iv', av') := hf
    refine lv_iload C.1.1 C.1.2.1 dM_timed_54 (lv_at hl 5 rfl) ?_
    refine lv_aload_n C.1.1 C.1.2.1 dM_timed_56 rfl (lv_at hl 0 rfl) ?_
    refine mg_events C hw dM_timed_57 ?_
    refine lv_icmp_ge (tgt := 154) C.1.1 C.1.2.1 dM_timed_60 (by decide) (fun c1 => ?_) (fun c1 => ?_)
    · have hf := ts_t hf c1
      refine lv_lload_n C.1.1 C.1.2.1 dM_timed_154 rfl (lv_at hl 2 rfl) ?_
      refine lv_iload C.1.1 C.1.2.1 dM_timed_155 (lv_at hl 4 rfl) ?_
      refine lv_i2l C.1.1 C.1.2.1 dM_timed_157 rfl ?_
      refine lv_iload_n C.1.1 C.1.2.1 dM_timed_158 rfl (lv_at hl 1 rfl) ?_
      refine lv_iload C.1.1 C.1.2.1 dM_timed_159 (lv_at hl 3 rfl) ?_
      refine lv_isub C.1.1 C.1.2.1 dM_timed_161 ?_
      refine lv_i2l C.1.1 C.1.2.1 dM_timed_162 rfl ?_
      refine lv_lmul C.1.1 C.1.2.1 dM_timed_163 ?_
      refine lv_ladd C.1.1 C.1.2.1 dM_timed_164 ?_
      exact m_retl C hr hlk hrv hw hf ⟨Nat.le_of_ble_eq_true rfl, Nat.le_of_ble_eq_true rfl⟩ dM_timed_165
    · have hf := ts_f hf c1
      refine lv_aload_n C.1.1 C.1.2.1 dM_timed_63 rfl (lv_at hl 0 rfl) ?_
      refine mg_order C hw dM_timed_64 ?_
      refine lv_iload C.1.1 C.1.2.1 dM_timed_67 (lv_at hl 5 rfl) ?_
      obtain ⟨h2, hf⟩ := ts_g hf
      refine ma_order C hw h2 dM_timed_69 ?_
      refine lv_istore (lv' := [(7, .int (av 8 x6.toNatClampNeg)), (0, .ref q), (1, .int x1), (2, .long y2), (4, .int x4), (5, .int x5), (6, .int x6)]) C.1.1 C.1.2.1 dM_timed_70 hl (by decide) rfl (fun ls hl => ?_)
      refine lv_aload_n C.1.1 C.1.2.1 dM_timed_72 rfl (lv_at hl 1 rfl) ?_
      refine lv_iload C.1.1 C.1.2.1 dM_timed_73 (lv_at hl 0 rfl) ?_
      obtain ⟨⟨r3, iv3, av3⟩, g3, hf⟩ := ts_b hf
      dsimp only at hf
      refine m_callV (rest := []) (As := [.int (av 8 x6.toNatClampNeg)]) (rv := (some (.int r3))) C hl.1 hw (cM_isTempo_met g3) (callW_of (rm := rM_isTempo) 1 C.1.2.2.2.2 gw_888 gw_890 gw_41 gw_55 gw_891 kM_isTempo ⟨Nat.le_of_ble_eq_true rfl, Nat.le_of_ble_eq_true rfl⟩) rfl rfl (Nat.le_of_ble_eq_true rfl) dM_timed_75 ⟨Nat.le_of_ble_eq_true rfl, Nat.le_of_ble_eq_true rfl⟩ (fun H locs hw => ?_)
      refine W.eq (g2 := F0 m 78 ls [.int r3]) rfl ?_
      refine lv_if_eq (tgt := 148) C.1.1 C.1.2.1 dM_timed_78 (by decide) (fun c4 => ?_) (fun c4 => ?_)
      · have hf := ts_t hf c4
        exact wM_timed_148 C hr hlk hrv ih iv3 av3 x1 y2 x4 x5 x6 _ _ ls (lv_sub hl [1, 2, 3, 4, 5, 6] rfl) hw hf
      · have hf := ts_f hf c4
        refine lv_aload_n C.1.1 C.1.2.1 dM_timed_81 rfl (lv_at hl 1 rfl) ?_
        refine mg_format C hw dM_timed_82 ?_
        refine lv_iconst (v := (2 : Int32)) C.1.1 C.1.2.1 dM_timed_85 (by decide) ?_
        refine lv_icmp_ne (tgt := 99) C.1.1 C.1.2.1 dM_timed_86 (by decide) (fun c5 => ?_) (fun c5 => ?_)
        · have hf := ts_f hf c5
          exact wM_timed_99 C hr hlk hrv ih iv3 av3 x1 y2 x4 x5 x6 (av 8 x6.toNatClampNeg) _ _ ls (lv_sub hl [1, 2, 3, 4, 5, 6, 0] rfl) hw hf
        · have hf := ts_t hf c5
          refine lv_aload_n C.1.1 C.1.2.1 dM_timed_89 rfl (lv_at hl 1 rfl) ?_
          refine mg_trackOf C hw dM_timed_90 ?_
          refine lv_iload C.1.1 C.1.2.1 dM_timed_93 (lv_at hl 0 rfl) ?_
          obtain ⟨h6, hf⟩ := ts_g hf
          refine ma_trackOf C hw h6 dM_timed_95 ?_
          refine lv_if_gt (tgt := 148) C.1.1 C.1.2.1 dM_timed_96 (by decide) (fun c7 => ?_) (fun c7 => ?_)
          · have hf := ts_t hf c7
            exact wM_timed_148 C hr hlk hrv ih iv3 av3 x1 y2 x4 x5 x6 _ _ ls (lv_sub hl [1, 2, 3, 4, 5, 6] rfl) hw hf
          · have hf := ts_f hf c7
            exact wM_timed_99 C hr hlk hrv ih iv3 av3 x1 y2 x4 x5 x6 (av 8 x6.toNatClampNeg) _ _ ls (lv_sub hl [1, 2, 3, 4, 5, 6, 0] rfl) hw hf
set_option maxHeartbeats 4000000 in
set_option maxRecDepth 100000 in
theorem cM_timed_met {l : Launch} {g : gT} {q : Nat} {ad : Nat → Nat} {X : va_W} {iv iv' : Nat → Int32} {av av' : Nat → Nat → Int32} {x1 : Int32} {r' : Int64} (hf : fM_timed iv av x1 = some (r', iv', av')) : mMet l yM_timed cM_timed 8 (some .long) rM_timed g q ad X iv av [.ref q, .int x1] (some (.long r')) iv' av' := by
  refine m_entry (by decide) (Nat.le_of_ble_eq_true rfl) ?_
  intro p e s m args below meth c ls C hr hlk hnm hl hw
  have hrv : ((some (.long r')) : Option Value) = (some (.long r')) := rfl
  have C : mCx p m c cM_timed 8 s args g "MidiDeskModel" := C
  have hl : lv_has ls 8 [(0, .ref q), (1, .int x1)] := hl
  unfold fM_timed at hf
  refine lv_aload_n C.1.1 C.1.2.1 dM_timed_0 rfl (lv_at hl 0 rfl) ?_
  refine mg_division C hw dM_timed_1 ?_
  refine lv_sipush (v := (32767 : Int32)) C.1.1 C.1.2.1 dM_timed_4 (by decide) ?_
  refine lv_icmp_le (tgt := 42) C.1.1 C.1.2.1 dM_timed_7 (by decide) (fun c1 => ?_) (fun c1 => ?_)
  · have hf := ts_t hf c1
    refine lv_lconst (v := 0) C.1.1 C.1.2.1 dM_timed_42 (by decide) ?_
    refine lv_lstore_n (lv' := [(2, .long (0 : Int64)), (0, .ref q), (1, .int x1)]) C.1.1 C.1.2.1 dM_timed_43 rfl hl (by decide) rfl (fun ls hl => ?_)
    refine lv_iconst (v := (0 : Int32)) C.1.1 C.1.2.1 dM_timed_44 (by decide) ?_
    refine lv_istore (lv' := [(4, .int (0 : Int32)), (2, .long (0 : Int64)), (0, .ref q), (1, .int x1)]) C.1.1 C.1.2.1 dM_timed_45 hl (by decide) rfl (fun ls hl => ?_)
    refine lv_ldc C.1.1 C.1.2.1 C.1.2.2.2.1 (C.1.2.2.2.2 _ gw_887) dM_timed_47 ?_
    refine lv_istore (lv' := [(5, .int (500000 : Int32)), (4, .int (0 : Int32)), (2, .long (0 : Int64)), (0, .ref q), (1, .int x1)]) C.1.1 C.1.2.1 dM_timed_49 hl (by decide) rfl (fun ls hl => ?_)
    refine lv_iconst (v := (0 : Int32)) C.1.1 C.1.2.1 dM_timed_51 (by decide) ?_
    refine lv_istore (lv' := [(6, .int (0 : Int32)), (5, .int (500000 : Int32)), (4, .int (0 : Int32)), (2, .long (0 : Int64)), (0, .ref q), (1, .int x1)]) C.1.1 C.1.2.1 dM_timed_52 hl (by decide) rfl (fun ls hl => ?_)
    exact wM_timed_54 C hr hlk hrv FU iv av x1 (0 : Int64) (0 : Int32) (500000 : Int32) (0 : Int32) _ _ ls (lv_sub hl [4, 5, 3, 2, 1, 0] rfl) hw hf
  · have hf := ts_f hf c1
    refine lv_sipush (v := (256 : Int32)) C.1.1 C.1.2.1 dM_timed_10 (by decide) ?_
    refine lv_aload_n C.1.1 C.1.2.1 dM_timed_13 rfl (lv_at hl 0 rfl) ?_
    refine mg_division C hw dM_timed_14 ?_
    refine lv_bipush (v := (8 : Int32)) C.1.1 C.1.2.1 dM_timed_17 (by decide) ?_
    refine lv_ishr C.1.1 C.1.2.1 dM_timed_19 ?_
    refine lv_isub C.1.1 C.1.2.1 dM_timed_20 ?_
    refine lv_bipush (v := (29 : Int32)) C.1.1 C.1.2.1 dM_timed_21 (by decide) ?_
    refine lv_icmp_ne (tgt := 35) C.1.1 C.1.2.1 dM_timed_23 (by decide) (fun c2 => ?_) (fun c2 => ?_)
    · have hf := ts_f hf c2
      refine lv_ldc2 C.1.1 C.1.2.1 C.1.2.2.2.1 (C.1.2.2.2.2 _ gw_886) dM_timed_35 ?_
      refine lv_iload_n C.1.1 C.1.2.1 dM_timed_38 rfl (lv_at hl 1 rfl) ?_
      refine lv_i2l C.1.1 C.1.2.1 dM_timed_39 rfl ?_
      refine lv_lmul C.1.1 C.1.2.1 dM_timed_40 ?_
      exact m_retl C hr hlk hrv hw hf ⟨Nat.le_of_ble_eq_true rfl, Nat.le_of_ble_eq_true rfl⟩ dM_timed_41
    · have hf := ts_t hf c2
      refine lv_ldc2 C.1.1 C.1.2.1 C.1.2.2.2.1 (C.1.2.2.2.2 _ gw_885) dM_timed_26 ?_
      refine lv_iload_n C.1.1 C.1.2.1 dM_timed_29 rfl (lv_at hl 1 rfl) ?_
      refine lv_i2l C.1.1 C.1.2.1 dM_timed_30 rfl ?_
      refine lv_lmul C.1.1 C.1.2.1 dM_timed_31 ?_
      refine lv_goto (tgt := 41) C.1.1 C.1.2.1 dM_timed_32 (by decide) ?_
      exact m_retl C hr hlk hrv hw hf ⟨Nat.le_of_ble_eq_true rfl, Nat.le_of_ble_eq_true rfl⟩ dM_timed_41
abbrev cM_time : ByteArray := prog_8_method_25_code
abbrev yM_time : MethodName := ⟨"MidiDeskModel", "time", "(I)J"⟩
theorem kM_time : yM_time.cls ≠ "java/lang/invoke/MethodHandle" ∧ yM_time.cls ≠ "java/lang/invoke/VarHandle" ∧ (parseMethodDescriptor yM_time.desc).map (fun d => d.parameters.length) = some 1 := by decide +kernel
abbrev rM_time : Room := { frames := 2, cells := 0, slots := 0, locals := 48 }
theorem dM_time_0 : decode cM_time 0 = .ok (.aload_n 0, 1) := by decide +kernel
theorem dM_time_1 : decode cM_time 1 = .ok (.aload_n 0, 1) := by decide +kernel
theorem dM_time_2 : decode cM_time 2 = .ok (.getfield 110, 3) := by decide +kernel
theorem dM_time_5 : decode cM_time 5 = .ok (.ifCond .ne 7, 3) := by decide +kernel
theorem dM_time_8 : decode cM_time 8 = .ok (.iconst 1, 1) := by decide +kernel
theorem dM_time_9 : decode cM_time 9 = .ok (.goto 4, 3) := by decide +kernel
theorem dM_time_12 : decode cM_time 12 = .ok (.iconst 0, 1) := by decide +kernel
theorem dM_time_13 : decode cM_time 13 = .ok (.iload_n 1, 1) := by decide +kernel
theorem dM_time_14 : decode cM_time 14 = .ok (.ifCond .lt 9, 3) := by decide +kernel
theorem dM_time_17 : decode cM_time 17 = .ok (.iload_n 1, 1) := by decide +kernel
theorem dM_time_18 : decode cM_time 18 = .ok (.ldc 157, 2) := by decide +kernel
theorem dM_time_20 : decode cM_time 20 = .ok (.if_icmp .le 7, 3) := by decide +kernel
theorem dM_time_23 : decode cM_time 23 = .ok (.iconst 1, 1) := by decide +kernel
theorem dM_time_24 : decode cM_time 24 = .ok (.goto 4, 3) := by decide +kernel
theorem dM_time_27 : decode cM_time 27 = .ok (.iconst 0, 1) := by decide +kernel
theorem dM_time_28 : decode cM_time 28 = .ok (.invokevirtual 158, 3) := by decide +kernel
theorem dM_time_31 : decode cM_time 31 = .ok (.ifCond .eq 5, 3) := by decide +kernel
theorem dM_time_34 : decode cM_time 34 = .ok (.lconst 0, 1) := by decide +kernel
theorem dM_time_35 : decode cM_time 35 = .ok (.lreturn, 1) := by decide +kernel
theorem dM_time_36 : decode cM_time 36 = .ok (.aload_n 0, 1) := by decide +kernel
theorem dM_time_37 : decode cM_time 37 = .ok (.iload_n 1, 1) := by decide +kernel
theorem dM_time_38 : decode cM_time 38 = .ok (.invokevirtual 162, 3) := by decide +kernel
theorem dM_time_41 : decode cM_time 41 = .ok (.aload_n 0, 1) := by decide +kernel
theorem dM_time_42 : decode cM_time 42 = .ok (.invokevirtual 165, 3) := by decide +kernel
theorem dM_time_45 : decode cM_time 45 = .ok (.ldiv, 1) := by decide +kernel
theorem dM_time_46 : decode cM_time 46 = .ok (.lreturn, 1) := by decide +kernel
def jM_time_28 (iv : Nat → Int32) (av : Nat → Nat → Int32) (x1 : Int32) (s1 : Int32) (s2 : Int32) : Option (Int64 × (Nat → Int32) × (Nat → Nat → Int32)) := (fM_fails iv av s1 s2).bind fun (r1, iv1, av1) => if r1 = 0 then ((fM_timed iv1 av1 x1).bind fun (r3, iv3, av3) => (fM_parts iv3 av3).bind fun (r4, iv4, av4) => if r4 = 0 then none else (some (r3 / r4, iv4, av4))) else (some ((0 : Int64), iv1, av1))
def jM_time_23 (iv : Nat → Int32) (av : Nat → Nat → Int32) (x1 : Int32) (s1 : Int32) : Option (Int64 × (Nat → Int32) × (Nat → Nat → Int32)) := jM_time_28 iv av x1 s1 (1 : Int32)
def jM_time_13 (iv : Nat → Int32) (av : Nat → Nat → Int32) (x1 : Int32) (s1 : Int32) : Option (Int64 × (Nat → Int32) × (Nat → Nat → Int32)) := if x1 < 0 then (jM_time_23 iv av x1 s1) else (if x1 ≤ (268435455 : Int32) then (jM_time_28 iv av x1 s1 (0 : Int32)) else (jM_time_23 iv av x1 s1))
def fM_time (iv : Nat → Int32) (av : Nat → Nat → Int32) (x1 : Int32) : Option (Int64 × (Nat → Int32) × (Nat → Nat → Int32)) := if (iv 6) = 0 then (jM_time_13 iv av x1 (1 : Int32)) else (jM_time_13 iv av x1 (0 : Int32))
set_option maxHeartbeats 4000000 in
set_option maxRecDepth 100000 in
theorem wM_time_28 {p : Program} {l : Launch} {e : Env} {s : State} {m : MethodId} {args : Array Value} {below : List Frame} {meth : Method} {c : Code} {g : gT} {q : Nat} {ad : Nat → Nat} {X : va_W} {rv : Option Value} {iv' : Nat → Int32} {av' : Nat → Nat → Int32} {r' : Int64} (C : mCx p m c cM_time 2 s args g "MidiDeskModel") (hr : meth.sig.returnType = (some .long)) (hlk : meth.locks = false) (hrv : rv = some (.long r')) (iv : Nat → Int32) (av : Nat → Nat → Int32) (x1 : Int32) (s1 : Int32) (s2 : Int32) (H : Heap) (locs : List Loc) (ls : Array Slot) (hl : lv_has ls 2 [(0, .ref q), (1, .int x1)]) (hw : mWd g (mA g q ad X s.heap.size) s.heap q ad X iv av H locs) (hf : jM_time_28 iv av x1 s1 s2 = some (r', iv', av')) : mG p l e rM_time s m args below meth c g q ad X rv iv' av' H locs 0 0 (F0 m 28 ls [.int s2, .int s1, .ref q]) := by
  unfold jM_time_28 at hf
  obtain ⟨⟨r1, iv1, av1⟩, g1, hf⟩ := ts_b hf
  dsimp only at hf
  refine m_callV (rest := []) (As := [.int s1, .int s2]) (rv := (some (.int r1))) C hl.1 hw (cM_fails_met g1) (callW_of (rm := rM_fails) 2 C.1.2.2.2.2 gw_877 gw_879 gw_39 gw_55 gw_880 kM_fails ⟨Nat.le_of_ble_eq_true rfl, Nat.le_of_ble_eq_true rfl⟩) rfl rfl (Nat.le_of_ble_eq_true rfl) dM_time_28 ⟨Nat.le_of_ble_eq_true rfl, Nat.le_of_ble_eq_true rfl⟩ (fun H locs hw => ?_)
  refine W.eq (g2 := F0 m 31 ls [.int r1]) rfl ?_
  refine lv_if_eq (tgt := 36) C.1.1 C.1.2.1 dM_time_31 (by decide) (fun c2 => ?_) (fun c2 => ?_)
  · have hf := ts_t hf c2
    refine lv_aload_n C.1.1 C.1.2.1 dM_time_36 rfl (lv_at hl 0 rfl) ?_
    refine lv_iload_n C.1.1 C.1.2.1 dM_time_37 rfl (lv_at hl 1 rfl) ?_
    obtain ⟨⟨r3, iv3, av3⟩, g3, hf⟩ := ts_b hf
    dsimp only at hf
    refine m_callV (rest := []) (As := [.int x1]) (rv := (some (.long r3))) C hl.1 hw (cM_timed_met g3) (callW_of (rm := rM_timed) 1 C.1.2.2.2.2 gw_881 gw_883 gw_40 gw_55 gw_884 kM_timed ⟨Nat.le_of_ble_eq_true rfl, Nat.le_of_ble_eq_true rfl⟩) rfl rfl (Nat.le_of_ble_eq_true rfl) dM_time_38 ⟨Nat.le_of_ble_eq_true rfl, Nat.le_of_ble_eq_true rfl⟩ (fun H locs hw => ?_)
    refine W.eq (g2 := F0 m 41 ls [.long r3]) rfl ?_
    refine lv_aload_n C.1.1 C.1.2.1 dM_time_41 rfl (lv_at hl 0 rfl) ?_
    obtain ⟨⟨r4, iv4, av4⟩, g4, hf⟩ := ts_b hf
    dsimp only at hf
    refine m_callV (rest := [.long r3]) (As := []) (rv := (some (.long r4))) C hl.1 hw (cM_parts_met g4) (callW_of (rm := rM_parts) 0 C.1.2.2.2.2 gw_892 gw_894 gw_42 gw_55 gw_895 kM_parts ⟨Nat.le_of_ble_eq_true rfl, Nat.le_of_ble_eq_true rfl⟩) rfl rfl (Nat.le_of_ble_eq_true rfl) dM_time_42 ⟨Nat.le_of_ble_eq_true rfl, Nat.le_of_ble_eq_true rfl⟩ (fun H locs hw => ?_)
    refine W.eq (g2 := F0 m 45 ls [.long r4, .long r3]) rfl ?_
    obtain ⟨h5, hf⟩ := ts_g hf
    refine lv_ldiv C.1.1 C.1.2.1 dM_time_45 h5 ?_
    exact m_retl C hr hlk hrv hw hf ⟨Nat.le_of_ble_eq_true rfl, Nat.le_of_ble_eq_true rfl⟩ dM_time_46
  · have hf := ts_f hf c2
    refine lv_lconst (v := 0) C.1.1 C.1.2.1 dM_time_34 (by decide) ?_
    exact m_retl C hr hlk hrv hw hf ⟨Nat.le_of_ble_eq_true rfl, Nat.le_of_ble_eq_true rfl⟩ dM_time_35
set_option maxHeartbeats 4000000 in
set_option maxRecDepth 100000 in
theorem wM_time_23 {p : Program} {l : Launch} {e : Env} {s : State} {m : MethodId} {args : Array Value} {below : List Frame} {meth : Method} {c : Code} {g : gT} {q : Nat} {ad : Nat → Nat} {X : va_W} {rv : Option Value} {iv' : Nat → Int32} {av' : Nat → Nat → Int32} {r' : Int64} (C : mCx p m c cM_time 2 s args g "MidiDeskModel") (hr : meth.sig.returnType = (some .long)) (hlk : meth.locks = false) (hrv : rv = some (.long r')) (iv : Nat → Int32) (av : Nat → Nat → Int32) (x1 : Int32) (s1 : Int32) (H : Heap) (locs : List Loc) (ls : Array Slot) (hl : lv_has ls 2 [(0, .ref q), (1, .int x1)]) (hw : mWd g (mA g q ad X s.heap.size) s.heap q ad X iv av H locs) (hf : jM_time_23 iv av x1 s1 = some (r', iv', av')) : mG p l e rM_time s m args below meth c g q ad X rv iv' av' H locs 0 0 (F0 m 23 ls [.int s1, .ref q]) := by
  unfold jM_time_23 at hf
  refine lv_iconst (v := (1 : Int32)) C.1.1 C.1.2.1 dM_time_23 (by decide) ?_
  refine lv_goto (tgt := 28) C.1.1 C.1.2.1 dM_time_24 (by decide) ?_
  exact wM_time_28 C hr hlk hrv iv av x1 s1 (1 : Int32) _ _ ls (lv_sub hl [0, 1] rfl) hw hf
set_option maxHeartbeats 4000000 in
set_option maxRecDepth 100000 in
theorem wM_time_13 {p : Program} {l : Launch} {e : Env} {s : State} {m : MethodId} {args : Array Value} {below : List Frame} {meth : Method} {c : Code} {g : gT} {q : Nat} {ad : Nat → Nat} {X : va_W} {rv : Option Value} {iv' : Nat → Int32} {av' : Nat → Nat → Int32} {r' : Int64} (C : mCx p m c cM_time 2 s args g "MidiDeskModel") (hr : meth.sig.returnType = (some .long)) (hlk : meth.locks = false) (hrv : rv = some (.long r')) (iv : Nat → Int32) (av : Nat → Nat → Int32) (x1 : Int32) (s1 : Int32) (H : Heap) (locs : List Loc) (ls : Array Slot) (hl : lv_has ls 2 [(0, .ref q), (1, .int x1)]) (hw : mWd g (mA g q ad X s.heap.size) s.heap q ad X iv av H locs) (hf : jM_time_13 iv av x1 s1 = some (r', iv', av')) : mG p l e rM_time s m args below meth c g q ad X rv iv' av' H locs 0 0 (F0 m 13 ls [.int s1, .ref q]) := by
  unfold jM_time_13 at hf
  refine lv_iload_n C.1.1 C.1.2.1 dM_time_13 rfl (lv_at hl 1 rfl) ?_
  refine lv_if_lt (tgt := 23) C.1.1 C.1.2.1 dM_time_14 (by decide) (fun c1 => ?_) (fun c1 => ?_)
  · have hf := ts_t hf c1
    exact wM_time_23 C hr hlk hrv iv av x1 s1 _ _ ls (lv_sub hl [0, 1] rfl) hw hf
  · have hf := ts_f hf c1
    refine lv_iload_n C.1.1 C.1.2.1 dM_time_17 rfl (lv_at hl 1 rfl) ?_
    refine lv_ldc C.1.1 C.1.2.1 C.1.2.2.2.1 (C.1.2.2.2.2 _ gw_876) dM_time_18 ?_
    refine lv_icmp_le (tgt := 27) C.1.1 C.1.2.1 dM_time_20 (by decide) (fun c2 => ?_) (fun c2 => ?_)
    · have hf := ts_t hf c2
      refine lv_iconst (v := (0 : Int32)) C.1.1 C.1.2.1 dM_time_27 (by decide) ?_
      exact wM_time_28 C hr hlk hrv iv av x1 s1 (0 : Int32) _ _ ls (lv_sub hl [0, 1] rfl) hw hf
    · have hf := ts_f hf c2
      exact wM_time_23 C hr hlk hrv iv av x1 s1 _ _ ls (lv_sub hl [0, 1] rfl) hw hf
set_option maxHeartbeats 4000000 in
set_option maxRecDepth 100000 in
theorem cM_time_met {l : Launch} {g : gT} {q : Nat} {ad : Nat → Nat} {X : va_W} {iv iv' : Nat → Int32} {av av' : Nat → Nat → Int32} {x1 : Int32} {r' : Int64} (hf : fM_time iv av x1 = some (r', iv', av')) : mMet l yM_time cM_time 2 (some .long) rM_time g q ad X iv av [.ref q, .int x1] (some (.long r')) iv' av' := by
  refine m_entry (by decide) (Nat.le_of_ble_eq_true rfl) ?_
  intro p e s m args below meth c ls C hr hlk hnm hl hw
  have hrv : ((some (.long r')) : Option Value) = (some (.long r')) := rfl
  have C : mCx p m c cM_time 2 s args g "MidiDeskModel" := C
  have hl : lv_has ls 2 [(0, .ref q), (1, .int x1)] := hl
  unfold fM_time at hf
  refine lv_aload_n C.1.1 C.1.2.1 dM_time_0 rfl (lv_at hl 0 rfl) ?_
  refine lv_aload_n C.1.1 C.1.2.1 dM_time_1 rfl (lv_at hl 0 rfl) ?_
  refine mg_there C hw dM_time_2 ?_
  refine lv_if_ne (tgt := 12) C.1.1 C.1.2.1 dM_time_5 (by decide) (fun c1 => ?_) (fun c1 => ?_)
  · have hf := ts_f hf c1
    refine lv_iconst (v := (0 : Int32)) C.1.1 C.1.2.1 dM_time_12 (by decide) ?_
    exact wM_time_13 C hr hlk hrv iv av x1 (0 : Int32) _ _ ls (lv_sub hl [0, 1] rfl) hw hf
  · have hf := ts_t hf c1
    refine lv_iconst (v := (1 : Int32)) C.1.1 C.1.2.1 dM_time_8 (by decide) ?_
    refine lv_goto (tgt := 13) C.1.1 C.1.2.1 dM_time_9 (by decide) ?_
    exact wM_time_13 C hr hlk hrv iv av x1 (1 : Int32) _ _ ls (lv_sub hl [0, 1] rfl) hw hf
end
section
abbrev cM_rest : ByteArray := prog_8_method_26_code
abbrev yM_rest : MethodName := ⟨"MidiDeskModel", "rest", "(I)J"⟩
theorem kM_rest : yM_rest.cls ≠ "java/lang/invoke/MethodHandle" ∧ yM_rest.cls ≠ "java/lang/invoke/VarHandle" ∧ (parseMethodDescriptor yM_rest.desc).map (fun d => d.parameters.length) = some 1 := by decide +kernel
abbrev rM_rest : Room := { frames := 2, cells := 0, slots := 0, locals := 48 }
theorem dM_rest_0 : decode cM_rest 0 = .ok (.aload_n 0, 1) := by decide +kernel
theorem dM_rest_1 : decode cM_rest 1 = .ok (.aload_n 0, 1) := by decide +kernel
theorem dM_rest_2 : decode cM_rest 2 = .ok (.getfield 110, 3) := by decide +kernel
theorem dM_rest_5 : decode cM_rest 5 = .ok (.ifCond .ne 7, 3) := by decide +kernel
theorem dM_rest_8 : decode cM_rest 8 = .ok (.iconst 1, 1) := by decide +kernel
theorem dM_rest_9 : decode cM_rest 9 = .ok (.goto 4, 3) := by decide +kernel
theorem dM_rest_12 : decode cM_rest 12 = .ok (.iconst 0, 1) := by decide +kernel
theorem dM_rest_13 : decode cM_rest 13 = .ok (.iload_n 1, 1) := by decide +kernel
theorem dM_rest_14 : decode cM_rest 14 = .ok (.ifCond .lt 9, 3) := by decide +kernel
theorem dM_rest_17 : decode cM_rest 17 = .ok (.iload_n 1, 1) := by decide +kernel
theorem dM_rest_18 : decode cM_rest 18 = .ok (.ldc 157, 2) := by decide +kernel
theorem dM_rest_20 : decode cM_rest 20 = .ok (.if_icmp .le 7, 3) := by decide +kernel
theorem dM_rest_23 : decode cM_rest 23 = .ok (.iconst 1, 1) := by decide +kernel
theorem dM_rest_24 : decode cM_rest 24 = .ok (.goto 4, 3) := by decide +kernel
theorem dM_rest_27 : decode cM_rest 27 = .ok (.iconst 0, 1) := by decide +kernel
theorem dM_rest_28 : decode cM_rest 28 = .ok (.invokevirtual 158, 3) := by decide +kernel
theorem dM_rest_31 : decode cM_rest 31 = .ok (.ifCond .eq 5, 3) := by decide +kernel
theorem dM_rest_34 : decode cM_rest 34 = .ok (.lconst 0, 1) := by decide +kernel
theorem dM_rest_35 : decode cM_rest 35 = .ok (.lreturn, 1) := by decide +kernel
theorem dM_rest_36 : decode cM_rest 36 = .ok (.aload_n 0, 1) := by decide +kernel
theorem dM_rest_37 : decode cM_rest 37 = .ok (.iload_n 1, 1) := by decide +kernel
theorem dM_rest_38 : decode cM_rest 38 = .ok (.invokevirtual 162, 3) := by decide +kernel
theorem dM_rest_41 : decode cM_rest 41 = .ok (.aload_n 0, 1) := by decide +kernel
theorem dM_rest_42 : decode cM_rest 42 = .ok (.invokevirtual 165, 3) := by decide +kernel
theorem dM_rest_45 : decode cM_rest 45 = .ok (.lrem, 1) := by decide +kernel
theorem dM_rest_46 : decode cM_rest 46 = .ok (.lreturn, 1) := by decide +kernel
def jM_rest_28 (iv : Nat → Int32) (av : Nat → Nat → Int32) (x1 : Int32) (s1 : Int32) (s2 : Int32) : Option (Int64 × (Nat → Int32) × (Nat → Nat → Int32)) := (fM_fails iv av s1 s2).bind fun (r1, iv1, av1) => if r1 = 0 then ((fM_timed iv1 av1 x1).bind fun (r3, iv3, av3) => (fM_parts iv3 av3).bind fun (r4, iv4, av4) => if r4 = 0 then none else (some (r3 - r3 / r4 * r4, iv4, av4))) else (some ((0 : Int64), iv1, av1))
def jM_rest_23 (iv : Nat → Int32) (av : Nat → Nat → Int32) (x1 : Int32) (s1 : Int32) : Option (Int64 × (Nat → Int32) × (Nat → Nat → Int32)) := jM_rest_28 iv av x1 s1 (1 : Int32)
def jM_rest_13 (iv : Nat → Int32) (av : Nat → Nat → Int32) (x1 : Int32) (s1 : Int32) : Option (Int64 × (Nat → Int32) × (Nat → Nat → Int32)) := if x1 < 0 then (jM_rest_23 iv av x1 s1) else (if x1 ≤ (268435455 : Int32) then (jM_rest_28 iv av x1 s1 (0 : Int32)) else (jM_rest_23 iv av x1 s1))
def fM_rest (iv : Nat → Int32) (av : Nat → Nat → Int32) (x1 : Int32) : Option (Int64 × (Nat → Int32) × (Nat → Nat → Int32)) := if (iv 6) = 0 then (jM_rest_13 iv av x1 (1 : Int32)) else (jM_rest_13 iv av x1 (0 : Int32))
set_option maxHeartbeats 4000000 in
set_option maxRecDepth 100000 in
theorem wM_rest_28 {p : Program} {l : Launch} {e : Env} {s : State} {m : MethodId} {args : Array Value} {below : List Frame} {meth : Method} {c : Code} {g : gT} {q : Nat} {ad : Nat → Nat} {X : va_W} {rv : Option Value} {iv' : Nat → Int32} {av' : Nat → Nat → Int32} {r' : Int64} (C : mCx p m c cM_rest 2 s args g "MidiDeskModel") (hr : meth.sig.returnType = (some .long)) (hlk : meth.locks = false) (hrv : rv = some (.long r')) (iv : Nat → Int32) (av : Nat → Nat → Int32) (x1 : Int32) (s1 : Int32) (s2 : Int32) (H : Heap) (locs : List Loc) (ls : Array Slot) (hl : lv_has ls 2 [(0, .ref q), (1, .int x1)]) (hw : mWd g (mA g q ad X s.heap.size) s.heap q ad X iv av H locs) (hf : jM_rest_28 iv av x1 s1 s2 = some (r', iv', av')) : mG p l e rM_rest s m args below meth c g q ad X rv iv' av' H locs 0 0 (F0 m 28 ls [.int s2, .int s1, .ref q]) := by
  unfold jM_rest_28 at hf
  obtain ⟨⟨r1, iv1, av1⟩, g1, hf⟩ := ts_b hf
  dsimp only at hf
  refine m_callV (rest := []) (As := [.int s1, .int s2]) (rv := (some (.int r1))) C hl.1 hw (cM_fails_met g1) (callW_of (rm := rM_fails) 2 C.1.2.2.2.2 gw_877 gw_879 gw_39 gw_55 gw_880 kM_fails ⟨Nat.le_of_ble_eq_true rfl, Nat.le_of_ble_eq_true rfl⟩) rfl rfl (Nat.le_of_ble_eq_true rfl) dM_rest_28 ⟨Nat.le_of_ble_eq_true rfl, Nat.le_of_ble_eq_true rfl⟩ (fun H locs hw => ?_)
  refine W.eq (g2 := F0 m 31 ls [.int r1]) rfl ?_
  refine lv_if_eq (tgt := 36) C.1.1 C.1.2.1 dM_rest_31 (by decide) (fun c2 => ?_) (fun c2 => ?_)
  · have hf := ts_t hf c2
    refine lv_aload_n C.1.1 C.1.2.1 dM_rest_36 rfl (lv_at hl 0 rfl) ?_
    refine lv_iload_n C.1.1 C.1.2.1 dM_rest_37 rfl (lv_at hl 1 rfl) ?_
    obtain ⟨⟨r3, iv3, av3⟩, g3, hf⟩ := ts_b hf
    dsimp only at hf
    refine m_callV (rest := []) (As := [.int x1]) (rv := (some (.long r3))) C hl.1 hw (cM_timed_met g3) (callW_of (rm := rM_timed) 1 C.1.2.2.2.2 gw_881 gw_883 gw_40 gw_55 gw_884 kM_timed ⟨Nat.le_of_ble_eq_true rfl, Nat.le_of_ble_eq_true rfl⟩) rfl rfl (Nat.le_of_ble_eq_true rfl) dM_rest_38 ⟨Nat.le_of_ble_eq_true rfl, Nat.le_of_ble_eq_true rfl⟩ (fun H locs hw => ?_)
    refine W.eq (g2 := F0 m 41 ls [.long r3]) rfl ?_
    refine lv_aload_n C.1.1 C.1.2.1 dM_rest_41 rfl (lv_at hl 0 rfl) ?_
    obtain ⟨⟨r4, iv4, av4⟩, g4, hf⟩ := ts_b hf
    dsimp only at hf
    refine m_callV (rest := [.long r3]) (As := []) (rv := (some (.long r4))) C hl.1 hw (cM_parts_met g4) (callW_of (rm := rM_parts) 0 C.1.2.2.2.2 gw_892 gw_894 gw_42 gw_55 gw_895 kM_parts ⟨Nat.le_of_ble_eq_true rfl, Nat.le_of_ble_eq_true rfl⟩) rfl rfl (Nat.le_of_ble_eq_true rfl) dM_rest_42 ⟨Nat.le_of_ble_eq_true rfl, Nat.le_of_ble_eq_true rfl⟩ (fun H locs hw => ?_)
    refine W.eq (g2 := F0 m 45 ls [.long r4, .long r3]) rfl ?_
    obtain ⟨h5, hf⟩ := ts_g hf
    refine lv_lrem C.1.1 C.1.2.1 dM_rest_45 h5 ?_
    exact m_retl C hr hlk hrv hw hf ⟨Nat.le_of_ble_eq_true rfl, Nat.le_of_ble_eq_true rfl⟩ dM_rest_46
  · have hf := ts_f hf c2
    refine lv_lconst (v := 0) C.1.1 C.1.2.1 dM_rest_34 (by decide) ?_
    exact m_retl C hr hlk hrv hw hf ⟨Nat.le_of_ble_eq_true rfl, Nat.le_of_ble_eq_true rfl⟩ dM_rest_35
set_option maxHeartbeats 4000000 in
set_option maxRecDepth 100000 in
theorem wM_rest_23 {p : Program} {l : Launch} {e : Env} {s : State} {m : MethodId} {args : Array Value} {below : List Frame} {meth : Method} {c : Code} {g : gT} {q : Nat} {ad : Nat → Nat} {X : va_W} {rv : Option Value} {iv' : Nat → Int32} {av' : Nat → Nat → Int32} {r' : Int64} (C : mCx p m c cM_rest 2 s args g "MidiDeskModel") (hr : meth.sig.returnType = (some .long)) (hlk : meth.locks = false) (hrv : rv = some (.long r')) (iv : Nat → Int32) (av : Nat → Nat → Int32) (x1 : Int32) (s1 : Int32) (H : Heap) (locs : List Loc) (ls : Array Slot) (hl : lv_has ls 2 [(0, .ref q), (1, .int x1)]) (hw : mWd g (mA g q ad X s.heap.size) s.heap q ad X iv av H locs) (hf : jM_rest_23 iv av x1 s1 = some (r', iv', av')) : mG p l e rM_rest s m args below meth c g q ad X rv iv' av' H locs 0 0 (F0 m 23 ls [.int s1, .ref q]) := by
  unfold jM_rest_23 at hf
  refine lv_iconst (v := (1 : Int32)) C.1.1 C.1.2.1 dM_rest_23 (by decide) ?_
  refine lv_goto (tgt := 28) C.1.1 C.1.2.1 dM_rest_24 (by decide) ?_
  exact wM_rest_28 C hr hlk hrv iv av x1 s1 (1 : Int32) _ _ ls (lv_sub hl [0, 1] rfl) hw hf
set_option maxHeartbeats 4000000 in
set_option maxRecDepth 100000 in
theorem wM_rest_13 {p : Program} {l : Launch} {e : Env} {s : State} {m : MethodId} {args : Array Value} {below : List Frame} {meth : Method} {c : Code} {g : gT} {q : Nat} {ad : Nat → Nat} {X : va_W} {rv : Option Value} {iv' : Nat → Int32} {av' : Nat → Nat → Int32} {r' : Int64} (C : mCx p m c cM_rest 2 s args g "MidiDeskModel") (hr : meth.sig.returnType = (some .long)) (hlk : meth.locks = false) (hrv : rv = some (.long r')) (iv : Nat → Int32) (av : Nat → Nat → Int32) (x1 : Int32) (s1 : Int32) (H : Heap) (locs : List Loc) (ls : Array Slot) (hl : lv_has ls 2 [(0, .ref q), (1, .int x1)]) (hw : mWd g (mA g q ad X s.heap.size) s.heap q ad X iv av H locs) (hf : jM_rest_13 iv av x1 s1 = some (r', iv', av')) : mG p l e rM_rest s m args below meth c g q ad X rv iv' av' H locs 0 0 (F0 m 13 ls [.int s1, .ref q]) := by
  unfold jM_rest_13 at hf
  refine lv_iload_n C.1.1 C.1.2.1 dM_rest_13 rfl (lv_at hl 1 rfl) ?_
  refine lv_if_lt (tgt := 23) C.1.1 C.1.2.1 dM_rest_14 (by decide) (fun c1 => ?_) (fun c1 => ?_)
  · have hf := ts_t hf c1
    exact wM_rest_23 C hr hlk hrv iv av x1 s1 _ _ ls (lv_sub hl [0, 1] rfl) hw hf
  · have hf := ts_f hf c1
    refine lv_iload_n C.1.1 C.1.2.1 dM_rest_17 rfl (lv_at hl 1 rfl) ?_
    refine lv_ldc C.1.1 C.1.2.1 C.1.2.2.2.1 (C.1.2.2.2.2 _ gw_876) dM_rest_18 ?_
    refine lv_icmp_le (tgt := 27) C.1.1 C.1.2.1 dM_rest_20 (by decide) (fun c2 => ?_) (fun c2 => ?_)
    · have hf := ts_t hf c2
      refine lv_iconst (v := (0 : Int32)) C.1.1 C.1.2.1 dM_rest_27 (by decide) ?_
      exact wM_rest_28 C hr hlk hrv iv av x1 s1 (0 : Int32) _ _ ls (lv_sub hl [0, 1] rfl) hw hf
    · have hf := ts_f hf c2
      exact wM_rest_23 C hr hlk hrv iv av x1 s1 _ _ ls (lv_sub hl [0, 1] rfl) hw hf
set_option maxHeartbeats 4000000 in
set_option maxRecDepth 100000 in
theorem cM_rest_met {l : Launch} {g : gT} {q : Nat} {ad : Nat → Nat} {X : va_W} {iv iv' : Nat → Int32} {av av' : Nat → Nat → Int32} {x1 : Int32} {r' : Int64} (hf : fM_rest iv av x1 = some (r', iv', av')) : mMet l yM_rest cM_rest 2 (some .long) rM_rest g q ad X iv av [.ref q, .int x1] (some (.long r')) iv' av' := by
  refine m_entry (by decide) (Nat.le_of_ble_eq_true rfl) ?_
  intro p e s m args below meth c ls C hr hlk hnm hl hw
  have hrv : ((some (.long r')) : Option Value) = (some (.long r')) := rfl
  have C : mCx p m c cM_rest 2 s args g "MidiDeskModel" := C
  have hl : lv_has ls 2 [(0, .ref q), (1, .int x1)] := hl
  unfold fM_rest at hf
  refine lv_aload_n C.1.1 C.1.2.1 dM_rest_0 rfl (lv_at hl 0 rfl) ?_
  refine lv_aload_n C.1.1 C.1.2.1 dM_rest_1 rfl (lv_at hl 0 rfl) ?_
  refine mg_there C hw dM_rest_2 ?_
  refine lv_if_ne (tgt := 12) C.1.1 C.1.2.1 dM_rest_5 (by decide) (fun c1 => ?_) (fun c1 => ?_)
  · have hf := ts_f hf c1
    refine lv_iconst (v := (0 : Int32)) C.1.1 C.1.2.1 dM_rest_12 (by decide) ?_
    exact wM_rest_13 C hr hlk hrv iv av x1 (0 : Int32) _ _ ls (lv_sub hl [0, 1] rfl) hw hf
  · have hf := ts_t hf c1
    refine lv_iconst (v := (1 : Int32)) C.1.1 C.1.2.1 dM_rest_8 (by decide) ?_
    refine lv_goto (tgt := 13) C.1.1 C.1.2.1 dM_rest_9 (by decide) ?_
    exact wM_rest_13 C hr hlk hrv iv av x1 (1 : Int32) _ _ ls (lv_sub hl [0, 1] rfl) hw hf
abbrev cM_begins : ByteArray := prog_8_method_27_code
abbrev yM_begins : MethodName := ⟨"MidiDeskModel", "begins", "(I)Z"⟩
theorem kM_begins : yM_begins.cls ≠ "java/lang/invoke/MethodHandle" ∧ yM_begins.cls ≠ "java/lang/invoke/VarHandle" ∧ (parseMethodDescriptor yM_begins.desc).map (fun d => d.parameters.length) = some 1 := by decide +kernel
abbrev rM_begins : Room := { frames := 0, cells := 0, slots := 0, locals := 0 }
theorem dM_begins_0 : decode cM_begins 0 = .ok (.aload_n 0, 1) := by decide +kernel
theorem dM_begins_1 : decode cM_begins 1 = .ok (.getfield 19, 3) := by decide +kernel
theorem dM_begins_4 : decode cM_begins 4 = .ok (.iload_n 1, 1) := by decide +kernel
theorem dM_begins_5 : decode cM_begins 5 = .ok (.iaload, 1) := by decide +kernel
theorem dM_begins_6 : decode cM_begins 6 = .ok (.iconst 4, 1) := by decide +kernel
theorem dM_begins_7 : decode cM_begins 7 = .ok (.ishr, 1) := by decide +kernel
theorem dM_begins_8 : decode cM_begins 8 = .ok (.bipush 9, 2) := by decide +kernel
theorem dM_begins_10 : decode cM_begins 10 = .ok (.if_icmp .ne 16, 3) := by decide +kernel
theorem dM_begins_13 : decode cM_begins 13 = .ok (.aload_n 0, 1) := by decide +kernel
theorem dM_begins_14 : decode cM_begins 14 = .ok (.getfield 25, 3) := by decide +kernel
theorem dM_begins_17 : decode cM_begins 17 = .ok (.iload_n 1, 1) := by decide +kernel
theorem dM_begins_18 : decode cM_begins 18 = .ok (.iaload, 1) := by decide +kernel
theorem dM_begins_19 : decode cM_begins 19 = .ok (.ifCond .le 7, 3) := by decide +kernel
theorem dM_begins_22 : decode cM_begins 22 = .ok (.iconst 1, 1) := by decide +kernel
theorem dM_begins_23 : decode cM_begins 23 = .ok (.goto 4, 3) := by decide +kernel
theorem dM_begins_26 : decode cM_begins 26 = .ok (.iconst 0, 1) := by decide +kernel
theorem dM_begins_27 : decode cM_begins 27 = .ok (.ireturn, 1) := by decide +kernel
def fM_begins (iv : Nat → Int32) (av : Nat → Nat → Int32) (x1 : Int32) : Option (Int32 × (Nat → Int32) × (Nat → Nat → Int32)) := if x1 < 0 ∨ 1001 ≤ x1.toNatClampNeg then none else (if ((av 3 x1.toNatClampNeg) >>> ((4 : Int32) &&& 31)) = (9 : Int32) then (if x1 < 0 ∨ 1001 ≤ x1.toNatClampNeg then none else (if (av 5 x1.toNatClampNeg) ≤ 0 then (some ((0 : Int32), iv, av)) else (some ((1 : Int32), iv, av)))) else (some ((0 : Int32), iv, av)))
set_option maxHeartbeats 4000000 in
set_option maxRecDepth 100000 in
theorem cM_begins_met {l : Launch} {g : gT} {q : Nat} {ad : Nat → Nat} {X : va_W} {iv iv' : Nat → Int32} {av av' : Nat → Nat → Int32} {x1 : Int32} {r' : Int32} (hf : fM_begins iv av x1 = some (r', iv', av')) : mMet l yM_begins cM_begins 2 (some .boolean) rM_begins g q ad X iv av [.ref q, .int x1] (some (.int r')) iv' av' := by
  refine m_entry (by decide) (Nat.le_of_ble_eq_true rfl) ?_
  intro p e s m args below meth c ls C hr hlk hnm hl hw
  have hrv : ((some (.int r')) : Option Value) = (some (.int r')) := rfl
  have C : mCx p m c cM_begins 2 s args g "MidiDeskModel" := C
  have hl : lv_has ls 2 [(0, .ref q), (1, .int x1)] := hl
  unfold fM_begins at hf
  refine lv_aload_n C.1.1 C.1.2.1 dM_begins_0 rfl (lv_at hl 0 rfl) ?_
  refine mg_status C hw dM_begins_1 ?_
  refine lv_iload_n C.1.1 C.1.2.1 dM_begins_4 rfl (lv_at hl 1 rfl) ?_
  obtain ⟨h1, hf⟩ := ts_g hf
  refine ma_status C hw h1 dM_begins_5 ?_
  refine lv_iconst (v := (4 : Int32)) C.1.1 C.1.2.1 dM_begins_6 (by decide) ?_
  refine lv_ishr C.1.1 C.1.2.1 dM_begins_7 ?_
  refine lv_bipush (v := (9 : Int32)) C.1.1 C.1.2.1 dM_begins_8 (by decide) ?_
  refine lv_icmp_ne (tgt := 26) C.1.1 C.1.2.1 dM_begins_10 (by decide) (fun c2 => ?_) (fun c2 => ?_)
  · have hf := ts_f hf c2
    refine lv_iconst (v := (0 : Int32)) C.1.1 C.1.2.1 dM_begins_26 (by decide) ?_
    exact m_retz C hr hlk hrv hw (Or.inl rfl) hf ⟨Nat.le_of_ble_eq_true rfl, Nat.le_of_ble_eq_true rfl⟩ dM_begins_27
  · have hf := ts_t hf c2
    refine lv_aload_n C.1.1 C.1.2.1 dM_begins_13 rfl (lv_at hl 0 rfl) ?_
    refine mg_second C hw dM_begins_14 ?_
    refine lv_iload_n C.1.1 C.1.2.1 dM_begins_17 rfl (lv_at hl 1 rfl) ?_
    obtain ⟨h3, hf⟩ := ts_g hf
    refine ma_second C hw h3 dM_begins_18 ?_
    refine lv_if_le (tgt := 26) C.1.1 C.1.2.1 dM_begins_19 (by decide) (fun c4 => ?_) (fun c4 => ?_)
    · have hf := ts_t hf c4
      refine lv_iconst (v := (0 : Int32)) C.1.1 C.1.2.1 dM_begins_26 (by decide) ?_
      exact m_retz C hr hlk hrv hw (Or.inl rfl) hf ⟨Nat.le_of_ble_eq_true rfl, Nat.le_of_ble_eq_true rfl⟩ dM_begins_27
    · have hf := ts_f hf c4
      refine lv_iconst (v := (1 : Int32)) C.1.1 C.1.2.1 dM_begins_22 (by decide) ?_
      refine lv_goto (tgt := 27) C.1.1 C.1.2.1 dM_begins_23 (by decide) ?_
      exact m_retz C hr hlk hrv hw (Or.inr rfl) hf ⟨Nat.le_of_ble_eq_true rfl, Nat.le_of_ble_eq_true rfl⟩ dM_begins_27
abbrev cM_ends : ByteArray := prog_8_method_28_code
abbrev yM_ends : MethodName := ⟨"MidiDeskModel", "ends", "(I)Z"⟩
theorem kM_ends : yM_ends.cls ≠ "java/lang/invoke/MethodHandle" ∧ yM_ends.cls ≠ "java/lang/invoke/VarHandle" ∧ (parseMethodDescriptor yM_ends.desc).map (fun d => d.parameters.length) = some 1 := by decide +kernel
abbrev rM_ends : Room := { frames := 0, cells := 0, slots := 0, locals := 0 }
theorem dM_ends_0 : decode cM_ends 0 = .ok (.aload_n 0, 1) := by decide +kernel
theorem dM_ends_1 : decode cM_ends 1 = .ok (.getfield 19, 3) := by decide +kernel
theorem dM_ends_4 : decode cM_ends 4 = .ok (.iload_n 1, 1) := by decide +kernel
theorem dM_ends_5 : decode cM_ends 5 = .ok (.iaload, 1) := by decide +kernel
theorem dM_ends_6 : decode cM_ends 6 = .ok (.iconst 4, 1) := by decide +kernel
theorem dM_ends_7 : decode cM_ends 7 = .ok (.ishr, 1) := by decide +kernel
theorem dM_ends_8 : decode cM_ends 8 = .ok (.bipush 8, 2) := by decide +kernel
theorem dM_ends_10 : decode cM_ends 10 = .ok (.if_icmp .eq 25, 3) := by decide +kernel
theorem dM_ends_13 : decode cM_ends 13 = .ok (.aload_n 0, 1) := by decide +kernel
theorem dM_ends_14 : decode cM_ends 14 = .ok (.getfield 19, 3) := by decide +kernel
theorem dM_ends_17 : decode cM_ends 17 = .ok (.iload_n 1, 1) := by decide +kernel
theorem dM_ends_18 : decode cM_ends 18 = .ok (.iaload, 1) := by decide +kernel
theorem dM_ends_19 : decode cM_ends 19 = .ok (.iconst 4, 1) := by decide +kernel
theorem dM_ends_20 : decode cM_ends 20 = .ok (.ishr, 1) := by decide +kernel
theorem dM_ends_21 : decode cM_ends 21 = .ok (.bipush 9, 2) := by decide +kernel
theorem dM_ends_23 : decode cM_ends 23 = .ok (.if_icmp .ne 16, 3) := by decide +kernel
theorem dM_ends_26 : decode cM_ends 26 = .ok (.aload_n 0, 1) := by decide +kernel
theorem dM_ends_27 : decode cM_ends 27 = .ok (.getfield 25, 3) := by decide +kernel
theorem dM_ends_30 : decode cM_ends 30 = .ok (.iload_n 1, 1) := by decide +kernel
theorem dM_ends_31 : decode cM_ends 31 = .ok (.iaload, 1) := by decide +kernel
theorem dM_ends_32 : decode cM_ends 32 = .ok (.ifCond .ne 7, 3) := by decide +kernel
theorem dM_ends_35 : decode cM_ends 35 = .ok (.iconst 1, 1) := by decide +kernel
theorem dM_ends_36 : decode cM_ends 36 = .ok (.goto 4, 3) := by decide +kernel
theorem dM_ends_39 : decode cM_ends 39 = .ok (.iconst 0, 1) := by decide +kernel
theorem dM_ends_40 : decode cM_ends 40 = .ok (.ireturn, 1) := by decide +kernel
def fM_ends (iv : Nat → Int32) (av : Nat → Nat → Int32) (x1 : Int32) : Option (Int32 × (Nat → Int32) × (Nat → Nat → Int32)) := if x1 < 0 ∨ 1001 ≤ x1.toNatClampNeg then none else (if ((av 3 x1.toNatClampNeg) >>> ((4 : Int32) &&& 31)) = (8 : Int32) then (some ((1 : Int32), iv, av)) else (if x1 < 0 ∨ 1001 ≤ x1.toNatClampNeg then none else (if ((av 3 x1.toNatClampNeg) >>> ((4 : Int32) &&& 31)) = (9 : Int32) then (if x1 < 0 ∨ 1001 ≤ x1.toNatClampNeg then none else (if (av 5 x1.toNatClampNeg) = 0 then (some ((1 : Int32), iv, av)) else (some ((0 : Int32), iv, av)))) else (some ((0 : Int32), iv, av)))))
set_option maxHeartbeats 4000000 in
set_option maxRecDepth 100000 in
theorem cM_ends_met {l : Launch} {g : gT} {q : Nat} {ad : Nat → Nat} {X : va_W} {iv iv' : Nat → Int32} {av av' : Nat → Nat → Int32} {x1 : Int32} {r' : Int32} (hf : fM_ends iv av x1 = some (r', iv', av')) : mMet l yM_ends cM_ends 2 (some .boolean) rM_ends g q ad X iv av [.ref q, .int x1] (some (.int r')) iv' av' := by
  refine m_entry (by decide) (Nat.le_of_ble_eq_true rfl) ?_
  intro p e s m args below meth c ls C hr hlk hnm hl hw
  have hrv : ((some (.int r')) : Option Value) = (some (.int r')) := rfl
  have C : mCx p m c cM_ends 2 s args g "MidiDeskModel" := C
  have hl : lv_has ls 2 [(0, .ref q), (1, .int x1)] := hl
  unfold fM_ends at hf
  refine lv_aload_n C.1.1 C.1.2.1 dM_ends_0 rfl (lv_at hl 0 rfl) ?_
  refine mg_status C hw dM_ends_1 ?_
  refine lv_iload_n C.1.1 C.1.2.1 dM_ends_4 rfl (lv_at hl 1 rfl) ?_
  obtain ⟨h1, hf⟩ := ts_g hf
  refine ma_status C hw h1 dM_ends_5 ?_
  refine lv_iconst (v := (4 : Int32)) C.1.1 C.1.2.1 dM_ends_6 (by decide) ?_
  refine lv_ishr C.1.1 C.1.2.1 dM_ends_7 ?_
  refine lv_bipush (v := (8 : Int32)) C.1.1 C.1.2.1 dM_ends_8 (by decide) ?_
  refine lv_icmp_eq (tgt := 35) C.1.1 C.1.2.1 dM_ends_10 (by decide) (fun c2 => ?_) (fun c2 => ?_)
  · have hf := ts_t hf c2
    refine lv_iconst (v := (1 : Int32)) C.1.1 C.1.2.1 dM_ends_35 (by decide) ?_
    refine lv_goto (tgt := 40) C.1.1 C.1.2.1 dM_ends_36 (by decide) ?_
    exact m_retz C hr hlk hrv hw (Or.inr rfl) hf ⟨Nat.le_of_ble_eq_true rfl, Nat.le_of_ble_eq_true rfl⟩ dM_ends_40
  · have hf := ts_f hf c2
    refine lv_aload_n C.1.1 C.1.2.1 dM_ends_13 rfl (lv_at hl 0 rfl) ?_
    refine mg_status C hw dM_ends_14 ?_
    refine lv_iload_n C.1.1 C.1.2.1 dM_ends_17 rfl (lv_at hl 1 rfl) ?_
    obtain ⟨h3, hf⟩ := ts_g hf
    refine ma_status C hw h3 dM_ends_18 ?_
    refine lv_iconst (v := (4 : Int32)) C.1.1 C.1.2.1 dM_ends_19 (by decide) ?_
    refine lv_ishr C.1.1 C.1.2.1 dM_ends_20 ?_
    refine lv_bipush (v := (9 : Int32)) C.1.1 C.1.2.1 dM_ends_21 (by decide) ?_
    refine lv_icmp_ne (tgt := 39) C.1.1 C.1.2.1 dM_ends_23 (by decide) (fun c4 => ?_) (fun c4 => ?_)
    · have hf := ts_f hf c4
      refine lv_iconst (v := (0 : Int32)) C.1.1 C.1.2.1 dM_ends_39 (by decide) ?_
      exact m_retz C hr hlk hrv hw (Or.inl rfl) hf ⟨Nat.le_of_ble_eq_true rfl, Nat.le_of_ble_eq_true rfl⟩ dM_ends_40
    · have hf := ts_t hf c4
      refine lv_aload_n C.1.1 C.1.2.1 dM_ends_26 rfl (lv_at hl 0 rfl) ?_
      refine mg_second C hw dM_ends_27 ?_
      refine lv_iload_n C.1.1 C.1.2.1 dM_ends_30 rfl (lv_at hl 1 rfl) ?_
      obtain ⟨h5, hf⟩ := ts_g hf
      refine ma_second C hw h5 dM_ends_31 ?_
      refine lv_if_ne (tgt := 39) C.1.1 C.1.2.1 dM_ends_32 (by decide) (fun c6 => ?_) (fun c6 => ?_)
      · have hf := ts_f hf c6
        refine lv_iconst (v := (0 : Int32)) C.1.1 C.1.2.1 dM_ends_39 (by decide) ?_
        exact m_retz C hr hlk hrv hw (Or.inl rfl) hf ⟨Nat.le_of_ble_eq_true rfl, Nat.le_of_ble_eq_true rfl⟩ dM_ends_40
      · have hf := ts_t hf c6
        refine lv_iconst (v := (1 : Int32)) C.1.1 C.1.2.1 dM_ends_35 (by decide) ?_
        refine lv_goto (tgt := 40) C.1.1 C.1.2.1 dM_ends_36 (by decide) ?_
        exact m_retz C hr hlk hrv hw (Or.inr rfl) hf ⟨Nat.le_of_ble_eq_true rfl, Nat.le_of_ble_eq_true rfl⟩ dM_ends_40
abbrev cM_length : ByteArray := prog_8_method_29_code
abbrev yM_length : MethodName := ⟨"MidiDeskModel", "length", "(I)I"⟩
theorem kM_length : yM_length.cls ≠ "java/lang/invoke/MethodHandle" ∧ yM_length.cls ≠ "java/lang/invoke/VarHandle" ∧ (parseMethodDescriptor yM_length.desc).map (fun d => d.parameters.length) = some 1 := by decide +kernel
abbrev rM_length : Room := { frames := 1, cells := 0, slots := 0, locals := 21 }
theorem dM_length_0 : decode cM_length 0 = .ok (.aload_n 0, 1) := by decide +kernel
theorem dM_length_1 : decode cM_length 1 = .ok (.iconst 0, 1) := by decide +kernel
theorem dM_length_2 : decode cM_length 2 = .ok (.putfield 47, 3) := by decide +kernel
theorem dM_length_5 : decode cM_length 5 = .ok (.aload_n 0, 1) := by decide +kernel
theorem dM_length_6 : decode cM_length 6 = .ok (.iload_n 1, 1) := by decide +kernel
theorem dM_length_7 : decode cM_length 7 = .ok (.invokevirtual 144, 3) := by decide +kernel
theorem dM_length_10 : decode cM_length 10 = .ok (.ifCond .eq 16, 3) := by decide +kernel
theorem dM_length_13 : decode cM_length 13 = .ok (.aload_n 0, 1) := by decide +kernel
theorem dM_length_14 : decode cM_length 14 = .ok (.aload_n 0, 1) := by decide +kernel
theorem dM_length_15 : decode cM_length 15 = .ok (.getfield 34, 3) := by decide +kernel
theorem dM_length_18 : decode cM_length 18 = .ok (.iload_n 1, 1) := by decide +kernel
theorem dM_length_19 : decode cM_length 19 = .ok (.iaload, 1) := by decide +kernel
theorem dM_length_20 : decode cM_length 20 = .ok (.invokevirtual 169, 3) := by decide +kernel
theorem dM_length_23 : decode cM_length 23 = .ok (.ifCond .ne 5, 3) := by decide +kernel
theorem dM_length_26 : decode cM_length 26 = .ok (.iconst (-1), 1) := by decide +kernel
theorem dM_length_27 : decode cM_length 27 = .ok (.ireturn, 1) := by decide +kernel
theorem dM_length_28 : decode cM_length 28 = .ok (.aload_n 0, 1) := by decide +kernel
theorem dM_length_29 : decode cM_length 29 = .ok (.getfield 34, 3) := by decide +kernel
theorem dM_length_32 : decode cM_length 32 = .ok (.iload_n 1, 1) := by decide +kernel
theorem dM_length_33 : decode cM_length 33 = .ok (.iaload, 1) := by decide +kernel
theorem dM_length_34 : decode cM_length 34 = .ok (.istore_n 2, 1) := by decide +kernel
theorem dM_length_35 : decode cM_length 35 = .ok (.iload_n 1, 1) := by decide +kernel
theorem dM_length_36 : decode cM_length 36 = .ok (.iconst 1, 1) := by decide +kernel
theorem dM_length_37 : decode cM_length 37 = .ok (.iadd, 1) := by decide +kernel
theorem dM_length_38 : decode cM_length 38 = .ok (.istore_n 3, 1) := by decide +kernel
theorem dM_length_39 : decode cM_length 39 = .ok (.iload_n 3, 1) := by decide +kernel
theorem dM_length_40 : decode cM_length 40 = .ok (.aload_n 0, 1) := by decide +kernel
theorem dM_length_41 : decode cM_length 41 = .ok (.getfield 95, 3) := by decide +kernel
theorem dM_length_44 : decode cM_length 44 = .ok (.if_icmp .ge 95, 3) := by decide +kernel
theorem dM_length_47 : decode cM_length 47 = .ok (.aload_n 0, 1) := by decide +kernel
theorem dM_length_48 : decode cM_length 48 = .ok (.getfield 34, 3) := by decide +kernel
theorem dM_length_51 : decode cM_length 51 = .ok (.iload_n 3, 1) := by decide +kernel
theorem dM_length_52 : decode cM_length 52 = .ok (.iaload, 1) := by decide +kernel
theorem dM_length_53 : decode cM_length 53 = .ok (.istore 4, 2) := by decide +kernel
theorem dM_length_55 : decode cM_length 55 = .ok (.aload_n 0, 1) := by decide +kernel
theorem dM_length_56 : decode cM_length 56 = .ok (.iload 4, 2) := by decide +kernel
theorem dM_length_58 : decode cM_length 58 = .ok (.invokevirtual 172, 3) := by decide +kernel
theorem dM_length_61 : decode cM_length 61 = .ok (.ifCond .eq 72, 3) := by decide +kernel
theorem dM_length_64 : decode cM_length 64 = .ok (.aload_n 0, 1) := by decide +kernel
theorem dM_length_65 : decode cM_length 65 = .ok (.getfield 16, 3) := by decide +kernel
theorem dM_length_68 : decode cM_length 68 = .ok (.iload 4, 2) := by decide +kernel
theorem dM_length_70 : decode cM_length 70 = .ok (.iaload, 1) := by decide +kernel
theorem dM_length_71 : decode cM_length 71 = .ok (.aload_n 0, 1) := by decide +kernel
theorem dM_length_72 : decode cM_length 72 = .ok (.getfield 16, 3) := by decide +kernel
theorem dM_length_75 : decode cM_length 75 = .ok (.iload_n 2, 1) := by decide +kernel
theorem dM_length_76 : decode cM_length 76 = .ok (.iaload, 1) := by decide +kernel
theorem dM_length_77 : decode cM_length 77 = .ok (.if_icmp .ne 56, 3) := by decide +kernel
theorem dM_length_80 : decode cM_length 80 = .ok (.aload_n 0, 1) := by decide +kernel
theorem dM_length_81 : decode cM_length 81 = .ok (.getfield 19, 3) := by decide +kernel
theorem dM_length_84 : decode cM_length 84 = .ok (.iload 4, 2) := by decide +kernel
theorem dM_length_86 : decode cM_length 86 = .ok (.iaload, 1) := by decide +kernel
theorem dM_length_87 : decode cM_length 87 = .ok (.bipush 15, 2) := by decide +kernel
theorem dM_length_89 : decode cM_length 89 = .ok (.iand, 1) := by decide +kernel
theorem dM_length_90 : decode cM_length 90 = .ok (.aload_n 0, 1) := by decide +kernel
theorem dM_length_91 : decode cM_length 91 = .ok (.getfield 19, 3) := by decide +kernel
theorem dM_length_94 : decode cM_length 94 = .ok (.iload_n 2, 1) := by decide +kernel
theorem dM_length_95 : decode cM_length 95 = .ok (.iaload, 1) := by decide +kernel
theorem dM_length_96 : decode cM_length 96 = .ok (.bipush 15, 2) := by decide +kernel
theorem dM_length_98 : decode cM_length 98 = .ok (.iand, 1) := by decide +kernel
theorem dM_length_99 : decode cM_length 99 = .ok (.if_icmp .ne 34, 3) := by decide +kernel
theorem dM_length_102 : decode cM_length 102 = .ok (.aload_n 0, 1) := by decide +kernel
theorem dM_length_103 : decode cM_length 103 = .ok (.getfield 22, 3) := by decide +kernel
theorem dM_length_106 : decode cM_length 106 = .ok (.iload 4, 2) := by decide +kernel
theorem dM_length_108 : decode cM_length 108 = .ok (.iaload, 1) := by decide +kernel
theorem dM_length_109 : decode cM_length 109 = .ok (.aload_n 0, 1) := by decide +kernel
theorem dM_length_110 : decode cM_length 110 = .ok (.getfield 22, 3) := by decide +kernel
theorem dM_length_113 : decode cM_length 113 = .ok (.iload_n 2, 1) := by decide +kernel
theorem dM_length_114 : decode cM_length 114 = .ok (.iaload, 1) := by decide +kernel
theorem dM_length_115 : decode cM_length 115 = .ok (.if_icmp .ne 18, 3) := by decide +kernel
theorem dM_length_118 : decode cM_length 118 = .ok (.aload_n 0, 1) := by decide +kernel
theorem dM_length_119 : decode cM_length 119 = .ok (.getfield 13, 3) := by decide +kernel
theorem dM_length_122 : decode cM_length 122 = .ok (.iload 4, 2) := by decide +kernel
theorem dM_length_124 : decode cM_length 124 = .ok (.iaload, 1) := by decide +kernel
theorem dM_length_125 : decode cM_length 125 = .ok (.aload_n 0, 1) := by decide +kernel
theorem dM_length_126 : decode cM_length 126 = .ok (.getfield 13, 3) := by decide +kernel
theorem dM_length_129 : decode cM_length 129 = .ok (.iload_n 2, 1) := by decide +kernel
theorem dM_length_130 : decode cM_length 130 = .ok (.iaload, 1) := by decide +kernel
theorem dM_length_131 : decode cM_length 131 = .ok (.isub, 1) := by decide +kernel
theorem dM_length_132 : decode cM_length 132 = .ok (.ireturn, 1) := by decide +kernel
theorem dM_length_133 : decode cM_length 133 = .ok (.iinc 3 1, 3) := by decide +kernel
theorem dM_length_136 : decode cM_length 136 = .ok (.goto (-97), 3) := by decide +kernel
theorem dM_length_139 : decode cM_length 139 = .ok (.iconst (-1), 1) := by decide +kernel
theorem dM_length_140 : decode cM_length 140 = .ok (.ireturn, 1) := by decide +kernel
def jM_length_133 (K39 : (Nat → Int32) → (Nat → Nat → Int32) → Int32 → Int32 → Option (Int32 × (Nat → Int32) × (Nat → Nat → Int32))) (iv : Nat → Int32) (av : Nat → Nat → Int32) (x2 : Int32) (x3 : Int32) : Option (Int32 × (Nat → Int32) × (Nat → Nat → Int32)) := K39 iv av x2 (x3 + 1)
def lM_length_39 : Nat → (Nat → Int32) → (Nat → Nat → Int32) → Int32 → Int32 → Option (Int32 × (Nat → Int32) × (Nat → Nat → Int32))
  | 0 => fun _ _ _ _ => none
  | k + 1 => fun iv av x2 x3 => if (iv 10) ≤ x3 then (some ((-1 : Int32), iv, av)) else (if x3 < 0 ∨ 1001 ≤ x3.toNatClampNeg then none else ((fM_ends iv av (av 8 x3.toNatClampNeg)).bind fun (r3, iv3, av3) => if r3 = 0 then (jM_length_133 (lM_length_39 k) iv3 av3 x2 x3) else (if (av 8 x3.toNatClampNeg) < 0 ∨ 1001 ≤ (av 8 x3.toNatClampNeg).toNatClampNeg then none else (if x2 < 0 ∨ 1001 ≤ x2.toNatClampNeg then none else (if (av3 2 (av 8 x3.toNatClampNeg).toNatClampNeg) = (av3 2 x2.toNatClampNeg) then (if (av 8 x3.toNatClampNeg) < 0 ∨ 1001 ≤ (av 8 x3.toNatClampNeg).toNatClampNeg then none else (if x2 < 0 ∨ 1001 ≤ x2.toNatClampNeg then none else (if ((av3 3 (av 8 x3.toNatClampNeg).toNatClampNeg) &&& (15 : Int32)) = ((av3 3 x2.toNatClampNeg) &&& (15 : Int32)) then (if (av 8 x3.toNatClampNeg) < 0 ∨ 1001 ≤ (av 8 x3.toNatClampNeg).toNatClampNeg then none else (if x2 < 0 ∨ 1001 ≤ x2.toNatClampNeg then none else (if (av3 4 (av 8 x3.toNatClampNeg).toNatClampNeg) = (av3 4 x2.toNatClampNeg) then (if (av 8 x3.toNatClampNeg) < 0 ∨ 1001 ≤ (av 8 x3.toNatClampNeg).toNatClampNeg then none else (if x2 < 0 ∨ 1001 ≤ x2.toNatClampNeg then none else (some ((av3 1 (av 8 x3.toNatClampNeg).toNatClampNeg) - (av3 1 x2.toNatClampNeg), iv3, av3)))) else (jM_length_133 (lM_length_39 k) iv3 av3 x2 x3)))) else (jM_length_133 (lM_length_39 k) iv3 av3 x2 x3)))) else (jM_length_133 (lM_length_39 k) iv3 av3 x2 x3))))))
def fM_length (iv : Nat → Int32) (av : Nat → Nat → Int32) (x1 : Int32) : Option (Int32 × (Nat → Int32) × (Nat → Nat → Int32)) := (fM_has (upd iv 0 (0 : Int32)) av x1).bind fun (r1, iv1, av1) => if r1 = 0 then (some ((-1 : Int32), iv1, av1)) else (if x1 < 0 ∨ 1001 ≤ x1.toNatClampNeg then none else ((fM_begins iv1 av1 (av1 8 x1.toNatClampNeg)).bind fun (r4, iv4, av4) => if r4 = 0 then (some ((-1 : Int32), iv4, av4)) else (if x1 < 0 ∨ 1001 ≤ x1.toNatClampNeg then none else (lM_length_39 FU iv4 av4 (av4 8 x1.toNatClampNeg) (x1 + (1 : Int32))))))
set_option maxHeartbeats 4000000 in
set_option maxRecDepth 100000 in
theorem wM_length_133 {p : Program} {l : Launch} {e : Env} {s : State} {m : MethodId} {args : Array Value} {below : List Frame} {meth : Method} {c : Code} {g : gT} {q : Nat} {ad : Nat → Nat} {X : va_W} {rv : Option Value} {iv' : Nat → Int32} {av' : Nat → Nat → Int32} {r' : Int32} (C : mCx p m c cM_length 5 s args g "MidiDeskModel") (hr : meth.sig.returnType = (some .int)) (hlk : meth.locks = false) (hrv : rv = some (.int r')) {K39 : (Nat → Int32) → (Nat → Nat → Int32) → Int32 → Int32 → Option (Int32 × (Nat → Int32) × (Nat → Nat → Int32))} (hK39 : ∀ (iv : Nat → Int32) (av : Nat → Nat → Int32) (x2 : Int32) (x3 : Int32) (H : Heap) (locs : List Loc) (ls : Array Slot), lv_has ls 5 [(0, .ref q), (2, .int x2), (3, .int x3)] → mWd g (mA g q ad X s.heap.size) s.heap q ad X iv av H locs → K39 iv av x2 x3 = some (r', iv', av') → mG p l e rM_length s m args below meth c g q ad X rv iv' av' H locs 0 0 (F0 m 39 ls [])) (iv : Nat → Int32) (av : Nat → Nat → Int32) (x2 : Int32) (x3 : Int32) (H : Heap) (locs : List Loc) (ls : Array Slot) (hl : lv_has ls 5 [(0, .ref q), (2, .int x2), (3, .int x3)]) (hw : mWd g (mA g q ad X s.heap.size) s.heap q ad X iv av H locs) (hf : jM_length_133 K39 iv av x2 x3 = some (r', iv', av')) : mG p l e rM_length s m args below meth c g q ad X rv iv' av' H locs 0 0 (F0 m 133 ls []) := by
  unfold jM_length_133 at hf
  refine lv_iinc (v := x3 + 1) (lv' := [(3, .int (x3 + 1)), (0, .ref q), (2, .int x2)]) C.1.1 C.1.2.1 dM_length_133 hl (k := 2) rfl rfl (by decide) rfl (fun ls hl => ?_)
  refine lv_goto (tgt := 39) C.1.1 C.1.2.1 dM_length_136 (by decide) ?_
  exact hK39 iv av x2 (x3 + 1) _ _ ls (lv_sub hl [1, 2, 0] rfl) hw hf
set_option maxHeartbeats 4000000 in
set_option maxRecDepth 100000 in
theorem wM_length_39 {p : Program} {l : Launch} {e : Env} {s : State} {m : MethodId} {args : Array Value} {below : List Frame} {meth : Method} {c : Code} {g : gT} {q : Nat} {ad : Nat → Nat} {X : va_W} {rv : Option Value} {iv' : Nat → Int32} {av' : Nat → Nat → Int32} {r' : Int32} (C : mCx p m c cM_length 5 s args g "MidiDeskModel") (hr : meth.sig.returnType = (some .int)) (hlk : meth.locks = false) (hrv : rv = some (.int r')) (k : Nat) : ∀ (iv : Nat → Int32) (av : Nat → Nat → Int32) (x2 : Int32) (x3 : Int32) (H : Heap) (locs : List Loc) (ls : Array Slot), lv_has ls 5 [(0, .ref q), (2, .int x2), (3, .int x3)] → mWd g (mA g q ad X s.heap.size) s.heap q ad X iv av H locs → lM_length_39 k iv av x2 x3 = some (r', iv', av') → mG p l e rM_length s m args below meth c g q ad X rv iv' av' H locs 0 0 (F0 m 39 ls []) := by
  induction k with
  | zero => intro iv av x2 x3 H locs ls hl hw hf; cases hf
  | succ k ih =>
    intro iv av x2 x3 H locs ls hl hw hf
    have hf : (if (iv 10) ≤ x3 then (some ((-1 : Int32), iv, av)) else (if x3 < 0 ∨ 1001 ≤ x3.toNatClampNeg then none else ((fM_ends iv av (av 8 x3.toNatClampNeg)).bind fun (r3, iv3, av3) => if r3 = 0 then (jM_length_133 (lM_length_39 k) iv3 av3 x2 x3) else (if (av 8 x3.toNatClampNeg) < 0 ∨ 1001 ≤ (av 8 x3.toNatClampNeg).toNatClampNeg then none else (if x2 < 0 ∨ 1001 ≤ x2.toNatClampNeg then none else (if (av3 2 (av 8 x3.toNatClampNeg).toNatClampNeg) = (av3 2 x2.toNatClampNeg) then (if (av 8 x3.toNatClampNeg) < 0 ∨ 1001 ≤ (av 8 x3.toNatClampNeg).toNatClampNeg then none else (if x2 < 0 ∨ 1001 ≤ x2.toNatClampNeg then none else (if ((av3 3 (av 8 x3.toNatClampNeg).toNatClampNeg) &&& (15 : Int32)) = ((av3 3 x2.toNatClampNeg) &&& (15 : Int32)) then (if (av 8 x3.toNatClampNeg) < 0 ∨ 1001 ≤ (av 8 x3.toNatClampNeg).toNatClampNeg then none else (if x2 < 0 ∨ 1001 ≤ x2.toNatClampNeg then none else (if (av3 4 (av 8 x3.toNatClampNeg).toNatClampNeg) = (av3 4 x2.toNatClampNeg) then (if (av 8 x3.toNatClampNeg) < 0 ∨ 1001 ≤ (av 8 x3.toNatClampNeg).toNatClampNeg then none else (if x2 < 0 ∨ 1001 ≤ x2.toNatClampNeg then none else (some ((av3 1 (av 8 x3.toNatClampNeg).toNatClampNeg) - (av3 1 x2.toNatClampNeg), iv3, av3)))) else (jM_length_133 (lM_length_39 k) iv3 av3 x2 x3)))) else (jM_length_133 (lM_length_39 k) iv3 av3 x2 x3)))) else (jM_length_133 (lM_length_39 k) iv3 av3 x2 x3))))))) = some (r', iv', av') := hf
    refine lv_iload_n C.1.1 C.1.2.1 dM_length_39 rfl (lv_at hl 2 rfl) ?_
    refine lv_aload_n C.1.1 C.1.2.1 dM_length_40 rfl (lv_at hl 0 rfl) ?_
    refine mg_events C hw dM_length_41 ?_
    refine lv_icmp_ge (tgt := 139) C.1.1 C.1.2.1 dM_length_44 (by decide) (fun c1 => ?_) (fun c1 => ?_)
    · have hf := ts_t hf c1
      refine lv_iconst (v := (-1 : Int32)) C.1.1 C.1.2.1 dM_length_139 (by decide) ?_
      exact m_reti C hr hlk hrv hw hf ⟨Nat.le_of_ble_eq_true rfl, Nat.le_of_ble_eq_true rfl⟩ dM_length_140
    · have hf := ts_f hf c1
      refine lv_aload_n C.1.1 C.1.2.1 dM_length_47 rfl (lv_at hl 0 rfl) ?_
      refine mg_order C hw dM_length_48 ?_
      refine lv_iload_n C.1.1 C.1.2.1 dM_length_51 rfl (lv_at hl 2 rfl) ?_
      obtain ⟨h2, hf⟩ := ts_g hf
      refine ma_order C hw h2 dM_length_52 ?_
      refine lv_istore (lv' := [(4, .int (av 8 x3.toNatClampNeg)), (0, .ref q), (2, .int x2), (3, .int x3)]) C.1.1 C.1.2.1 dM_length_53 hl (by decide) rfl (fun ls hl => ?_)
      refine lv_aload_n C.1.1 C.1.2.1 dM_length_55 rfl (lv_at hl 1 rfl) ?_
      refine lv_iload C.1.1 C.1.2.1 dM_length_56 (lv_at hl 0 rfl) ?_
      obtain ⟨⟨r3, iv3, av3⟩, g3, hf⟩ := ts_b hf
      dsimp only at hf
      refine m_callV (rest := []) (As := [.int (av 8 x3.toNatClampNeg)]) (rv := (some (.int r3))) C hl.1 hw (cM_ends_met g3) (callW_of (rm := rM_ends) 1 C.1.2.2.2.2 gw_909 gw_911 gw_44 gw_55 gw_912 kM_ends ⟨Nat.le_of_ble_eq_true rfl, Nat.le_of_ble_eq_true rfl⟩) rfl rfl (Nat.le_of_ble_eq_true rfl) dM_length_58 ⟨Nat.le_of_ble_eq_true rfl, Nat.le_of_ble_eq_true rfl⟩ (fun H locs hw => ?_)
      refine W.eq (g2 := F0 m 61 ls [.int r3]) rfl ?_
      refine lv_if_eq (tgt := 133) C.1.1 C.1.2.1 dM_length_61 (by decide) (fun c4 => ?_) (fun c4 => ?_)
      · have hf := ts_t hf c4
        exact wM_length_133 C hr hlk hrv ih iv3 av3 x2 x3 _ _ ls (lv_sub hl [1, 2, 3] rfl) hw hf
      · have hf := ts_f hf c4
        refine lv_aload_n C.1.1 C.1.2.1 dM_length_64 rfl (lv_at hl 1 rfl) ?_
        refine mg_trackOf C hw dM_length_65 ?_
        refine lv_iload C.1.1 C.1.2.1 dM_length_68 (lv_at hl 0 rfl) ?_
        obtain ⟨h5, hf⟩ := ts_g hf
        refine ma_trackOf C hw h5 dM_length_70 ?_
        refine lv_aload_n C.1.1 C.1.2.1 dM_length_71 rfl (lv_at hl 1 rfl) ?_
        refine mg_trackOf C hw dM_length_72 ?_
        refine lv_iload_n C.1.1 C.1.2.1 dM_length_75 rfl (lv_at hl 2 rfl) ?_
        obtain ⟨h6, hf⟩ := ts_g hf
        refine ma_trackOf C hw h6 dM_length_76 ?_
        refine lv_icmp_ne (tgt := 133) C.1.1 C.1.2.1 dM_length_77 (by decide) (fun c7 => ?_) (fun c7 => ?_)
        · have hf := ts_f hf c7
          exact wM_length_133 C hr hlk hrv ih iv3 av3 x2 x3 _ _ ls (lv_sub hl [1, 2, 3] rfl) hw hf
        · have hf := ts_t hf c7
          refine lv_aload_n C.1.1 C.1.2.1 dM_length_80 rfl (lv_at hl 1 rfl) ?_
          refine mg_status C hw dM_length_81 ?_
          refine lv_iload C.1.1 C.1.2.1 dM_length_84 (lv_at hl 0 rfl) ?_
          obtain ⟨h8, hf⟩ := ts_g hf
          refine ma_status C hw h8 dM_length_86 ?_
          refine lv_bipush (v := (15 : Int32)) C.1.1 C.1.2.1 dM_length_87 (by decide) ?_
          refine lv_iand C.1.1 C.1.2.1 dM_length_89 ?_
          refine lv_aload_n C.1.1 C.1.2.1 dM_length_90 rfl (lv_at hl 1 rfl) ?_
          refine mg_status C hw dM_length_91 ?_
          refine lv_iload_n C.1.1 C.1.2.1 dM_length_94 rfl (lv_at hl 2 rfl) ?_
          obtain ⟨h9, hf⟩ := ts_g hf
          refine ma_status C hw h9 dM_length_95 ?_
          refine lv_bipush (v := (15 : Int32)) C.1.1 C.1.2.1 dM_length_96 (by decide) ?_
          refine lv_iand C.1.1 C.1.2.1 dM_length_98 ?_
          refine lv_icmp_ne (tgt := 133) C.1.1 C.1.2.1 dM_length_99 (by decide) (fun c10 => ?_) (fun c10 => ?_)
          · have hf := ts_f hf c10
            exact wM_length_133 C hr hlk hrv ih iv3 av3 x2 x3 _ _ ls (lv_sub hl [1, 2, 3] rfl) hw hf
          · have hf := ts_t hf c10
            refine lv_aload_n C.1.1 C.1.2.1 dM_length_102 rfl (lv_at hl 1 rfl) ?_
            refine mg_first C hw dM_length_103 ?_
            refine lv_iload C.1.1 C.1.2.1 dM_length_106 (lv_at hl 0 rfl) ?_
            obtain ⟨h11, hf⟩ := ts_g hf
            refine ma_first C hw h11 dM_length_108 ?_
            refine lv_aload_n C.1.1 C.1.2.1 dM_length_109 rfl (lv_at hl 1 rfl) ?_
            refine mg_first C hw dM_length_110 ?_
            refine lv_iload_n C.1.1 C.1.2.1 dM_length_113 rfl (lv_at hl 2 rfl) ?_
            obtain ⟨h12, hf⟩ := ts_g hf
            refine ma_first C hw h12 dM_length_114 ?_
            refine lv_icmp_ne (tgt := 133) C.1.1 C.1.2.1 dM_length_115 (by decide) (fun c13 => ?_) (fun c13 => ?_)
            · have hf := ts_f hf c13
              exact wM_length_133 C hr hlk hrv ih iv3 av3 x2 x3 _ _ ls (lv_sub hl [1, 2, 3] rfl) hw hf
            · have hf := ts_t hf c13
              refine lv_aload_n C.1.1 C.1.2.1 dM_length_118 rfl (lv_at hl 1 rfl) ?_
              refine mg_ticks C hw dM_length_119 ?_
              refine lv_iload C.1.1 C.1.2.1 dM_length_122 (lv_at hl 0 rfl) ?_
              obtain ⟨h14, hf⟩ := ts_g hf
              refine ma_ticks C hw h14 dM_length_124 ?_
              refine lv_aload_n C.1.1 C.1.2.1 dM_length_125 rfl (lv_at hl 1 rfl) ?_
              refine mg_ticks C hw dM_length_126 ?_
              refine lv_iload_n C.1.1 C.1.2.1 dM_length_129 rfl (lv_at hl 2 rfl) ?_
              obtain ⟨h15, hf⟩ := ts_g hf
              refine ma_ticks C hw h15 dM_length_130 ?_
              refine lv_isub C.1.1 C.1.2.1 dM_length_131 ?_
              exact m_reti C hr hlk hrv hw hf ⟨Nat.le_of_ble_eq_true rfl, Nat.le_of_ble_eq_true rfl⟩ dM_length_132
set_option maxHeartbeats 4000000 in
set_option maxRecDepth 100000 in
theorem cM_length_met {l : Launch} {g : gT} {q : Nat} {ad : Nat → Nat} {X : va_W} {iv iv' : Nat → Int32} {av av' : Nat → Nat → Int32} {x1 : Int32} {r' : Int32} (hf : fM_length iv av x1 = some (r', iv', av')) : mMet l yM_length cM_length 5 (some .int) rM_length g q ad X iv av [.ref q, .int x1] (some (.int r')) iv' av' := by
  refine m_entry (by decide) (Nat.le_of_ble_eq_true rfl) ?_
  intro p e s m args below meth c ls C hr hlk hnm hl hw
  have hrv : ((some (.int r')) : Option Value) = (some (.int r')) := rfl
  have C : mCx p m c cM_length 5 s args g "MidiDeskModel" := C
  have hl : lv_has ls 5 [(0, .ref q), (1, .int x1)] := hl
  unfold fM_length at hf
  refine lv_aload_n C.1.1 C.1.2.1 dM_length_0 rfl (lv_at hl 0 rfl) ?_
  refine lv_iconst (v := (0 : Int32)) C.1.1 C.1.2.1 dM_length_1 (by decide) ?_
  refine mp_thrown C hw dM_length_2 (fun H locs hw => ?_)
  refine lv_aload_n C.1.1 C.1.2.1 dM_length_5 rfl (lv_at hl 0 rfl) ?_
  refine lv_iload_n C.1.1 C.1.2.1 dM_length_6 rfl (lv_at hl 1 rfl) ?_
  obtain ⟨⟨r1, iv1, av1⟩, g1, hf⟩ := ts_b hf
  dsimp only at hf
  refine m_callV (rest := []) (As := [.int x1]) (rv := (some (.int r1))) C hl.1 hw (cM_has_met g1) (callW_of (rm := rM_has) 1 C.1.2.2.2.2 gw_864 gw_866 gw_38 gw_55 gw_867 kM_has ⟨Nat.le_of_ble_eq_true rfl, Nat.le_of_ble_eq_true rfl⟩) rfl rfl (Nat.le_of_ble_eq_true rfl) dM_length_7 ⟨Nat.le_of_ble_eq_true rfl, Nat.le_of_ble_eq_true rfl⟩ (fun H locs hw => ?_)
  refine W.eq (g2 := F0 m 10 ls [.int r1]) rfl ?_
  refine lv_if_eq (tgt := 26) C.1.1 C.1.2.1 dM_length_10 (by decide) (fun c2 => ?_) (fun c2 => ?_)
  · have hf := ts_t hf c2
    refine lv_iconst (v := (-1 : Int32)) C.1.1 C.1.2.1 dM_length_26 (by decide) ?_
    exact m_reti C hr hlk hrv hw hf ⟨Nat.le_of_ble_eq_true rfl, Nat.le_of_ble_eq_true rfl⟩ dM_length_27
  · have hf := ts_f hf c2
    refine lv_aload_n C.1.1 C.1.2.1 dM_length_13 rfl (lv_at hl 0 rfl) ?_
    refine lv_aload_n C.1.1 C.1.2.1 dM_length_14 rfl (lv_at hl 0 rfl) ?_
    refine mg_order C hw dM_length_15 ?_
    refine lv_iload_n C.1.1 C.1.2.1 dM_length_18 rfl (lv_at hl 1 rfl) ?_
    obtain ⟨h3, hf⟩ := ts_g hf
    refine ma_order C hw h3 dM_length_19 ?_
    obtain ⟨⟨r4, iv4, av4⟩, g4, hf⟩ := ts_b hf
    dsimp only at hf
    refine m_callV (rest := []) (As := [.int (av1 8 x1.toNatClampNeg)]) (rv := (some (.int r4))) C hl.1 hw (cM_begins_met g4) (callW_of (rm := rM_begins) 1 C.1.2.2.2.2 gw_905 gw_907 gw_43 gw_55 gw_908 kM_begins ⟨Nat.le_of_ble_eq_true rfl, Nat.le_of_ble_eq_true rfl⟩) rfl rfl (Nat.le_of_ble_eq_true rfl) dM_length_20 ⟨Nat.le_of_ble_eq_true rfl, Nat.le_of_ble_eq_true rfl⟩ (fun H locs hw => ?_)
    refine W.eq (g2 := F0 m 23 ls [.int r4]) rfl ?_
    refine lv_if_ne (tgt := 28) C.1.1 C.1.2.1 dM_length_23 (by decide) (fun c5 => ?_) (fun c5 => ?_)
    · have hf := ts_f hf c5
      refine lv_aload_n C.1.1 C.1.2.1 dM_length_28 rfl (lv_at hl 0 rfl) ?_
      refine mg_order C hw dM_length_29 ?_
      refine lv_iload_n C.1.1 C.1.2.1 dM_length_32 rfl (lv_at hl 1 rfl) ?_
      obtain ⟨h6, hf⟩ := ts_g hf
      refine ma_order C hw h6 dM_length_33 ?_
      refine lv_istore_n (lv' := [(2, .int (av4 8 x1.toNatClampNeg)), (0, .ref q), (1, .int x1)]) C.1.1 C.1.2.1 dM_length_34 rfl hl (by decide) rfl (fun ls hl => ?_)
      refine lv_iload_n C.1.1 C.1.2.1 dM_length_35 rfl (lv_at hl 2 rfl) ?_
      refine lv_iconst (v := (1 : Int32)) C.1.1 C.1.2.1 dM_length_36 (by decide) ?_
      refine lv_iadd C.1.1 C.1.2.1 dM_length_37 ?_
      refine lv_istore_n (lv' := [(3, .int (x1 + (1 : Int32))), (2, .int (av4 8 x1.toNatClampNeg)), (0, .ref q), (1, .int x1)]) C.1.1 C.1.2.1 dM_length_38 rfl hl (by decide) rfl (fun ls hl => ?_)
      exact wM_length_39 C hr hlk hrv FU iv4 av4 (av4 8 x1.toNatClampNeg) (x1 + (1 : Int32)) _ _ ls (lv_sub hl [2, 1, 0] rfl) hw hf
    · have hf := ts_t hf c5
      refine lv_iconst (v := (-1 : Int32)) C.1.1 C.1.2.1 dM_length_26 (by decide) ?_
      exact m_reti C hr hlk hrv hw hf ⟨Nat.le_of_ble_eq_true rfl, Nat.le_of_ble_eq_true rfl⟩ dM_length_27
abbrev cM_isNote : ByteArray := prog_8_method_31_code
abbrev yM_isNote : MethodName := ⟨"MidiDeskModel", "isNote", "(II)Z"⟩
theorem kM_isNote : yM_isNote.cls ≠ "java/lang/invoke/MethodHandle" ∧ yM_isNote.cls ≠ "java/lang/invoke/VarHandle" ∧ (parseMethodDescriptor yM_isNote.desc).map (fun d => d.parameters.length) = some 2 := by decide +kernel
abbrev rM_isNote : Room := { frames := 0, cells := 0, slots := 0, locals := 0 }
theorem dM_isNote_0 : decode cM_isNote 0 = .ok (.aload_n 0, 1) := by decide +kernel
theorem dM_isNote_1 : decode cM_isNote 1 = .ok (.getfield 19, 3) := by decide +kernel
theorem dM_isNote_4 : decode cM_isNote 4 = .ok (.iload_n 1, 1) := by decide +kernel
theorem dM_isNote_5 : decode cM_isNote 5 = .ok (.iaload, 1) := by decide +kernel
theorem dM_isNote_6 : decode cM_isNote 6 = .ok (.sipush 176, 3) := by decide +kernel
theorem dM_isNote_9 : decode cM_isNote 9 = .ok (.if_icmp .ge 26, 3) := by decide +kernel
theorem dM_isNote_12 : decode cM_isNote 12 = .ok (.iload_n 2, 1) := by decide +kernel
theorem dM_isNote_13 : decode cM_isNote 13 = .ok (.bipush 16, 2) := by decide +kernel
theorem dM_isNote_15 : decode cM_isNote 15 = .ok (.if_icmp .eq 16, 3) := by decide +kernel
theorem dM_isNote_18 : decode cM_isNote 18 = .ok (.aload_n 0, 1) := by decide +kernel
theorem dM_isNote_19 : decode cM_isNote 19 = .ok (.getfield 19, 3) := by decide +kernel
theorem dM_isNote_22 : decode cM_isNote 22 = .ok (.iload_n 1, 1) := by decide +kernel
theorem dM_isNote_23 : decode cM_isNote 23 = .ok (.iaload, 1) := by decide +kernel
theorem dM_isNote_24 : decode cM_isNote 24 = .ok (.bipush 15, 2) := by decide +kernel
theorem dM_isNote_26 : decode cM_isNote 26 = .ok (.iand, 1) := by decide +kernel
theorem dM_isNote_27 : decode cM_isNote 27 = .ok (.iload_n 2, 1) := by decide +kernel
theorem dM_isNote_28 : decode cM_isNote 28 = .ok (.if_icmp .ne 7, 3) := by decide +kernel
theorem dM_isNote_31 : decode cM_isNote 31 = .ok (.iconst 1, 1) := by decide +kernel
theorem dM_isNote_32 : decode cM_isNote 32 = .ok (.goto 4, 3) := by decide +kernel
theorem dM_isNote_35 : decode cM_isNote 35 = .ok (.iconst 0, 1) := by decide +kernel
theorem dM_isNote_36 : decode cM_isNote 36 = .ok (.ireturn, 1) := by decide +kernel
def fM_isNote (iv : Nat → Int32) (av : Nat → Nat → Int32) (x1 : Int32) (x2 : Int32) : Option (Int32 × (Nat → Int32) × (Nat → Nat → Int32)) := if x1 < 0 ∨ 1001 ≤ x1.toNatClampNeg then none else (if (176 : Int32) ≤ (av 3 x1.toNatClampNeg) then (some ((0 : Int32), iv, av)) else (if x2 = (16 : Int32) then (some ((1 : Int32), iv, av)) else (if x1 < 0 ∨ 1001 ≤ x1.toNatClampNeg then none else (if ((av 3 x1.toNatClampNeg) &&& (15 : Int32)) = x2 then (some ((1 : Int32), iv, av)) else (some ((0 : Int32), iv, av))))))
set_option maxHeartbeats 4000000 in
set_option maxRecDepth 100000 in
theorem cM_isNote_met {l : Launch} {g : gT} {q : Nat} {ad : Nat → Nat} {X : va_W} {iv iv' : Nat → Int32} {av av' : Nat → Nat → Int32} {x1 : Int32} {x2 : Int32} {r' : Int32} (hf : fM_isNote iv av x1 x2 = some (r', iv', av')) : mMet l yM_isNote cM_isNote 3 (some .boolean) rM_isNote g q ad X iv av [.ref q, .int x1, .int x2] (some (.int r')) iv' av' := by
  refine m_entry (by decide) (Nat.le_of_ble_eq_true rfl) ?_
  intro p e s m args below meth c ls C hr hlk hnm hl hw
  have hrv : ((some (.int r')) : Option Value) = (some (.int r')) := rfl
  have C : mCx p m c cM_isNote 3 s args g "MidiDeskModel" := C
  have hl : lv_has ls 3 [(0, .ref q), (1, .int x1), (2, .int x2)] := hl
  unfold fM_isNote at hf
  refine lv_aload_n C.1.1 C.1.2.1 dM_isNote_0 rfl (lv_at hl 0 rfl) ?_
  refine mg_status C hw dM_isNote_1 ?_
  refine lv_iload_n C.1.1 C.1.2.1 dM_isNote_4 rfl (lv_at hl 1 rfl) ?_
  obtain ⟨h1, hf⟩ := ts_g hf
  refine ma_status C hw h1 dM_isNote_5 ?_
  refine lv_sipush (v := (176 : Int32)) C.1.1 C.1.2.1 dM_isNote_6 (by decide) ?_
  refine lv_icmp_ge (tgt := 35) C.1.1 C.1.2.1 dM_isNote_9 (by decide) (fun c2 => ?_) (fun c2 => ?_)
  · have hf := ts_t hf c2
    refine lv_iconst (v := (0 : Int32)) C.1.1 C.1.2.1 dM_isNote_35 (by decide) ?_
    exact m_retz C hr hlk hrv hw (Or.inl rfl) hf ⟨Nat.le_of_ble_eq_true rfl, Nat.le_of_ble_eq_true rfl⟩ dM_isNote_36
  · have hf := ts_f hf c2
    refine lv_iload_n C.1.1 C.1.2.1 dM_isNote_12 rfl (lv_at hl 2 rfl) ?_
    refine lv_bipush (v := (16 : Int32)) C.1.1 C.1.2.1 dM_isNote_13 (by decide) ?_
    refine lv_icmp_eq (tgt := 31) C.1.1 C.1.2.1 dM_isNote_15 (by decide) (fun c3 => ?_) (fun c3 => ?_)
    · have hf := ts_t hf c3
      refine lv_iconst (v := (1 : Int32)) C.1.1 C.1.2.1 dM_isNote_31 (by decide) ?_
      refine lv_goto (tgt := 36) C.1.1 C.1.2.1 dM_isNote_32 (by decide) ?_
      exact m_retz C hr hlk hrv hw (Or.inr rfl) hf ⟨Nat.le_of_ble_eq_true rfl, Nat.le_of_ble_eq_true rfl⟩ dM_isNote_36
    · have hf := ts_f hf c3
      refine lv_aload_n C.1.1 C.1.2.1 dM_isNote_18 rfl (lv_at hl 0 rfl) ?_
      refine mg_status C hw dM_isNote_19 ?_
      refine lv_iload_n C.1.1 C.1.2.1 dM_isNote_22 rfl (lv_at hl 1 rfl) ?_
      obtain ⟨h4, hf⟩ := ts_g hf
      refine ma_status C hw h4 dM_isNote_23 ?_
      refine lv_bipush (v := (15 : Int32)) C.1.1 C.1.2.1 dM_isNote_24 (by decide) ?_
      refine lv_iand C.1.1 C.1.2.1 dM_isNote_26 ?_
      refine lv_iload_n C.1.1 C.1.2.1 dM_isNote_27 rfl (lv_at hl 2 rfl) ?_
      refine lv_icmp_ne (tgt := 35) C.1.1 C.1.2.1 dM_isNote_28 (by decide) (fun c5 => ?_) (fun c5 => ?_)
      · have hf := ts_f hf c5
        refine lv_iconst (v := (0 : Int32)) C.1.1 C.1.2.1 dM_isNote_35 (by decide) ?_
        exact m_retz C hr hlk hrv hw (Or.inl rfl) hf ⟨Nat.le_of_ble_eq_true rfl, Nat.le_of_ble_eq_true rfl⟩ dM_isNote_36
      · have hf := ts_t hf c5
        refine lv_iconst (v := (1 : Int32)) C.1.1 C.1.2.1 dM_isNote_31 (by decide) ?_
        refine lv_goto (tgt := 36) C.1.1 C.1.2.1 dM_isNote_32 (by decide) ?_
        exact m_retz C hr hlk hrv hw (Or.inr rfl) hf ⟨Nat.le_of_ble_eq_true rfl, Nat.le_of_ble_eq_true rfl⟩ dM_isNote_36
abbrev cM_transpose : ByteArray := prog_8_method_30_code
abbrev yM_transpose : MethodName := ⟨"MidiDeskModel", "transpose", "(II)I"⟩
theorem kM_transpose : yM_transpose.cls ≠ "java/lang/invoke/MethodHandle" ∧ yM_transpose.cls ≠ "java/lang/invoke/VarHandle" ∧ (parseMethodDescriptor yM_transpose.desc).map (fun d => d.parameters.length) = some 2 := by decide +kernel
abbrev rM_transpose : Room := { frames := 1, cells := 0, slots := 0, locals := 22 }
theorem dM_transpose_0 : decode cM_transpose 0 = .ok (.aload_n 0, 1) := by decide +kernel
theorem dM_transpose_1 : decode cM_transpose 1 = .ok (.aload_n 0, 1) := by decide +kernel
theorem dM_transpose_2 : decode cM_transpose 2 = .ok (.getfield 110, 3) := by decide +kernel
theorem dM_transpose_5 : decode cM_transpose 5 = .ok (.ifCond .ne 7, 3) := by decide +kernel
theorem dM_transpose_8 : decode cM_transpose 8 = .ok (.iconst 1, 1) := by decide +kernel
theorem dM_transpose_9 : decode cM_transpose 9 = .ok (.goto 4, 3) := by decide +kernel
theorem dM_transpose_12 : decode cM_transpose 12 = .ok (.iconst 0, 1) := by decide +kernel
theorem dM_transpose_13 : decode cM_transpose 13 = .ok (.iload_n 1, 1) := by decide +kernel
theorem dM_transpose_14 : decode cM_transpose 14 = .ok (.ifCond .lt 9, 3) := by decide +kernel
theorem dM_transpose_17 : decode cM_transpose 17 = .ok (.iload_n 1, 1) := by decide +kernel
theorem dM_transpose_18 : decode cM_transpose 18 = .ok (.bipush 16, 2) := by decide +kernel
theorem dM_transpose_20 : decode cM_transpose 20 = .ok (.if_icmp .le 7, 3) := by decide +kernel
theorem dM_transpose_23 : decode cM_transpose 23 = .ok (.iconst 1, 1) := by decide +kernel
theorem dM_transpose_24 : decode cM_transpose 24 = .ok (.goto 4, 3) := by decide +kernel
theorem dM_transpose_27 : decode cM_transpose 27 = .ok (.iconst 0, 1) := by decide +kernel
theorem dM_transpose_28 : decode cM_transpose 28 = .ok (.invokevirtual 158, 3) := by decide +kernel
theorem dM_transpose_31 : decode cM_transpose 31 = .ok (.ifCond .eq 5, 3) := by decide +kernel
theorem dM_transpose_34 : decode cM_transpose 34 = .ok (.iconst 0, 1) := by decide +kernel
theorem dM_transpose_35 : decode cM_transpose 35 = .ok (.ireturn, 1) := by decide +kernel
theorem dM_transpose_36 : decode cM_transpose 36 = .ok (.iconst 0, 1) := by decide +kernel
theorem dM_transpose_37 : decode cM_transpose 37 = .ok (.istore_n 3, 1) := by decide +kernel
theorem dM_transpose_38 : decode cM_transpose 38 = .ok (.iconst 1, 1) := by decide +kernel
theorem dM_transpose_39 : decode cM_transpose 39 = .ok (.istore 4, 2) := by decide +kernel
theorem dM_transpose_41 : decode cM_transpose 41 = .ok (.iconst 0, 1) := by decide +kernel
theorem dM_transpose_42 : decode cM_transpose 42 = .ok (.istore 5, 2) := by decide +kernel
theorem dM_transpose_44 : decode cM_transpose 44 = .ok (.iload 5, 2) := by decide +kernel
theorem dM_transpose_46 : decode cM_transpose 46 = .ok (.aload_n 0, 1) := by decide +kernel
theorem dM_transpose_47 : decode cM_transpose 47 = .ok (.getfield 95, 3) := by decide +kernel
theorem dM_transpose_50 : decode cM_transpose 50 = .ok (.if_icmp .ge 71, 3) := by decide +kernel
theorem dM_transpose_53 : decode cM_transpose 53 = .ok (.aload_n 0, 1) := by decide +kernel
theorem dM_transpose_54 : decode cM_transpose 54 = .ok (.iload 5, 2) := by decide +kernel
theorem dM_transpose_56 : decode cM_transpose 56 = .ok (.iload_n 1, 1) := by decide +kernel
theorem dM_transpose_57 : decode cM_transpose 57 = .ok (.invokevirtual 175, 3) := by decide +kernel
theorem dM_transpose_60 : decode cM_transpose 60 = .ok (.ifCond .ne 6, 3) := by decide +kernel
theorem dM_transpose_63 : decode cM_transpose 63 = .ok (.goto 52, 3) := by decide +kernel
theorem dM_transpose_66 : decode cM_transpose 66 = .ok (.iinc 3 1, 3) := by decide +kernel
theorem dM_transpose_69 : decode cM_transpose 69 = .ok (.iload 4, 2) := by decide +kernel
theorem dM_transpose_71 : decode cM_transpose 71 = .ok (.ifCond .eq 41, 3) := by decide +kernel
theorem dM_transpose_74 : decode cM_transpose 74 = .ok (.aload_n 0, 1) := by decide +kernel
theorem dM_transpose_75 : decode cM_transpose 75 = .ok (.getfield 22, 3) := by decide +kernel
theorem dM_transpose_78 : decode cM_transpose 78 = .ok (.iload 5, 2) := by decide +kernel
theorem dM_transpose_80 : decode cM_transpose 80 = .ok (.iaload, 1) := by decide +kernel
theorem dM_transpose_81 : decode cM_transpose 81 = .ok (.i2l, 1) := by decide +kernel
theorem dM_transpose_82 : decode cM_transpose 82 = .ok (.iload_n 2, 1) := by decide +kernel
theorem dM_transpose_83 : decode cM_transpose 83 = .ok (.i2l, 1) := by decide +kernel
theorem dM_transpose_84 : decode cM_transpose 84 = .ok (.ladd, 1) := by decide +kernel
theorem dM_transpose_85 : decode cM_transpose 85 = .ok (.lconst 0, 1) := by decide +kernel
theorem dM_transpose_86 : decode cM_transpose 86 = .ok (.lcmp, 1) := by decide +kernel
theorem dM_transpose_87 : decode cM_transpose 87 = .ok (.ifCond .lt 25, 3) := by decide +kernel
theorem dM_transpose_90 : decode cM_transpose 90 = .ok (.aload_n 0, 1) := by decide +kernel
theorem dM_transpose_91 : decode cM_transpose 91 = .ok (.getfield 22, 3) := by decide +kernel
theorem dM_transpose_94 : decode cM_transpose 94 = .ok (.iload 5, 2) := by decide +kernel
theorem dM_transpose_96 : decode cM_transpose 96 = .ok (.iaload, 1) := by decide +kernel
theorem dM_transpose_97 : decode cM_transpose 97 = .ok (.i2l, 1) := by decide +kernel
theorem dM_transpose_98 : decode cM_transpose 98 = .ok (.iload_n 2, 1) := by decide +kernel
theorem dM_transpose_99 : decode cM_transpose 99 = .ok (.i2l, 1) := by decide +kernel
theorem dM_transpose_100 : decode cM_transpose 100 = .ok (.ladd, 1) := by decide +kernel
theorem dM_transpose_101 : decode cM_transpose 101 = .ok (.ldc2_w 178, 3) := by decide +kernel
theorem dM_transpose_104 : decode cM_transpose 104 = .ok (.lcmp, 1) := by decide +kernel
theorem dM_transpose_105 : decode cM_transpose 105 = .ok (.ifCond .ge 7, 3) := by decide +kernel
theorem dM_transpose_108 : decode cM_transpose 108 = .ok (.iconst 1, 1) := by decide +kernel
theorem dM_transpose_109 : decode cM_transpose 109 = .ok (.goto 4, 3) := by decide +kernel
theorem dM_transpose_112 : decode cM_transpose 112 = .ok (.iconst 0, 1) := by decide +kernel
theorem dM_transpose_113 : decode cM_transpose 113 = .ok (.istore 4, 2) := by decide +kernel
theorem dM_transpose_115 : decode cM_transpose 115 = .ok (.iinc 5 1, 3) := by decide +kernel
theorem dM_transpose_118 : decode cM_transpose 118 = .ok (.goto (-74), 3) := by decide +kernel
theorem dM_transpose_121 : decode cM_transpose 121 = .ok (.iconst 0, 1) := by decide +kernel
theorem dM_transpose_122 : decode cM_transpose 122 = .ok (.istore 5, 2) := by decide +kernel
theorem dM_transpose_124 : decode cM_transpose 124 = .ok (.iload 5, 2) := by decide +kernel
theorem dM_transpose_126 : decode cM_transpose 126 = .ok (.aload_n 0, 1) := by decide +kernel
theorem dM_transpose_127 : decode cM_transpose 127 = .ok (.getfield 95, 3) := by decide +kernel
theorem dM_transpose_130 : decode cM_transpose 130 = .ok (.if_icmp .ge 39, 3) := by decide +kernel
theorem dM_transpose_133 : decode cM_transpose 133 = .ok (.iload 4, 2) := by decide +kernel
theorem dM_transpose_135 : decode cM_transpose 135 = .ok (.ifCond .eq 34, 3) := by decide +kernel
theorem dM_transpose_138 : decode cM_transpose 138 = .ok (.aload_n 0, 1) := by decide +kernel
theorem dM_transpose_139 : decode cM_transpose 139 = .ok (.getfield 22, 3) := by decide +kernel
theorem dM_transpose_142 : decode cM_transpose 142 = .ok (.iload 5, 2) := by decide +kernel
theorem dM_transpose_144 : decode cM_transpose 144 = .ok (.dup2, 1) := by decide +kernel
theorem dM_transpose_145 : decode cM_transpose 145 = .ok (.iaload, 1) := by decide +kernel
theorem dM_transpose_146 : decode cM_transpose 146 = .ok (.aload_n 0, 1) := by decide +kernel
theorem dM_transpose_147 : decode cM_transpose 147 = .ok (.iload 5, 2) := by decide +kernel
theorem dM_transpose_149 : decode cM_transpose 149 = .ok (.iload_n 1, 1) := by decide +kernel
theorem dM_transpose_150 : decode cM_transpose 150 = .ok (.invokevirtual 175, 3) := by decide +kernel
theorem dM_transpose_153 : decode cM_transpose 153 = .ok (.ifCond .eq 7, 3) := by decide +kernel
theorem dM_transpose_156 : decode cM_transpose 156 = .ok (.iload_n 2, 1) := by decide +kernel
theorem dM_transpose_157 : decode cM_transpose 157 = .ok (.goto 4, 3) := by decide +kernel
theorem dM_transpose_160 : decode cM_transpose 160 = .ok (.iconst 0, 1) := by decide +kernel
theorem dM_transpose_161 : decode cM_transpose 161 = .ok (.iadd, 1) := by decide +kernel
theorem dM_transpose_162 : decode cM_transpose 162 = .ok (.iastore, 1) := by decide +kernel
theorem dM_transpose_163 : decode cM_transpose 163 = .ok (.iinc 5 1, 3) := by decide +kernel
theorem dM_transpose_166 : decode cM_transpose 166 = .ok (.goto (-42), 3) := by decide +kernel
theorem dM_transpose_169 : decode cM_transpose 169 = .ok (.iload 4, 2) := by decide +kernel
theorem dM_transpose_171 : decode cM_transpose 171 = .ok (.ifCond .eq 7, 3) := by decide +kernel
theorem dM_transpose_174 : decode cM_transpose 174 = .ok (.iload_n 3, 1) := by decide +kernel
theorem dM_transpose_175 : decode cM_transpose 175 = .ok (.goto 4, 3) := by decide +kernel
theorem dM_transpose_178 : decode cM_transpose 178 = .ok (.iconst (-1), 1) := by decide +kernel
theorem dM_transpose_179 : decode cM_transpose 179 = .ok (.ireturn, 1) := by decide +kernel
def jM_transpose_115 (K44 : (Nat → Int32) → (Nat → Nat → Int32) → Int32 → Int32 → Int32 → Int32 → Int32 → Option (Int32 × (Nat → Int32) × (Nat → Nat → Int32))) (iv : Nat → Int32) (av : Nat → Nat → Int32) (x1 : Int32) (x2 : Int32) (x3 : Int32) (x4 : Int32) (x5 : Int32) : Option (Int32 × (Nat → Int32) × (Nat → Nat → Int32)) := K44 iv av x1 x2 x3 x4 (x5 + 1)
def jM_transpose_113 (K44 : (Nat → Int32) → (Nat → Nat → Int32) → Int32 → Int32 → Int32 → Int32 → Int32 → Option (Int32 × (Nat → Int32) × (Nat → Nat → Int32))) (iv : Nat → Int32) (av : Nat → Nat → Int32) (x1 : Int32) (x2 : Int32) (x3 : Int32) (x5 : Int32) (s0 : Int32) : Option (Int32 × (Nat → Int32) × (Nat → Nat → Int32)) := jM_transpose_115 K44 iv av x1 x2 x3 s0 x5
def jM_transpose_112 (K44 : (Nat → Int32) → (Nat → Nat → Int32) → Int32 → Int32 → Int32 → Int32 → Int32 → Option (Int32 × (Nat → Int32) × (Nat → Nat → Int32))) (iv : Nat → Int32) (av : Nat → Nat → Int32) (x1 : Int32) (x2 : Int32) (x3 : Int32) (x5 : Int32) : Option (Int32 × (Nat → Int32) × (Nat → Nat → Int32)) := jM_transpose_113 K44 iv av x1 x2 x3 x5 (0 : Int32)
def jM_transpose_161 (K124 : (Nat → Int32) → (Nat → Nat → Int32) → Int32 → Int32 → Int32 → Int32 → Int32 → Option (Int32 × (Nat → Int32) × (Nat → Nat → Int32))) (iv : Nat → Int32) (av : Nat → Nat → Int32) (x1 : Int32) (x2 : Int32) (x3 : Int32) (x4 : Int32) (x5 : Int32) (s1 : Int32) (s2 : Int32) (s3 : Int32) : Option (Int32 × (Nat → Int32) × (Nat → Nat → Int32)) := if s1 < 0 ∨ 1001 ≤ s1.toNatClampNeg then none else (K124 iv (up2 av 4 s1.toNatClampNeg (s2 + s3)) x1 x2 x3 x4 (x5 + 1))
def jM_transpose_169 (iv : Nat → Int32) (av : Nat → Nat → Int32) (x3 : Int32) (x4 : Int32) : Option (Int32 × (Nat → Int32) × (Nat → Nat → Int32)) := if x4 = 0 then (some ((-1 : Int32), iv, av)) else (some (x3, iv, av))
def lM_transpose_124 : Nat → (Nat → Int32) → (Nat → Nat → Int32) → Int32 → Int32 → Int32 → Int32 → Int32 → Option (Int32 × (Nat → Int32) × (Nat → Nat → Int32))
  | 0 => fun _ _ _ _ _ _ _ => none
  | k + 1 => fun iv av x1 x2 x3 x4 x5 => if (iv 10) ≤ x5 then (jM_transpose_169 iv av x3 x4) else (if x4 = 0 then (jM_transpose_169 iv av x3 x4) else (if x5 < 0 ∨ 1001 ≤ x5.toNatClampNeg then none else ((fM_isNote iv av x5 x1).bind fun (r4, iv4, av4) => if r4 = 0 then (jM_transpose_161 (lM_transpose_124 k) iv4 av4 x1 x2 x3 x4 x5 x5 (av 4 x5.toNatClampNeg) (0 : Int32)) else (jM_transpose_161 (lM_transpose_124 k) iv4 av4 x1 x2 x3 x4 x5 x5 (av 4 x5.toNatClampNeg) x2))))
def lM_transpose_44 : Nat → (Nat → Int32) → (Nat → Nat → Int32) → Int32 → Int32 → Int32 → Int32 → Int32 → Option (Int32 × (Nat → Int32) × (Nat → Nat → Int32))
  | 0 => fun _ _ _ _ _ _ _ => none
  | k + 1 => fun iv av x1 x2 x3 x4 x5 => if (iv 10) ≤ x5 then (lM_transpose_124 FU iv av x1 x2 x3 x4 (0 : Int32)) else ((fM_isNote iv av x5 x1).bind fun (r2, iv2, av2) => if r2 = 0 then (jM_transpose_115 (lM_transpose_44 k) iv2 av2 x1 x2 x3 x4 x5) else (if x4 = 0 then (jM_transpose_112 (lM_transpose_44 k) iv2 av2 x1 x2 (x3 + 1) x5) else (if x5 < 0 ∨ 1001 ≤ x5.toNatClampNeg then none else (if (lg_cmp (((av2 4 x5.toNatClampNeg).toInt64) + x2.toInt64) (0 : Int64)) < 0 then (jM_transpose_112 (lM_transpose_44 k) iv2 av2 x1 x2 (x3 + 1) x5) else (if x5 < 0 ∨ 1001 ≤ x5.toNatClampNeg then none else (if 0 ≤ (lg_cmp (((av2 4 x5.toNatClampNeg).toInt64) + x2.toInt64) (128 : Int64)) then (jM_transpose_112 (lM_transpose_44 k) iv2 av2 x1 x2 (x3 + 1) x5) else (jM_transpose_113 (lM_transpose_44 k) iv2 av2 x1 x2 (x3 + 1) x5 (1 : Int32))))))))
def jM_transpose_28 (iv : Nat → Int32) (av : Nat → Nat → Int32) (x1 : Int32) (x2 : Int32) (s1 : Int32) (s2 : Int32) : Option (Int32 × (Nat → Int32) × (Nat → Nat → Int32)) := (fM_fails iv av s1 s2).bind fun (r1, iv1, av1) => if r1 = 0 then (lM_transpose_44 FU iv1 av1 x1 x2 (0 : Int32) (1 : Int32) (0 : Int32)) else (some ((0 : Int32), iv1, av1))
def jM_transpose_23 (iv : Nat → Int32) (av : Nat → Nat → Int32) (x1 : Int32) (x2 : Int32) (s1 : Int32) : Option (Int32 × (Nat → Int32) × (Nat → Nat → Int32)) := jM_transpose_28 iv av x1 x2 s1 (1 : Int32)
def jM_transpose_13 (iv : Nat → Int32) (av : Nat → Nat → Int32) (x1 : Int32) (x2 : Int32) (s1 : Int32) : Option (Int32 × (Nat → Int32) × (Nat → Nat → Int32)) := if x1 < 0 then (jM_transpose_23 iv av x1 x2 s1) else (if x1 ≤ (16 : Int32) then (jM_transpose_28 iv av x1 x2 s1 (0 : Int32)) else (jM_transpose_23 iv av x1 x2 s1))
def fM_transpose (iv : Nat → Int32) (av : Nat → Nat → Int32) (x1 : Int32) (x2 : Int32) : Option (Int32 × (Nat → Int32) × (Nat → Nat → Int32)) := if (iv 6) = 0 then (jM_transpose_13 iv av x1 x2 (1 : Int32)) else (jM_transpose_13 iv av x1 x2 (0 : Int32))
set_option maxHeartbeats 4000000 in
set_option maxRecDepth 100000 in
theorem wM_transpose_115 {p : Program} {l : Launch} {e : Env} {s : State} {m : MethodId} {args : Array Value} {below : List Frame} {meth : Method} {c : Code} {g : gT} {q : Nat} {ad : Nat → Nat} {X : va_W} {rv : Option Value} {iv' : Nat → Int32} {av' : Nat → Nat → Int32} {r' : Int32} (C : mCx p m c cM_transpose 6 s args g "MidiDeskModel") (hr : meth.sig.returnType = (some .int)) (hlk : meth.locks = false) (hrv : rv = some (.int r')) {K44 : (Nat → Int32) → (Nat → Nat → Int32) → Int32 → Int32 → Int32 → Int32 → Int32 → Option (Int32 × (Nat → Int32) × (Nat → Nat → Int32))} (hK44 : ∀ (iv : Nat → Int32) (av : Nat → Nat → Int32) (x1 : Int32) (x2 : Int32) (x3 : Int32) (x4 : Int32) (x5 : Int32) (H : Heap) (locs : List Loc) (ls : Array Slot), lv_has ls 6 [(0, .ref q), (1, .int x1), (2, .int x2), (3, .int x3), (4, .int x4), (5, .int x5)] → mWd g (mA g q ad X s.heap.size) s.heap q ad X iv av H locs → K44 iv av x1 x2 x3 x4 x5 = some (r', iv', av') → mG p l e rM_transpose s m args below meth c g q ad X rv iv' av' H locs 0 0 (F0 m 44 ls [])) (iv : Nat → Int32) (av : Nat → Nat → Int32) (x1 : Int32) (x2 : Int32) (x3 : Int32) (x4 : Int32) (x5 : Int32) (H : Heap) (locs : List Loc) (ls : Array Slot) (hl : lv_has ls 6 [(0, .ref q), (1, .int x1), (2, .int x2), (3, .int x3), (4, .int x4), (5, .int x5)]) (hw : mWd g (mA g q ad X s.heap.size) s.heap q ad X iv av H locs) (hf : jM_transpose_115 K44 iv av x1 x2 x3 x4 x5 = some (r', iv', av')) : mG p l e rM_transpose s m args below meth c g q ad X rv iv' av' H locs 0 0 (F0 m 115 ls []) := by
  unfold jM_transpose_115 at hf
  refine lv_iinc (v := x5 + 1) (lv' := [(5, .int (x5 + 1)), (0, .ref q), (1, .int x1), (2, .int x2), (3, .int x3), (4, .int x4)]) C.1.1 C.1.2.1 dM_transpose_115 hl (k := 5) rfl rfl (by decide) rfl (fun ls hl => ?_)
  refine lv_goto (tgt := 44) C.1.1 C.1.2.1 dM_transpose_118 (by decide) ?_
  exact hK44 iv av x1 x2 x3 x4 (x5 + 1) _ _ ls (lv_sub hl [1, 2, 3, 4, 5, 0] rfl) hw hf
set_option maxHeartbeats 4000000 in
set_option maxRecDepth 100000 in
theorem wM_transpose_113 {p : Program} {l : Launch} {e : Env} {s : State} {m : MethodId} {args : Array Value} {below : List Frame} {meth : Method} {c : Code} {g : gT} {q : Nat} {ad : Nat → Nat} {X : va_W} {rv : Option Value} {iv' : Nat → Int32} {av' : Nat → Nat → Int32} {r' : Int32} (C : mCx p m c cM_transpose 6 s args g "MidiDeskModel") (hr : meth.sig.returnType = (some .int)) (hlk : meth.locks = false) (hrv : rv = some (.int r')) {K44 : (Nat → Int32) → (Nat → Nat → Int32) → Int32 → Int32 → Int32 → Int32 → Int32 → Option (Int32 × (Nat → Int32) × (Nat → Nat → Int32))} (hK44 : ∀ (iv : Nat → Int32) (av : Nat → Nat → Int32) (x1 : Int32) (x2 : Int32) (x3 : Int32) (x4 : Int32) (x5 : Int32) (H : Heap) (locs : List Loc) (ls : Array Slot), lv_has ls 6 [(0, .ref q), (1, .int x1), (2, .int x2), (3, .int x3), (4, .int x4), (5, .int x5)] → mWd g (mA g q ad X s.heap.size) s.heap q ad X iv av H locs → K44 iv av x1 x2 x3 x4 x5 = some (r', iv', av') → mG p l e rM_transpose s m args below meth c g q ad X rv iv' av' H locs 0 0 (F0 m 44 ls [])) (iv : Nat → Int32) (av : Nat → Nat → Int32) (x1 : Int32) (x2 : Int32) (x3 : Int32) (x5 : Int32) (s0 : Int32) (H : Heap) (locs : List Loc) (ls : Array Slot) (hl : lv_has ls 6 [(0, .ref q), (1, .int x1), (2, .int x2), (3, .int x3), (5, .int x5)]) (hw : mWd g (mA g q ad X s.heap.size) s.heap q ad X iv av H locs) (hf : jM_transpose_113 K44 iv av x1 x2 x3 x5 s0 = some (r', iv', av')) : mG p l e rM_transpose s m args below meth c g q ad X rv iv' av' H locs 0 0 (F0 m 113 ls [.int s0]) := by
  unfold jM_transpose_113 at hf
  refine lv_istore (lv' := [(4, .int s0), (0, .ref q), (1, .int x1), (2, .int x2), (3, .int x3), (5, .int x5)]) C.1.1 C.1.2.1 dM_transpose_113 hl (by decide) rfl (fun ls hl => ?_)
  exact wM_transpose_115 C hr hlk hrv hK44 iv av x1 x2 x3 s0 x5 _ _ ls (lv_sub hl [1, 2, 3, 4, 0, 5] rfl) hw hf
set_option maxHeartbeats 4000000 in
set_option maxRecDepth 100000 in
theorem wM_transpose_112 {p : Program} {l : Launch} {e : Env} {s : State} {m : MethodId} {args : Array Value} {below : List Frame} {meth : Method} {c : Code} {g : gT} {q : Nat} {ad : Nat → Nat} {X : va_W} {rv : Option Value} {iv' : Nat → Int32} {av' : Nat → Nat → Int32} {r' : Int32} (C : mCx p m c cM_transpose 6 s args g "MidiDeskModel") (hr : meth.sig.returnType = (some .int)) (hlk : meth.locks = false) (hrv : rv = some (.int r')) {K44 : (Nat → Int32) → (Nat → Nat → Int32) → Int32 → Int32 → Int32 → Int32 → Int32 → Option (Int32 × (Nat → Int32) × (Nat → Nat → Int32))} (hK44 : ∀ (iv : Nat → Int32) (av : Nat → Nat → Int32) (x1 : Int32) (x2 : Int32) (x3 : Int32) (x4 : Int32) (x5 : Int32) (H : Heap) (locs : List Loc) (ls : Array Slot), lv_has ls 6 [(0, .ref q), (1, .int x1), (2, .int x2), (3, .int x3), (4, .int x4), (5, .int x5)] → mWd g (mA g q ad X s.heap.size) s.heap q ad X iv av H locs → K44 iv av x1 x2 x3 x4 x5 = some (r', iv', av') → mG p l e rM_transpose s m args below meth c g q ad X rv iv' av' H locs 0 0 (F0 m 44 ls [])) (iv : Nat → Int32) (av : Nat → Nat → Int32) (x1 : Int32) (x2 : Int32) (x3 : Int32) (x5 : Int32) (H : Heap) (locs : List Loc) (ls : Array Slot) (hl : lv_has ls 6 [(0, .ref q), (1, .int x1), (2, .int x2), (3, .int x3), (5, .int x5)]) (hw : mWd g (mA g q ad X s.heap.size) s.heap q ad X iv av H locs) (hf : jM_transpose_112 K44 iv av x1 x2 x3 x5 = some (r', iv', av')) : mG p l e rM_transpose s m args below meth c g q ad X rv iv' av' H locs 0 0 (F0 m 112 ls []) := by
  unfold jM_transpose_112 at hf
  refine lv_iconst (v := (0 : Int32)) C.1.1 C.1.2.1 dM_transpose_112 (by decide) ?_
  exact wM_transpose_113 C hr hlk hrv hK44 iv av x1 x2 x3 x5 (0 : Int32) _ _ ls (lv_sub hl [0, 1, 2, 3, 4] rfl) hw hf
set_option maxHeartbeats 4000000 in
set_option maxRecDepth 100000 in
theorem wM_transpose_161 {p : Program} {l : Launch} {e : Env} {s : State} {m : MethodId} {args : Array Value} {below : List Frame} {meth : Method} {c : Code} {g : gT} {q : Nat} {ad : Nat → Nat} {X : va_W} {rv : Option Value} {iv' : Nat → Int32} {av' : Nat → Nat → Int32} {r' : Int32} (C : mCx p m c cM_transpose 6 s args g "MidiDeskModel") (hr : meth.sig.returnType = (some .int)) (hlk : meth.locks = false) (hrv : rv = some (.int r')) {K124 : (Nat → Int32) → (Nat → Nat → Int32) → Int32 → Int32 → Int32 → Int32 → Int32 → Option (Int32 × (Nat → Int32) × (Nat → Nat → Int32))} (hK124 : ∀ (iv : Nat → Int32) (av : Nat → Nat → Int32) (x1 : Int32) (x2 : Int32) (x3 : Int32) (x4 : Int32) (x5 : Int32) (H : Heap) (locs : List Loc) (ls : Array Slot), lv_has ls 6 [(0, .ref q), (1, .int x1), (2, .int x2), (3, .int x3), (4, .int x4), (5, .int x5)] → mWd g (mA g q ad X s.heap.size) s.heap q ad X iv av H locs → K124 iv av x1 x2 x3 x4 x5 = some (r', iv', av') → mG p l e rM_transpose s m args below meth c g q ad X rv iv' av' H locs 0 0 (F0 m 124 ls [])) (iv : Nat → Int32) (av : Nat → Nat → Int32) (x1 : Int32) (x2 : Int32) (x3 : Int32) (x4 : Int32) (x5 : Int32) (s1 : Int32) (s2 : Int32) (s3 : Int32) (H : Heap) (locs : List Loc) (ls : Array Slot) (hl : lv_has ls 6 [(0, .ref q), (1, .int x1), (2, .int x2), (3, .int x3), (4, .int x4), (5, .int x5)]) (hw : mWd g (mA g q ad X s.heap.size) s.heap q ad X iv av H locs) (hf : jM_transpose_161 K124 iv av x1 x2 x3 x4 x5 s1 s2 s3 = some (r', iv', av')) : mG p l e rM_transpose s m args below meth c g q ad X rv iv' av' H locs 0 0 (F0 m 161 ls [.int s3, .int s2, .int s1, .ref (ad 4)]) := by
  unfold jM_transpose_161 at hf
  refine lv_iadd C.1.1 C.1.2.1 dM_transpose_161 ?_
  obtain ⟨h1, hf⟩ := ts_g hf
  refine ms_first C hw h1 dM_transpose_162 (fun H locs hw => ?_)
  refine lv_iinc (v := x5 + 1) (lv' := [(5, .int (x5 + 1)), (0, .ref q), (1, .int x1), (2, .int x2), (3, .int x3), (4, .int x4)]) C.1.1 C.1.2.1 dM_transpose_163 hl (k := 5) rfl rfl (by decide) rfl (fun ls hl => ?_)
  refine lv_goto (tgt := 124) C.1.1 C.1.2.1 dM_transpose_166 (by decide) ?_
  exact hK124 iv (up2 av 4 s1.toNatClampNeg (s2 + s3)) x1 x2 x3 x4 (x5 + 1) _ _ ls (lv_sub hl [1, 2, 3, 4, 5, 0] rfl) hw hf
set_option maxHeartbeats 4000000 in
set_option maxRecDepth 100000 in
theorem wM_transpose_169 {p : Program} {l : Launch} {e : Env} {s : State} {m : MethodId} {args : Array Value} {below : List Frame} {meth : Method} {c : Code} {g : gT} {q : Nat} {ad : Nat → Nat} {X : va_W} {rv : Option Value} {iv' : Nat → Int32} {av' : Nat → Nat → Int32} {r' : Int32} (C : mCx p m c cM_transpose 6 s args g "MidiDeskModel") (hr : meth.sig.returnType = (some .int)) (hlk : meth.locks = false) (hrv : rv = some (.int r')) (iv : Nat → Int32) (av : Nat → Nat → Int32) (x3 : Int32) (x4 : Int32) (H : Heap) (locs : List Loc) (ls : Array Slot) (hl : lv_has ls 6 [(0, .ref q), (3, .int x3), (4, .int x4)]) (hw : mWd g (mA g q ad X s.heap.size) s.heap q ad X iv av H locs) (hf : jM_transpose_169 iv av x3 x4 = some (r', iv', av')) : mG p l e rM_transpose s m args below meth c g q ad X rv iv' av' H locs 0 0 (F0 m 169 ls []) := by
  unfold jM_transpose_169 at hf
  refine lv_iload C.1.1 C.1.2.1 dM_transpose_169 (lv_at hl 2 rfl) ?_
  refine lv_if_eq (tgt := 178) C.1.1 C.1.2.1 dM_transpose_171 (by decide) (fun c1 => ?_) (fun c1 => ?_)
  · have hf := ts_t hf c1
    refine lv_iconst (v := (-1 : Int32)) C.1.1 C.1.2.1 dM_transpose_178 (by decide) ?_
    exact m_reti C hr hlk hrv hw hf ⟨Nat.le_of_ble_eq_true rfl, Nat.le_of_ble_eq_true rfl⟩ dM_transpose_179
  · have hf := ts_f hf c1
    refine lv_iload_n C.1.1 C.1.2.1 dM_transpose_174 rfl (lv_at hl 1 rfl) ?_
    refine lv_goto (tgt := 179) C.1.1 C.1.2.1 dM_transpose_175 (by decide) ?_
    exact m_reti C hr hlk hrv hw hf ⟨Nat.le_of_ble_eq_true rfl, Nat.le_of_ble_eq_true rfl⟩ dM_transpose_179
set_option maxHeartbeats 4000000 in
set_option maxRecDepth 100000 in
theorem wM_transpose_124 {p : Program} {l : Launch} {e : Env} {s : State} {m : MethodId} {args : Array Value} {below : List Frame} {meth : Method} {c : Code} {g : gT} {q : Nat} {ad : Nat → Nat} {X : va_W} {rv : Option Value} {iv' : Nat → Int32} {av' : Nat → Nat → Int32} {r' : Int32} (C : mCx p m c cM_transpose 6 s args g "MidiDeskModel") (hr : meth.sig.returnType = (some .int)) (hlk : meth.locks = false) (hrv : rv = some (.int r')) (k : Nat) : ∀ (iv : Nat → Int32) (av : Nat → Nat → Int32) (x1 : Int32) (x2 : Int32) (x3 : Int32) (x4 : Int32) (x5 : Int32) (H : Heap) (locs : List Loc) (ls : Array Slot), lv_has ls 6 [(0, .ref q), (1, .int x1), (2, .int x2), (3, .int x3), (4, .int x4), (5, .int x5)] → mWd g (mA g q ad X s.heap.size) s.heap q ad X iv av H locs → lM_transpose_124 k iv av x1 x2 x3 x4 x5 = some (r', iv', av') → mG p l e rM_transpose s m args below meth c g q ad X rv iv' av' H locs 0 0 (F0 m 124 ls []) := by
  induction k with
  | zero => intro iv av x1 x2 x3 x4 x5 H locs ls hl hw hf; cases hf
  | succ k ih =>
    intro iv av x1 x2 x3 x4 x5 H locs ls hl hw hf
    have hf : (if (iv 10) ≤ x5 then (jM_transpose_169 iv av x3 x4) else (if x4 = 0 then (jM_transpose_169 iv av x3 x4) else (if x5 < 0 ∨ 1001 ≤ x5.toNatClampNeg then none else ((fM_isNote iv av x5 x1).bind fun (r4, iv4, av4) => if r4 = 0 then (jM_transpose_161 (lM_transpose_124 k) iv4 av4 x1 x2 x3 x4 x5 x5 (av 4 x5.toNatClampNeg) (0 : Int32)) else (jM_transpose_161 (lM_transpose_124 k) iv4 av4 x1 x2 x3 x4 x5 x5 (av 4 x5.toNatClampNeg) x2))))) = some (r', iv', av') := hf
    refine lv_iload C.1.1 C.1.2.1 dM_transpose_124 (lv_at hl 5 rfl) ?_
    refine lv_aload_n C.1.1 C.1.2.1 dM_transpose_126 rfl (lv_at hl 0 rfl) ?_
    refine mg_events C hw dM_transpose_127 ?_
    refine lv_icmp_ge (tgt := 169) C.1.1 C.1.2.1 dM_transpose_130 (by decide) (fun c1 => ?_) (fun c1 => ?_)
    · have hf := ts_t hf c1
      exact wM_transpose_169 C hr hlk hrv iv av x3 x4 _ _ ls (lv_sub hl [0, 3, 4] rfl) hw hf
    · have hf := ts_f hf c1
      refine lv_iload C.1.1 C.1.2.1 dM_transpose_133 (lv_at hl 4 rfl) ?_
      refine lv_if_eq (tgt := 169) C.1.1 C.1.2.1 dM_transpose_135 (by decide) (fun c2 => ?_) (fun c2 => ?_)
      · have hf := ts_t hf c2
        exact wM_transpose_169 C hr hlk hrv iv av x3 x4 _ _ ls (lv_sub hl [0, 3, 4] rfl) hw hf
      · have hf := ts_f hf c2
        refine lv_aload_n C.1.1 C.1.2.1 dM_transpose_138 rfl (lv_at hl 0 rfl) ?_
        refine mg_first C hw dM_transpose_139 ?_
        refine lv_iload C.1.1 C.1.2.1 dM_transpose_142 (lv_at hl 5 rfl) ?_
        refine lv_dup2_11 C.1.1 C.1.2.1 dM_transpose_144 rfl rfl ?_
        obtain ⟨h3, hf⟩ := ts_g hf
        refine ma_first C hw h3 dM_transpose_145 ?_
        refine lv_aload_n C.1.1 C.1.2.1 dM_transpose_146 rfl (lv_at hl 0 rfl) ?_
        refine lv_iload C.1.1 C.1.2.1 dM_transpose_147 (lv_at hl 5 rfl) ?_
        refine lv_iload_n C.1.1 C.1.2.1 dM_transpose_149 rfl (lv_at hl 1 rfl) ?_
        obtain ⟨⟨r4, iv4, av4⟩, g4, hf⟩ := ts_b hf
        dsimp only at hf
        refine m_callV (rest := [.int (av 4 x5.toNatClampNeg), .int x5, .ref (ad 4)]) (As := [.int x5, .int x1]) (rv := (some (.int r4))) C hl.1 hw (cM_isNote_met g4) (callW_of (rm := rM_isNote) 2 C.1.2.2.2.2 gw_917 gw_919 gw_45 gw_55 gw_920 kM_isNote ⟨Nat.le_of_ble_eq_true rfl, Nat.le_of_ble_eq_true rfl⟩) rfl rfl (Nat.le_of_ble_eq_true rfl) dM_transpose_150 ⟨Nat.le_of_ble_eq_true rfl, Nat.le_of_ble_eq_true rfl⟩ (fun H locs hw => ?_)
        refine W.eq (g2 := F0 m 153 ls [.int r4, .int (av 4 x5.toNatClampNeg), .int x5, .ref (ad 4)]) rfl ?_
        refine lv_if_eq (tgt := 160) C.1.1 C.1.2.1 dM_transpose_153 (by decide) (fun c5 => ?_) (fun c5 => ?_)
        · have hf := ts_t hf c5
          refine lv_iconst (v := (0 : Int32)) C.1.1 C.1.2.1 dM_transpose_160 (by decide) ?_
          exact wM_transpose_161 C hr hlk hrv ih iv4 av4 x1 x2 x3 x4 x5 x5 (av 4 x5.toNatClampNeg) (0 : Int32) _ _ ls (lv_sub hl [0, 1, 2, 3, 4, 5] rfl) hw hf
        · have hf := ts_f hf c5
          refine lv_iload_n C.1.1 C.1.2.1 dM_transpose_156 rfl (lv_at hl 2 rfl) ?_
          refine lv_goto (tgt := 161) C.1.1 C.1.2.1 dM_transpose_157 (by decide) ?_
          exact wM_transpose_161 C hr hlk hrv ih iv4 av4 x1 x2 x3 x4 x5 x5 (av 4 x5.toNatClampNeg) x2 _ _ ls (lv_sub hl [0, 1, 2, 3, 4, 5] rfl) hw hf
set_option maxHeartbeats 4000000 in
set_option maxRecDepth 100000 in
theorem wM_transpose_44 {p : Program} {l : Launch} {e : Env} {s : State} {m : MethodId} {args : Array Value} {below : List Frame} {meth : Method} {c : Code} {g : gT} {q : Nat} {ad : Nat → Nat} {X : va_W} {rv : Option Value} {iv' : Nat → Int32} {av' : Nat → Nat → Int32} {r' : Int32} (C : mCx p m c cM_transpose 6 s args g "MidiDeskModel") (hr : meth.sig.returnType = (some .int)) (hlk : meth.locks = false) (hrv : rv = some (.int r')) (k : Nat) : ∀ (iv : Nat → Int32) (av : Nat → Nat → Int32) (x1 : Int32) (x2 : Int32) (x3 : Int32) (x4 : Int32) (x5 : Int32) (H : Heap) (locs : List Loc) (ls : Array Slot), lv_has ls 6 [(0, .ref q), (1, .int x1), (2, .int x2), (3, .int x3), (4, .int x4), (5, .int x5)] → mWd g (mA g q ad X s.heap.size) s.heap q ad X iv av H locs → lM_transpose_44 k iv av x1 x2 x3 x4 x5 = some (r', iv', av') → mG p l e rM_transpose s m args below meth c g q ad X rv iv' av' H locs 0 0 (F0 m 44 ls []) := by
  induction k with
  | zero => intro iv av x1 x2 x3 x4 x5 H locs ls hl hw hf; cases hf
  | succ k ih =>
    intro iv av x1 x2 x3 x4 x5 H locs ls hl hw hf
    have hf : (if (iv 10) ≤ x5 then (lM_transpose_124 FU iv av x1 x2 x3 x4 (0 : Int32)) else ((fM_isNote iv av x5 x1).bind fun (r2, iv2, av2) => if r2 = 0 then (jM_transpose_115 (lM_transpose_44 k) iv2 av2 x1 x2 x3 x4 x5) else (if x4 = 0 then (jM_transpose_112 (lM_transpose_44 k) iv2 av2 x1 x2 (x3 + 1) x5) else (if x5 < 0 ∨ 1001 ≤ x5.toNatClampNeg then none else (if (lg_cmp (((av2 4 x5.toNatClampNeg).toInt64) + x2.toInt64) (0 : Int64)) < 0 then (jM_transpose_112 (lM_transpose_44 k) iv2 av2 x1 x2 (x3 + 1) x5) else (if x5 < 0 ∨ 1001 ≤ x5.toNatClampNeg then none else (if 0 ≤ (lg_cmp (((av2 4 x5.toNatClampNeg).toInt64) + x2.toInt64) (128 : Int64)) then (jM_transpose_112 (lM_transpose_44 k) iv2 av2 x1 x2 (x3 + 1) x5) else (jM_transpose_113 (lM_transpose_44 k) iv2 av2 x1 x2 (x3 + 1) x5 (1 : Int32))))))))) = some (r', iv', av') := hf
    refine lv_iload C.1.1 C.1.2.1 dM_transpose_44 (lv_at hl 5 rfl) ?_
    refine lv_aload_n C.1.1 C.1.2.1 dM_transpose_46 rfl (lv_at hl 0 rfl) ?_
    refine mg_events C hw dM_transpose_47 ?_
    refine lv_icmp_ge (tgt := 121) C.1.1 C.1.2.1 dM_transpose_50 (by decide) (fun c1 => ?_) (fun c1 => ?_)
    · have hf := ts_t hf c1
      refine lv_iconst (v := (0 : Int32)) C.1.1 C.1.2.1 dM_transpose_121 (by decide) ?_
      refine lv_istore (lv' := [(5, .int (0 : Int32)), (0, .ref q), (1, .int x1), (2, .int x2), (3, .int x3), (4, .int x4)]) C.1.1 C.1.2.1 dM_transpose_122 hl (by decide) rfl (fun ls hl => ?_)
      exact wM_transpose_124 C hr hlk hrv FU iv av x1 x2 x3 x4 (0 : Int32) _ _ ls (lv_sub hl [1, 2, 3, 4, 5, 0] rfl) hw hf
    · have hf := ts_f hf c1
      refine lv_aload_n C.1.1 C.1.2.1 dM_transpose_53 rfl (lv_at hl 0 rfl) ?_
      refine lv_iload C.1.1 C.1.2.1 dM_transpose_54 (lv_at hl 5 rfl) ?_
      refine lv_iload_n C.1.1 C.1.2.1 dM_transpose_56 rfl (lv_at hl 1 rfl) ?_
      obtain ⟨⟨r2, iv2, av2⟩, g2, hf⟩ := ts_b hf
      dsimp only at hf
      refine m_callV (rest := []) (As := [.int x5, .int x1]) (rv := (some (.int r2))) C hl.1 hw (cM_isNote_met g2) (callW_of (rm := rM_isNote) 2 C.1.2.2.2.2 gw_917 gw_919 gw_45 gw_55 gw_920 kM_isNote ⟨Nat.le_of_ble_eq_true rfl, Nat.le_of_ble_eq_true rfl⟩) rfl rfl (Nat.le_of_ble_eq_true rfl) dM_transpose_57 ⟨Nat.le_of_ble_eq_true rfl, Nat.le_of_ble_eq_true rfl⟩ (fun H locs hw => ?_)
      refine W.eq (g2 := F0 m 60 ls [.int r2]) rfl ?_
      refine lv_if_ne (tgt := 66) C.1.1 C.1.2.1 dM_transpose_60 (by decide) (fun c3 => ?_) (fun c3 => ?_)
      · have hf := ts_f hf c3
        refine lv_iinc (v := x3 + 1) (lv' := [(3, .int (x3 + 1)), (0, .ref q), (1, .int x1), (2, .int x2), (4, .int x4), (5, .int x5)]) C.1.1 C.1.2.1 dM_transpose_66 hl (k := 3) rfl rfl (by decide) rfl (fun ls hl => ?_)
        refine lv_iload C.1.1 C.1.2.1 dM_transpose_69 (lv_at hl 4 rfl) ?_
        refine lv_if_eq (tgt := 112) C.1.1 C.1.2.1 dM_transpose_71 (by decide) (fun c4 => ?_) (fun c4 => ?_)
        · have hf := ts_t hf c4
          exact wM_transpose_112 C hr hlk hrv ih iv2 av2 x1 x2 (x3 + 1) x5 _ _ ls (lv_sub hl [1, 2, 3, 0, 5] rfl) hw hf
        · have hf := ts_f hf c4
          refine lv_aload_n C.1.1 C.1.2.1 dM_transpose_74 rfl (lv_at hl 1 rfl) ?_
          refine mg_first C hw dM_transpose_75 ?_
          refine lv_iload C.1.1 C.1.2.1 dM_transpose_78 (lv_at hl 5 rfl) ?_
          obtain ⟨h5, hf⟩ := ts_g hf
          refine ma_first C hw h5 dM_transpose_80 ?_
          refine lv_i2l C.1.1 C.1.2.1 dM_transpose_81 rfl ?_
          refine lv_iload_n C.1.1 C.1.2.1 dM_transpose_82 rfl (lv_at hl 3 rfl) ?_
          refine lv_i2l C.1.1 C.1.2.1 dM_transpose_83 rfl ?_
          refine lv_ladd C.1.1 C.1.2.1 dM_transpose_84 ?_
          refine lv_lconst (v := 0) C.1.1 C.1.2.1 dM_transpose_85 (by decide) ?_
          refine W.lcmp C.1.1 C.1.2.1 dM_transpose_86 ?_
          refine lv_if_lt (tgt := 112) C.1.1 C.1.2.1 dM_transpose_87 (by decide) (fun c6 => ?_) (fun c6 => ?_)
          · have hf := ts_t hf c6
            exact wM_transpose_112 C hr hlk hrv ih iv2 av2 x1 x2 (x3 + 1) x5 _ _ ls (lv_sub hl [1, 2, 3, 0, 5] rfl) hw hf
          · have hf := ts_f hf c6
            refine lv_aload_n C.1.1 C.1.2.1 dM_transpose_90 rfl (lv_at hl 1 rfl) ?_
            refine mg_first C hw dM_transpose_91 ?_
            refine lv_iload C.1.1 C.1.2.1 dM_transpose_94 (lv_at hl 5 rfl) ?_
            obtain ⟨h7, hf⟩ := ts_g hf
            refine ma_first C hw h7 dM_transpose_96 ?_
            refine lv_i2l C.1.1 C.1.2.1 dM_transpose_97 rfl ?_
            refine lv_iload_n C.1.1 C.1.2.1 dM_transpose_98 rfl (lv_at hl 3 rfl) ?_
            refine lv_i2l C.1.1 C.1.2.1 dM_transpose_99 rfl ?_
            refine lv_ladd C.1.1 C.1.2.1 dM_transpose_100 ?_
            refine lv_ldc2 C.1.1 C.1.2.1 C.1.2.2.2.1 (C.1.2.2.2.2 _ gw_921) dM_transpose_101 ?_
            refine W.lcmp C.1.1 C.1.2.1 dM_transpose_104 ?_
            refine lv_if_ge (tgt := 112) C.1.1 C.1.2.1 dM_transpose_105 (by decide) (fun c8 => ?_) (fun c8 => ?_)
            · have hf := ts_t hf c8
              exact wM_transpose_112 C hr hlk hrv ih iv2 av2 x1 x2 (x3 + 1) x5 _ _ ls (lv_sub hl [1, 2, 3, 0, 5] rfl) hw hf
            · have hf := ts_f hf c8
              refine lv_iconst (v := (1 : Int32)) C.1.1 C.1.2.1 dM_transpose_108 (by decide) ?_
              refine lv_goto (tgt := 113) C.1.1 C.1.2.1 dM_transpose_109 (by decide) ?_
              exact wM_transpose_113 C hr hlk hrv ih iv2 av2 x1 x2 (x3 + 1) x5 (1 : Int32) _ _ ls (lv_sub hl [1, 2, 3, 0, 5] rfl) hw hf
      · have hf := ts_t hf c3
        refine lv_goto (tgt := 115) C.1.1 C.1.2.1 dM_transpose_63 (by decide) ?_
        exact wM_transpose_115 C hr hlk hrv ih iv2 av2 x1 x2 x3 x4 x5 _ _ ls (lv_sub hl [0, 1, 2, 3, 4, 5] rfl) hw hf
set_option maxHeartbeats 4000000 in
set_option maxRecDepth 100000 in
theorem wM_transpose_28 {p : Program} {l : Launch} {e : Env} {s : State} {m : MethodId} {args : Array Value} {below : List Frame} {meth : Method} {c : Code} {g : gT} {q : Nat} {ad : Nat → Nat} {X : va_W} {rv : Option Value} {iv' : Nat → Int32} {av' : Nat → Nat → Int32} {r' : Int32} (C : mCx p m c cM_transpose 6 s args g "MidiDeskModel") (hr : meth.sig.returnType = (some .int)) (hlk : meth.locks = false) (hrv : rv = some (.int r')) (iv : Nat → Int32) (av : Nat → Nat → Int32) (x1 : Int32) (x2 : Int32) (s1 : Int32) (s2 : Int32) (H : Heap) (locs : List Loc) (ls : Array Slot) (hl : lv_has ls 6 [(0, .ref q), (1, .int x1), (2, .int x2)]) (hw : mWd g (mA g q ad X s.heap.size) s.heap q ad X iv av H locs) (hf : jM_transpose_28 iv av x1 x2 s1 s2 = some (r', iv', av')) : mG p l e rM_transpose s m args below meth c g q ad X rv iv' av' H locs 0 0 (F0 m 28 ls [.int s2, .int s1, .ref q]) := by
  unfold jM_transpose_28 at hf
  obtain ⟨⟨r1, iv1, av1⟩, g1, hf⟩ := ts_b hf
  dsimp only at hf
  refine m_callV (rest := []) (As := [.int s1, .int s2]) (rv := (some (.int r1))) C hl.1 hw (cM_fails_met g1) (callW_of (rm := rM_fails) 2 C.1.2.2.2.2 gw_877 gw_879 gw_39 gw_55 gw_880 kM_fails ⟨Nat.le_of_ble_eq_true rfl, Nat.le_of_ble_eq_true rfl⟩) rfl rfl (Nat.le_of_ble_eq_true rfl) dM_transpose_28 ⟨Nat.le_of_ble_eq_true rfl, Nat.le_of_ble_eq_true rfl⟩ (fun H locs hw => ?_)
  refine W.eq (g2 := F0 m 31 ls [.int r1]) rfl ?_
  refine lv_if_eq (tgt := 36) C.1.1 C.1.2.1 dM_transpose_31 (by decide) (fun c2 => ?_) (fun c2 => ?_)
  · have hf := ts_t hf c2
    refine lv_iconst (v := (0 : Int32)) C.1.1 C.1.2.1 dM_transpose_36 (by decide) ?_
    refine lv_istore_n (lv' := [(3, .int (0 : Int32)), (0, .ref q), (1, .int x1), (2, .int x2)]) C.1.1 C.1.2.1 dM_transpose_37 rfl hl (by decide) rfl (fun ls hl => ?_)
    refine lv_iconst (v := (1 : Int32)) C.1.1 C.1.2.1 dM_transpose_38 (by decide) ?_
    refine lv_istore (lv' := [(4, .int (1 : Int32)), (3, .int (0 : Int32)), (0, .ref q), (1, .int x1), (2, .int x2)]) C.1.1 C.1.2.1 dM_transpose_39 hl (by decide) rfl (fun ls hl => ?_)
    refine lv_iconst (v := (0 : Int32)) C.1.1 C.1.2.1 dM_transpose_41 (by decide) ?_
    refine lv_istore (lv' := [(5, .int (0 : Int32)), (4, .int (1 : Int32)), (3, .int (0 : Int32)), (0, .ref q), (1, .int x1), (2, .int x2)]) C.1.1 C.1.2.1 dM_transpose_42 hl (by decide) rfl (fun ls hl => ?_)
    exact wM_transpose_44 C hr hlk hrv FU iv1 av1 x1 x2 (0 : Int32) (1 : Int32) (0 : Int32) _ _ ls (lv_sub hl [3, 4, 5, 2, 1, 0] rfl) hw hf
  · have hf := ts_f hf c2
    refine lv_iconst (v := (0 : Int32)) C.1.1 C.1.2.1 dM_transpose_34 (by decide) ?_
    exact m_reti C hr hlk hrv hw hf ⟨Nat.le_of_ble_eq_true rfl, Nat.le_of_ble_eq_true rfl⟩ dM_transpose_35
set_option maxHeartbeats 4000000 in
set_option maxRecDepth 100000 in
theorem wM_transpose_23 {p : Program} {l : Launch} {e : Env} {s : State} {m : MethodId} {args : Array Value} {below : List Frame} {meth : Method} {c : Code} {g : gT} {q : Nat} {ad : Nat → Nat} {X : va_W} {rv : Option Value} {iv' : Nat → Int32} {av' : Nat → Nat → Int32} {r' : Int32} (C : mCx p m c cM_transpose 6 s args g "MidiDeskModel") (hr : meth.sig.returnType = (some .int)) (hlk : meth.locks = false) (hrv : rv = some (.int r')) (iv : Nat → Int32) (av : Nat → Nat → Int32) (x1 : Int32) (x2 : Int32) (s1 : Int32) (H : Heap) (locs : List Loc) (ls : Array Slot) (hl : lv_has ls 6 [(0, .ref q), (1, .int x1), (2, .int x2)]) (hw : mWd g (mA g q ad X s.heap.size) s.heap q ad X iv av H locs) (hf : jM_transpose_23 iv av x1 x2 s1 = some (r', iv', av')) : mG p l e rM_transpose s m args below meth c g q ad X rv iv' av' H locs 0 0 (F0 m 23 ls [.int s1, .ref q]) := by
  unfold jM_transpose_23 at hf
  refine lv_iconst (v := (1 : Int32)) C.1.1 C.1.2.1 dM_transpose_23 (by decide) ?_
  refine lv_goto (tgt := 28) C.1.1 C.1.2.1 dM_transpose_24 (by decide) ?_
  exact wM_transpose_28 C hr hlk hrv iv av x1 x2 s1 (1 : Int32) _ _ ls (lv_sub hl [0, 1, 2] rfl) hw hf
set_option maxHeartbeats 4000000 in
set_option maxRecDepth 100000 in
theorem wM_transpose_13 {p : Program} {l : Launch} {e : Env} {s : State} {m : MethodId} {args : Array Value} {below : List Frame} {meth : Method} {c : Code} {g : gT} {q : Nat} {ad : Nat → Nat} {X : va_W} {rv : Option Value} {iv' : Nat → Int32} {av' : Nat → Nat → Int32} {r' : Int32} (C : mCx p m c cM_transpose 6 s args g "MidiDeskModel") (hr : meth.sig.returnType = (some .int)) (hlk : meth.locks = false) (hrv : rv = some (.int r')) (iv : Nat → Int32) (av : Nat → Nat → Int32) (x1 : Int32) (x2 : Int32) (s1 : Int32) (H : Heap) (locs : List Loc) (ls : Array Slot) (hl : lv_has ls 6 [(0, .ref q), (1, .int x1), (2, .int x2)]) (hw : mWd g (mA g q ad X s.heap.size) s.heap q ad X iv av H locs) (hf : jM_transpose_13 iv av x1 x2 s1 = some (r', iv', av')) : mG p l e rM_transpose s m args below meth c g q ad X rv iv' av' H locs 0 0 (F0 m 13 ls [.int s1, .ref q]) := by
  unfold jM_transpose_13 at hf
  refine lv_iload_n C.1.1 C.1.2.1 dM_transpose_13 rfl (lv_at hl 1 rfl) ?_
  refine lv_if_lt (tgt := 23) C.1.1 C.1.2.1 dM_transpose_14 (by decide) (fun c1 => ?_) (fun c1 => ?_)
  · have hf := ts_t hf c1
    exact wM_transpose_23 C hr hlk hrv iv av x1 x2 s1 _ _ ls (lv_sub hl [0, 1, 2] rfl) hw hf
  · have hf := ts_f hf c1
    refine lv_iload_n C.1.1 C.1.2.1 dM_transpose_17 rfl (lv_at hl 1 rfl) ?_
    refine lv_bipush (v := (16 : Int32)) C.1.1 C.1.2.1 dM_transpose_18 (by decide) ?_
    refine lv_icmp_le (tgt := 27) C.1.1 C.1.2.1 dM_transpose_20 (by decide) (fun c2 => ?_) (fun c2 => ?_)
    · have hf := ts_t hf c2
      refine lv_iconst (v := (0 : Int32)) C.1.1 C.1.2.1 dM_transpose_27 (by decide) ?_
      exact wM_transpose_28 C hr hlk hrv iv av x1 x2 s1 (0 : Int32) _ _ ls (lv_sub hl [0, 1, 2] rfl) hw hf
    · have hf := ts_f hf c2
      exact wM_transpose_23 C hr hlk hrv iv av x1 x2 s1 _ _ ls (lv_sub hl [0, 1, 2] rfl) hw hf
set_option maxHeartbeats 4000000 in
set_option maxRecDepth 100000 in
theorem cM_transpose_met {l : Launch} {g : gT} {q : Nat} {ad : Nat → Nat} {X : va_W} {iv iv' : Nat → Int32} {av av' : Nat → Nat → Int32} {x1 : Int32} {x2 : Int32} {r' : Int32} (hf : fM_transpose iv av x1 x2 = some (r', iv', av')) : mMet l yM_transpose cM_transpose 6 (some .int) rM_transpose g q ad X iv av [.ref q, .int x1, .int x2] (some (.int r')) iv' av' := by
  refine m_entry (by decide) (Nat.le_of_ble_eq_true rfl) ?_
  intro p e s m args below meth c ls C hr hlk hnm hl hw
  have hrv : ((some (.int r')) : Option Value) = (some (.int r')) := rfl
  have C : mCx p m c cM_transpose 6 s args g "MidiDeskModel" := C
  have hl : lv_has ls 6 [(0, .ref q), (1, .int x1), (2, .int x2)] := hl
  unfold fM_transpose at hf
  refine lv_aload_n C.1.1 C.1.2.1 dM_transpose_0 rfl (lv_at hl 0 rfl) ?_
  refine lv_aload_n C.1.1 C.1.2.1 dM_transpose_1 rfl (lv_at hl 0 rfl) ?_
  refine mg_there C hw dM_transpose_2 ?_
  refine lv_if_ne (tgt := 12) C.1.1 C.1.2.1 dM_transpose_5 (by decide) (fun c1 => ?_) (fun c1 => ?_)
  · have hf := ts_f hf c1
    refine lv_iconst (v := (0 : Int32)) C.1.1 C.1.2.1 dM_transpose_12 (by decide) ?_
    exact wM_transpose_13 C hr hlk hrv iv av x1 x2 (0 : Int32) _ _ ls (lv_sub hl [0, 1, 2] rfl) hw hf
  · have hf := ts_t hf c1
    refine lv_iconst (v := (1 : Int32)) C.1.1 C.1.2.1 dM_transpose_8 (by decide) ?_
    refine lv_goto (tgt := 13) C.1.1 C.1.2.1 dM_transpose_9 (by decide) ?_
    exact wM_transpose_13 C hr hlk hrv iv av x1 x2 (1 : Int32) _ _ ls (lv_sub hl [0, 1, 2] rfl) hw hf
end
section
abbrev cM_nearest : ByteArray := prog_8_method_32_code
abbrev yM_nearest : MethodName := ⟨"MidiDeskModel", "nearest", "(II)J"⟩
theorem kM_nearest : yM_nearest.cls ≠ "java/lang/invoke/MethodHandle" ∧ yM_nearest.cls ≠ "java/lang/invoke/VarHandle" ∧ (parseMethodDescriptor yM_nearest.desc).map (fun d => d.parameters.length) = some 2 := by decide +kernel
abbrev rM_nearest : Room := { frames := 0, cells := 0, slots := 0, locals := 0 }
theorem dM_nearest_0 : decode cM_nearest 0 = .ok (.iload_n 0, 1) := by decide +kernel
theorem dM_nearest_1 : decode cM_nearest 1 = .ok (.iload_n 1, 1) := by decide +kernel
theorem dM_nearest_2 : decode cM_nearest 2 = .ok (.idiv, 1) := by decide +kernel
theorem dM_nearest_3 : decode cM_nearest 3 = .ok (.i2l, 1) := by decide +kernel
theorem dM_nearest_4 : decode cM_nearest 4 = .ok (.lstore_n 2, 1) := by decide +kernel
theorem dM_nearest_5 : decode cM_nearest 5 = .ok (.ldc2_w 180, 3) := by decide +kernel
theorem dM_nearest_8 : decode cM_nearest 8 = .ok (.iload_n 0, 1) := by decide +kernel
theorem dM_nearest_9 : decode cM_nearest 9 = .ok (.iload_n 1, 1) := by decide +kernel
theorem dM_nearest_10 : decode cM_nearest 10 = .ok (.irem, 1) := by decide +kernel
theorem dM_nearest_11 : decode cM_nearest 11 = .ok (.i2l, 1) := by decide +kernel
theorem dM_nearest_12 : decode cM_nearest 12 = .ok (.lmul, 1) := by decide +kernel
theorem dM_nearest_13 : decode cM_nearest 13 = .ok (.iload_n 1, 1) := by decide +kernel
theorem dM_nearest_14 : decode cM_nearest 14 = .ok (.i2l, 1) := by decide +kernel
theorem dM_nearest_15 : decode cM_nearest 15 = .ok (.lcmp, 1) := by decide +kernel
theorem dM_nearest_16 : decode cM_nearest 16 = .ok (.ifCond .lt 9, 3) := by decide +kernel
theorem dM_nearest_19 : decode cM_nearest 19 = .ok (.lload_n 2, 1) := by decide +kernel
theorem dM_nearest_20 : decode cM_nearest 20 = .ok (.lconst 1, 1) := by decide +kernel
theorem dM_nearest_21 : decode cM_nearest 21 = .ok (.ladd, 1) := by decide +kernel
theorem dM_nearest_22 : decode cM_nearest 22 = .ok (.goto 4, 3) := by decide +kernel
theorem dM_nearest_25 : decode cM_nearest 25 = .ok (.lload_n 2, 1) := by decide +kernel
theorem dM_nearest_26 : decode cM_nearest 26 = .ok (.iload_n 1, 1) := by decide +kernel
theorem dM_nearest_27 : decode cM_nearest 27 = .ok (.i2l, 1) := by decide +kernel
theorem dM_nearest_28 : decode cM_nearest 28 = .ok (.lmul, 1) := by decide +kernel
theorem dM_nearest_29 : decode cM_nearest 29 = .ok (.lreturn, 1) := by decide +kernel
def fM_nearest (iv : Nat → Int32) (av : Nat → Nat → Int32) (x0 : Int32) (x1 : Int32) : Option (Int64 × (Nat → Int32) × (Nat → Nat → Int32)) := if x1 = 0 then none else (if x1 = 0 then none else (if (lg_cmp ((2 : Int64) * ((x0 - x0 / x1 * x1).toInt64)) x1.toInt64) < 0 then (some (((x0 / x1).toInt64) * x1.toInt64, iv, av)) else (some ((((x0 / x1).toInt64) + (1 : Int64)) * x1.toInt64, iv, av))))
set_option maxHeartbeats 4000000 in
set_option maxRecDepth 100000 in
theorem cM_nearest_met {l : Launch} {g : gT} {q : Nat} {ad : Nat → Nat} {X : va_W} {iv iv' : Nat → Int32} {av av' : Nat → Nat → Int32} {x0 : Int32} {x1 : Int32} {r' : Int64} (hf : fM_nearest iv av x0 x1 = some (r', iv', av')) : mMet l yM_nearest cM_nearest 4 (some .long) rM_nearest g q ad X iv av [.int x0, .int x1] (some (.long r')) iv' av' := by
  refine m_entry (by decide) (Nat.le_of_ble_eq_true rfl) ?_
  intro p e s m args below meth c ls C hr hlk hnm hl hw
  have hrv : ((some (.long r')) : Option Value) = (some (.long r')) := rfl
  have C : mCx p m c cM_nearest 4 s args g "MidiDeskModel" := C
  have hl : lv_has ls 4 [(0, .int x0), (1, .int x1)] := hl
  unfold fM_nearest at hf
  refine lv_iload_n C.1.1 C.1.2.1 dM_nearest_0 rfl (lv_at hl 0 rfl) ?_
  refine lv_iload_n C.1.1 C.1.2.1 dM_nearest_1 rfl (lv_at hl 1 rfl) ?_
  obtain ⟨h1, hf⟩ := ts_g hf
  refine lv_idiv C.1.1 C.1.2.1 dM_nearest_2 h1 ?_
  refine lv_i2l C.1.1 C.1.2.1 dM_nearest_3 rfl ?_
  refine lv_lstore_n (lv' := [(2, .long ((x0 / x1).toInt64)), (0, .int x0), (1, .int x1)]) C.1.1 C.1.2.1 dM_nearest_4 rfl hl (by decide) rfl (fun ls hl => ?_)
  refine lv_ldc2 C.1.1 C.1.2.1 C.1.2.2.2.1 (C.1.2.2.2.2 _ gw_930) dM_nearest_5 ?_
  refine lv_iload_n C.1.1 C.1.2.1 dM_nearest_8 rfl (lv_at hl 1 rfl) ?_
  refine lv_iload_n C.1.1 C.1.2.1 dM_nearest_9 rfl (lv_at hl 2 rfl) ?_
  obtain ⟨h2, hf⟩ := ts_g hf
  refine lv_irem C.1.1 C.1.2.1 dM_nearest_10 h2 ?_
  refine lv_i2l C.1.1 C.1.2.1 dM_nearest_11 rfl ?_
  refine lv_lmul C.1.1 C.1.2.1 dM_nearest_12 ?_
  refine lv_iload_n C.1.1 C.1.2.1 dM_nearest_13 rfl (lv_at hl 2 rfl) ?_
  refine lv_i2l C.1.1 C.1.2.1 dM_nearest_14 rfl ?_
  refine W.lcmp C.1.1 C.1.2.1 dM_nearest_15 ?_
  refine lv_if_lt (tgt := 25) C.1.1 C.1.2.1 dM_nearest_16 (by decide) (fun c3 => ?_) (fun c3 => ?_)
  · have hf := ts_t hf c3
    refine lv_lload_n C.1.1 C.1.2.1 dM_nearest_25 rfl (lv_at hl 0 rfl) ?_
    refine lv_iload_n C.1.1 C.1.2.1 dM_nearest_26 rfl (lv_at hl 2 rfl) ?_
    refine lv_i2l C.1.1 C.1.2.1 dM_nearest_27 rfl ?_
    refine lv_lmul C.1.1 C.1.2.1 dM_nearest_28 ?_
    exact m_retl C hr hlk hrv hw hf ⟨Nat.le_of_ble_eq_true rfl, Nat.le_of_ble_eq_true rfl⟩ dM_nearest_29
  · have hf := ts_f hf c3
    refine lv_lload_n C.1.1 C.1.2.1 dM_nearest_19 rfl (lv_at hl 0 rfl) ?_
    refine lv_lconst (v := 1) C.1.1 C.1.2.1 dM_nearest_20 (by decide) ?_
    refine lv_ladd C.1.1 C.1.2.1 dM_nearest_21 ?_
    refine lv_goto (tgt := 26) C.1.1 C.1.2.1 dM_nearest_22 (by decide) ?_
    refine lv_iload_n C.1.1 C.1.2.1 dM_nearest_26 rfl (lv_at hl 2 rfl) ?_
    refine lv_i2l C.1.1 C.1.2.1 dM_nearest_27 rfl ?_
    refine lv_lmul C.1.1 C.1.2.1 dM_nearest_28 ?_
    exact m_retl C hr hlk hrv hw hf ⟨Nat.le_of_ble_eq_true rfl, Nat.le_of_ble_eq_true rfl⟩ dM_nearest_29
abbrev cM_grid : ByteArray := prog_8_method_33_code
abbrev yM_grid : MethodName := ⟨"MidiDeskModel", "grid", "(I)I"⟩
theorem kM_grid : yM_grid.cls ≠ "java/lang/invoke/MethodHandle" ∧ yM_grid.cls ≠ "java/lang/invoke/VarHandle" ∧ (parseMethodDescriptor yM_grid.desc).map (fun d => d.parameters.length) = some 1 := by decide +kernel
abbrev rM_grid : Room := { frames := 2, cells := 0, slots := 0, locals := 45 }
theorem dM_grid_0 : decode cM_grid 0 = .ok (.iload_n 1, 1) := by decide +kernel
theorem dM_grid_1 : decode cM_grid 1 = .ok (.iconst 1, 1) := by decide +kernel
theorem dM_grid_2 : decode cM_grid 2 = .ok (.if_icmp .lt 9, 3) := by decide +kernel
theorem dM_grid_5 : decode cM_grid 5 = .ok (.iload_n 1, 1) := by decide +kernel
theorem dM_grid_6 : decode cM_grid 6 = .ok (.ldc 182, 2) := by decide +kernel
theorem dM_grid_8 : decode cM_grid 8 = .ok (.if_icmp .le 7, 3) := by decide +kernel
theorem dM_grid_11 : decode cM_grid 11 = .ok (.iconst 1, 1) := by decide +kernel
theorem dM_grid_12 : decode cM_grid 12 = .ok (.goto 4, 3) := by decide +kernel
theorem dM_grid_15 : decode cM_grid 15 = .ok (.iconst 0, 1) := by decide +kernel
theorem dM_grid_16 : decode cM_grid 16 = .ok (.istore_n 2, 1) := by decide +kernel
theorem dM_grid_17 : decode cM_grid 17 = .ok (.iconst 0, 1) := by decide +kernel
theorem dM_grid_18 : decode cM_grid 18 = .ok (.istore_n 3, 1) := by decide +kernel
theorem dM_grid_19 : decode cM_grid 19 = .ok (.iload_n 3, 1) := by decide +kernel
theorem dM_grid_20 : decode cM_grid 20 = .ok (.aload_n 0, 1) := by decide +kernel
theorem dM_grid_21 : decode cM_grid 21 = .ok (.getfield 95, 3) := by decide +kernel
theorem dM_grid_24 : decode cM_grid 24 = .ok (.if_icmp .ge 43, 3) := by decide +kernel
theorem dM_grid_27 : decode cM_grid 27 = .ok (.aload_n 0, 1) := by decide +kernel
theorem dM_grid_28 : decode cM_grid 28 = .ok (.getfield 110, 3) := by decide +kernel
theorem dM_grid_31 : decode cM_grid 31 = .ok (.ifCond .eq 36, 3) := by decide +kernel
theorem dM_grid_34 : decode cM_grid 34 = .ok (.iload_n 2, 1) := by decide +kernel
theorem dM_grid_35 : decode cM_grid 35 = .ok (.ifCond .ne 32, 3) := by decide +kernel
theorem dM_grid_38 : decode cM_grid 38 = .ok (.aload_n 0, 1) := by decide +kernel
theorem dM_grid_39 : decode cM_grid 39 = .ok (.getfield 13, 3) := by decide +kernel
theorem dM_grid_42 : decode cM_grid 42 = .ok (.iload_n 3, 1) := by decide +kernel
theorem dM_grid_43 : decode cM_grid 43 = .ok (.iaload, 1) := by decide +kernel
theorem dM_grid_44 : decode cM_grid 44 = .ok (.iload_n 1, 1) := by decide +kernel
theorem dM_grid_45 : decode cM_grid 45 = .ok (.invokestatic 183, 3) := by decide +kernel
theorem dM_grid_48 : decode cM_grid 48 = .ok (.ldc2_w 121, 3) := by decide +kernel
theorem dM_grid_51 : decode cM_grid 51 = .ok (.lcmp, 1) := by decide +kernel
theorem dM_grid_52 : decode cM_grid 52 = .ok (.ifCond .le 7, 3) := by decide +kernel
theorem dM_grid_55 : decode cM_grid 55 = .ok (.iconst 1, 1) := by decide +kernel
theorem dM_grid_56 : decode cM_grid 56 = .ok (.goto 4, 3) := by decide +kernel
theorem dM_grid_59 : decode cM_grid 59 = .ok (.iconst 0, 1) := by decide +kernel
theorem dM_grid_60 : decode cM_grid 60 = .ok (.istore_n 2, 1) := by decide +kernel
theorem dM_grid_61 : decode cM_grid 61 = .ok (.iinc 3 1, 3) := by decide +kernel
theorem dM_grid_64 : decode cM_grid 64 = .ok (.goto (-45), 3) := by decide +kernel
theorem dM_grid_67 : decode cM_grid 67 = .ok (.aload_n 0, 1) := by decide +kernel
theorem dM_grid_68 : decode cM_grid 68 = .ok (.aload_n 0, 1) := by decide +kernel
theorem dM_grid_69 : decode cM_grid 69 = .ok (.getfield 110, 3) := by decide +kernel
theorem dM_grid_72 : decode cM_grid 72 = .ok (.ifCond .ne 7, 3) := by decide +kernel
theorem dM_grid_75 : decode cM_grid 75 = .ok (.iconst 1, 1) := by decide +kernel
theorem dM_grid_76 : decode cM_grid 76 = .ok (.goto 4, 3) := by decide +kernel
theorem dM_grid_79 : decode cM_grid 79 = .ok (.iconst 0, 1) := by decide +kernel
theorem dM_grid_80 : decode cM_grid 80 = .ok (.iload_n 2, 1) := by decide +kernel
theorem dM_grid_81 : decode cM_grid 81 = .ok (.invokevirtual 158, 3) := by decide +kernel
theorem dM_grid_84 : decode cM_grid 84 = .ok (.ifCond .eq 5, 3) := by decide +kernel
theorem dM_grid_87 : decode cM_grid 87 = .ok (.iconst 0, 1) := by decide +kernel
theorem dM_grid_88 : decode cM_grid 88 = .ok (.ireturn, 1) := by decide +kernel
theorem dM_grid_89 : decode cM_grid 89 = .ok (.iconst 0, 1) := by decide +kernel
theorem dM_grid_90 : decode cM_grid 90 = .ok (.istore_n 3, 1) := by decide +kernel
theorem dM_grid_91 : decode cM_grid 91 = .ok (.iconst 0, 1) := by decide +kernel
theorem dM_grid_92 : decode cM_grid 92 = .ok (.istore 4, 2) := by decide +kernel
theorem dM_grid_94 : decode cM_grid 94 = .ok (.iload 4, 2) := by decide +kernel
theorem dM_grid_96 : decode cM_grid 96 = .ok (.aload_n 0, 1) := by decide +kernel
theorem dM_grid_97 : decode cM_grid 97 = .ok (.getfield 95, 3) := by decide +kernel
theorem dM_grid_100 : decode cM_grid 100 = .ok (.if_icmp .ge 52, 3) := by decide +kernel
theorem dM_grid_103 : decode cM_grid 103 = .ok (.aload_n 0, 1) := by decide +kernel
theorem dM_grid_104 : decode cM_grid 104 = .ok (.getfield 13, 3) := by decide +kernel
theorem dM_grid_107 : decode cM_grid 107 = .ok (.iload 4, 2) := by decide +kernel
theorem dM_grid_109 : decode cM_grid 109 = .ok (.iaload, 1) := by decide +kernel
theorem dM_grid_110 : decode cM_grid 110 = .ok (.iload_n 1, 1) := by decide +kernel
theorem dM_grid_111 : decode cM_grid 111 = .ok (.invokestatic 183, 3) := by decide +kernel
theorem dM_grid_114 : decode cM_grid 114 = .ok (.l2i, 1) := by decide +kernel
theorem dM_grid_115 : decode cM_grid 115 = .ok (.istore 5, 2) := by decide +kernel
theorem dM_grid_117 : decode cM_grid 117 = .ok (.iload_n 3, 1) := by decide +kernel
theorem dM_grid_118 : decode cM_grid 118 = .ok (.iload 5, 2) := by decide +kernel
theorem dM_grid_120 : decode cM_grid 120 = .ok (.aload_n 0, 1) := by decide +kernel
theorem dM_grid_121 : decode cM_grid 121 = .ok (.getfield 13, 3) := by decide +kernel
theorem dM_grid_124 : decode cM_grid 124 = .ok (.iload 4, 2) := by decide +kernel
theorem dM_grid_126 : decode cM_grid 126 = .ok (.iaload, 1) := by decide +kernel
theorem dM_grid_127 : decode cM_grid 127 = .ok (.if_icmp .eq 7, 3) := by decide +kernel
theorem dM_grid_130 : decode cM_grid 130 = .ok (.iconst 1, 1) := by decide +kernel
theorem dM_grid_131 : decode cM_grid 131 = .ok (.goto 4, 3) := by decide +kernel
theorem dM_grid_134 : decode cM_grid 134 = .ok (.iconst 0, 1) := by decide +kernel
theorem dM_grid_135 : decode cM_grid 135 = .ok (.iadd, 1) := by decide +kernel
theorem dM_grid_136 : decode cM_grid 136 = .ok (.istore_n 3, 1) := by decide +kernel
theorem dM_grid_137 : decode cM_grid 137 = .ok (.aload_n 0, 1) := by decide +kernel
theorem dM_grid_138 : decode cM_grid 138 = .ok (.getfield 13, 3) := by decide +kernel
theorem dM_grid_141 : decode cM_grid 141 = .ok (.iload 4, 2) := by decide +kernel
theorem dM_grid_143 : decode cM_grid 143 = .ok (.iload 5, 2) := by decide +kernel
theorem dM_grid_145 : decode cM_grid 145 = .ok (.iastore, 1) := by decide +kernel
theorem dM_grid_146 : decode cM_grid 146 = .ok (.iinc 4 1, 3) := by decide +kernel
theorem dM_grid_149 : decode cM_grid 149 = .ok (.goto (-55), 3) := by decide +kernel
theorem dM_grid_152 : decode cM_grid 152 = .ok (.aload_n 0, 1) := by decide +kernel
theorem dM_grid_153 : decode cM_grid 153 = .ok (.invokevirtual 137, 3) := by decide +kernel
theorem dM_grid_156 : decode cM_grid 156 = .ok (.iload_n 3, 1) := by decide +kernel
theorem dM_grid_157 : decode cM_grid 157 = .ok (.ireturn, 1) := by decide +kernel
def jM_grid_135 (K94 : (Nat → Int32) → (Nat → Nat → Int32) → Int32 → Int32 → Int32 → Option (Int32 × (Nat → Int32) × (Nat → Nat → Int32))) (iv : Nat → Int32) (av : Nat → Nat → Int32) (x1 : Int32) (x4 : Int32) (x5 : Int32) (s0 : Int32) (s1 : Int32) : Option (Int32 × (Nat → Int32) × (Nat → Nat → Int32)) := if x4 < 0 ∨ 1001 ≤ x4.toNatClampNeg then none else (K94 iv (up2 av 1 x4.toNatClampNeg x5) x1 (s0 + s1) (x4 + 1))
def lM_grid_94 : Nat → (Nat → Int32) → (Nat → Nat → Int32) → Int32 → Int32 → Int32 → Option (Int32 × (Nat → Int32) × (Nat → Nat → Int32))
  | 0 => fun _ _ _ _ _ => none
  | k + 1 => fun iv av x1 x3 x4 => if (iv 10) ≤ x4 then ((fM_again iv av).bind fun (iv2, av2) => some (x3, iv2, av2)) else (if x4 < 0 ∨ 1001 ≤ x4.toNatClampNeg then none else ((fM_nearest iv av (av 1 x4.toNatClampNeg) x1).bind fun (r4, iv4, av4) => if x4 < 0 ∨ 1001 ≤ x4.toNatClampNeg then none else (if r4.toInt32 = (av4 1 x4.toNatClampNeg) then (jM_grid_135 (lM_grid_94 k) iv4 av4 x1 x4 r4.toInt32 x3 (0 : Int32)) else (jM_grid_135 (lM_grid_94 k) iv4 av4 x1 x4 r4.toInt32 x3 (1 : Int32)))))
def jM_grid_80 (iv : Nat → Int32) (av : Nat → Nat → Int32) (x1 : Int32) (x2 : Int32) (s1 : Int32) : Option (Int32 × (Nat → Int32) × (Nat → Nat → Int32)) := (fM_fails iv av s1 x2).bind fun (r1, iv1, av1) => if r1 = 0 then (lM_grid_94 FU iv1 av1 x1 (0 : Int32) (0 : Int32)) else (some ((0 : Int32), iv1, av1))
def jM_grid_67 (iv : Nat → Int32) (av : Nat → Nat → Int32) (x1 : Int32) (x2 : Int32) : Option (Int32 × (Nat → Int32) × (Nat → Nat → Int32)) := if (iv 6) = 0 then (jM_grid_80 iv av x1 x2 (1 : Int32)) else (jM_grid_80 iv av x1 x2 (0 : Int32))
def jM_grid_60 (K19 : (Nat → Int32) → (Nat → Nat → Int32) → Int32 → Int32 → Int32 → Option (Int32 × (Nat → Int32) × (Nat → Nat → Int32))) (iv : Nat → Int32) (av : Nat → Nat → Int32) (x1 : Int32) (x3 : Int32) (s0 : Int32) : Option (Int32 × (Nat → Int32) × (Nat → Nat → Int32)) := K19 iv av x1 s0 (x3 + 1)
def lM_grid_19 : Nat → (Nat → Int32) → (Nat → Nat → Int32) → Int32 → Int32 → Int32 → Option (Int32 × (Nat → Int32) × (Nat → Nat → Int32))
  | 0 => fun _ _ _ _ _ => none
  | k + 1 => fun iv av x1 x2 x3 => if (iv 10) ≤ x3 then (jM_grid_67 iv av x1 x2) else (if (iv 6) = 0 then (jM_grid_67 iv av x1 x2) else (if x2 = 0 then (if x3 < 0 ∨ 1001 ≤ x3.toNatClampNeg then none else ((fM_nearest iv av (av 1 x3.toNatClampNeg) x1).bind fun (r5, iv5, av5) => if (lg_cmp r5 (268435455 : Int64)) ≤ 0 then (jM_grid_60 (lM_grid_19 k) iv5 av5 x1 x3 (0 : Int32)) else (jM_grid_60 (lM_grid_19 k) iv5 av5 x1 x3 (1 : Int32)))) else (jM_grid_67 iv av x1 x2)))
def jM_grid_16 (iv : Nat → Int32) (av : Nat → Nat → Int32) (x1 : Int32) (s0 : Int32) : Option (Int32 × (Nat → Int32) × (Nat → Nat → Int32)) := lM_grid_19 FU iv av x1 s0 (0 : Int32)
def jM_grid_11 (iv : Nat → Int32) (av : Nat → Nat → Int32) (x1 : Int32) : Option (Int32 × (Nat → Int32) × (Nat → Nat → Int32)) := jM_grid_16 iv av x1 (1 : Int32)
def fM_grid (iv : Nat → Int32) (av : Nat → Nat → Int32) (x1 : Int32) : Option (Int32 × (Nat → Int32) × (Nat → Nat → Int32)) := if x1 < (1 : Int32) then (jM_grid_11 iv av x1) else (if x1 ≤ (100000 : Int32) then (jM_grid_16 iv av x1 (0 : Int32)) else (jM_grid_11 iv av x1))
set_option maxHeartbeats 4000000 in
set_option maxRecDepth 100000 in
theorem wM_grid_135 {p : Program} {l : Launch} {e : Env} {s : State} {m : MethodId} {args : Array Value} {below : List Frame} {meth : Method} {c : Code} {g : gT} {q : Nat} {ad : Nat → Nat} {X : va_W} {rv : Option Value} {iv' : Nat → Int32} {av' : Nat → Nat → Int32} {r' : Int32} (C : mCx p m c cM_grid 6 s args g "MidiDeskModel") (hr : meth.sig.returnType = (some .int)) (hlk : meth.locks = false) (hrv : rv = some (.int r')) {K94 : (Nat → Int32) → (Nat → Nat → Int32) → Int32 → Int32 → Int32 → Option (Int32 × (Nat → Int32) × (Nat → Nat → Int32))} (hK94 : ∀ (iv : Nat → Int32) (av : Nat → Nat → Int32) (x1 : Int32) (x3 : Int32) (x4 : Int32) (H : Heap) (locs : List Loc) (ls : Array Slot), lv_has ls 6 [(0, .ref q), (1, .int x1), (3, .int x3), (4, .int x4)] → mWd g (mA g q ad X s.heap.size) s.heap q ad X iv av H locs → K94 iv av x1 x3 x4 = some (r', iv', av') → mG p l e rM_grid s m args below meth c g q ad X rv iv' av' H locs 0 0 (F0 m 94 ls [])) (iv : Nat → Int32) (av : Nat → Nat → Int32) (x1 : Int32) (x4 : Int32) (x5 : Int32) (s0 : Int32) (s1 : Int32) (H : Heap) (locs : List Loc) (ls : Array Slot) (hl : lv_has ls 6 [(0, .ref q), (1, .int x1), (4, .int x4), (5, .int x5)]) (hw : mWd g (mA g q ad X s.heap.size) s.heap q ad X iv av H locs) (hf : jM_grid_135 K94 iv av x1 x4 x5 s0 s1 = some (r', iv', av')) : mG p l e rM_grid s m args below meth c g q ad X rv iv' av' H locs 0 0 (F0 m 135 ls [.int s1, .int s0]) := by
  unfold jM_grid_135 at hf
  refine lv_iadd C.1.1 C.1.2.1 dM_grid_135 ?_
  refine lv_istore_n (lv' := [(3, .int (s0 + s1)), (0, .ref q), (1, .int x1), (4, .int x4), (5, .int x5)]) C.1.1 C.1.2.1 dM_grid_136 rfl hl (by decide) rfl (fun ls hl => ?_)
  refine lv_aload_n C.1.1 C.1.2.1 dM_grid_137 rfl (lv_at hl 1 rfl) ?_
  refine mg_ticks C hw dM_grid_138 ?_
  refine lv_iload C.1.1 C.1.2.1 dM_grid_141 (lv_at hl 3 rfl) ?_
  refine lv_iload C.1.1 C.1.2.1 dM_grid_143 (lv_at hl 4 rfl) ?_
  obtain ⟨h1, hf⟩ := ts_g hf
  refine ms_ticks C hw h1 dM_grid_145 (fun H locs hw => ?_)
  refine lv_iinc (v := x4 + 1) (lv' := [(4, .int (x4 + 1)), (3, .int (s0 + s1)), (0, .ref q), (1, .int x1), (5, .int x5)]) C.1.1 C.1.2.1 dM_grid_146 hl (k := 3) rfl rfl (by decide) rfl (fun ls hl => ?_)
  refine lv_goto (tgt := 94) C.1.1 C.1.2.1 dM_grid_149 (by decide) ?_
  exact hK94 iv (up2 av 1 x4.toNatClampNeg x5) x1 (s0 + s1) (x4 + 1) _ _ ls (lv_sub hl [2, 3, 1, 0] rfl) hw hf
set_option maxHeartbeats 4000000 in
set_option maxRecDepth 100000 in
theorem wM_grid_94 {p : Program} {l : Launch} {e : Env} {s : State} {m : MethodId} {args : Array Value} {below : List Frame} {meth : Method} {c : Code} {g : gT} {q : Nat} {ad : Nat → Nat} {X : va_W} {rv : Option Value} {iv' : Nat → Int32} {av' : Nat → Nat → Int32} {r' : Int32} (C : mCx p m c cM_grid 6 s args g "MidiDeskModel") (hr : meth.sig.returnType = (some .int)) (hlk : meth.locks = false) (hrv : rv = some (.int r')) (k : Nat) : ∀ (iv : Nat → Int32) (av : Nat → Nat → Int32) (x1 : Int32) (x3 : Int32) (x4 : Int32) (H : Heap) (locs : List Loc) (ls : Array Slot), lv_has ls 6 [(0, .ref q), (1, .int x1), (3, .int x3), (4, .int x4)] → mWd g (mA g q ad X s.heap.size) s.heap q ad X iv av H locs → lM_grid_94 k iv av x1 x3 x4 = some (r', iv', av') → mG p l e rM_grid s m args below meth c g q ad X rv iv' av' H locs 0 0 (F0 m 94 ls []) := by
  induction k with
  | zero => intro iv av x1 x3 x4 H locs ls hl hw hf; cases hf
  | succ k ih =>
    intro iv av x1 x3 x4 H locs ls hl hw hf
    have hf : (if (iv 10) ≤ x4 then ((fM_again iv av).bind fun (iv2, av2) => some (x3, iv2, av2)) else (if x4 < 0 ∨ 1001 ≤ x4.toNatClampNeg then none else ((fM_nearest iv av (av 1 x4.toNatClampNeg) x1).bind fun (r4, iv4, av4) => if x4 < 0 ∨ 1001 ≤ x4.toNatClampNeg then none else (if r4.toInt32 = (av4 1 x4.toNatClampNeg) then (jM_grid_135 (lM_grid_94 k) iv4 av4 x1 x4 r4.toInt32 x3 (0 : Int32)) else (jM_grid_135 (lM_grid_94 k) iv4 av4 x1 x4 r4.toInt32 x3 (1 : Int32)))))) = some (r', iv', av') := hf
    refine lv_iload C.1.1 C.1.2.1 dM_grid_94 (lv_at hl 3 rfl) ?_
    refine lv_aload_n C.1.1 C.1.2.1 dM_grid_96 rfl (lv_at hl 0 rfl) ?_
    refine mg_events C hw dM_grid_97 ?_
    refine lv_icmp_ge (tgt := 152) C.1.1 C.1.2.1 dM_grid_100 (by decide) (fun c1 => ?_) (fun c1 => ?_)
    · have hf := ts_t hf c1
      refine lv_aload_n C.1.1 C.1.2.1 dM_grid_152 rfl (lv_at hl 0 rfl) ?_
      obtain ⟨⟨iv2, av2⟩, g2, hf⟩ := ts_b hf
      dsimp only at hf
      refine m_callV (rest := []) (As := []) (rv := none) C hl.1 hw (cM_again_met g2) (callW_of (rm := rM_again) 0 C.1.2.2.2.2 gw_852 gw_854 gw_36 gw_55 gw_855 kM_again ⟨Nat.le_of_ble_eq_true rfl, Nat.le_of_ble_eq_true rfl⟩) rfl rfl (Nat.le_of_ble_eq_true rfl) dM_grid_153 ⟨Nat.le_of_ble_eq_true rfl, Nat.le_of_ble_eq_true rfl⟩ (fun H locs hw => ?_)
      refine W.eq (g2 := F0 m 156 ls []) rfl ?_
      refine lv_iload_n C.1.1 C.1.2.1 dM_grid_156 rfl (lv_at hl 2 rfl) ?_
      exact m_reti C hr hlk hrv hw hf ⟨Nat.le_of_ble_eq_true rfl, Nat.le_of_ble_eq_true rfl⟩ dM_grid_157
    · have hf := ts_f hf c1
      refine lv_aload_n C.1.1 C.1.2.1 dM_grid_103 rfl (lv_at hl 0 rfl) ?_
      refine mg_ticks C hw dM_grid_104 ?_
      refine lv_iload C.1.1 C.1.2.1 dM_grid_107 (lv_at hl 3 rfl) ?_
      obtain ⟨h3, hf⟩ := ts_g hf
      refine ma_ticks C hw h3 dM_grid_109 ?_
      refine lv_iload_n C.1.1 C.1.2.1 dM_grid_110 rfl (lv_at hl 1 rfl) ?_
      obtain ⟨⟨r4, iv4, av4⟩, g4, hf⟩ := ts_b hf
      dsimp only at hf
      refine m_callS (rest := []) (As := [.int (av 1 x4.toNatClampNeg), .int x1]) (rv := (some (.long r4))) C hl.1 hw (cM_nearest_met g4) (callS_of (rm := rM_nearest) 2 C.1.2.2.2.2 gw_927 gw_928 gw_55 gw_929 kM_nearest ⟨Nat.le_of_ble_eq_true rfl, Nat.le_of_ble_eq_true rfl⟩) rfl rfl (Nat.le_of_ble_eq_true rfl) dM_grid_111 ⟨Nat.le_of_ble_eq_true rfl, Nat.le_of_ble_eq_true rfl⟩ (fun H locs hw => ?_)
      refine W.eq (g2 := F0 m 114 ls [.long r4]) rfl ?_
      refine lv_l2i C.1.1 C.1.2.1 dM_grid_114 rfl ?_
      refine lv_istore (lv' := [(5, .int r4.toInt32), (0, .ref q), (1, .int x1), (3, .int x3), (4, .int x4)]) C.1.1 C.1.2.1 dM_grid_115 hl (by decide) rfl (fun ls hl => ?_)
      refine lv_iload_n C.1.1 C.1.2.1 dM_grid_117 rfl (lv_at hl 3 rfl) ?_
      refine lv_iload C.1.1 C.1.2.1 dM_grid_118 (lv_at hl 0 rfl) ?_
      refine lv_aload_n C.1.1 C.1.2.1 dM_grid_120 rfl (lv_at hl 1 rfl) ?_
      refine mg_ticks C hw dM_grid_121 ?_
      refine lv_iload C.1.1 C.1.2.1 dM_grid_124 (lv_at hl 4 rfl) ?_
      obtain ⟨h5, hf⟩ := ts_g hf
      refine ma_ticks C hw h5 dM_grid_126 ?_
      refine lv_icmp_eq (tgt := 134) C.1.1 C.1.2.1 dM_grid_127 (by decide) (fun c6 => ?_) (fun c6 => ?_)
      · have hf := ts_t hf c6
        refine lv_iconst (v := (0 : Int32)) C.1.1 C.1.2.1 dM_grid_134 (by decide) ?_
        exact wM_grid_135 C hr hlk hrv ih iv4 av4 x1 x4 r4.toInt32 x3 (0 : Int32) _ _ ls (lv_sub hl [1, 2, 4, 0] rfl) hw hf
      · have hf := ts_f hf c6
        refine lv_iconst (v := (1 : Int32)) C.1.1 C.1.2.1 dM_grid_130 (by decide) ?_
        refine lv_goto (tgt := 135) C.1.1 C.1.2.1 dM_grid_131 (by decide) ?_
        exact wM_grid_135 C hr hlk hrv ih iv4 av4 x1 x4 r4.toInt32 x3 (1 : Int32) _ _ ls (lv_sub hl [1, 2, 4, 0] rfl) hw hf
set_option maxHeartbeats 4000000 in
set_option maxRecDepth 100000 in
theorem wM_grid_80 {p : Program} {l : Launch} {e : Env} {s : State} {m : MethodId} {args : Array Value} {below : List Frame} {meth : Method} {c : Code} {g : gT} {q : Nat} {ad : Nat → Nat} {X : va_W} {rv : Option Value} {iv' : Nat → Int32} {av' : Nat → Nat → Int32} {r' : Int32} (C : mCx p m c cM_grid 6 s args g "MidiDeskModel") (hr : meth.sig.returnType = (some .int)) (hlk : meth.locks = false) (hrv : rv = some (.int r')) (iv : Nat → Int32) (av : Nat → Nat → Int32) (x1 : Int32) (x2 : Int32) (s1 : Int32) (H : Heap) (locs : List Loc) (ls : Array Slot) (hl : lv_has ls 6 [(0, .ref q), (1, .int x1), (2, .int x2)]) (hw : mWd g (mA g q ad X s.heap.size) s.heap q ad X iv av H locs) (hf : jM_grid_80 iv av x1 x2 s1 = some (r', iv', av')) : mG p l e rM_grid s m args below meth c g q ad X rv iv' av' H locs 0 0 (F0 m 80 ls [.int s1, .ref q]) := by
  unfold jM_grid_80 at hf
  refine lv_iload_n C.1.1 C.1.2.1 dM_grid_80 rfl (lv_at hl 2 rfl) ?_
  obtain ⟨⟨r1, iv1, av1⟩, g1, hf⟩ := ts_b hf
  dsimp only at hf
  refine m_callV (rest := []) (As := [.int s1, .int x2]) (rv := (some (.int r1))) C hl.1 hw (cM_fails_met g1) (callW_of (rm := rM_fails) 2 C.1.2.2.2.2 gw_877 gw_879 gw_39 gw_55 gw_880 kM_fails ⟨Nat.le_of_ble_eq_true rfl, Nat.le_of_ble_eq_true rfl⟩) rfl rfl (Nat.le_of_ble_eq_true rfl) dM_grid_81 ⟨Nat.le_of_ble_eq_true rfl, Nat.le_of_ble_eq_true rfl⟩ (fun H locs hw => ?_)
  refine W.eq (g2 := F0 m 84 ls [.int r1]) rfl ?_
  refine lv_if_eq (tgt := 89) C.1.1 C.1.2.1 dM_grid_84 (by decide) (fun c2 => ?_) (fun c2 => ?_)
  · have hf := ts_t hf c2
    refine lv_iconst (v := (0 : Int32)) C.1.1 C.1.2.1 dM_grid_89 (by decide) ?_
    refine lv_istore_n (lv' := [(3, .int (0 : Int32)), (0, .ref q), (1, .int x1), (2, .int x2)]) C.1.1 C.1.2.1 dM_grid_90 rfl hl (by decide) rfl (fun ls hl => ?_)
    refine lv_iconst (v := (0 : Int32)) C.1.1 C.1.2.1 dM_grid_91 (by decide) ?_
    refine lv_istore (lv' := [(4, .int (0 : Int32)), (3, .int (0 : Int32)), (0, .ref q), (1, .int x1), (2, .int x2)]) C.1.1 C.1.2.1 dM_grid_92 hl (by decide) rfl (fun ls hl => ?_)
    exact wM_grid_94 C hr hlk hrv FU iv1 av1 x1 (0 : Int32) (0 : Int32) _ _ ls (lv_sub hl [2, 3, 1, 0] rfl) hw hf
  · have hf := ts_f hf c2
    refine lv_iconst (v := (0 : Int32)) C.1.1 C.1.2.1 dM_grid_87 (by decide) ?_
    exact m_reti C hr hlk hrv hw hf ⟨Nat.le_of_ble_eq_true rfl, Nat.le_of_ble_eq_true rfl⟩ dM_grid_88
set_option maxHeartbeats 4000000 in
set_option maxRecDepth 100000 in
theorem wM_grid_67 {p : Program} {l : Launch} {e : Env} {s : State} {m : MethodId} {args : Array Value} {below : List Frame} {meth : Method} {c : Code} {g : gT} {q : Nat} {ad : Nat → Nat} {X : va_W} {rv : Option Value} {iv' : Nat → Int32} {av' : Nat → Nat → Int32} {r' : Int32} (C : mCx p m c cM_grid 6 s args g "MidiDeskModel") (hr : meth.sig.returnType = (some .int)) (hlk : meth.locks = false) (hrv : rv = some (.int r')) (iv : Nat → Int32) (av : Nat → Nat → Int32) (x1 : Int32) (x2 : Int32) (H : Heap) (locs : List Loc) (ls : Array Slot) (hl : lv_has ls 6 [(0, .ref q), (1, .int x1), (2, .int x2)]) (hw : mWd g (mA g q ad X s.heap.size) s.heap q ad X iv av H locs) (hf : jM_grid_67 iv av x1 x2 = some (r', iv', av')) : mG p l e rM_grid s m args below meth c g q ad X rv iv' av' H locs 0 0 (F0 m 67 ls []) := by
  unfold jM_grid_67 at hf
  refine lv_aload_n C.1.1 C.1.2.1 dM_grid_67 rfl (lv_at hl 0 rfl) ?_
  refine lv_aload_n C.1.1 C.1.2.1 dM_grid_68 rfl (lv_at hl 0 rfl) ?_
  refine mg_there C hw dM_grid_69 ?_
  refine lv_if_ne (tgt := 79) C.1.1 C.1.2.1 dM_grid_72 (by decide) (fun c1 => ?_) (fun c1 => ?_)
  · have hf := ts_f hf c1
    refine lv_iconst (v := (0 : Int32)) C.1.1 C.1.2.1 dM_grid_79 (by decide) ?_
    exact wM_grid_80 C hr hlk hrv iv av x1 x2 (0 : Int32) _ _ ls (lv_sub hl [0, 1, 2] rfl) hw hf
  · have hf := ts_t hf c1
    refine lv_iconst (v := (1 : Int32)) C.1.1 C.1.2.1 dM_grid_75 (by decide) ?_
    refine lv_goto (tgt := 80) C.1.1 C.1.2.1 dM_grid_76 (by decide) ?_
    exact wM_grid_80 C hr hlk hrv iv av x1 x2 (1 : Int32) _ _ ls (lv_sub hl [0, 1, 2] rfl) hw hf
set_option maxHeartbeats 4000000 in
set_option maxRecDepth 100000 in
theorem wM_grid_60 {p : Program} {l : Launch} {e : Env} {s : State} {m : MethodId} {args : Array Value} {below : List Frame} {meth : Method} {c : Code} {g : gT} {q : Nat} {ad : Nat → Nat} {X : va_W} {rv : Option Value} {iv' : Nat → Int32} {av' : Nat → Nat → Int32} {r' : Int32} (C : mCx p m c cM_grid 6 s args g "MidiDeskModel") (hr : meth.sig.returnType = (some .int)) (hlk : meth.locks = false) (hrv : rv = some (.int r')) {K19 : (Nat → Int32) → (Nat → Nat → Int32) → Int32 → Int32 → Int32 → Option (Int32 × (Nat → Int32) × (Nat → Nat → Int32))} (hK19 : ∀ (iv : Nat → Int32) (av : Nat → Nat → Int32) (x1 : Int32) (x2 : Int32) (x3 : Int32) (H : Heap) (locs : List Loc) (ls : Array Slot), lv_has ls 6 [(0, .ref q), (1, .int x1), (2, .int x2), (3, .int x3)] → mWd g (mA g q ad X s.heap.size) s.heap q ad X iv av H locs → K19 iv av x1 x2 x3 = some (r', iv', av') → mG p l e rM_grid s m args below meth c g q ad X rv iv' av' H locs 0 0 (F0 m 19 ls [])) (iv : Nat → Int32) (av : Nat → Nat → Int32) (x1 : Int32) (x3 : Int32) (s0 : Int32) (H : Heap) (locs : List Loc) (ls : Array Slot) (hl : lv_has ls 6 [(0, .ref q), (1, .int x1), (3, .int x3)]) (hw : mWd g (mA g q ad X s.heap.size) s.heap q ad X iv av H locs) (hf : jM_grid_60 K19 iv av x1 x3 s0 = some (r', iv', av')) : mG p l e rM_grid s m args below meth c g q ad X rv iv' av' H locs 0 0 (F0 m 60 ls [.int s0]) := by
  unfold jM_grid_60 at hf
  refine lv_istore_n (lv' := [(2, .int s0), (0, .ref q), (1, .int x1), (3, .int x3)]) C.1.1 C.1.2.1 dM_grid_60 rfl hl (by decide) rfl (fun ls hl => ?_)
  refine lv_iinc (v := x3 + 1) (lv' := [(3, .int (x3 + 1)), (2, .int s0), (0, .ref q), (1, .int x1)]) C.1.1 C.1.2.1 dM_grid_61 hl (k := 3) rfl rfl (by decide) rfl (fun ls hl => ?_)
  refine lv_goto (tgt := 19) C.1.1 C.1.2.1 dM_grid_64 (by decide) ?_
  exact hK19 iv av x1 s0 (x3 + 1) _ _ ls (lv_sub hl [2, 3, 1, 0] rfl) hw hf
set_option maxHeartbeats 4000000 in
set_option maxRecDepth 100000 in
theorem wM_grid_19 {p : Program} {l : Launch} {e : Env} {s : State} {m : MethodId} {args : Array Value} {below : List Frame} {meth : Method} {c : Code} {g : gT} {q : Nat} {ad : Nat → Nat} {X : va_W} {rv : Option Value} {iv' : Nat → Int32} {av' : Nat → Nat → Int32} {r' : Int32} (C : mCx p m c cM_grid 6 s args g "MidiDeskModel") (hr : meth.sig.returnType = (some .int)) (hlk : meth.locks = false) (hrv : rv = some (.int r')) (k : Nat) : ∀ (iv : Nat → Int32) (av : Nat → Nat → Int32) (x1 : Int32) (x2 : Int32) (x3 : Int32) (H : Heap) (locs : List Loc) (ls : Array Slot), lv_has ls 6 [(0, .ref q), (1, .int x1), (2, .int x2), (3, .int x3)] → mWd g (mA g q ad X s.heap.size) s.heap q ad X iv av H locs → lM_grid_19 k iv av x1 x2 x3 = some (r', iv', av') → mG p l e rM_grid s m args below meth c g q ad X rv iv' av' H locs 0 0 (F0 m 19 ls []) := by
  induction k with
  | zero => intro iv av x1 x2 x3 H locs ls hl hw hf; cases hf
  | succ k ih =>
    intro iv av x1 x2 x3 H locs ls hl hw hf
    have hf : (if (iv 10) ≤ x3 then (jM_grid_67 iv av x1 x2) else (if (iv 6) = 0 then (jM_grid_67 iv av x1 x2) else (if x2 = 0 then (if x3 < 0 ∨ 1001 ≤ x3.toNatClampNeg then none else ((fM_nearest iv av (av 1 x3.toNatClampNeg) x1).bind fun (r5, iv5, av5) => if (lg_cmp r5 (268435455 : Int64)) ≤ 0 then (jM_grid_60 (lM_grid_19 k) iv5 av5 x1 x3 (0 : Int32)) else (jM_grid_60 (lM_grid_19 k) iv5 av5 x1 x3 (1 : Int32)))) else (jM_grid_67 iv av x1 x2)))) = some (r', iv', av') := hf
    refine lv_iload_n C.1.1 C.1.2.1 dM_grid_19 rfl (lv_at hl 3 rfl) ?_
    refine lv_aload_n C.1.1 C.1.2.1 dM_grid_20 rfl (lv_at hl 0 rfl) ?_
    refine mg_events C hw dM_grid_21 ?_
    refine lv_icmp_ge (tgt := 67) C.1.1 C.1.2.1 dM_grid_24 (by decide) (fun c1 => ?_) (fun c1 => ?_)
    · have hf := ts_t hf c1
      exact wM_grid_67 C hr hlk hrv iv av x1 x2 _ _ ls (lv_sub hl [0, 1, 2] rfl) hw hf
    · have hf := ts_f hf c1
      refine lv_aload_n C.1.1 C.1.2.1 dM_grid_27 rfl (lv_at hl 0 rfl) ?_
      refine mg_there C hw dM_grid_28 ?_
      refine lv_if_eq (tgt := 67) C.1.1 C.1.2.1 dM_grid_31 (by decide) (fun c2 => ?_) (fun c2 => ?_)
      · have hf := ts_t hf c2
        exact wM_grid_67 C hr hlk hrv iv av x1 x2 _ _ ls (lv_sub hl [0, 1, 2] rfl) hw hf
      · have hf := ts_f hf c2
        refine lv_iload_n C.1.1 C.1.2.1 dM_grid_34 rfl (lv_at hl 2 rfl) ?_
        refine lv_if_ne (tgt := 67) C.1.1 C.1.2.1 dM_grid_35 (by decide) (fun c3 => ?_) (fun c3 => ?_)
        · have hf := ts_f hf c3
          exact wM_grid_67 C hr hlk hrv iv av x1 x2 _ _ ls (lv_sub hl [0, 1, 2] rfl) hw hf
        · have hf := ts_t hf c3
          refine lv_aload_n C.1.1 C.1.2.1 dM_grid_38 rfl (lv_at hl 0 rfl) ?_
          refine mg_ticks C hw dM_grid_39 ?_
          refine lv_iload_n C.1.1 C.1.2.1 dM_grid_42 rfl (lv_at hl 3 rfl) ?_
          obtain ⟨h4, hf⟩ := ts_g hf
          refine ma_ticks C hw h4 dM_grid_43 ?_
          refine lv_iload_n C.1.1 C.1.2.1 dM_grid_44 rfl (lv_at hl 1 rfl) ?_
          obtain ⟨⟨r5, iv5, av5⟩, g5, hf⟩ := ts_b hf
          dsimp only at hf
          refine m_callS (rest := []) (As := [.int (av 1 x3.toNatClampNeg), .int x1]) (rv := (some (.long r5))) C hl.1 hw (cM_nearest_met g5) (callS_of (rm := rM_nearest) 2 C.1.2.2.2.2 gw_927 gw_928 gw_55 gw_929 kM_nearest ⟨Nat.le_of_ble_eq_true rfl, Nat.le_of_ble_eq_true rfl⟩) rfl rfl (Nat.le_of_ble_eq_true rfl) dM_grid_45 ⟨Nat.le_of_ble_eq_true rfl, Nat.le_of_ble_eq_true rfl⟩ (fun H locs hw => ?_)
          refine W.eq (g2 := F0 m 48 ls [.long r5]) rfl ?_
          refine lv_ldc2 C.1.1 C.1.2.1 C.1.2.2.2.1 (C.1.2.2.2.2 _ gw_831) dM_grid_48 ?_
          refine W.lcmp C.1.1 C.1.2.1 dM_grid_51 ?_
          refine lv_if_le (tgt := 59) C.1.1 C.1.2.1 dM_grid_52 (by decide) (fun c6 => ?_) (fun c6 => ?_)
          · have hf := ts_t hf c6
            refine lv_iconst (v := (0 : Int32)) C.1.1 C.1.2.1 dM_grid_59 (by decide) ?_
            exact wM_grid_60 C hr hlk hrv ih iv5 av5 x1 x3 (0 : Int32) _ _ ls (lv_sub hl [0, 1, 3] rfl) hw hf
          · have hf := ts_f hf c6
            refine lv_iconst (v := (1 : Int32)) C.1.1 C.1.2.1 dM_grid_55 (by decide) ?_
            refine lv_goto (tgt := 60) C.1.1 C.1.2.1 dM_grid_56 (by decide) ?_
            exact wM_grid_60 C hr hlk hrv ih iv5 av5 x1 x3 (1 : Int32) _ _ ls (lv_sub hl [0, 1, 3] rfl) hw hf
set_option maxHeartbeats 4000000 in
set_option maxRecDepth 100000 in
theorem wM_grid_16 {p : Program} {l : Launch} {e : Env} {s : State} {m : MethodId} {args : Array Value} {below : List Frame} {meth : Method} {c : Code} {g : gT} {q : Nat} {ad : Nat → Nat} {X : va_W} {rv : Option Value} {iv' : Nat → Int32} {av' : Nat → Nat → Int32} {r' : Int32} (C : mCx p m c cM_grid 6 s args g "MidiDeskModel") (hr : meth.sig.returnType = (some .int)) (hlk : meth.locks = false) (hrv : rv = some (.int r')) (iv : Nat → Int32) (av : Nat → Nat → Int32) (x1 : Int32) (s0 : Int32) (H : Heap) (locs : List Loc) (ls : Array Slot) (hl : lv_has ls 6 [(0, .ref q), (1, .int x1)]) (hw : mWd g (mA g q ad X s.heap.size) s.heap q ad X iv av H locs) (hf : jM_grid_16 iv av x1 s0 = some (r', iv', av')) : mG p l e rM_grid s m args below meth c g q ad X rv iv' av' H locs 0 0 (F0 m 16 ls [.int s0]) := by
  unfold jM_grid_16 at hf
  refine lv_istore_n (lv' := [(2, .int s0), (0, .ref q), (1, .int x1)]) C.1.1 C.1.2.1 dM_grid_16 rfl hl (by decide) rfl (fun ls hl => ?_)
  refine lv_iconst (v := (0 : Int32)) C.1.1 C.1.2.1 dM_grid_17 (by decide) ?_
  refine lv_istore_n (lv' := [(3, .int (0 : Int32)), (2, .int s0), (0, .ref q), (1, .int x1)]) C.1.1 C.1.2.1 dM_grid_18 rfl hl (by decide) rfl (fun ls hl => ?_)
  exact wM_grid_19 C hr hlk hrv FU iv av x1 s0 (0 : Int32) _ _ ls (lv_sub hl [2, 3, 1, 0] rfl) hw hf
set_option maxHeartbeats 4000000 in
set_option maxRecDepth 100000 in
theorem wM_grid_11 {p : Program} {l : Launch} {e : Env} {s : State} {m : MethodId} {args : Array Value} {below : List Frame} {meth : Method} {c : Code} {g : gT} {q : Nat} {ad : Nat → Nat} {X : va_W} {rv : Option Value} {iv' : Nat → Int32} {av' : Nat → Nat → Int32} {r' : Int32} (C : mCx p m c cM_grid 6 s args g "MidiDeskModel") (hr : meth.sig.returnType = (some .int)) (hlk : meth.locks = false) (hrv : rv = some (.int r')) (iv : Nat → Int32) (av : Nat → Nat → Int32) (x1 : Int32) (H : Heap) (locs : List Loc) (ls : Array Slot) (hl : lv_has ls 6 [(0, .ref q), (1, .int x1)]) (hw : mWd g (mA g q ad X s.heap.size) s.heap q ad X iv av H locs) (hf : jM_grid_11 iv av x1 = some (r', iv', av')) : mG p l e rM_grid s m args below meth c g q ad X rv iv' av' H locs 0 0 (F0 m 11 ls []) := by
  unfold jM_grid_11 at hf
  refine lv_iconst (v := (1 : Int32)) C.1.1 C.1.2.1 dM_grid_11 (by decide) ?_
  refine lv_goto (tgt := 16) C.1.1 C.1.2.1 dM_grid_12 (by decide) ?_
  exact wM_grid_16 C hr hlk hrv iv av x1 (1 : Int32) _ _ ls (lv_sub hl [0, 1] rfl) hw hf
set_option maxHeartbeats 4000000 in
set_option maxRecDepth 100000 in
theorem cM_grid_met {l : Launch} {g : gT} {q : Nat} {ad : Nat → Nat} {X : va_W} {iv iv' : Nat → Int32} {av av' : Nat → Nat → Int32} {x1 : Int32} {r' : Int32} (hf : fM_grid iv av x1 = some (r', iv', av')) : mMet l yM_grid cM_grid 6 (some .int) rM_grid g q ad X iv av [.ref q, .int x1] (some (.int r')) iv' av' := by
  refine m_entry (by decide) (Nat.le_of_ble_eq_true rfl) ?_
  intro p e s m args below meth c ls C hr hlk hnm hl hw
  have hrv : ((some (.int r')) : Option Value) = (some (.int r')) := rfl
  have C : mCx p m c cM_grid 6 s args g "MidiDeskModel" := C
  have hl : lv_has ls 6 [(0, .ref q), (1, .int x1)] := hl
  unfold fM_grid at hf
  refine lv_iload_n C.1.1 C.1.2.1 dM_grid_0 rfl (lv_at hl 1 rfl) ?_
  refine lv_iconst (v := (1 : Int32)) C.1.1 C.1.2.1 dM_grid_1 (by decide) ?_
  refine lv_icmp_lt (tgt := 11) C.1.1 C.1.2.1 dM_grid_2 (by decide) (fun c1 => ?_) (fun c1 => ?_)
  · have hf := ts_t hf c1
    exact wM_grid_11 C hr hlk hrv iv av x1 _ _ ls (lv_sub hl [0, 1] rfl) hw hf
  · have hf := ts_f hf c1
    refine lv_iload_n C.1.1 C.1.2.1 dM_grid_5 rfl (lv_at hl 1 rfl) ?_
    refine lv_ldc C.1.1 C.1.2.1 C.1.2.2.2.1 (C.1.2.2.2.2 _ gw_926) dM_grid_6 ?_
    refine lv_icmp_le (tgt := 15) C.1.1 C.1.2.1 dM_grid_8 (by decide) (fun c2 => ?_) (fun c2 => ?_)
    · have hf := ts_t hf c2
      refine lv_iconst (v := (0 : Int32)) C.1.1 C.1.2.1 dM_grid_15 (by decide) ?_
      exact wM_grid_16 C hr hlk hrv iv av x1 (0 : Int32) _ _ ls (lv_sub hl [0, 1] rfl) hw hf
    · have hf := ts_f hf c2
      exact wM_grid_11 C hr hlk hrv iv av x1 _ _ ls (lv_sub hl [0, 1] rfl) hw hf
abbrev cM_put : ByteArray := prog_8_method_35_code
abbrev yM_put : MethodName := ⟨"MidiDeskModel", "put", "(I)V"⟩
theorem kM_put : yM_put.cls ≠ "java/lang/invoke/MethodHandle" ∧ yM_put.cls ≠ "java/lang/invoke/VarHandle" ∧ (parseMethodDescriptor yM_put.desc).map (fun d => d.parameters.length) = some 1 := by decide +kernel
abbrev rM_put : Room := { frames := 0, cells := 0, slots := 0, locals := 0 }
theorem dM_put_0 : decode cM_put 0 = .ok (.aload_n 0, 1) := by decide +kernel
theorem dM_put_1 : decode cM_put 1 = .ok (.getfield 44, 3) := by decide +kernel
theorem dM_put_4 : decode cM_put 4 = .ok (.aload_n 0, 1) := by decide +kernel
theorem dM_put_5 : decode cM_put 5 = .ok (.getfield 187, 3) := by decide +kernel
theorem dM_put_8 : decode cM_put 8 = .ok (.iload_n 1, 1) := by decide +kernel
theorem dM_put_9 : decode cM_put 9 = .ok (.iastore, 1) := by decide +kernel
theorem dM_put_10 : decode cM_put 10 = .ok (.aload_n 0, 1) := by decide +kernel
theorem dM_put_11 : decode cM_put 11 = .ok (.dup, 1) := by decide +kernel
theorem dM_put_12 : decode cM_put 12 = .ok (.getfield 187, 3) := by decide +kernel
theorem dM_put_15 : decode cM_put 15 = .ok (.iconst 1, 1) := by decide +kernel
theorem dM_put_16 : decode cM_put 16 = .ok (.iadd, 1) := by decide +kernel
theorem dM_put_17 : decode cM_put 17 = .ok (.putfield 187, 3) := by decide +kernel
theorem dM_put_20 : decode cM_put 20 = .ok (.return_, 1) := by decide +kernel
def fM_put (iv : Nat → Int32) (av : Nat → Nat → Int32) (x1 : Int32) : Option ((Nat → Int32) × (Nat → Nat → Int32)) := if (iv 12) < 0 ∨ 32768 ≤ (iv 12).toNatClampNeg then none else (some (upd iv 12 ((iv 12) + (1 : Int32)), up2 av 11 (iv 12).toNatClampNeg x1))
set_option maxHeartbeats 4000000 in
set_option maxRecDepth 100000 in
theorem cM_put_met {l : Launch} {g : gT} {q : Nat} {ad : Nat → Nat} {X : va_W} {iv iv' : Nat → Int32} {av av' : Nat → Nat → Int32} {x1 : Int32} (hf : fM_put iv av x1 = some (iv', av')) : mMet l yM_put cM_put 2 none rM_put g q ad X iv av [.ref q, .int x1] none iv' av' := by
  refine m_entry (by decide) (Nat.le_of_ble_eq_true rfl) ?_
  intro p e s m args below meth c ls C hr hlk hnm hl hw
  have hrv : (none : Option Value) = none := rfl
  have C : mCx p m c cM_put 2 s args g "MidiDeskModel" := C
  have hl : lv_has ls 2 [(0, .ref q), (1, .int x1)] := hl
  unfold fM_put at hf
  refine lv_aload_n C.1.1 C.1.2.1 dM_put_0 rfl (lv_at hl 0 rfl) ?_
  refine mg_written C hw dM_put_1 ?_
  refine lv_aload_n C.1.1 C.1.2.1 dM_put_4 rfl (lv_at hl 0 rfl) ?_
  refine mg_writtenSize C hw dM_put_5 ?_
  refine lv_iload_n C.1.1 C.1.2.1 dM_put_8 rfl (lv_at hl 1 rfl) ?_
  obtain ⟨h1, hf⟩ := ts_g hf
  refine ms_written C hw h1 dM_put_9 (fun H locs hw => ?_)
  refine lv_aload_n C.1.1 C.1.2.1 dM_put_10 rfl (lv_at hl 0 rfl) ?_
  refine lv_dup C.1.1 C.1.2.1 dM_put_11 rfl ?_
  refine mg_writtenSize C hw dM_put_12 ?_
  refine lv_iconst (v := (1 : Int32)) C.1.1 C.1.2.1 dM_put_15 (by decide) ?_
  refine lv_iadd C.1.1 C.1.2.1 dM_put_16 ?_
  refine mp_writtenSize C hw dM_put_17 (fun H locs hw => ?_)
  exact m_retv C hr hlk hrv hw hf ⟨Nat.le_of_ble_eq_true rfl, Nat.le_of_ble_eq_true rfl⟩ dM_put_20
abbrev cM_puts : ByteArray := prog_8_method_36_code
abbrev yM_puts : MethodName := ⟨"MidiDeskModel", "put", "(II)V"⟩
theorem kM_puts : yM_puts.cls ≠ "java/lang/invoke/MethodHandle" ∧ yM_puts.cls ≠ "java/lang/invoke/VarHandle" ∧ (parseMethodDescriptor yM_puts.desc).map (fun d => d.parameters.length) = some 2 := by decide +kernel
abbrev rM_puts : Room := { frames := 1, cells := 0, slots := 0, locals := 21 }
theorem dM_puts_0 : decode cM_puts 0 = .ok (.iload_n 2, 1) := by decide +kernel
theorem dM_puts_1 : decode cM_puts 1 = .ok (.iconst 1, 1) := by decide +kernel
theorem dM_puts_2 : decode cM_puts 2 = .ok (.isub, 1) := by decide +kernel
theorem dM_puts_3 : decode cM_puts 3 = .ok (.istore_n 3, 1) := by decide +kernel
theorem dM_puts_4 : decode cM_puts 4 = .ok (.iload_n 3, 1) := by decide +kernel
theorem dM_puts_5 : decode cM_puts 5 = .ok (.ifCond .lt 23, 3) := by decide +kernel
theorem dM_puts_8 : decode cM_puts 8 = .ok (.aload_n 0, 1) := by decide +kernel
theorem dM_puts_9 : decode cM_puts 9 = .ok (.iload_n 1, 1) := by decide +kernel
theorem dM_puts_10 : decode cM_puts 10 = .ok (.bipush 8, 2) := by decide +kernel
theorem dM_puts_12 : decode cM_puts 12 = .ok (.iload_n 3, 1) := by decide +kernel
theorem dM_puts_13 : decode cM_puts 13 = .ok (.imul, 1) := by decide +kernel
theorem dM_puts_14 : decode cM_puts 14 = .ok (.ishr, 1) := by decide +kernel
theorem dM_puts_15 : decode cM_puts 15 = .ok (.sipush 255, 3) := by decide +kernel
theorem dM_puts_18 : decode cM_puts 18 = .ok (.iand, 1) := by decide +kernel
theorem dM_puts_19 : decode cM_puts 19 = .ok (.invokevirtual 190, 3) := by decide +kernel
theorem dM_puts_22 : decode cM_puts 22 = .ok (.iinc 3 (-1), 3) := by decide +kernel
theorem dM_puts_25 : decode cM_puts 25 = .ok (.goto (-21), 3) := by decide +kernel
theorem dM_puts_28 : decode cM_puts 28 = .ok (.return_, 1) := by decide +kernel
def lM_puts_4 : Nat → (Nat → Int32) → (Nat → Nat → Int32) → Int32 → Int32 → Option ((Nat → Int32) × (Nat → Nat → Int32))
  | 0 => fun _ _ _ _ => none
  | k + 1 => fun iv av x1 x3 => if x3 < 0 then (some (iv, av)) else ((fM_put iv av ((x1 >>> (((8 : Int32) * x3) &&& 31)) &&& (255 : Int32))).bind fun (iv2, av2) => lM_puts_4 k iv2 av2 x1 (x3 + (-1)))
def fM_puts (iv : Nat → Int32) (av : Nat → Nat → Int32) (x1 : Int32) (x2 : Int32) : Option ((Nat → Int32) × (Nat → Nat → Int32)) := lM_puts_4 FU iv av x1 (x2 - (1 : Int32))
set_option maxHeartbeats 4000000 in
set_option maxRecDepth 100000 in
theorem wM_puts_4 {p : Program} {l : Launch} {e : Env} {s : State} {m : MethodId} {args : Array Value} {below : List Frame} {meth : Method} {c : Code} {g : gT} {q : Nat} {ad : Nat → Nat} {X : va_W} {rv : Option Value} {iv' : Nat → Int32} {av' : Nat → Nat → Int32} (C : mCx p m c cM_puts 4 s args g "MidiDeskModel") (hr : meth.sig.returnType = none) (hlk : meth.locks = false) (hrv : rv = none) (k : Nat) : ∀ (iv : Nat → Int32) (av : Nat → Nat → Int32) (x1 : Int32) (x3 : Int32) (H : Heap) (locs : List Loc) (ls : Array Slot), lv_has ls 4 [(0, .ref q), (1, .int x1), (3, .int x3)] → mWd g (mA g q ad X s.heap.size) s.heap q ad X iv av H locs → lM_puts_4 k iv av x1 x3 = some (iv', av') → mG p l e rM_puts s m args below meth c g q ad X rv iv' av' H locs 0 0 (F0 m 4 ls []) := by
  induction k with
  | zero => intro iv av x1 x3 H locs ls hl hw hf; cases hf
  | succ k ih =>
    intro iv av x1 x3 H locs ls hl hw hf
    have hf : (if x3 < 0 then (some (iv, av)) else ((fM_put iv av ((x1 >>> (((8 : Int32) * x3) &&& 31)) &&& (255 : Int32))).bind fun (iv2, av2) => lM_puts_4 k iv2 av2 x1 (x3 + (-1)))) = some (iv', av') := hf
    refine lv_iload_n C.1.1 C.1.2.1 dM_puts_4 rfl (lv_at hl 2 rfl) ?_
    refine lv_if_lt (tgt := 28) C.1.1 C.1.2.1 dM_puts_5 (by decide) (fun c1 => ?_) (fun c1 => ?_)
    · have hf := ts_t hf c1
      exact m_retv C hr hlk hrv hw hf ⟨Nat.le_of_ble_eq_true rfl, Nat.le_of_ble_eq_true rfl⟩ dM_puts_28
    · have hf := ts_f hf c1
      refine lv_aload_n C.1.1 C.1.2.1 dM_puts_8 rfl (lv_at hl 0 rfl) ?_
      refine lv_iload_n C.1.1 C.1.2.1 dM_puts_9 rfl (lv_at hl 1 rfl) ?_
      refine lv_bipush (v := (8 : Int32)) C.1.1 C.1.2.1 dM_puts_10 (by decide) ?_
      refine lv_iload_n C.1.1 C.1.2.1 dM_puts_12 rfl (lv_at hl 2 rfl) ?_
      refine lv_imul C.1.1 C.1.2.1 dM_puts_13 ?_
      refine lv_ishr C.1.1 C.1.2.1 dM_puts_14 ?_
      refine lv_sipush (v := (255 : Int32)) C.1.1 C.1.2.1 dM_puts_15 (by decide) ?_
      refine lv_iand C.1.1 C.1.2.1 dM_puts_18 ?_
      obtain ⟨⟨iv2, av2⟩, g2, hf⟩ := ts_b hf
      dsimp only at hf
      refine m_callV (rest := []) (As := [.int ((x1 >>> (((8 : Int32) * x3) &&& 31)) &&& (255 : Int32))]) (rv := none) C hl.1 hw (cM_put_met g2) (callW_of (rm := rM_put) 1 C.1.2.2.2.2 gw_944 gw_946 gw_47 gw_55 gw_947 kM_put ⟨Nat.le_of_ble_eq_true rfl, Nat.le_of_ble_eq_true rfl⟩) rfl rfl (Nat.le_of_ble_eq_true rfl) dM_puts_19 ⟨Nat.le_of_ble_eq_true rfl, Nat.le_of_ble_eq_true rfl⟩ (fun H locs hw => ?_)
      refine W.eq (g2 := F0 m 22 ls []) rfl ?_
      refine lv_iinc (v := x3 + (-1)) (lv' := [(3, .int (x3 + (-1))), (0, .ref q), (1, .int x1)]) C.1.1 C.1.2.1 dM_puts_22 hl (k := 2) rfl rfl (by decide) rfl (fun ls hl => ?_)
      refine lv_goto (tgt := 4) C.1.1 C.1.2.1 dM_puts_25 (by decide) ?_
      exact ih iv2 av2 x1 (x3 + (-1)) _ _ ls (lv_sub hl [1, 2, 0] rfl) hw hf
set_option maxHeartbeats 4000000 in
set_option maxRecDepth 100000 in
theorem cM_puts_met {l : Launch} {g : gT} {q : Nat} {ad : Nat → Nat} {X : va_W} {iv iv' : Nat → Int32} {av av' : Nat → Nat → Int32} {x1 : Int32} {x2 : Int32} (hf : fM_puts iv av x1 x2 = some (iv', av')) : mMet l yM_puts cM_puts 4 none rM_puts g q ad X iv av [.ref q, .int x1, .int x2] none iv' av' := by
  refine m_entry (by decide) (Nat.le_of_ble_eq_true rfl) ?_
  intro p e s m args below meth c ls C hr hlk hnm hl hw
  have hrv : (none : Option Value) = none := rfl
  have C : mCx p m c cM_puts 4 s args g "MidiDeskModel" := C
  have hl : lv_has ls 4 [(0, .ref q), (1, .int x1), (2, .int x2)] := hl
  unfold fM_puts at hf
  refine lv_iload_n C.1.1 C.1.2.1 dM_puts_0 rfl (lv_at hl 2 rfl) ?_
  refine lv_iconst (v := (1 : Int32)) C.1.1 C.1.2.1 dM_puts_1 (by decide) ?_
  refine lv_isub C.1.1 C.1.2.1 dM_puts_2 ?_
  refine lv_istore_n (lv' := [(3, .int (x2 - (1 : Int32))), (0, .ref q), (1, .int x1), (2, .int x2)]) C.1.1 C.1.2.1 dM_puts_3 rfl hl (by decide) rfl (fun ls hl => ?_)
  exact wM_puts_4 C hr hlk hrv FU iv av x1 (x2 - (1 : Int32)) _ _ ls (lv_sub hl [1, 2, 0] rfl) hw hf
abbrev cM_putNumber : ByteArray := prog_8_method_37_code
abbrev yM_putNumber : MethodName := ⟨"MidiDeskModel", "putNumber", "(I)V"⟩
theorem kM_putNumber : yM_putNumber.cls ≠ "java/lang/invoke/MethodHandle" ∧ yM_putNumber.cls ≠ "java/lang/invoke/VarHandle" ∧ (parseMethodDescriptor yM_putNumber.desc).map (fun d => d.parameters.length) = some 1 := by decide +kernel
abbrev rM_putNumber : Room := { frames := 1, cells := 0, slots := 0, locals := 21 }
theorem dM_putNumber_0 : decode cM_putNumber 0 = .ok (.iload_n 1, 1) := by decide +kernel
theorem dM_putNumber_1 : decode cM_putNumber 1 = .ok (.ldc 193, 2) := by decide +kernel
theorem dM_putNumber_3 : decode cM_putNumber 3 = .ok (.if_icmp .le 7, 3) := by decide +kernel
theorem dM_putNumber_6 : decode cM_putNumber 6 = .ok (.iconst 4, 1) := by decide +kernel
theorem dM_putNumber_7 : decode cM_putNumber 7 = .ok (.goto 25, 3) := by decide +kernel
theorem dM_putNumber_10 : decode cM_putNumber 10 = .ok (.iload_n 1, 1) := by decide +kernel
theorem dM_putNumber_11 : decode cM_putNumber 11 = .ok (.sipush 16383, 3) := by decide +kernel
theorem dM_putNumber_14 : decode cM_putNumber 14 = .ok (.if_icmp .le 7, 3) := by decide +kernel
theorem dM_putNumber_17 : decode cM_putNumber 17 = .ok (.iconst 3, 1) := by decide +kernel
theorem dM_putNumber_18 : decode cM_putNumber 18 = .ok (.goto 14, 3) := by decide +kernel
theorem dM_putNumber_21 : decode cM_putNumber 21 = .ok (.iload_n 1, 1) := by decide +kernel
theorem dM_putNumber_22 : decode cM_putNumber 22 = .ok (.bipush 127, 2) := by decide +kernel
theorem dM_putNumber_24 : decode cM_putNumber 24 = .ok (.if_icmp .le 7, 3) := by decide +kernel
theorem dM_putNumber_27 : decode cM_putNumber 27 = .ok (.iconst 2, 1) := by decide +kernel
theorem dM_putNumber_28 : decode cM_putNumber 28 = .ok (.goto 4, 3) := by decide +kernel
theorem dM_putNumber_31 : decode cM_putNumber 31 = .ok (.iconst 1, 1) := by decide +kernel
theorem dM_putNumber_32 : decode cM_putNumber 32 = .ok (.istore_n 2, 1) := by decide +kernel
theorem dM_putNumber_33 : decode cM_putNumber 33 = .ok (.iload_n 2, 1) := by decide +kernel
theorem dM_putNumber_34 : decode cM_putNumber 34 = .ok (.iconst 1, 1) := by decide +kernel
theorem dM_putNumber_35 : decode cM_putNumber 35 = .ok (.isub, 1) := by decide +kernel
theorem dM_putNumber_36 : decode cM_putNumber 36 = .ok (.istore_n 3, 1) := by decide +kernel
theorem dM_putNumber_37 : decode cM_putNumber 37 = .ok (.iload_n 3, 1) := by decide +kernel
theorem dM_putNumber_38 : decode cM_putNumber 38 = .ok (.ifCond .lt 34, 3) := by decide +kernel
theorem dM_putNumber_41 : decode cM_putNumber 41 = .ok (.aload_n 0, 1) := by decide +kernel
theorem dM_putNumber_42 : decode cM_putNumber 42 = .ok (.iload_n 1, 1) := by decide +kernel
theorem dM_putNumber_43 : decode cM_putNumber 43 = .ok (.bipush 7, 2) := by decide +kernel
theorem dM_putNumber_45 : decode cM_putNumber 45 = .ok (.iload_n 3, 1) := by decide +kernel
theorem dM_putNumber_46 : decode cM_putNumber 46 = .ok (.imul, 1) := by decide +kernel
theorem dM_putNumber_47 : decode cM_putNumber 47 = .ok (.ishr, 1) := by decide +kernel
theorem dM_putNumber_48 : decode cM_putNumber 48 = .ok (.bipush 127, 2) := by decide +kernel
theorem dM_putNumber_50 : decode cM_putNumber 50 = .ok (.iand, 1) := by decide +kernel
theorem dM_putNumber_51 : decode cM_putNumber 51 = .ok (.iload_n 3, 1) := by decide +kernel
theorem dM_putNumber_52 : decode cM_putNumber 52 = .ok (.ifCond .le 9, 3) := by decide +kernel
theorem dM_putNumber_55 : decode cM_putNumber 55 = .ok (.sipush 128, 3) := by decide +kernel
theorem dM_putNumber_58 : decode cM_putNumber 58 = .ok (.goto 4, 3) := by decide +kernel
theorem dM_putNumber_61 : decode cM_putNumber 61 = .ok (.iconst 0, 1) := by decide +kernel
theorem dM_putNumber_62 : decode cM_putNumber 62 = .ok (.ior, 1) := by decide +kernel
theorem dM_putNumber_63 : decode cM_putNumber 63 = .ok (.invokevirtual 190, 3) := by decide +kernel
theorem dM_putNumber_66 : decode cM_putNumber 66 = .ok (.iinc 3 (-1), 3) := by decide +kernel
theorem dM_putNumber_69 : decode cM_putNumber 69 = .ok (.goto (-32), 3) := by decide +kernel
theorem dM_putNumber_72 : decode cM_putNumber 72 = .ok (.return_, 1) := by decide +kernel
def jM_putNumber_62 (K37 : (Nat → Int32) → (Nat → Nat → Int32) → Int32 → Int32 → Option ((Nat → Int32) × (Nat → Nat → Int32))) (iv : Nat → Int32) (av : Nat → Nat → Int32) (x1 : Int32) (x3 : Int32) (s1 : Int32) (s2 : Int32) : Option ((Nat → Int32) × (Nat → Nat → Int32)) := (fM_put iv av (s1 ||| s2)).bind fun (iv1, av1) => K37 iv1 av1 x1 (x3 + (-1))
def lM_putNumber_37 : Nat → (Nat → Int32) → (Nat → Nat → Int32) → Int32 → Int32 → Option ((Nat → Int32) × (Nat → Nat → Int32))
  | 0 => fun _ _ _ _ => none
  | k + 1 => fun iv av x1 x3 => if x3 < 0 then (some (iv, av)) else (if x3 ≤ 0 then (jM_putNumber_62 (lM_putNumber_37 k) iv av x1 x3 ((x1 >>> (((7 : Int32) * x3) &&& 31)) &&& (127 : Int32)) (0 : Int32)) else (jM_putNumber_62 (lM_putNumber_37 k) iv av x1 x3 ((x1 >>> (((7 : Int32) * x3) &&& 31)) &&& (127 : Int32)) (128 : Int32)))
def jM_putNumber_32 (iv : Nat → Int32) (av : Nat → Nat → Int32) (x1 : Int32) (s0 : Int32) : Option ((Nat → Int32) × (Nat → Nat → Int32)) := lM_putNumber_37 FU iv av x1 (s0 - (1 : Int32))
def fM_putNumber (iv : Nat → Int32) (av : Nat → Nat → Int32) (x1 : Int32) : Option ((Nat → Int32) × (Nat → Nat → Int32)) := if x1 ≤ (2097151 : Int32) then (if x1 ≤ (16383 : Int32) then (if x1 ≤ (127 : Int32) then (jM_putNumber_32 iv av x1 (1 : Int32)) else (jM_putNumber_32 iv av x1 (2 : Int32))) else (jM_putNumber_32 iv av x1 (3 : Int32))) else (jM_putNumber_32 iv av x1 (4 : Int32))
set_option maxHeartbeats 4000000 in
set_option maxRecDepth 100000 in
theorem wM_putNumber_62 {p : Program} {l : Launch} {e : Env} {s : State} {m : MethodId} {args : Array Value} {below : List Frame} {meth : Method} {c : Code} {g : gT} {q : Nat} {ad : Nat → Nat} {X : va_W} {rv : Option Value} {iv' : Nat → Int32} {av' : Nat → Nat → Int32} (C : mCx p m c cM_putNumber 4 s args g "MidiDeskModel") (hr : meth.sig.returnType = none) (hlk : meth.locks = false) (hrv : rv = none) {K37 : (Nat → Int32) → (Nat → Nat → Int32) → Int32 → Int32 → Option ((Nat → Int32) × (Nat → Nat → Int32))} (hK37 : ∀ (iv : Nat → Int32) (av : Nat → Nat → Int32) (x1 : Int32) (x3 : Int32) (H : Heap) (locs : List Loc) (ls : Array Slot), lv_has ls 4 [(0, .ref q), (1, .int x1), (3, .int x3)] → mWd g (mA g q ad X s.heap.size) s.heap q ad X iv av H locs → K37 iv av x1 x3 = some (iv', av') → mG p l e rM_putNumber s m args below meth c g q ad X rv iv' av' H locs 0 0 (F0 m 37 ls [])) (iv : Nat → Int32) (av : Nat → Nat → Int32) (x1 : Int32) (x3 : Int32) (s1 : Int32) (s2 : Int32) (H : Heap) (locs : List Loc) (ls : Array Slot) (hl : lv_has ls 4 [(0, .ref q), (1, .int x1), (3, .int x3)]) (hw : mWd g (mA g q ad X s.heap.size) s.heap q ad X iv av H locs) (hf : jM_putNumber_62 K37 iv av x1 x3 s1 s2 = some (iv', av')) : mG p l e rM_putNumber s m args below meth c g q ad X rv iv' av' H locs 0 0 (F0 m 62 ls [.int s2, .int s1, .ref q]) := by
  unfold jM_putNumber_62 at hf
  refine lv_ior C.1.1 C.1.2.1 dM_putNumber_62 ?_
  obtain ⟨⟨iv1, av1⟩, g1, hf⟩ := ts_b hf
  dsimp only at hf
  refine m_callV (rest := []) (As := [.int (s1 ||| s2)]) (rv := none) C hl.1 hw (cM_put_met g1) (callW_of (rm := rM_put) 1 C.1.2.2.2.2 gw_944 gw_946 gw_47 gw_55 gw_947 kM_put ⟨Nat.le_of_ble_eq_true rfl, Nat.le_of_ble_eq_true rfl⟩) rfl rfl (Nat.le_of_ble_eq_true rfl) dM_putNumber_63 ⟨Nat.le_of_ble_eq_true rfl, Nat.le_of_ble_eq_true rfl⟩ (fun H locs hw => ?_)
  refine W.eq (g2 := F0 m 66 ls []) rfl ?_
  refine lv_iinc (v := x3 + (-1)) (lv' := [(3, .int (x3 + (-1))), (0, .ref q), (1, .int x1)]) C.1.1 C.1.2.1 dM_putNumber_66 hl (k := 2) rfl rfl (by decide) rfl (fun ls hl => ?_)
  refine lv_goto (tgt := 37) C.1.1 C.1.2.1 dM_putNumber_69 (by decide) ?_
  exact hK37 iv1 av1 x1 (x3 + (-1)) _ _ ls (lv_sub hl [1, 2, 0] rfl) hw hf
set_option maxHeartbeats 4000000 in
set_option maxRecDepth 100000 in
theorem wM_putNumber_37 {p : Program} {l : Launch} {e : Env} {s : State} {m : MethodId} {args : Array Value} {below : List Frame} {meth : Method} {c : Code} {g : gT} {q : Nat} {ad : Nat → Nat} {X : va_W} {rv : Option Value} {iv' : Nat → Int32} {av' : Nat → Nat → Int32} (C : mCx p m c cM_putNumber 4 s args g "MidiDeskModel") (hr : meth.sig.returnType = none) (hlk : meth.locks = false) (hrv : rv = none) (k : Nat) : ∀ (iv : Nat → Int32) (av : Nat → Nat → Int32) (x1 : Int32) (x3 : Int32) (H : Heap) (locs : List Loc) (ls : Array Slot), lv_has ls 4 [(0, .ref q), (1, .int x1), (3, .int x3)] → mWd g (mA g q ad X s.heap.size) s.heap q ad X iv av H locs → lM_putNumber_37 k iv av x1 x3 = some (iv', av') → mG p l e rM_putNumber s m args below meth c g q ad X rv iv' av' H locs 0 0 (F0 m 37 ls []) := by
  induction k with
  | zero => intro iv av x1 x3 H locs ls hl hw hf; cases hf
  | succ k ih =>
    intro iv av x1 x3 H locs ls hl hw hf
    have hf : (if x3 < 0 then (some (iv, av)) else (if x3 ≤ 0 then (jM_putNumber_62 (lM_putNumber_37 k) iv av x1 x3 ((x1 >>> (((7 : Int32) * x3) &&& 31)) &&& (127 : Int32)) (0 : Int32)) else (jM_putNumber_62 (lM_putNumber_37 k) iv av x1 x3 ((x1 >>> (((7 : Int32) * x3) &&& 31)) &&& (127 : Int32)) (128 : Int32)))) = some (iv', av') := hf
    refine lv_iload_n C.1.1 C.1.2.1 dM_putNumber_37 rfl (lv_at hl 2 rfl) ?_
    refine lv_if_lt (tgt := 72) C.1.1 C.1.2.1 dM_putNumber_38 (by decide) (fun c1 => ?_) (fun c1 => ?_)
    · have hf := ts_t hf c1
      exact m_retv C hr hlk hrv hw hf ⟨Nat.le_of_ble_eq_true rfl, Nat.le_of_ble_eq_true rfl⟩ dM_putNumber_72
    · have hf := ts_f hf c1
      refine lv_aload_n C.1.1 C.1.2.1 dM_putNumber_41 rfl (lv_at hl 0 rfl) ?_
      refine lv_iload_n C.1.1 C.1.2.1 dM_putNumber_42 rfl (lv_at hl 1 rfl) ?_
      refine lv_bipush (v := (7 : Int32)) C.1.1 C.1.2.1 dM_putNumber_43 (by decide) ?_
      refine lv_iload_n C.1.1 C.1.2.1 dM_putNumber_45 rfl (lv_at hl 2 rfl) ?_
      refine lv_imul C.1.1 C.1.2.1 dM_putNumber_46 ?_
      refine lv_ishr C.1.1 C.1.2.1 dM_putNumber_47 ?_
      refine lv_bipush (v := (127 : Int32)) C.1.1 C.1.2.1 dM_putNumber_48 (by decide) ?_
      refine lv_iand C.1.1 C.1.2.1 dM_putNumber_50 ?_
      refine lv_iload_n C.1.1 C.1.2.1 dM_putNumber_51 rfl (lv_at hl 2 rfl) ?_
      refine lv_if_le (tgt := 61) C.1.1 C.1.2.1 dM_putNumber_52 (by decide) (fun c2 => ?_) (fun c2 => ?_)
      · have hf := ts_t hf c2
        refine lv_iconst (v := (0 : Int32)) C.1.1 C.1.2.1 dM_putNumber_61 (by decide) ?_
        exact wM_putNumber_62 C hr hlk hrv ih iv av x1 x3 ((x1 >>> (((7 : Int32) * x3) &&& 31)) &&& (127 : Int32)) (0 : Int32) _ _ ls (lv_sub hl [0, 1, 2] rfl) hw hf
      · have hf := ts_f hf c2
        refine lv_sipush (v := (128 : Int32)) C.1.1 C.1.2.1 dM_putNumber_55 (by decide) ?_
        refine lv_goto (tgt := 62) C.1.1 C.1.2.1 dM_putNumber_58 (by decide) ?_
        exact wM_putNumber_62 C hr hlk hrv ih iv av x1 x3 ((x1 >>> (((7 : Int32) * x3) &&& 31)) &&& (127 : Int32)) (128 : Int32) _ _ ls (lv_sub hl [0, 1, 2] rfl) hw hf
set_option maxHeartbeats 4000000 in
set_option maxRecDepth 100000 in
theorem wM_putNumber_32 {p : Program} {l : Launch} {e : Env} {s : State} {m : MethodId} {args : Array Value} {below : List Frame} {meth : Method} {c : Code} {g : gT} {q : Nat} {ad : Nat → Nat} {X : va_W} {rv : Option Value} {iv' : Nat → Int32} {av' : Nat → Nat → Int32} (C : mCx p m c cM_putNumber 4 s args g "MidiDeskModel") (hr : meth.sig.returnType = none) (hlk : meth.locks = false) (hrv : rv = none) (iv : Nat → Int32) (av : Nat → Nat → Int32) (x1 : Int32) (s0 : Int32) (H : Heap) (locs : List Loc) (ls : Array Slot) (hl : lv_has ls 4 [(0, .ref q), (1, .int x1)]) (hw : mWd g (mA g q ad X s.heap.size) s.heap q ad X iv av H locs) (hf : jM_putNumber_32 iv av x1 s0 = some (iv', av')) : mG p l e rM_putNumber s m args below meth c g q ad X rv iv' av' H locs 0 0 (F0 m 32 ls [.int s0]) := by
  unfold jM_putNumber_32 at hf
  refine lv_istore_n (lv' := [(2, .int s0), (0, .ref q), (1, .int x1)]) C.1.1 C.1.2.1 dM_putNumber_32 rfl hl (by decide) rfl (fun ls hl => ?_)
  refine lv_iload_n C.1.1 C.1.2.1 dM_putNumber_33 rfl (lv_at hl 0 rfl) ?_
  refine lv_iconst (v := (1 : Int32)) C.1.1 C.1.2.1 dM_putNumber_34 (by decide) ?_
  refine lv_isub C.1.1 C.1.2.1 dM_putNumber_35 ?_
  refine lv_istore_n (lv' := [(3, .int (s0 - (1 : Int32))), (2, .int s0), (0, .ref q), (1, .int x1)]) C.1.1 C.1.2.1 dM_putNumber_36 rfl hl (by decide) rfl (fun ls hl => ?_)
  exact wM_putNumber_37 C hr hlk hrv FU iv av x1 (s0 - (1 : Int32)) _ _ ls (lv_sub hl [2, 3, 0] rfl) hw hf
set_option maxHeartbeats 4000000 in
set_option maxRecDepth 100000 in
theorem cM_putNumber_met {l : Launch} {g : gT} {q : Nat} {ad : Nat → Nat} {X : va_W} {iv iv' : Nat → Int32} {av av' : Nat → Nat → Int32} {x1 : Int32} (hf : fM_putNumber iv av x1 = some (iv', av')) : mMet l yM_putNumber cM_putNumber 4 none rM_putNumber g q ad X iv av [.ref q, .int x1] none iv' av' := by
  refine m_entry (by decide) (Nat.le_of_ble_eq_true rfl) ?_
  intro p e s m args below meth c ls C hr hlk hnm hl hw
  have hrv : (none : Option Value) = none := rfl
  have C : mCx p m c cM_putNumber 4 s args g "MidiDeskModel" := C
  have hl : lv_has ls 4 [(0, .ref q), (1, .int x1)] := hl
  unfold fM_putNumber at hf
  refine lv_iload_n C.1.1 C.1.2.1 dM_putNumber_0 rfl (lv_at hl 1 rfl) ?_
  refine lv_ldc C.1.1 C.1.2.1 C.1.2.2.2.1 (C.1.2.2.2.2 _ gw_957) dM_putNumber_1 ?_
  refine lv_icmp_le (tgt := 10) C.1.1 C.1.2.1 dM_putNumber_3 (by decide) (fun c1 => ?_) (fun c1 => ?_)
  · have hf := ts_t hf c1
    refine lv_iload_n C.1.1 C.1.2.1 dM_putNumber_10 rfl (lv_at hl 1 rfl) ?_
    refine lv_sipush (v := (16383 : Int32)) C.1.1 C.1.2.1 dM_putNumber_11 (by decide) ?_
    refine lv_icmp_le (tgt := 21) C.1.1 C.1.2.1 dM_putNumber_14 (by decide) (fun c2 => ?_) (fun c2 => ?_)
    · have hf := ts_t hf c2
      refine lv_iload_n C.1.1 C.1.2.1 dM_putNumber_21 rfl (lv_at hl 1 rfl) ?_
      refine lv_bipush (v := (127 : Int32)) C.1.1 C.1.2.1 dM_putNumber_22 (by decide) ?_
      refine lv_icmp_le (tgt := 31) C.1.1 C.1.2.1 dM_putNumber_24 (by decide) (fun c3 => ?_) (fun c3 => ?_)
      · have hf := ts_t hf c3
        refine lv_iconst (v := (1 : Int32)) C.1.1 C.1.2.1 dM_putNumber_31 (by decide) ?_
        exact wM_putNumber_32 C hr hlk hrv iv av x1 (1 : Int32) _ _ ls (lv_sub hl [0, 1] rfl) hw hf
      · have hf := ts_f hf c3
        refine lv_iconst (v := (2 : Int32)) C.1.1 C.1.2.1 dM_putNumber_27 (by decide) ?_
        refine lv_goto (tgt := 32) C.1.1 C.1.2.1 dM_putNumber_28 (by decide) ?_
        exact wM_putNumber_32 C hr hlk hrv iv av x1 (2 : Int32) _ _ ls (lv_sub hl [0, 1] rfl) hw hf
    · have hf := ts_f hf c2
      refine lv_iconst (v := (3 : Int32)) C.1.1 C.1.2.1 dM_putNumber_17 (by decide) ?_
      refine lv_goto (tgt := 32) C.1.1 C.1.2.1 dM_putNumber_18 (by decide) ?_
      exact wM_putNumber_32 C hr hlk hrv iv av x1 (3 : Int32) _ _ ls (lv_sub hl [0, 1] rfl) hw hf
  · have hf := ts_f hf c1
    refine lv_iconst (v := (4 : Int32)) C.1.1 C.1.2.1 dM_putNumber_6 (by decide) ?_
    refine lv_goto (tgt := 32) C.1.1 C.1.2.1 dM_putNumber_7 (by decide) ?_
    exact wM_putNumber_32 C hr hlk hrv iv av x1 (4 : Int32) _ _ ls (lv_sub hl [0, 1] rfl) hw hf
abbrev cM_putTrack : ByteArray := prog_8_method_38_code
abbrev yM_putTrack : MethodName := ⟨"MidiDeskModel", "putTrack", "(IZZ)V"⟩
theorem kM_putTrack : yM_putTrack.cls ≠ "java/lang/invoke/MethodHandle" ∧ yM_putTrack.cls ≠ "java/lang/invoke/VarHandle" ∧ (parseMethodDescriptor yM_putTrack.desc).map (fun d => d.parameters.length) = some 3 := by decide +kernel
abbrev rM_putTrack : Room := { frames := 2, cells := 0, slots := 0, locals := 44 }
theorem dM_putTrack_0 : decode cM_putTrack 0 = .ok (.aload_n 0, 1) := by decide +kernel
theorem dM_putTrack_1 : decode cM_putTrack 1 = .ok (.ldc 194, 2) := by decide +kernel
theorem dM_putTrack_3 : decode cM_putTrack 3 = .ok (.iconst 4, 1) := by decide +kernel
theorem dM_putTrack_4 : decode cM_putTrack 4 = .ok (.invokevirtual 195, 3) := by decide +kernel
theorem dM_putTrack_7 : decode cM_putTrack 7 = .ok (.aload_n 0, 1) := by decide +kernel
theorem dM_putTrack_8 : decode cM_putTrack 8 = .ok (.getfield 187, 3) := by decide +kernel
theorem dM_putTrack_11 : decode cM_putTrack 11 = .ok (.istore 4, 2) := by decide +kernel
theorem dM_putTrack_13 : decode cM_putTrack 13 = .ok (.aload_n 0, 1) := by decide +kernel
theorem dM_putTrack_14 : decode cM_putTrack 14 = .ok (.iconst 0, 1) := by decide +kernel
theorem dM_putTrack_15 : decode cM_putTrack 15 = .ok (.iconst 4, 1) := by decide +kernel
theorem dM_putTrack_16 : decode cM_putTrack 16 = .ok (.invokevirtual 195, 3) := by decide +kernel
theorem dM_putTrack_19 : decode cM_putTrack 19 = .ok (.iconst 0, 1) := by decide +kernel
theorem dM_putTrack_20 : decode cM_putTrack 20 = .ok (.istore 5, 2) := by decide +kernel
theorem dM_putTrack_22 : decode cM_putTrack 22 = .ok (.iconst 0, 1) := by decide +kernel
theorem dM_putTrack_23 : decode cM_putTrack 23 = .ok (.istore 6, 2) := by decide +kernel
theorem dM_putTrack_25 : decode cM_putTrack 25 = .ok (.iconst 0, 1) := by decide +kernel
theorem dM_putTrack_26 : decode cM_putTrack 26 = .ok (.istore 7, 2) := by decide +kernel
theorem dM_putTrack_28 : decode cM_putTrack 28 = .ok (.iload 7, 2) := by decide +kernel
theorem dM_putTrack_30 : decode cM_putTrack 30 = .ok (.aload_n 0, 1) := by decide +kernel
theorem dM_putTrack_31 : decode cM_putTrack 31 = .ok (.getfield 95, 3) := by decide +kernel
theorem dM_putTrack_34 : decode cM_putTrack 34 = .ok (.if_icmp .ge 218, 3) := by decide +kernel
theorem dM_putTrack_37 : decode cM_putTrack 37 = .ok (.aload_n 0, 1) := by decide +kernel
theorem dM_putTrack_38 : decode cM_putTrack 38 = .ok (.getfield 34, 3) := by decide +kernel
theorem dM_putTrack_41 : decode cM_putTrack 41 = .ok (.iload 7, 2) := by decide +kernel
theorem dM_putTrack_43 : decode cM_putTrack 43 = .ok (.iaload, 1) := by decide +kernel
theorem dM_putTrack_44 : decode cM_putTrack 44 = .ok (.istore 8, 2) := by decide +kernel
theorem dM_putTrack_46 : decode cM_putTrack 46 = .ok (.iload_n 2, 1) := by decide +kernel
theorem dM_putTrack_47 : decode cM_putTrack 47 = .ok (.ifCond .ne 17, 3) := by decide +kernel
theorem dM_putTrack_50 : decode cM_putTrack 50 = .ok (.aload_n 0, 1) := by decide +kernel
theorem dM_putTrack_51 : decode cM_putTrack 51 = .ok (.getfield 16, 3) := by decide +kernel
theorem dM_putTrack_54 : decode cM_putTrack 54 = .ok (.iload 8, 2) := by decide +kernel
theorem dM_putTrack_56 : decode cM_putTrack 56 = .ok (.iaload, 1) := by decide +kernel
theorem dM_putTrack_57 : decode cM_putTrack 57 = .ok (.iload_n 1, 1) := by decide +kernel
theorem dM_putTrack_58 : decode cM_putTrack 58 = .ok (.if_icmp .eq 6, 3) := by decide +kernel
theorem dM_putTrack_61 : decode cM_putTrack 61 = .ok (.goto 185, 3) := by decide +kernel
theorem dM_putTrack_64 : decode cM_putTrack 64 = .ok (.aload_n 0, 1) := by decide +kernel
theorem dM_putTrack_65 : decode cM_putTrack 65 = .ok (.aload_n 0, 1) := by decide +kernel
theorem dM_putTrack_66 : decode cM_putTrack 66 = .ok (.getfield 13, 3) := by decide +kernel
theorem dM_putTrack_69 : decode cM_putTrack 69 = .ok (.iload 8, 2) := by decide +kernel
theorem dM_putTrack_71 : decode cM_putTrack 71 = .ok (.iaload, 1) := by decide +kernel
theorem dM_putTrack_72 : decode cM_putTrack 72 = .ok (.iload 5, 2) := by decide +kernel
theorem dM_putTrack_74 : decode cM_putTrack 74 = .ok (.isub, 1) := by decide +kernel
theorem dM_putTrack_75 : decode cM_putTrack 75 = .ok (.invokevirtual 197, 3) := by decide +kernel
theorem dM_putTrack_78 : decode cM_putTrack 78 = .ok (.aload_n 0, 1) := by decide +kernel
theorem dM_putTrack_79 : decode cM_putTrack 79 = .ok (.getfield 13, 3) := by decide +kernel
theorem dM_putTrack_82 : decode cM_putTrack 82 = .ok (.iload 8, 2) := by decide +kernel
theorem dM_putTrack_84 : decode cM_putTrack 84 = .ok (.iaload, 1) := by decide +kernel
theorem dM_putTrack_85 : decode cM_putTrack 85 = .ok (.istore 5, 2) := by decide +kernel
theorem dM_putTrack_87 : decode cM_putTrack 87 = .ok (.iload_n 3, 1) := by decide +kernel
theorem dM_putTrack_88 : decode cM_putTrack 88 = .ok (.ifCond .eq 15, 3) := by decide +kernel
theorem dM_putTrack_91 : decode cM_putTrack 91 = .ok (.aload_n 0, 1) := by decide +kernel
theorem dM_putTrack_92 : decode cM_putTrack 92 = .ok (.getfield 19, 3) := by decide +kernel
theorem dM_putTrack_95 : decode cM_putTrack 95 = .ok (.iload 8, 2) := by decide +kernel
theorem dM_putTrack_97 : decode cM_putTrack 97 = .ok (.iaload, 1) := by decide +kernel
theorem dM_putTrack_98 : decode cM_putTrack 98 = .ok (.iload 6, 2) := by decide +kernel
theorem dM_putTrack_100 : decode cM_putTrack 100 = .ok (.if_icmp .eq 14, 3) := by decide +kernel
theorem dM_putTrack_103 : decode cM_putTrack 103 = .ok (.aload_n 0, 1) := by decide +kernel
theorem dM_putTrack_104 : decode cM_putTrack 104 = .ok (.aload_n 0, 1) := by decide +kernel
theorem dM_putTrack_105 : decode cM_putTrack 105 = .ok (.getfield 19, 3) := by decide +kernel
theorem dM_putTrack_108 : decode cM_putTrack 108 = .ok (.iload 8, 2) := by decide +kernel
theorem dM_putTrack_110 : decode cM_putTrack 110 = .ok (.iaload, 1) := by decide +kernel
theorem dM_putTrack_111 : decode cM_putTrack 111 = .ok (.invokevirtual 190, 3) := by decide +kernel
theorem dM_putTrack_114 : decode cM_putTrack 114 = .ok (.aload_n 0, 1) := by decide +kernel
theorem dM_putTrack_115 : decode cM_putTrack 115 = .ok (.getfield 19, 3) := by decide +kernel
theorem dM_putTrack_118 : decode cM_putTrack 118 = .ok (.iload 8, 2) := by decide +kernel
theorem dM_putTrack_120 : decode cM_putTrack 120 = .ok (.iaload, 1) := by decide +kernel
theorem dM_putTrack_121 : decode cM_putTrack 121 = .ok (.sipush 240, 3) := by decide +kernel
theorem dM_putTrack_124 : decode cM_putTrack 124 = .ok (.if_icmp .ge 13, 3) := by decide +kernel
theorem dM_putTrack_127 : decode cM_putTrack 127 = .ok (.aload_n 0, 1) := by decide +kernel
theorem dM_putTrack_128 : decode cM_putTrack 128 = .ok (.getfield 19, 3) := by decide +kernel
theorem dM_putTrack_131 : decode cM_putTrack 131 = .ok (.iload 8, 2) := by decide +kernel
theorem dM_putTrack_133 : decode cM_putTrack 133 = .ok (.iaload, 1) := by decide +kernel
theorem dM_putTrack_134 : decode cM_putTrack 134 = .ok (.goto 4, 3) := by decide +kernel
theorem dM_putTrack_137 : decode cM_putTrack 137 = .ok (.iconst 0, 1) := by decide +kernel
theorem dM_putTrack_138 : decode cM_putTrack 138 = .ok (.istore 6, 2) := by decide +kernel
theorem dM_putTrack_140 : decode cM_putTrack 140 = .ok (.aload_n 0, 1) := by decide +kernel
theorem dM_putTrack_141 : decode cM_putTrack 141 = .ok (.getfield 22, 3) := by decide +kernel
theorem dM_putTrack_144 : decode cM_putTrack 144 = .ok (.iload 8, 2) := by decide +kernel
theorem dM_putTrack_146 : decode cM_putTrack 146 = .ok (.iaload, 1) := by decide +kernel
theorem dM_putTrack_147 : decode cM_putTrack 147 = .ok (.ifCond .lt 14, 3) := by decide +kernel
theorem dM_putTrack_150 : decode cM_putTrack 150 = .ok (.aload_n 0, 1) := by decide +kernel
theorem dM_putTrack_151 : decode cM_putTrack 151 = .ok (.aload_n 0, 1) := by decide +kernel
theorem dM_putTrack_152 : decode cM_putTrack 152 = .ok (.getfield 22, 3) := by decide +kernel
theorem dM_putTrack_155 : decode cM_putTrack 155 = .ok (.iload 8, 2) := by decide +kernel
theorem dM_putTrack_157 : decode cM_putTrack 157 = .ok (.iaload, 1) := by decide +kernel
theorem dM_putTrack_158 : decode cM_putTrack 158 = .ok (.invokevirtual 190, 3) := by decide +kernel
theorem dM_putTrack_161 : decode cM_putTrack 161 = .ok (.aload_n 0, 1) := by decide +kernel
theorem dM_putTrack_162 : decode cM_putTrack 162 = .ok (.getfield 25, 3) := by decide +kernel
theorem dM_putTrack_165 : decode cM_putTrack 165 = .ok (.iload 8, 2) := by decide +kernel
theorem dM_putTrack_167 : decode cM_putTrack 167 = .ok (.iaload, 1) := by decide +kernel
theorem dM_putTrack_168 : decode cM_putTrack 168 = .ok (.ifCond .lt 14, 3) := by decide +kernel
theorem dM_putTrack_171 : decode cM_putTrack 171 = .ok (.aload_n 0, 1) := by decide +kernel
theorem dM_putTrack_172 : decode cM_putTrack 172 = .ok (.aload_n 0, 1) := by decide +kernel
theorem dM_putTrack_173 : decode cM_putTrack 173 = .ok (.getfield 25, 3) := by decide +kernel
theorem dM_putTrack_176 : decode cM_putTrack 176 = .ok (.iload 8, 2) := by decide +kernel
theorem dM_putTrack_178 : decode cM_putTrack 178 = .ok (.iaload, 1) := by decide +kernel
theorem dM_putTrack_179 : decode cM_putTrack 179 = .ok (.invokevirtual 190, 3) := by decide +kernel
theorem dM_putTrack_182 : decode cM_putTrack 182 = .ok (.aload_n 0, 1) := by decide +kernel
theorem dM_putTrack_183 : decode cM_putTrack 183 = .ok (.getfield 31, 3) := by decide +kernel
theorem dM_putTrack_186 : decode cM_putTrack 186 = .ok (.iload 8, 2) := by decide +kernel
theorem dM_putTrack_188 : decode cM_putTrack 188 = .ok (.iaload, 1) := by decide +kernel
theorem dM_putTrack_189 : decode cM_putTrack 189 = .ok (.ifCond .ge 6, 3) := by decide +kernel
theorem dM_putTrack_192 : decode cM_putTrack 192 = .ok (.goto 54, 3) := by decide +kernel
theorem dM_putTrack_195 : decode cM_putTrack 195 = .ok (.aload_n 0, 1) := by decide +kernel
theorem dM_putTrack_196 : decode cM_putTrack 196 = .ok (.aload_n 0, 1) := by decide +kernel
theorem dM_putTrack_197 : decode cM_putTrack 197 = .ok (.getfield 31, 3) := by decide +kernel
theorem dM_putTrack_200 : decode cM_putTrack 200 = .ok (.iload 8, 2) := by decide +kernel
theorem dM_putTrack_202 : decode cM_putTrack 202 = .ok (.iaload, 1) := by decide +kernel
theorem dM_putTrack_203 : decode cM_putTrack 203 = .ok (.invokevirtual 197, 3) := by decide +kernel
theorem dM_putTrack_206 : decode cM_putTrack 206 = .ok (.iconst 0, 1) := by decide +kernel
theorem dM_putTrack_207 : decode cM_putTrack 207 = .ok (.istore 9, 2) := by decide +kernel
theorem dM_putTrack_209 : decode cM_putTrack 209 = .ok (.iload 9, 2) := by decide +kernel
theorem dM_putTrack_211 : decode cM_putTrack 211 = .ok (.aload_n 0, 1) := by decide +kernel
theorem dM_putTrack_212 : decode cM_putTrack 212 = .ok (.getfield 31, 3) := by decide +kernel
theorem dM_putTrack_215 : decode cM_putTrack 215 = .ok (.iload 8, 2) := by decide +kernel
theorem dM_putTrack_217 : decode cM_putTrack 217 = .ok (.iaload, 1) := by decide +kernel
theorem dM_putTrack_218 : decode cM_putTrack 218 = .ok (.if_icmp .ge 28, 3) := by decide +kernel
theorem dM_putTrack_221 : decode cM_putTrack 221 = .ok (.aload_n 0, 1) := by decide +kernel
theorem dM_putTrack_222 : decode cM_putTrack 222 = .ok (.aload_n 0, 1) := by decide +kernel
theorem dM_putTrack_223 : decode cM_putTrack 223 = .ok (.getfield 40, 3) := by decide +kernel
theorem dM_putTrack_226 : decode cM_putTrack 226 = .ok (.aload_n 0, 1) := by decide +kernel
theorem dM_putTrack_227 : decode cM_putTrack 227 = .ok (.getfield 28, 3) := by decide +kernel
theorem dM_putTrack_230 : decode cM_putTrack 230 = .ok (.iload 8, 2) := by decide +kernel
theorem dM_putTrack_232 : decode cM_putTrack 232 = .ok (.iaload, 1) := by decide +kernel
theorem dM_putTrack_233 : decode cM_putTrack 233 = .ok (.iload 9, 2) := by decide +kernel
theorem dM_putTrack_235 : decode cM_putTrack 235 = .ok (.iadd, 1) := by decide +kernel
theorem dM_putTrack_236 : decode cM_putTrack 236 = .ok (.iaload, 1) := by decide +kernel
theorem dM_putTrack_237 : decode cM_putTrack 237 = .ok (.invokevirtual 190, 3) := by decide +kernel
theorem dM_putTrack_240 : decode cM_putTrack 240 = .ok (.iinc 9 1, 3) := by decide +kernel
theorem dM_putTrack_243 : decode cM_putTrack 243 = .ok (.goto (-34), 3) := by decide +kernel
theorem dM_putTrack_246 : decode cM_putTrack 246 = .ok (.iinc 7 1, 3) := by decide +kernel
theorem dM_putTrack_249 : decode cM_putTrack 249 = .ok (.goto (-221), 3) := by decide +kernel
theorem dM_putTrack_252 : decode cM_putTrack 252 = .ok (.aload_n 0, 1) := by decide +kernel
theorem dM_putTrack_253 : decode cM_putTrack 253 = .ok (.ldc 200, 2) := by decide +kernel
theorem dM_putTrack_255 : decode cM_putTrack 255 = .ok (.iconst 4, 1) := by decide +kernel
theorem dM_putTrack_256 : decode cM_putTrack 256 = .ok (.invokevirtual 195, 3) := by decide +kernel
theorem dM_putTrack_259 : decode cM_putTrack 259 = .ok (.aload_n 0, 1) := by decide +kernel
theorem dM_putTrack_260 : decode cM_putTrack 260 = .ok (.getfield 187, 3) := by decide +kernel
theorem dM_putTrack_263 : decode cM_putTrack 263 = .ok (.iload 4, 2) := by decide +kernel
theorem dM_putTrack_265 : decode cM_putTrack 265 = .ok (.isub, 1) := by decide +kernel
theorem dM_putTrack_266 : decode cM_putTrack 266 = .ok (.iconst 4, 1) := by decide +kernel
theorem dM_putTrack_267 : decode cM_putTrack 267 = .ok (.isub, 1) := by decide +kernel
theorem dM_putTrack_268 : decode cM_putTrack 268 = .ok (.istore 7, 2) := by decide +kernel
theorem dM_putTrack_270 : decode cM_putTrack 270 = .ok (.iconst 0, 1) := by decide +kernel
theorem dM_putTrack_271 : decode cM_putTrack 271 = .ok (.istore 8, 2) := by decide +kernel
theorem dM_putTrack_273 : decode cM_putTrack 273 = .ok (.iload 8, 2) := by decide +kernel
theorem dM_putTrack_275 : decode cM_putTrack 275 = .ok (.iconst 4, 1) := by decide +kernel
theorem dM_putTrack_276 : decode cM_putTrack 276 = .ok (.if_icmp .ge 33, 3) := by decide +kernel
theorem dM_putTrack_279 : decode cM_putTrack 279 = .ok (.aload_n 0, 1) := by decide +kernel
theorem dM_putTrack_280 : decode cM_putTrack 280 = .ok (.getfield 44, 3) := by decide +kernel
theorem dM_putTrack_283 : decode cM_putTrack 283 = .ok (.iload 4, 2) := by decide +kernel
theorem dM_putTrack_285 : decode cM_putTrack 285 = .ok (.iload 8, 2) := by decide +kernel
theorem dM_putTrack_287 : decode cM_putTrack 287 = .ok (.iadd, 1) := by decide +kernel
theorem dM_putTrack_288 : decode cM_putTrack 288 = .ok (.iload 7, 2) := by decide +kernel
theorem dM_putTrack_290 : decode cM_putTrack 290 = .ok (.bipush 8, 2) := by decide +kernel
theorem dM_putTrack_292 : decode cM_putTrack 292 = .ok (.iconst 3, 1) := by decide +kernel
theorem dM_putTrack_293 : decode cM_putTrack 293 = .ok (.iload 8, 2) := by decide +kernel
theorem dM_putTrack_295 : decode cM_putTrack 295 = .ok (.isub, 1) := by decide +kernel
theorem dM_putTrack_296 : decode cM_putTrack 296 = .ok (.imul, 1) := by decide +kernel
theorem dM_putTrack_297 : decode cM_putTrack 297 = .ok (.ishr, 1) := by decide +kernel
theorem dM_putTrack_298 : decode cM_putTrack 298 = .ok (.sipush 255, 3) := by decide +kernel
theorem dM_putTrack_301 : decode cM_putTrack 301 = .ok (.iand, 1) := by decide +kernel
theorem dM_putTrack_302 : decode cM_putTrack 302 = .ok (.iastore, 1) := by decide +kernel
theorem dM_putTrack_303 : decode cM_putTrack 303 = .ok (.iinc 8 1, 3) := by decide +kernel
theorem dM_putTrack_306 : decode cM_putTrack 306 = .ok (.goto (-33), 3) := by decide +kernel
theorem dM_putTrack_309 : decode cM_putTrack 309 = .ok (.return_, 1) := by decide +kernel
def jM_putTrack_246 (K28 : (Nat → Int32) → (Nat → Nat → Int32) → Int32 → Int32 → Int32 → Int32 → Int32 → Int32 → Int32 → Option ((Nat → Int32) × (Nat → Nat → Int32))) (iv : Nat → Int32) (av : Nat → Nat → Int32) (x1 : Int32) (x2 : Int32) (x3 : Int32) (x4 : Int32) (x5 : Int32) (x6 : Int32) (x7 : Int32) : Option ((Nat → Int32) × (Nat → Nat → Int32)) := K28 iv av x1 x2 x3 x4 x5 x6 (x7 + 1)
def lM_putTrack_209 (K28 : (Nat → Int32) → (Nat → Nat → Int32) → Int32 → Int32 → Int32 → Int32 → Int32 → Int32 → Int32 → Option ((Nat → Int32) × (Nat → Nat → Int32))) : Nat → (Nat → Int32) → (Nat → Nat → Int32) → Int32 → Int32 → Int32 → Int32 → Int32 → Int32 → Int32 → Int32 → Int32 → Option ((Nat → Int32) × (Nat → Nat → Int32))
  | 0 => fun _ _ _ _ _ _ _ _ _ _ _ => none
  | k + 1 => fun iv av x1 x2 x3 x4 x5 x6 x7 x8 x9 => if x8 < 0 ∨ 1001 ≤ x8.toNatClampNeg then none else (if (av 7 x8.toNatClampNeg) ≤ x9 then (jM_putTrack_246 K28 iv av x1 x2 x3 x4 x5 x6 x7) else (if x8 < 0 ∨ 1001 ≤ x8.toNatClampNeg then none else (if ((av 6 x8.toNatClampNeg) + x9) < 0 ∨ 20100 ≤ ((av 6 x8.toNatClampNeg) + x9).toNatClampNeg then none else ((fM_put iv av (av 10 ((av 6 x8.toNatClampNeg) + x9).toNatClampNeg)).bind fun (iv5, av5) => lM_putTrack_209 K28 k iv5 av5 x1 x2 x3 x4 x5 x6 x7 x8 (x9 + 1)))))
def jM_putTrack_182 (K28 : (Nat → Int32) → (Nat → Nat → Int32) → Int32 → Int32 → Int32 → Int32 → Int32 → Int32 → Int32 → Option ((Nat → Int32) × (Nat → Nat → Int32))) (iv : Nat → Int32) (av : Nat → Nat → Int32) (x1 : Int32) (x2 : Int32) (x3 : Int32) (x4 : Int32) (x5 : Int32) (x6 : Int32) (x7 : Int32) (x8 : Int32) : Option ((Nat → Int32) × (Nat → Nat → Int32)) := if x8 < 0 ∨ 1001 ≤ x8.toNatClampNeg then none else (if 0 ≤ (av 7 x8.toNatClampNeg) then (if x8 < 0 ∨ 1001 ≤ x8.toNatClampNeg then none else ((fM_putNumber iv av (av 7 x8.toNatClampNeg)).bind fun (iv4, av4) => lM_putTrack_209 K28 FU iv4 av4 x1 x2 x3 x4 x5 x6 x7 x8 (0 : Int32))) else (jM_putTrack_246 K28 iv av x1 x2 x3 x4 x5 x6 x7))
def jM_putTrack_161 (K28 : (Nat → Int32) → (Nat → Nat → Int32) → Int32 → Int32 → Int32 → Int32 → Int32 → Int32 → Int32 → Option ((Nat → Int32) × (Nat → Nat → Int32))) (iv : Nat → Int32) (av : Nat → Nat → Int32) (x1 : Int32) (x2 : Int32) (x3 : Int32) (x4 : Int32) (x5 : Int32) (x6 : Int32) (x7 : Int32) (x8 : Int32) : Option ((Nat → Int32) × (Nat → Nat → Int32)) := if x8 < 0 ∨ 1001 ≤ x8.toNatClampNeg then none else (if (av 5 x8.toNatClampNeg) < 0 then (jM_putTrack_182 K28 iv av x1 x2 x3 x4 x5 x6 x7 x8) else (if x8 < 0 ∨ 1001 ≤ x8.toNatClampNeg then none else ((fM_put iv av (av 5 x8.toNatClampNeg)).bind fun (iv4, av4) => jM_putTrack_182 K28 iv4 av4 x1 x2 x3 x4 x5 x6 x7 x8)))
def jM_putTrack_138 (K28 : (Nat → Int32) → (Nat → Nat → Int32) → Int32 → Int32 → Int32 → Int32 → Int32 → Int32 → Int32 → Option ((Nat → Int32) × (Nat → Nat → Int32))) (iv : Nat → Int32) (av : Nat → Nat → Int32) (x1 : Int32) (x2 : Int32) (x3 : Int32) (x4 : Int32) (x5 : Int32) (x7 : Int32) (x8 : Int32) (s0 : Int32) : Option ((Nat → Int32) × (Nat → Nat → Int32)) := if x8 < 0 ∨ 1001 ≤ x8.toNatClampNeg then none else (if (av 4 x8.toNatClampNeg) < 0 then (jM_putTrack_161 K28 iv av x1 x2 x3 x4 x5 s0 x7 x8) else (if x8 < 0 ∨ 1001 ≤ x8.toNatClampNeg then none else ((fM_put iv av (av 4 x8.toNatClampNeg)).bind fun (iv4, av4) => jM_putTrack_161 K28 iv4 av4 x1 x2 x3 x4 x5 s0 x7 x8)))
def jM_putTrack_114 (K28 : (Nat → Int32) → (Nat → Nat → Int32) → Int32 → Int32 → Int32 → Int32 → Int32 → Int32 → Int32 → Option ((Nat → Int32) × (Nat → Nat → Int32))) (iv : Nat → Int32) (av : Nat → Nat → Int32) (x1 : Int32) (x2 : Int32) (x3 : Int32) (x4 : Int32) (x5 : Int32) (x7 : Int32) (x8 : Int32) : Option ((Nat → Int32) × (Nat → Nat → Int32)) := if x8 < 0 ∨ 1001 ≤ x8.toNatClampNeg then none else (if (240 : Int32) ≤ (av 3 x8.toNatClampNeg) then (jM_putTrack_138 K28 iv av x1 x2 x3 x4 x5 x7 x8 (0 : Int32)) else (if x8 < 0 ∨ 1001 ≤ x8.toNatClampNeg then none else (jM_putTrack_138 K28 iv av x1 x2 x3 x4 x5 x7 x8 (av 3 x8.toNatClampNeg))))
def jM_putTrack_103 (K28 : (Nat → Int32) → (Nat → Nat → Int32) → Int32 → Int32 → Int32 → Int32 → Int32 → Int32 → Int32 → Option ((Nat → Int32) × (Nat → Nat → Int32))) (iv : Nat → Int32) (av : Nat → Nat → Int32) (x1 : Int32) (x2 : Int32) (x3 : Int32) (x4 : Int32) (x5 : Int32) (x7 : Int32) (x8 : Int32) : Option ((Nat → Int32) × (Nat → Nat → Int32)) := if x8 < 0 ∨ 1001 ≤ x8.toNatClampNeg then none else ((fM_put iv av (av 3 x8.toNatClampNeg)).bind fun (iv2, av2) => jM_putTrack_114 K28 iv2 av2 x1 x2 x3 x4 x5 x7 x8)
def jM_putTrack_64 (K28 : (Nat → Int32) → (Nat → Nat → Int32) → Int32 → Int32 → Int32 → Int32 → Int32 → Int32 → Int32 → Option ((Nat → Int32) × (Nat → Nat → Int32))) (iv : Nat → Int32) (av : Nat → Nat → Int32) (x1 : Int32) (x2 : Int32) (x3 : Int32) (x4 : Int32) (x5 : Int32) (x6 : Int32) (x7 : Int32) (x8 : Int32) : Option ((Nat → Int32) × (Nat → Nat → Int32)) := if x8 < 0 ∨ 1001 ≤ x8.toNatClampNeg then none else ((fM_putNumber iv av ((av 1 x8.toNatClampNeg) - x5)).bind fun (iv2, av2) => if x8 < 0 ∨ 1001 ≤ x8.toNatClampNeg then none else (if x3 = 0 then (jM_putTrack_103 K28 iv2 av2 x1 x2 x3 x4 (av2 1 x8.toNatClampNeg) x7 x8) else (if x8 < 0 ∨ 1001 ≤ x8.toNatClampNeg then none else (if (av2 3 x8.toNatClampNeg) = x6 then (jM_putTrack_114 K28 iv2 av2 x1 x2 x3 x4 (av2 1 x8.toNatClampNeg) x7 x8) else (jM_putTrack_103 K28 iv2 av2 x1 x2 x3 x4 (av2 1 x8.toNatClampNeg) x7 x8)))))
def lM_putTrack_273 : Nat → (Nat → Int32) → (Nat → Nat → Int32) → Int32 → Int32 → Int32 → Option ((Nat → Int32) × (Nat → Nat → Int32))
  | 0 => fun _ _ _ _ _ => none
  | k + 1 => fun iv av x4 x7 x8 => if (4 : Int32) ≤ x8 then (some (iv, av)) else (if (x4 + x8) < 0 ∨ 32768 ≤ (x4 + x8).toNatClampNeg then none else (lM_putTrack_273 k iv (up2 av 11 (x4 + x8).toNatClampNeg ((x7 >>> (((8 : Int32) * ((3 : Int32) - x8)) &&& 31)) &&& (255 : Int32))) x4 x7 (x8 + 1)))
def lM_putTrack_28 : Nat → (Nat → Int32) → (Nat → Nat → Int32) → Int32 → Int32 → Int32 → Int32 → Int32 → Int32 → Int32 → Option ((Nat → Int32) × (Nat → Nat → Int32))
  | 0 => fun _ _ _ _ _ _ _ _ _ => none
  | k + 1 => fun iv av x1 x2 x3 x4 x5 x6 x7 => if (iv 10) ≤ x7 then ((fM_puts iv av (16723712 : Int32) (4 : Int32)).bind fun (iv2, av2) => lM_putTrack_273 FU iv2 av2 x4 (((iv2 12) - x4) - (4 : Int32)) (0 : Int32)) else (if x7 < 0 ∨ 1001 ≤ x7.toNatClampNeg then none else (if x2 = 0 then (if (av 8 x7.toNatClampNeg) < 0 ∨ 1001 ≤ (av 8 x7.toNatClampNeg).toNatClampNeg then none else (if (av 2 (av 8 x7.toNatClampNeg).toNatClampNeg) = x1 then (jM_putTrack_64 (lM_putTrack_28 k) iv av x1 x2 x3 x4 x5 x6 x7 (av 8 x7.toNatClampNeg)) else (jM_putTrack_246 (lM_putTrack_28 k) iv av x1 x2 x3 x4 x5 x6 x7))) else (jM_putTrack_64 (lM_putTrack_28 k) iv av x1 x2 x3 x4 x5 x6 x7 (av 8 x7.toNatClampNeg))))
def fM_putTrack (iv : Nat → Int32) (av : Nat → Nat → Int32) (x1 : Int32) (x2 : Int32) (x3 : Int32) : Option ((Nat → Int32) × (Nat → Nat → Int32)) := (fM_puts iv av (1297379947 : Int32) (4 : Int32)).bind fun (iv1, av1) => (fM_puts iv1 av1 (0 : Int32) (4 : Int32)).bind fun (iv2, av2) => lM_putTrack_28 FU iv2 av2 x1 x2 x3 (iv1 12) (0 : Int32) (0 : Int32) (0 : Int32)
set_option maxHeartbeats 4000000 in
set_option maxRecDepth 100000 in
theorem wM_putTrack_246 {p : Program} {l : Launch} {e : Env} {s : State} {m : MethodId} {args : Array Value} {below : List Frame} {meth : Method} {c : Code} {g : gT} {q : Nat} {ad : Nat → Nat} {X : va_W} {rv : Option Value} {iv' : Nat → Int32} {av' : Nat → Nat → Int32} (C : mCx p m c cM_putTrack 10 s args g "MidiDeskModel") (hr : meth.sig.returnType = none) (hlk : meth.locks = false) (hrv : rv = none) {K28 : (Nat → Int32) → (Nat → Nat → Int32) → Int32 → Int32 → Int32 → Int32 → Int32 → Int32 → Int32 → Option ((Nat → Int32) × (Nat → Nat → Int32))} (hK28 : ∀ (iv : Nat → Int32) (av : Nat → Nat → Int32) (x1 : Int32) (x2 : Int32) (x3 : Int32) (x4 : Int32) (x5 : Int32) (x6 : Int32) (x7 : Int32) (H : Heap) (locs : List Loc) (ls : Array Slot), lv_has ls 10 [(0, .ref q), (1, .int x1), (2, .int x2), (3, .int x3), (4, .int x4), (5, .int x5), (6, .int x6), (7, .int x7)] → mWd g (mA g q ad X s.heap.size) s.heap q ad X iv av H locs → K28 iv av x1 x2 x3 x4 x5 x6 x7 = some (iv', av') → mG p l e rM_putTrack s m args below meth c g q ad X rv iv' av' H locs 0 0 (F0 m 28 ls [])) (iv : Nat → Int32) (av : Nat → Nat → Int32) (x1 : Int32) (x2 : Int32) (x3 : Int32) (x4 : Int32) (x5 : Int32) (x6 : Int32) (x7 : Int32) (H : Heap) (locs : List Loc) (ls : Array Slot) (hl : lv_has ls 10 [(0, .ref q), (1, .int x1), (2, .int x2), (3, .int x3), (4, .int x4), (5, .int x5), (6, .int x6), (7, .int x7)]) (hw : mWd g (mA g q ad X s.heap.size) s.heap q ad X iv av H locs) (hf : jM_putTrack_246 K28 iv av x1 x2 x3 x4 x5 x6 x7 = some (iv', av')) : mG p l e rM_putTrack s m args below meth c g q ad X rv iv' av' H locs 0 0 (F0 m 246 ls []) := by
  unfold jM_putTrack_246 at hf
  refine lv_iinc (v := x7 + 1) (lv' := [(7, .int (x7 + 1)), (0, .ref q), (1, .int x1), (2, .int x2), (3, .int x3), (4, .int x4), (5, .int x5), (6, .int x6)]) C.1.1 C.1.2.1 dM_putTrack_246 hl (k := 7) rfl rfl (by decide) rfl (fun ls hl => ?_)
  refine lv_goto (tgt := 28) C.1.1 C.1.2.1 dM_putTrack_249 (by decide) ?_
  exact hK28 iv av x1 x2 x3 x4 x5 x6 (x7 + 1) _ _ ls (lv_sub hl [1, 2, 3, 4, 5, 6, 7, 0] rfl) hw hf
set_option maxHeartbeats 4000000 in
set_option maxRecDepth 100000 in
theorem wM_putTrack_209 {p : Program} {l : Launch} {e : Env} {s : State} {m : MethodId} {args : Array Value} {below : List Frame} {meth : Method} {c : Code} {g : gT} {q : Nat} {ad : Nat → Nat} {X : va_W} {rv : Option Value} {iv' : Nat → Int32} {av' : Nat → Nat → Int32} (C : mCx p m c cM_putTrack 10 s args g "MidiDeskModel") (hr : meth.sig.returnType = none) (hlk : meth.locks = false) (hrv : rv = none) {K28 : (Nat → Int32) → (Nat → Nat → Int32) → Int32 → Int32 → Int32 → Int32 → Int32 → Int32 → Int32 → Option ((Nat → Int32) × (Nat → Nat → Int32))} (hK28 : ∀ (iv : Nat → Int32) (av : Nat → Nat → Int32) (x1 : Int32) (x2 : Int32) (x3 : Int32) (x4 : Int32) (x5 : Int32) (x6 : Int32) (x7 : Int32) (H : Heap) (locs : List Loc) (ls : Array Slot), lv_has ls 10 [(0, .ref q), (1, .int x1), (2, .int x2), (3, .int x3), (4, .int x4), (5, .int x5), (6, .int x6), (7, .int x7)] → mWd g (mA g q ad X s.heap.size) s.heap q ad X iv av H locs → K28 iv av x1 x2 x3 x4 x5 x6 x7 = some (iv', av') → mG p l e rM_putTrack s m args below meth c g q ad X rv iv' av' H locs 0 0 (F0 m 28 ls [])) (k : Nat) : ∀ (iv : Nat → Int32) (av : Nat → Nat → Int32) (x1 : Int32) (x2 : Int32) (x3 : Int32) (x4 : Int32) (x5 : Int32) (x6 : Int32) (x7 : Int32) (x8 : Int32) (x9 : Int32) (H : Heap) (locs : List Loc) (ls : Array Slot), lv_has ls 10 [(0, .ref q), (1, .int x1), (2, .int x2), (3, .int x3), (4, .int x4), (5, .int x5), (6, .int x6), (7, .int x7), (8, .int x8), (9, .int x9)] → mWd g (mA g q ad X s.heap.size) s.heap q ad X iv av H locs → lM_putTrack_209 K28 k iv av x1 x2 x3 x4 x5 x6 x7 x8 x9 = some (iv', av') → mG p l e rM_putTrack s m args below meth c g q ad X rv iv' av' H locs 0 0 (F0 m 209 ls []) := by
  induction k with
  | zero => intro iv av x1 x2 x3 x4 x5 x6 x7 x8 x9 H locs ls hl hw hf; cases hf
  | succ k ih =>
    intro iv av x1 x2 x3 x4 x5 x6 x7 x8 x9 H locs ls hl hw hf
    have hf : (if x8 < 0 ∨ 1001 ≤ x8.toNatClampNeg then none else (if (av 7 x8.toNatClampNeg) ≤ x9 then (jM_putTrack_246 K28 iv av x1 x2 x3 x4 x5 x6 x7) else (if x8 < 0 ∨ 1001 ≤ x8.toNatClampNeg then none else (if ((av 6 x8.toNatClampNeg) + x9) < 0 ∨ 20100 ≤ ((av 6 x8.toNatClampNeg) + x9).toNatClampNeg then none else ((fM_put iv av (av 10 ((av 6 x8.toNatClampNeg) + x9).toNatClampNeg)).bind fun (iv5, av5) => lM_putTrack_209 K28 k iv5 av5 x1 x2 x3 x4 x5 x6 x7 x8 (x9 + 1)))))) = some (iv', av') := hf
    refine lv_iload C.1.1 C.1.2.1 dM_putTrack_209 (lv_at hl 9 rfl) ?_
    refine lv_aload_n C.1.1 C.1.2.1 dM_putTrack_211 rfl (lv_at hl 0 rfl) ?_
    refine mg_counts C hw dM_putTrack_212 ?_
    refine lv_iload C.1.1 C.1.2.1 dM_putTrack_215 (lv_at hl 8 rfl) ?_
    obtain ⟨h1, hf⟩ := ts_g hf
    refine ma_counts C hw h1 dM_putTrack_217 ?_
    refine lv_icmp_ge (tgt := 246) C.1.1 C.1.2.1 dM_putTrack_218 (by decide) (fun c2 => ?_) (fun c2 => ?_)
    · have hf := ts_t hf c2
      exact wM_putTrack_246 C hr hlk hrv hK28 iv av x1 x2 x3 x4 x5 x6 x7 _ _ ls (lv_sub hl [0, 1, 2, 3, 4, 5, 6, 7] rfl) hw hf
    · have hf := ts_f hf c2
      refine lv_aload_n C.1.1 C.1.2.1 dM_putTrack_221 rfl (lv_at hl 0 rfl) ?_
      refine lv_aload_n C.1.1 C.1.2.1 dM_putTrack_222 rfl (lv_at hl 0 rfl) ?_
      refine mg_bytes C hw dM_putTrack_223 ?_
      refine lv_aload_n C.1.1 C.1.2.1 dM_putTrack_226 rfl (lv_at hl 0 rfl) ?_
      refine mg_from C hw dM_putTrack_227 ?_
      refine lv_iload C.1.1 C.1.2.1 dM_putTrack_230 (lv_at hl 8 rfl) ?_
      obtain ⟨h3, hf⟩ := ts_g hf
      refine ma_from C hw h3 dM_putTrack_232 ?_
      refine lv_iload C.1.1 C.1.2.1 dM_putTrack_233 (lv_at hl 9 rfl) ?_
      refine lv_iadd C.1.1 C.1.2.1 dM_putTrack_235 ?_
      obtain ⟨h4, hf⟩ := ts_g hf
      refine ma_bytes C hw h4 dM_putTrack_236 ?_
      obtain ⟨⟨iv5, av5⟩, g5, hf⟩ := ts_b hf
      dsimp only at hf
      refine m_callV (rest := []) (As := [.int (av 10 ((av 6 x8.toNatClampNeg) + x9).toNatClampNeg)]) (rv := none) C hl.1 hw (cM_put_met g5) (callW_of (rm := rM_put) 1 C.1.2.2.2.2 gw_944 gw_946 gw_47 gw_55 gw_947 kM_put ⟨Nat.le_of_ble_eq_true rfl, Nat.le_of_ble_eq_true rfl⟩) rfl rfl (Nat.le_of_ble_eq_true rfl) dM_putTrack_237 ⟨Nat.le_of_ble_eq_true rfl, Nat.le_of_ble_eq_true rfl⟩ (fun H locs hw => ?_)
      refine W.eq (g2 := F0 m 240 ls []) rfl ?_
      refine lv_iinc (v := x9 + 1) (lv' := [(9, .int (x9 + 1)), (0, .ref q), (1, .int x1), (2, .int x2), (3, .int x3), (4, .int x4), (5, .int x5), (6, .int x6), (7, .int x7), (8, .int x8)]) C.1.1 C.1.2.1 dM_putTrack_240 hl (k := 9) rfl rfl (by decide) rfl (fun ls hl => ?_)
      refine lv_goto (tgt := 209) C.1.1 C.1.2.1 dM_putTrack_243 (by decide) ?_
      exact ih iv5 av5 x1 x2 x3 x4 x5 x6 x7 x8 (x9 + 1) _ _ ls (lv_sub hl [1, 2, 3, 4, 5, 6, 7, 8, 9, 0] rfl) hw hf
set_option maxHeartbeats 4000000 in
set_option maxRecDepth 100000 in
theorem wM_putTrack_182 {p : Program} {l : Launch} {e : Env} {s : State} {m : MethodId} {args : Array Value} {below : List Frame} {meth : Method} {c : Code} {g : gT} {q : Nat} {ad : Nat → Nat} {X : va_W} {rv : Option Value} {iv' : Nat → Int32} {av' : Nat → Nat → Int32} (C : mCx p m c cM_putTrack 10 s args g "MidiDeskModel") (hr : meth.sig.returnType = none) (hlk : meth.locks = false) (hrv : rv = none) {K28 : (Nat → Int32) → (Nat → Nat → Int32) → Int32 → Int32 → Int32 → Int32 → Int32 → Int32 → Int32 → Option ((Nat → Int32) × (Nat → Nat → Int32))} (hK28 : ∀ (iv : Nat → Int32) (av : Nat → Nat → Int32) (x1 : Int32) (x2 : Int32) (x3 : Int32) (x4 : Int32) (x5 : Int32) (x6 : Int32) (x7 : Int32) (H : Heap) (locs : List Loc) (ls : Array Slot), lv_has ls 10 [(0, .ref q), (1, .int x1), (2, .int x2), (3, .int x3), (4, .int x4), (5, .int x5), (6, .int x6), (7, .int x7)] → mWd g (mA g q ad X s.heap.size) s.heap q ad X iv av H locs → K28 iv av x1 x2 x3 x4 x5 x6 x7 = some (iv', av') → mG p l e rM_putTrack s m args below meth c g q ad X rv iv' av' H locs 0 0 (F0 m 28 ls [])) (iv : Nat → Int32) (av : Nat → Nat → Int32) (x1 : Int32) (x2 : Int32) (x3 : Int32) (x4 : Int32) (x5 : Int32) (x6 : Int32) (x7 : Int32) (x8 : Int32) (H : Heap) (locs : List Loc) (ls : Array Slot) (hl : lv_has ls 10 [(0, .ref q), (1, .int x1), (2, .int x2), (3, .int x3), (4, .int x4), (5, .int x5), (6, .int x6), (7, .int x7), (8, .int x8)]) (hw : mWd g (mA g q ad X s.heap.size) s.heap q ad X iv av H locs) (hf : jM_putTrack_182 K28 iv av x1 x2 x3 x4 x5 x6 x7 x8 = some (iv', av')) : mG p l e rM_putTrack s m args below meth c g q ad X rv iv' av' H locs 0 0 (F0 m 182 ls []) := by
  unfold jM_putTrack_182 at hf
  refine lv_aload_n C.1.1 C.1.2.1 dM_putTrack_182 rfl (lv_at hl 0 rfl) ?_
  refine mg_counts C hw dM_putTrack_183 ?_
  refine lv_iload C.1.1 C.1.2.1 dM_putTrack_186 (lv_at hl 8 rfl) ?_
  obtain ⟨h1, hf⟩ := ts_g hf
  refine ma_counts C hw h1 dM_putTrack_188 ?_
  refine lv_if_ge (tgt := 195) C.1.1 C.1.2.1 dM_putTrack_189 (by decide) (fun c2 => ?_) (fun c2 => ?_)
  · have hf := ts_t hf c2
    refine lv_aload_n C.1.1 C.1.2.1 dM_putTrack_195 rfl (lv_at hl 0 rfl) ?_
    refine lv_aload_n C.1.1 C.1.2.1 dM_putTrack_196 rfl (lv_at hl 0 rfl) ?_
    refine mg_counts C hw dM_putTrack_197 ?_
    refine lv_iload C.1.1 C.1.2.1 dM_putTrack_200 (lv_at hl 8 rfl) ?_
    obtain ⟨h3, hf⟩ := ts_g hf
    refine ma_counts C hw h3 dM_putTrack_202 ?_
    obtain ⟨⟨iv4, av4⟩, g4, hf⟩ := ts_b hf
    dsimp only at hf
    refine m_callV (rest := []) (As := [.int (av 7 x8.toNatClampNeg)]) (rv := none) C hl.1 hw (cM_putNumber_met g4) (callW_of (rm := rM_putNumber) 1 C.1.2.2.2.2 gw_953 gw_955 gw_49 gw_55 gw_956 kM_putNumber ⟨Nat.le_of_ble_eq_true rfl, Nat.le_of_ble_eq_true rfl⟩) rfl rfl (Nat.le_of_ble_eq_true rfl) dM_putTrack_203 ⟨Nat.le_of_ble_eq_true rfl, Nat.le_of_ble_eq_true rfl⟩ (fun H locs hw => ?_)
    refine W.eq (g2 := F0 m 206 ls []) rfl ?_
    refine lv_iconst (v := (0 : Int32)) C.1.1 C.1.2.1 dM_putTrack_206 (by decide) ?_
    refine lv_istore (lv' := [(9, .int (0 : Int32)), (0, .ref q), (1, .int x1), (2, .int x2), (3, .int x3), (4, .int x4), (5, .int x5), (6, .int x6), (7, .int x7), (8, .int x8)]) C.1.1 C.1.2.1 dM_putTrack_207 hl (by decide) rfl (fun ls hl => ?_)
    exact wM_putTrack_209 C hr hlk hrv hK28 FU iv4 av4 x1 x2 x3 x4 x5 x6 x7 x8 (0 : Int32) _ _ ls (lv_sub hl [1, 2, 3, 4, 5, 6, 7, 8, 9, 0] rfl) hw hf
  · have hf := ts_f hf c2
    refine lv_goto (tgt := 246) C.1.1 C.1.2.1 dM_putTrack_192 (by decide) ?_
    exact wM_putTrack_246 C hr hlk hrv hK28 iv av x1 x2 x3 x4 x5 x6 x7 _ _ ls (lv_sub hl [0, 1, 2, 3, 4, 5, 6, 7] rfl) hw hf
set_option maxHeartbeats 4000000 in
set_option maxRecDepth 100000 in
theorem wM_putTrack_161 {p : Program} {l : Launch} {e : Env} {s : State} {m : MethodId} {args : Array Value} {below : List Frame} {meth : Method} {c : Code} {g : gT} {q : Nat} {ad : Nat → Nat} {X : va_W} {rv : Option Value} {iv' : Nat → Int32} {av' : Nat → Nat → Int32} (C : mCx p m c cM_putTrack 10 s args g "MidiDeskModel") (hr : meth.sig.returnType = none) (hlk : meth.locks = false) (hrv : rv = none) {K28 : (Nat → Int32) → (Nat → Nat → Int32) → Int32 → Int32 → Int32 → Int32 → Int32 → Int32 → Int32 → Option ((Nat → Int32) × (Nat → Nat → Int32))} (hK28 : ∀ (iv : Nat → Int32) (av : Nat → Nat → Int32) (x1 : Int32) (x2 : Int32) (x3 : Int32) (x4 : Int32) (x5 : Int32) (x6 : Int32) (x7 : Int32) (H : Heap) (locs : List Loc) (ls : Array Slot), lv_has ls 10 [(0, .ref q), (1, .int x1), (2, .int x2), (3, .int x3), (4, .int x4), (5, .int x5), (6, .int x6), (7, .int x7)] → mWd g (mA g q ad X s.heap.size) s.heap q ad X iv av H locs → K28 iv av x1 x2 x3 x4 x5 x6 x7 = some (iv', av') → mG p l e rM_putTrack s m args below meth c g q ad X rv iv' av' H locs 0 0 (F0 m 28 ls [])) (iv : Nat → Int32) (av : Nat → Nat → Int32) (x1 : Int32) (x2 : Int32) (x3 : Int32) (x4 : Int32) (x5 : Int32) (x6 : Int32) (x7 : Int32) (x8 : Int32) (H : Heap) (locs : List Loc) (ls : Array Slot) (hl : lv_has ls 10 [(0, .ref q), (1, .int x1), (2, .int x2), (3, .int x3), (4, .int x4), (5, .int x5), (6, .int x6), (7, .int x7), (8, .int x8)]) (hw : mWd g (mA g q ad X s.heap.size) s.heap q ad X iv av H locs) (hf : jM_putTrack_161 K28 iv av x1 x2 x3 x4 x5 x6 x7 x8 = some (iv', av')) : mG p l e rM_putTrack s m args below meth c g q ad X rv iv' av' H locs 0 0 (F0 m 161 ls []) := by
  unfold jM_putTrack_161 at hf
  refine lv_aload_n C.1.1 C.1.2.1 dM_putTrack_161 rfl (lv_at hl 0 rfl) ?_
  refine mg_second C hw dM_putTrack_162 ?_
  refine lv_iload C.1.1 C.1.2.1 dM_putTrack_165 (lv_at hl 8 rfl) ?_
  obtain ⟨h1, hf⟩ := ts_g hf
  refine ma_second C hw h1 dM_putTrack_167 ?_
  refine lv_if_lt (tgt := 182) C.1.1 C.1.2.1 dM_putTrack_168 (by decide) (fun c2 => ?_) (fun c2 => ?_)
  · have hf := ts_t hf c2
    exact wM_putTrack_182 C hr hlk hrv hK28 iv av x1 x2 x3 x4 x5 x6 x7 x8 _ _ ls (lv_sub hl [0, 1, 2, 3, 4, 5, 6, 7, 8] rfl) hw hf
  · have hf := ts_f hf c2
    refine lv_aload_n C.1.1 C.1.2.1 dM_putTrack_171 rfl (lv_at hl 0 rfl) ?_
    refine lv_aload_n C.1.1 C.1.2.1 dM_putTrack_172 rfl (lv_at hl 0 rfl) ?_
    refine mg_second C hw dM_putTrack_173 ?_
    refine lv_iload C.1.1 C.1.2.1 dM_putTrack_176 (lv_at hl 8 rfl) ?_
    obtain ⟨h3, hf⟩ := ts_g hf
    refine ma_second C hw h3 dM_putTrack_178 ?_
    obtain ⟨⟨iv4, av4⟩, g4, hf⟩ := ts_b hf
    dsimp only at hf
    refine m_callV (rest := []) (As := [.int (av 5 x8.toNatClampNeg)]) (rv := none) C hl.1 hw (cM_put_met g4) (callW_of (rm := rM_put) 1 C.1.2.2.2.2 gw_944 gw_946 gw_47 gw_55 gw_947 kM_put ⟨Nat.le_of_ble_eq_true rfl, Nat.le_of_ble_eq_true rfl⟩) rfl rfl (Nat.le_of_ble_eq_true rfl) dM_putTrack_179 ⟨Nat.le_of_ble_eq_true rfl, Nat.le_of_ble_eq_true rfl⟩ (fun H locs hw => ?_)
    refine W.eq (g2 := F0 m 182 ls []) rfl ?_
    exact wM_putTrack_182 C hr hlk hrv hK28 iv4 av4 x1 x2 x3 x4 x5 x6 x7 x8 _ _ ls (lv_sub hl [0, 1, 2, 3, 4, 5, 6, 7, 8] rfl) hw hf
set_option maxHeartbeats 4000000 in
set_option maxRecDepth 100000 in
theorem wM_putTrack_138 {p : Program} {l : Launch} {e : Env} {s : State} {m : MethodId} {args : Array Value} {below : List Frame} {meth : Method} {c : Code} {g : gT} {q : Nat} {ad : Nat → Nat} {X : va_W} {rv : Option Value} {iv' : Nat → Int32} {av' : Nat → Nat → Int32} (C : mCx p m c cM_putTrack 10 s args g "MidiDeskModel") (hr : meth.sig.returnType = none) (hlk : meth.locks = false) (hrv : rv = none) {K28 : (Nat → Int32) → (Nat → Nat → Int32) → Int32 → Int32 → Int32 → Int32 → Int32 → Int32 → Int32 → Option ((Nat → Int32) × (Nat → Nat → Int32))} (hK28 : ∀ (iv : Nat → Int32) (av : Nat → Nat → Int32) (x1 : Int32) (x2 : Int32) (x3 : Int32) (x4 : Int32) (x5 : Int32) (x6 : Int32) (x7 : Int32) (H : Heap) (locs : List Loc) (ls : Array Slot), lv_has ls 10 [(0, .ref q), (1, .int x1), (2, .int x2), (3, .int x3), (4, .int x4), (5, .int x5), (6, .int x6), (7, .int x7)] → mWd g (mA g q ad X s.heap.size) s.heap q ad X iv av H locs → K28 iv av x1 x2 x3 x4 x5 x6 x7 = some (iv', av') → mG p l e rM_putTrack s m args below meth c g q ad X rv iv' av' H locs 0 0 (F0 m 28 ls [])) (iv : Nat → Int32) (av : Nat → Nat → Int32) (x1 : Int32) (x2 : Int32) (x3 : Int32) (x4 : Int32) (x5 : Int32) (x7 : Int32) (x8 : Int32) (s0 : Int32) (H : Heap) (locs : List Loc) (ls : Array Slot) (hl : lv_has ls 10 [(0, .ref q), (1, .int x1), (2, .int x2), (3, .int x3), (4, .int x4), (5, .int x5), (7, .int x7), (8, .int x8)]) (hw : mWd g (mA g q ad X s.heap.size) s.heap q ad X iv av H locs) (hf : jM_putTrack_138 K28 iv av x1 x2 x3 x4 x5 x7 x8 s0 = some (iv', av')) : mG p l e rM_putTrack s m args below meth c g q ad X rv iv' av' H locs 0 0 (F0 m 138 ls [.int s0]) := by
  unfold jM_putTrack_138 at hf
  refine lv_istore (lv' := [(6, .int s0), (0, .ref q), (1, .int x1), (2, .int x2), (3, .int x3), (4, .int x4), (5, .int x5), (7, .int x7), (8, .int x8)]) C.1.1 C.1.2.1 dM_putTrack_138 hl (by decide) rfl (fun ls hl => ?_)
  refine lv_aload_n C.1.1 C.1.2.1 dM_putTrack_140 rfl (lv_at hl 1 rfl) ?_
  refine mg_first C hw dM_putTrack_141 ?_
  refine lv_iload C.1.1 C.1.2.1 dM_putTrack_144 (lv_at hl 8 rfl) ?_
  obtain ⟨h1, hf⟩ := ts_g hf
  refine ma_first C hw h1 dM_putTrack_146 ?_
  refine lv_if_lt (tgt := 161) C.1.1 C.1.2.1 dM_putTrack_147 (by decide) (fun c2 => ?_) (fun c2 => ?_)
  · have hf := ts_t hf c2
    exact wM_putTrack_161 C hr hlk hrv hK28 iv av x1 x2 x3 x4 x5 s0 x7 x8 _ _ ls (lv_sub hl [1, 2, 3, 4, 5, 6, 0, 7, 8] rfl) hw hf
  · have hf := ts_f hf c2
    refine lv_aload_n C.1.1 C.1.2.1 dM_putTrack_150 rfl (lv_at hl 1 rfl) ?_
    refine lv_aload_n C.1.1 C.1.2.1 dM_putTrack_151 rfl (lv_at hl 1 rfl) ?_
    refine mg_first C hw dM_putTrack_152 ?_
    refine lv_iload C.1.1 C.1.2.1 dM_putTrack_155 (lv_at hl 8 rfl) ?_
    obtain ⟨h3, hf⟩ := ts_g hf
    refine ma_first C hw h3 dM_putTrack_157 ?_
    obtain ⟨⟨iv4, av4⟩, g4, hf⟩ := ts_b hf
    dsimp only at hf
    refine m_callV (rest := []) (As := [.int (av 4 x8.toNatClampNeg)]) (rv := none) C hl.1 hw (cM_put_met g4) (callW_of (rm := rM_put) 1 C.1.2.2.2.2 gw_944 gw_946 gw_47 gw_55 gw_947 kM_put ⟨Nat.le_of_ble_eq_true rfl, Nat.le_of_ble_eq_true rfl⟩) rfl rfl (Nat.le_of_ble_eq_true rfl) dM_putTrack_158 ⟨Nat.le_of_ble_eq_true rfl, Nat.le_of_ble_eq_true rfl⟩ (fun H locs hw => ?_)
    refine W.eq (g2 := F0 m 161 ls []) rfl ?_
    exact wM_putTrack_161 C hr hlk hrv hK28 iv4 av4 x1 x2 x3 x4 x5 s0 x7 x8 _ _ ls (lv_sub hl [1, 2, 3, 4, 5, 6, 0, 7, 8] rfl) hw hf
set_option maxHeartbeats 4000000 in
set_option maxRecDepth 100000 in
theorem wM_putTrack_114 {p : Program} {l : Launch} {e : Env} {s : State} {m : MethodId} {args : Array Value} {below : List Frame} {meth : Method} {c : Code} {g : gT} {q : Nat} {ad : Nat → Nat} {X : va_W} {rv : Option Value} {iv' : Nat → Int32} {av' : Nat → Nat → Int32} (C : mCx p m c cM_putTrack 10 s args g "MidiDeskModel") (hr : meth.sig.returnType = none) (hlk : meth.locks = false) (hrv : rv = none) {K28 : (Nat → Int32) → (Nat → Nat → Int32) → Int32 → Int32 → Int32 → Int32 → Int32 → Int32 → Int32 → Option ((Nat → Int32) × (Nat → Nat → Int32))} (hK28 : ∀ (iv : Nat → Int32) (av : Nat → Nat → Int32) (x1 : Int32) (x2 : Int32) (x3 : Int32) (x4 : Int32) (x5 : Int32) (x6 : Int32) (x7 : Int32) (H : Heap) (locs : List Loc) (ls : Array Slot), lv_has ls 10 [(0, .ref q), (1, .int x1), (2, .int x2), (3, .int x3), (4, .int x4), (5, .int x5), (6, .int x6), (7, .int x7)] → mWd g (mA g q ad X s.heap.size) s.heap q ad X iv av H locs → K28 iv av x1 x2 x3 x4 x5 x6 x7 = some (iv', av') → mG p l e rM_putTrack s m args below meth c g q ad X rv iv' av' H locs 0 0 (F0 m 28 ls [])) (iv : Nat → Int32) (av : Nat → Nat → Int32) (x1 : Int32) (x2 : Int32) (x3 : Int32) (x4 : Int32) (x5 : Int32) (x7 : Int32) (x8 : Int32) (H : Heap) (locs : List Loc) (ls : Array Slot) (hl : lv_has ls 10 [(0, .ref q), (1, .int x1), (2, .int x2), (3, .int x3), (4, .int x4), (5, .int x5), (7, .int x7), (8, .int x8)]) (hw : mWd g (mA g q ad X s.heap.size) s.heap q ad X iv av H locs) (hf : jM_putTrack_114 K28 iv av x1 x2 x3 x4 x5 x7 x8 = some (iv', av')) : mG p l e rM_putTrack s m args below meth c g q ad X rv iv' av' H locs 0 0 (F0 m 114 ls []) := by
  unfold jM_putTrack_114 at hf
  refine lv_aload_n C.1.1 C.1.2.1 dM_putTrack_114 rfl (lv_at hl 0 rfl) ?_
  refine mg_status C hw dM_putTrack_115 ?_
  refine lv_iload C.1.1 C.1.2.1 dM_putTrack_118 (lv_at hl 7 rfl) ?_
  obtain ⟨h1, hf⟩ := ts_g hf
  refine ma_status C hw h1 dM_putTrack_120 ?_
  refine lv_sipush (v := (240 : Int32)) C.1.1 C.1.2.1 dM_putTrack_121 (by decide) ?_
  refine lv_icmp_ge (tgt := 137) C.1.1 C.1.2.1 dM_putTrack_124 (by decide) (fun c2 => ?_) (fun c2 => ?_)
  · have hf := ts_t hf c2
    refine lv_iconst (v := (0 : Int32)) C.1.1 C.1.2.1 dM_putTrack_137 (by decide) ?_
    exact wM_putTrack_138 C hr hlk hrv hK28 iv av x1 x2 x3 x4 x5 x7 x8 (0 : Int32) _ _ ls (lv_sub hl [0, 1, 2, 3, 4, 5, 6, 7] rfl) hw hf
  · have hf := ts_f hf c2
    refine lv_aload_n C.1.1 C.1.2.1 dM_putTrack_127 rfl (lv_at hl 0 rfl) ?_
    refine mg_status C hw dM_putTrack_128 ?_
    refine lv_iload C.1.1 C.1.2.1 dM_putTrack_131 (lv_at hl 7 rfl) ?_
    obtain ⟨h3, hf⟩ := ts_g hf
    refine ma_status C hw h3 dM_putTrack_133 ?_
    refine lv_goto (tgt := 138) C.1.1 C.1.2.1 dM_putTrack_134 (by decide) ?_
    exact wM_putTrack_138 C hr hlk hrv hK28 iv av x1 x2 x3 x4 x5 x7 x8 (av 3 x8.toNatClampNeg) _ _ ls (lv_sub hl [0, 1, 2, 3, 4, 5, 6, 7] rfl) hw hf
set_option maxHeartbeats 4000000 in
set_option maxRecDepth 100000 in
theorem wM_putTrack_103 {p : Program} {l : Launch} {e : Env} {s : State} {m : MethodId} {args : Array Value} {below : List Frame} {meth : Method} {c : Code} {g : gT} {q : Nat} {ad : Nat → Nat} {X : va_W} {rv : Option Value} {iv' : Nat → Int32} {av' : Nat → Nat → Int32} (C : mCx p m c cM_putTrack 10 s args g "MidiDeskModel") (hr : meth.sig.returnType = none) (hlk : meth.locks = false) (hrv : rv = none) {K28 : (Nat → Int32) → (Nat → Nat → Int32) → Int32 → Int32 → Int32 → Int32 → Int32 → Int32 → Int32 → Option ((Nat → Int32) × (Nat → Nat → Int32))} (hK28 : ∀ (iv : Nat → Int32) (av : Nat → Nat → Int32) (x1 : Int32) (x2 : Int32) (x3 : Int32) (x4 : Int32) (x5 : Int32) (x6 : Int32) (x7 : Int32) (H : Heap) (locs : List Loc) (ls : Array Slot), lv_has ls 10 [(0, .ref q), (1, .int x1), (2, .int x2), (3, .int x3), (4, .int x4), (5, .int x5), (6, .int x6), (7, .int x7)] → mWd g (mA g q ad X s.heap.size) s.heap q ad X iv av H locs → K28 iv av x1 x2 x3 x4 x5 x6 x7 = some (iv', av') → mG p l e rM_putTrack s m args below meth c g q ad X rv iv' av' H locs 0 0 (F0 m 28 ls [])) (iv : Nat → Int32) (av : Nat → Nat → Int32) (x1 : Int32) (x2 : Int32) (x3 : Int32) (x4 : Int32) (x5 : Int32) (x7 : Int32) (x8 : Int32) (H : Heap) (locs : List Loc) (ls : Array Slot) (hl : lv_has ls 10 [(0, .ref q), (1, .int x1), (2, .int x2), (3, .int x3), (4, .int x4), (5, .int x5), (7, .int x7), (8, .int x8)]) (hw : mWd g (mA g q ad X s.heap.size) s.heap q ad X iv av H locs) (hf : jM_putTrack_103 K28 iv av x1 x2 x3 x4 x5 x7 x8 = some (iv', av')) : mG p l e rM_putTrack s m args below meth c g q ad X rv iv' av' H locs 0 0 (F0 m 103 ls []) := by
  unfold jM_putTrack_103 at hf
  refine lv_aload_n C.1.1 C.1.2.1 dM_putTrack_103 rfl (lv_at hl 0 rfl) ?_
  refine lv_aload_n C.1.1 C.1.2.1 dM_putTrack_104 rfl (lv_at hl 0 rfl) ?_
  refine mg_status C hw dM_putTrack_105 ?_
  refine lv_iload C.1.1 C.1.2.1 dM_putTrack_108 (lv_at hl 7 rfl) ?_
  obtain ⟨h1, hf⟩ := ts_g hf
  refine ma_status C hw h1 dM_putTrack_110 ?_
  obtain ⟨⟨iv2, av2⟩, g2, hf⟩ := ts_b hf
  dsimp only at hf
  refine m_callV (rest := []) (As := [.int (av 3 x8.toNatClampNeg)]) (rv := none) C hl.1 hw (cM_put_met g2) (callW_of (rm := rM_put) 1 C.1.2.2.2.2 gw_944 gw_946 gw_47 gw_55 gw_947 kM_put ⟨Nat.le_of_ble_eq_true rfl, Nat.le_of_ble_eq_true rfl⟩) rfl rfl (Nat.le_of_ble_eq_true rfl) dM_putTrack_111 ⟨Nat.le_of_ble_eq_true rfl, Nat.le_of_ble_eq_true rfl⟩ (fun H locs hw => ?_)
  refine W.eq (g2 := F0 m 114 ls []) rfl ?_
  exact wM_putTrack_114 C hr hlk hrv hK28 iv2 av2 x1 x2 x3 x4 x5 x7 x8 _ _ ls (lv_sub hl [0, 1, 2, 3, 4, 5, 6, 7] rfl) hw hf
set_option maxHeartbeats 4000000 in
set_option maxRecDepth 100000 in
theorem wM_putTrack_64 {p : Program} {l : Launch} {e : Env} {s : State} {m : MethodId} {args : Array Value} {below : List Frame} {meth : Method} {c : Code} {g : gT} {q : Nat} {ad : Nat → Nat} {X : va_W} {rv : Option Value} {iv' : Nat → Int32} {av' : Nat → Nat → Int32} (C : mCx p m c cM_putTrack 10 s args g "MidiDeskModel") (hr : meth.sig.returnType = none) (hlk : meth.locks = false) (hrv : rv = none) {K28 : (Nat → Int32) → (Nat → Nat → Int32) → Int32 → Int32 → Int32 → Int32 → Int32 → Int32 → Int32 → Option ((Nat → Int32) × (Nat → Nat → Int32))} (hK28 : ∀ (iv : Nat → Int32) (av : Nat → Nat → Int32) (x1 : Int32) (x2 : Int32) (x3 : Int32) (x4 : Int32) (x5 : Int32) (x6 : Int32) (x7 : Int32) (H : Heap) (locs : List Loc) (ls : Array Slot), lv_has ls 10 [(0, .ref q), (1, .int x1), (2, .int x2), (3, .int x3), (4, .int x4), (5, .int x5), (6, .int x6), (7, .int x7)] → mWd g (mA g q ad X s.heap.size) s.heap q ad X iv av H locs → K28 iv av x1 x2 x3 x4 x5 x6 x7 = some (iv', av') → mG p l e rM_putTrack s m args below meth c g q ad X rv iv' av' H locs 0 0 (F0 m 28 ls [])) (iv : Nat → Int32) (av : Nat → Nat → Int32) (x1 : Int32) (x2 : Int32) (x3 : Int32) (x4 : Int32) (x5 : Int32) (x6 : Int32) (x7 : Int32) (x8 : Int32) (H : Heap) (locs : List Loc) (ls : Array Slot) (hl : lv_has ls 10 [(0, .ref q), (1, .int x1), (2, .int x2), (3, .int x3), (4, .int x4), (5, .int x5), (6, .int x6), (7, .int x7), (8, .int x8)]) (hw : mWd g (mA g q ad X s.heap.size) s.heap q ad X iv av H locs) (hf : jM_putTrack_64 K28 iv av x1 x2 x3 x4 x5 x6 x7 x8 = some (iv', av')) : mG p l e rM_putTrack s m args below meth c g q ad X rv iv' av' H locs 0 0 (F0 m 64 ls []) := by
  unfold jM_putTrack_64 at hf
  refine lv_aload_n C.1.1 C.1.2.1 dM_putTrack_64 rfl (lv_at hl 0 rfl) ?_
  refine lv_aload_n C.1.1 C.1.2.1 dM_putTrack_65 rfl (lv_at hl 0 rfl) ?_
  refine mg_ticks C hw dM_putTrack_66 ?_
  refine lv_iload C.1.1 C.1.2.1 dM_putTrack_69 (lv_at hl 8 rfl) ?_
  obtain ⟨h1, hf⟩ := ts_g hf
  refine ma_ticks C hw h1 dM_putTrack_71 ?_
  refine lv_iload C.1.1 C.1.2.1 dM_putTrack_72 (lv_at hl 5 rfl) ?_
  refine lv_isub C.1.1 C.1.2.1 dM_putTrack_74 ?_
  obtain ⟨⟨iv2, av2⟩, g2, hf⟩ := ts_b hf
  dsimp only at hf
  refine m_callV (rest := []) (As := [.int ((av 1 x8.toNatClampNeg) - x5)]) (rv := none) C hl.1 hw (cM_putNumber_met g2) (callW_of (rm := rM_putNumber) 1 C.1.2.2.2.2 gw_953 gw_955 gw_49 gw_55 gw_956 kM_putNumber ⟨Nat.le_of_ble_eq_true rfl, Nat.le_of_ble_eq_true rfl⟩) rfl rfl (Nat.le_of_ble_eq_true rfl) dM_putTrack_75 ⟨Nat.le_of_ble_eq_true rfl, Nat.le_of_ble_eq_true rfl⟩ (fun H locs hw => ?_)
  refine W.eq (g2 := F0 m 78 ls []) rfl ?_
  refine lv_aload_n C.1.1 C.1.2.1 dM_putTrack_78 rfl (lv_at hl 0 rfl) ?_
  refine mg_ticks C hw dM_putTrack_79 ?_
  refine lv_iload C.1.1 C.1.2.1 dM_putTrack_82 (lv_at hl 8 rfl) ?_
  obtain ⟨h3, hf⟩ := ts_g hf
  refine ma_ticks C hw h3 dM_putTrack_84 ?_
  refine lv_istore (lv' := [(5, .int (av2 1 x8.toNatClampNeg)), (0, .ref q), (1, .int x1), (2, .int x2), (3, .int x3), (4, .int x4), (6, .int x6), (7, .int x7), (8, .int x8)]) C.1.1 C.1.2.1 dM_putTrack_85 hl (by decide) rfl (fun ls hl => ?_)
  refine lv_iload_n C.1.1 C.1.2.1 dM_putTrack_87 rfl (lv_at hl 4 rfl) ?_
  refine lv_if_eq (tgt := 103) C.1.1 C.1.2.1 dM_putTrack_88 (by decide) (fun c4 => ?_) (fun c4 => ?_)
  · have hf := ts_t hf c4
    exact wM_putTrack_103 C hr hlk hrv hK28 iv2 av2 x1 x2 x3 x4 (av2 1 x8.toNatClampNeg) x7 x8 _ _ ls (lv_sub hl [1, 2, 3, 4, 5, 0, 7, 8] rfl) hw hf
  · have hf := ts_f hf c4
    refine lv_aload_n C.1.1 C.1.2.1 dM_putTrack_91 rfl (lv_at hl 1 rfl) ?_
    refine mg_status C hw dM_putTrack_92 ?_
    refine lv_iload C.1.1 C.1.2.1 dM_putTrack_95 (lv_at hl 8 rfl) ?_
    obtain ⟨h5, hf⟩ := ts_g hf
    refine ma_status C hw h5 dM_putTrack_97 ?_
    refine lv_iload C.1.1 C.1.2.1 dM_putTrack_98 (lv_at hl 6 rfl) ?_
    refine lv_icmp_eq (tgt := 114) C.1.1 C.1.2.1 dM_putTrack_100 (by decide) (fun c6 => ?_) (fun c6 => ?_)
    · have hf := ts_t hf c6
      exact wM_putTrack_114 C hr hlk hrv hK28 iv2 av2 x1 x2 x3 x4 (av2 1 x8.toNatClampNeg) x7 x8 _ _ ls (lv_sub hl [1, 2, 3, 4, 5, 0, 7, 8] rfl) hw hf
    · have hf := ts_f hf c6
      exact wM_putTrack_103 C hr hlk hrv hK28 iv2 av2 x1 x2 x3 x4 (av2 1 x8.toNatClampNeg) x7 x8 _ _ ls (lv_sub hl [1, 2, 3, 4, 5, 0, 7, 8] rfl) hw hf
set_option maxHeartbeats 4000000 in
set_option maxRecDepth 100000 in
theorem wM_putTrack_273 {p : Program} {l : Launch} {e : Env} {s : State} {m : MethodId} {args : Array Value} {below : List Frame} {meth : Method} {c : Code} {g : gT} {q : Nat} {ad : Nat → Nat} {X : va_W} {rv : Option Value} {iv' : Nat → Int32} {av' : Nat → Nat → Int32} (C : mCx p m c cM_putTrack 10 s args g "MidiDeskModel") (hr : meth.sig.returnType = none) (hlk : meth.locks = false) (hrv : rv = none) (k : Nat) : ∀ (iv : Nat → Int32) (av : Nat → Nat → Int32) (x4 : Int32) (x7 : Int32) (x8 : Int32) (H : Heap) (locs : List Loc) (ls : Array Slot), lv_has ls 10 [(0, .ref q), (4, .int x4), (7, .int x7), (8, .int x8)] → mWd g (mA g q ad X s.heap.size) s.heap q ad X iv av H locs → lM_putTrack_273 k iv av x4 x7 x8 = some (iv', av') → mG p l e rM_putTrack s m args below meth c g q ad X rv iv' av' H locs 0 0 (F0 m 273 ls []) := by
  induction k with
  | zero => intro iv av x4 x7 x8 H locs ls hl hw hf; cases hf
  | succ k ih =>
    intro iv av x4 x7 x8 H locs ls hl hw hf
    have hf : (if (4 : Int32) ≤ x8 then (some (iv, av)) else (if (x4 + x8) < 0 ∨ 32768 ≤ (x4 + x8).toNatClampNeg then none else (lM_putTrack_273 k iv (up2 av 11 (x4 + x8).toNatClampNeg ((x7 >>> (((8 : Int32) * ((3 : Int32) - x8)) &&& 31)) &&& (255 : Int32))) x4 x7 (x8 + 1)))) = some (iv', av') := hf
    refine lv_iload C.1.1 C.1.2.1 dM_putTrack_273 (lv_at hl 3 rfl) ?_
    refine lv_iconst (v := (4 : Int32)) C.1.1 C.1.2.1 dM_putTrack_275 (by decide) ?_
    refine lv_icmp_ge (tgt := 309) C.1.1 C.1.2.1 dM_putTrack_276 (by decide) (fun c1 => ?_) (fun c1 => ?_)
    · have hf := ts_t hf c1
      exact m_retv C hr hlk hrv hw hf ⟨Nat.le_of_ble_eq_true rfl, Nat.le_of_ble_eq_true rfl⟩ dM_putTrack_309
    · have hf := ts_f hf c1
      refine lv_aload_n C.1.1 C.1.2.1 dM_putTrack_279 rfl (lv_at hl 0 rfl) ?_
      refine mg_written C hw dM_putTrack_280 ?_
      refine lv_iload C.1.1 C.1.2.1 dM_putTrack_283 (lv_at hl 1 rfl) ?_
      refine lv_iload C.1.1 C.1.2.1 dM_putTrack_285 (lv_at hl 3 rfl) ?_
      refine lv_iadd C.1.1 C.1.2.1 dM_putTrack_287 ?_
      refine lv_iload C.1.1 C.1.2.1 dM_putTrack_288 (lv_at hl 2 rfl) ?_
      refine lv_bipush (v := (8 : Int32)) C.1.1 C.1.2.1 dM_putTrack_290 (by decide) ?_
      refine lv_iconst (v := (3 : Int32)) C.1.1 C.1.2.1 dM_putTrack_292 (by decide) ?_
      refine lv_iload C.1.1 C.1.2.1 dM_putTrack_293 (lv_at hl 3 rfl) ?_
      refine lv_isub C.1.1 C.1.2.1 dM_putTrack_295 ?_
      refine lv_imul C.1.1 C.1.2.1 dM_putTrack_296 ?_
      refine lv_ishr C.1.1 C.1.2.1 dM_putTrack_297 ?_
      refine lv_sipush (v := (255 : Int32)) C.1.1 C.1.2.1 dM_putTrack_298 (by decide) ?_
      refine lv_iand C.1.1 C.1.2.1 dM_putTrack_301 ?_
      obtain ⟨h2, hf⟩ := ts_g hf
      refine ms_written C hw h2 dM_putTrack_302 (fun H locs hw => ?_)
      refine lv_iinc (v := x8 + 1) (lv' := [(8, .int (x8 + 1)), (0, .ref q), (4, .int x4), (7, .int x7)]) C.1.1 C.1.2.1 dM_putTrack_303 hl (k := 3) rfl rfl (by decide) rfl (fun ls hl => ?_)
      refine lv_goto (tgt := 273) C.1.1 C.1.2.1 dM_putTrack_306 (by decide) ?_
      exact ih iv (up2 av 11 (x4 + x8).toNatClampNeg ((x7 >>> (((8 : Int32) * ((3 : Int32) - x8)) &&& 31)) &&& (255 : Int32))) x4 x7 (x8 + 1) _ _ ls (lv_sub hl [1, 2, 3, 0] rfl) hw hf
set_option maxHeartbeats 4000000 in
set_option maxRecDepth 100000 in
theorem wM_putTrack_28 {p : Program} {l : Launch} {e : Env} {s : State} {m : MethodId} {args : Array Value} {below : List Frame} {meth : Method} {c : Code} {g : gT} {q : Nat} {ad : Nat → Nat} {X : va_W} {rv : Option Value} {iv' : Nat → Int32} {av' : Nat → Nat → Int32} (C : mCx p m c cM_putTrack 10 s args g "MidiDeskModel") (hr : meth.sig.returnType = none) (hlk : meth.locks = false) (hrv : rv = none) (k : Nat) : ∀ (iv : Nat → Int32) (av : Nat → Nat → Int32) (x1 : Int32) (x2 : Int32) (x3 : Int32) (x4 : Int32) (x5 : Int32) (x6 : Int32) (x7 : Int32) (H : Heap) (locs : List Loc) (ls : Array Slot), lv_has ls 10 [(0, .ref q), (1, .int x1), (2, .int x2), (3, .int x3), (4, .int x4), (5, .int x5), (6, .int x6), (7, .int x7)] → mWd g (mA g q ad X s.heap.size) s.heap q ad X iv av H locs → lM_putTrack_28 k iv av x1 x2 x3 x4 x5 x6 x7 = some (iv', av') → mG p l e rM_putTrack s m args below meth c g q ad X rv iv' av' H locs 0 0 (F0 m 28 ls []) := by
  induction k with
  | zero => intro iv av x1 x2 x3 x4 x5 x6 x7 H locs ls hl hw hf; cases hf
  | succ k ih =>
    intro iv av x1 x2 x3 x4 x5 x6 x7 H locs ls hl hw hf
    have hf : (if (iv 10) ≤ x7 then ((fM_puts iv av (16723712 : Int32) (4 : Int32)).bind fun (iv2, av2) => lM_putTrack_273 FU iv2 av2 x4 (((iv2 12) - x4) - (4 : Int32)) (0 : Int32)) else (if x7 < 0 ∨ 1001 ≤ x7.toNatClampNeg then none else (if x2 = 0 then (if (av 8 x7.toNatClampNeg) < 0 ∨ 1001 ≤ (av 8 x7.toNatClampNeg).toNatClampNeg then none else (if (av 2 (av 8 x7.toNatClampNeg).toNatClampNeg) = x1 then (jM_putTrack_64 (lM_putTrack_28 k) iv av x1 x2 x3 x4 x5 x6 x7 (av 8 x7.toNatClampNeg)) else (jM_putTrack_246 (lM_putTrack_28 k) iv av x1 x2 x3 x4 x5 x6 x7))) else (jM_putTrack_64 (lM_putTrack_28 k) iv av x1 x2 x3 x4 x5 x6 x7 (av 8 x7.toNatClampNeg))))) = some (iv', av') := hf
    refine lv_iload C.1.1 C.1.2.1 dM_putTrack_28 (lv_at hl 7 rfl) ?_
    refine lv_aload_n C.1.1 C.1.2.1 dM_putTrack_30 rfl (lv_at hl 0 rfl) ?_
    refine mg_events C hw dM_putTrack_31 ?_
    refine lv_icmp_ge (tgt := 252) C.1.1 C.1.2.1 dM_putTrack_34 (by decide) (fun c1 => ?_) (fun c1 => ?_)
    · have hf := ts_t hf c1
      refine lv_aload_n C.1.1 C.1.2.1 dM_putTrack_252 rfl (lv_at hl 0 rfl) ?_
      refine lv_ldc C.1.1 C.1.2.1 C.1.2.2.2.1 (C.1.2.2.2.2 _ gw_958) dM_putTrack_253 ?_
      refine lv_iconst (v := (4 : Int32)) C.1.1 C.1.2.1 dM_putTrack_255 (by decide) ?_
      obtain ⟨⟨iv2, av2⟩, g2, hf⟩ := ts_b hf
      dsimp only at hf
      refine m_callV (rest := []) (As := [.int (16723712 : Int32), .int (4 : Int32)]) (rv := none) C hl.1 hw (cM_puts_met g2) (callW_of (rm := rM_puts) 2 C.1.2.2.2.2 gw_940 gw_942 gw_46 gw_55 gw_943 kM_puts ⟨Nat.le_of_ble_eq_true rfl, Nat.le_of_ble_eq_true rfl⟩) rfl rfl (Nat.le_of_ble_eq_true rfl) dM_putTrack_256 ⟨Nat.le_of_ble_eq_true rfl, Nat.le_of_ble_eq_true rfl⟩ (fun H locs hw => ?_)
      refine W.eq (g2 := F0 m 259 ls []) rfl ?_
      refine lv_aload_n C.1.1 C.1.2.1 dM_putTrack_259 rfl (lv_at hl 0 rfl) ?_
      refine mg_writtenSize C hw dM_putTrack_260 ?_
      refine lv_iload C.1.1 C.1.2.1 dM_putTrack_263 (lv_at hl 4 rfl) ?_
      refine lv_isub C.1.1 C.1.2.1 dM_putTrack_265 ?_
      refine lv_iconst (v := (4 : Int32)) C.1.1 C.1.2.1 dM_putTrack_266 (by decide) ?_
      refine lv_isub C.1.1 C.1.2.1 dM_putTrack_267 ?_
      refine lv_istore (lv' := [(7, .int (((iv2 12) - x4) - (4 : Int32))), (0, .ref q), (1, .int x1), (2, .int x2), (3, .int x3), (4, .int x4), (5, .int x5), (6, .int x6)]) C.1.1 C.1.2.1 dM_putTrack_268 hl (by decide) rfl (fun ls hl => ?_)
      refine lv_iconst (v := (0 : Int32)) C.1.1 C.1.2.1 dM_putTrack_270 (by decide) ?_
      refine lv_istore (lv' := [(8, .int (0 : Int32)), (7, .int (((iv2 12) - x4) - (4 : Int32))), (0, .ref q), (1, .int x1), (2, .int x2), (3, .int x3), (4, .int x4), (5, .int x5), (6, .int x6)]) C.1.1 C.1.2.1 dM_putTrack_271 hl (by decide) rfl (fun ls hl => ?_)
      exact wM_putTrack_273 C hr hlk hrv FU iv2 av2 x4 (((iv2 12) - x4) - (4 : Int32)) (0 : Int32) _ _ ls (lv_sub hl [2, 6, 1, 0] rfl) hw hf
    · have hf := ts_f hf c1
      refine lv_aload_n C.1.1 C.1.2.1 dM_putTrack_37 rfl (lv_at hl 0 rfl) ?_
      refine mg_order C hw dM_putTrack_38 ?_
      refine lv_iload C.1.1 C.1.2.1 dM_putTrack_41 (lv_at hl 7 rfl) ?_
      obtain ⟨h3, hf⟩ := ts_g hf
      refine ma_order C hw h3 dM_putTrack_43 ?_
      refine lv_istore (lv' := [(8, .int (av 8 x7.toNatClampNeg)), (0, .ref q), (1, .int x1), (2, .int x2), (3, .int x3), (4, .int x4), (5, .int x5), (6, .int x6), (7, .int x7)]) C.1.1 C.1.2.1 dM_putTrack_44 hl (by decide) rfl (fun ls hl => ?_)
      refine lv_iload_n C.1.1 C.1.2.1 dM_putTrack_46 rfl (lv_at hl 3 rfl) ?_
      refine lv_if_ne (tgt := 64) C.1.1 C.1.2.1 dM_putTrack_47 (by decide) (fun c4 => ?_) (fun c4 => ?_)
      · have hf := ts_f hf c4
        exact wM_putTrack_64 C hr hlk hrv ih iv av x1 x2 x3 x4 x5 x6 x7 (av 8 x7.toNatClampNeg) _ _ ls (lv_sub hl [1, 2, 3, 4, 5, 6, 7, 8, 0] rfl) hw hf
      · have hf := ts_t hf c4
        refine lv_aload_n C.1.1 C.1.2.1 dM_putTrack_50 rfl (lv_at hl 1 rfl) ?_
        refine mg_trackOf C hw dM_putTrack_51 ?_
        refine lv_iload C.1.1 C.1.2.1 dM_putTrack_54 (lv_at hl 0 rfl) ?_
        obtain ⟨h5, hf⟩ := ts_g hf
        refine ma_trackOf C hw h5 dM_putTrack_56 ?_
        refine lv_iload_n C.1.1 C.1.2.1 dM_putTrack_57 rfl (lv_at hl 2 rfl) ?_
        refine lv_icmp_eq (tgt := 64) C.1.1 C.1.2.1 dM_putTrack_58 (by decide) (fun c6 => ?_) (fun c6 => ?_)
        · have hf := ts_t hf c6
          exact wM_putTrack_64 C hr hlk hrv ih iv av x1 x2 x3 x4 x5 x6 x7 (av 8 x7.toNatClampNeg) _ _ ls (lv_sub hl [1, 2, 3, 4, 5, 6, 7, 8, 0] rfl) hw hf
        · have hf := ts_f hf c6
          refine lv_goto (tgt := 246) C.1.1 C.1.2.1 dM_putTrack_61 (by decide) ?_
          exact wM_putTrack_246 C hr hlk hrv ih iv av x1 x2 x3 x4 x5 x6 x7 _ _ ls (lv_sub hl [1, 2, 3, 4, 5, 6, 7, 8] rfl) hw hf
set_option maxHeartbeats 4000000 in
set_option maxRecDepth 100000 in
theorem cM_putTrack_met {l : Launch} {g : gT} {q : Nat} {ad : Nat → Nat} {X : va_W} {iv iv' : Nat → Int32} {av av' : Nat → Nat → Int32} {x1 : Int32} {x2 : Int32} {x3 : Int32} (hf : fM_putTrack iv av x1 x2 x3 = some (iv', av')) : mMet l yM_putTrack cM_putTrack 10 none rM_putTrack g q ad X iv av [.ref q, .int x1, .int x2, .int x3] none iv' av' := by
  refine m_entry (by decide) (Nat.le_of_ble_eq_true rfl) ?_
  intro p e s m args below meth c ls C hr hlk hnm hl hw
  have hrv : (none : Option Value) = none := rfl
  have C : mCx p m c cM_putTrack 10 s args g "MidiDeskModel" := C
  have hl : lv_has ls 10 [(0, .ref q), (1, .int x1), (2, .int x2), (3, .int x3)] := hl
  unfold fM_putTrack at hf
  refine lv_aload_n C.1.1 C.1.2.1 dM_putTrack_0 rfl (lv_at hl 0 rfl) ?_
  refine lv_ldc C.1.1 C.1.2.1 C.1.2.2.2.1 (C.1.2.2.2.2 _ gw_952) dM_putTrack_1 ?_
  refine lv_iconst (v := (4 : Int32)) C.1.1 C.1.2.1 dM_putTrack_3 (by decide) ?_
  obtain ⟨⟨iv1, av1⟩, g1, hf⟩ := ts_b hf
  dsimp only at hf
  refine m_callV (rest := []) (As := [.int (1297379947 : Int32), .int (4 : Int32)]) (rv := none) C hl.1 hw (cM_puts_met g1) (callW_of (rm := rM_puts) 2 C.1.2.2.2.2 gw_940 gw_942 gw_46 gw_55 gw_943 kM_puts ⟨Nat.le_of_ble_eq_true rfl, Nat.le_of_ble_eq_true rfl⟩) rfl rfl (Nat.le_of_ble_eq_true rfl) dM_putTrack_4 ⟨Nat.le_of_ble_eq_true rfl, Nat.le_of_ble_eq_true rfl⟩ (fun H locs hw => ?_)
  refine W.eq (g2 := F0 m 7 ls []) rfl ?_
  refine lv_aload_n C.1.1 C.1.2.1 dM_putTrack_7 rfl (lv_at hl 0 rfl) ?_
  refine mg_writtenSize C hw dM_putTrack_8 ?_
  refine lv_istore (lv' := [(4, .int (iv1 12)), (0, .ref q), (1, .int x1), (2, .int x2), (3, .int x3)]) C.1.1 C.1.2.1 dM_putTrack_11 hl (by decide) rfl (fun ls hl => ?_)
  refine lv_aload_n C.1.1 C.1.2.1 dM_putTrack_13 rfl (lv_at hl 1 rfl) ?_
  refine lv_iconst (v := (0 : Int32)) C.1.1 C.1.2.1 dM_putTrack_14 (by decide) ?_
  refine lv_iconst (v := (4 : Int32)) C.1.1 C.1.2.1 dM_putTrack_15 (by decide) ?_
  obtain ⟨⟨iv2, av2⟩, g2, hf⟩ := ts_b hf
  dsimp only at hf
  refine m_callV (rest := []) (As := [.int (0 : Int32), .int (4 : Int32)]) (rv := none) C hl.1 hw (cM_puts_met g2) (callW_of (rm := rM_puts) 2 C.1.2.2.2.2 gw_940 gw_942 gw_46 gw_55 gw_943 kM_puts ⟨Nat.le_of_ble_eq_true rfl, Nat.le_of_ble_eq_true rfl⟩) rfl rfl (Nat.le_of_ble_eq_true rfl) dM_putTrack_16 ⟨Nat.le_of_ble_eq_true rfl, Nat.le_of_ble_eq_true rfl⟩ (fun H locs hw => ?_)
  refine W.eq (g2 := F0 m 19 ls []) rfl ?_
  refine lv_iconst (v := (0 : Int32)) C.1.1 C.1.2.1 dM_putTrack_19 (by decide) ?_
  refine lv_istore (lv' := [(5, .int (0 : Int32)), (4, .int (iv1 12)), (0, .ref q), (1, .int x1), (2, .int x2), (3, .int x3)]) C.1.1 C.1.2.1 dM_putTrack_20 hl (by decide) rfl (fun ls hl => ?_)
  refine lv_iconst (v := (0 : Int32)) C.1.1 C.1.2.1 dM_putTrack_22 (by decide) ?_
  refine lv_istore (lv' := [(6, .int (0 : Int32)), (5, .int (0 : Int32)), (4, .int (iv1 12)), (0, .ref q), (1, .int x1), (2, .int x2), (3, .int x3)]) C.1.1 C.1.2.1 dM_putTrack_23 hl (by decide) rfl (fun ls hl => ?_)
  refine lv_iconst (v := (0 : Int32)) C.1.1 C.1.2.1 dM_putTrack_25 (by decide) ?_
  refine lv_istore (lv' := [(7, .int (0 : Int32)), (6, .int (0 : Int32)), (5, .int (0 : Int32)), (4, .int (iv1 12)), (0, .ref q), (1, .int x1), (2, .int x2), (3, .int x3)]) C.1.1 C.1.2.1 dM_putTrack_26 hl (by decide) rfl (fun ls hl => ?_)
  exact wM_putTrack_28 C hr hlk hrv FU iv2 av2 x1 x2 x3 (iv1 12) (0 : Int32) (0 : Int32) (0 : Int32) _ _ ls (lv_sub hl [4, 5, 6, 7, 3, 2, 1, 0] rfl) hw hf
end
section
abbrev cM_write : ByteArray := prog_8_method_39_code
abbrev yM_write : MethodName := ⟨"MidiDeskModel", "write", "(IZ)I"⟩
theorem kM_write : yM_write.cls ≠ "java/lang/invoke/MethodHandle" ∧ yM_write.cls ≠ "java/lang/invoke/VarHandle" ∧ (parseMethodDescriptor yM_write.desc).map (fun d => d.parameters.length) = some 2 := by decide +kernel
abbrev rM_write : Room := { frames := 3, cells := 0, slots := 0, locals := 73 }
theorem dM_write_0 : decode cM_write 0 = .ok (.aload_n 0, 1) := by decide +kernel
theorem dM_write_1 : decode cM_write 1 = .ok (.aload_n 0, 1) := by decide +kernel
theorem dM_write_2 : decode cM_write 2 = .ok (.getfield 110, 3) := by decide +kernel
theorem dM_write_5 : decode cM_write 5 = .ok (.ifCond .ne 7, 3) := by decide +kernel
theorem dM_write_8 : decode cM_write 8 = .ok (.iconst 1, 1) := by decide +kernel
theorem dM_write_9 : decode cM_write 9 = .ok (.goto 4, 3) := by decide +kernel
theorem dM_write_12 : decode cM_write 12 = .ok (.iconst 0, 1) := by decide +kernel
theorem dM_write_13 : decode cM_write 13 = .ok (.iload_n 1, 1) := by decide +kernel
theorem dM_write_14 : decode cM_write 14 = .ok (.ifCond .lt 8, 3) := by decide +kernel
theorem dM_write_17 : decode cM_write 17 = .ok (.iload_n 1, 1) := by decide +kernel
theorem dM_write_18 : decode cM_write 18 = .ok (.iconst 2, 1) := by decide +kernel
theorem dM_write_19 : decode cM_write 19 = .ok (.if_icmp .le 7, 3) := by decide +kernel
theorem dM_write_22 : decode cM_write 22 = .ok (.iconst 1, 1) := by decide +kernel
theorem dM_write_23 : decode cM_write 23 = .ok (.goto 4, 3) := by decide +kernel
theorem dM_write_26 : decode cM_write 26 = .ok (.iconst 0, 1) := by decide +kernel
theorem dM_write_27 : decode cM_write 27 = .ok (.invokevirtual 158, 3) := by decide +kernel
theorem dM_write_30 : decode cM_write 30 = .ok (.ifCond .eq 5, 3) := by decide +kernel
theorem dM_write_33 : decode cM_write 33 = .ok (.iconst 0, 1) := by decide +kernel
theorem dM_write_34 : decode cM_write 34 = .ok (.ireturn, 1) := by decide +kernel
theorem dM_write_35 : decode cM_write 35 = .ok (.aload_n 0, 1) := by decide +kernel
theorem dM_write_36 : decode cM_write 36 = .ok (.iconst 0, 1) := by decide +kernel
theorem dM_write_37 : decode cM_write 37 = .ok (.putfield 187, 3) := by decide +kernel
theorem dM_write_40 : decode cM_write 40 = .ok (.aload_n 0, 1) := by decide +kernel
theorem dM_write_41 : decode cM_write 41 = .ok (.ldc 201, 2) := by decide +kernel
theorem dM_write_43 : decode cM_write 43 = .ok (.iconst 4, 1) := by decide +kernel
theorem dM_write_44 : decode cM_write 44 = .ok (.invokevirtual 195, 3) := by decide +kernel
theorem dM_write_47 : decode cM_write 47 = .ok (.aload_n 0, 1) := by decide +kernel
theorem dM_write_48 : decode cM_write 48 = .ok (.bipush 6, 2) := by decide +kernel
theorem dM_write_50 : decode cM_write 50 = .ok (.iconst 4, 1) := by decide +kernel
theorem dM_write_51 : decode cM_write 51 = .ok (.invokevirtual 195, 3) := by decide +kernel
theorem dM_write_54 : decode cM_write 54 = .ok (.aload_n 0, 1) := by decide +kernel
theorem dM_write_55 : decode cM_write 55 = .ok (.iload_n 1, 1) := by decide +kernel
theorem dM_write_56 : decode cM_write 56 = .ok (.iconst 2, 1) := by decide +kernel
theorem dM_write_57 : decode cM_write 57 = .ok (.invokevirtual 195, 3) := by decide +kernel
theorem dM_write_60 : decode cM_write 60 = .ok (.aload_n 0, 1) := by decide +kernel
theorem dM_write_61 : decode cM_write 61 = .ok (.iload_n 1, 1) := by decide +kernel
theorem dM_write_62 : decode cM_write 62 = .ok (.ifCond .ne 7, 3) := by decide +kernel
theorem dM_write_65 : decode cM_write 65 = .ok (.iconst 1, 1) := by decide +kernel
theorem dM_write_66 : decode cM_write 66 = .ok (.goto 7, 3) := by decide +kernel
theorem dM_write_69 : decode cM_write 69 = .ok (.aload_n 0, 1) := by decide +kernel
theorem dM_write_70 : decode cM_write 70 = .ok (.getfield 85, 3) := by decide +kernel
theorem dM_write_73 : decode cM_write 73 = .ok (.iconst 2, 1) := by decide +kernel
theorem dM_write_74 : decode cM_write 74 = .ok (.invokevirtual 195, 3) := by decide +kernel
theorem dM_write_77 : decode cM_write 77 = .ok (.aload_n 0, 1) := by decide +kernel
theorem dM_write_78 : decode cM_write 78 = .ok (.aload_n 0, 1) := by decide +kernel
theorem dM_write_79 : decode cM_write 79 = .ok (.getfield 88, 3) := by decide +kernel
theorem dM_write_82 : decode cM_write 82 = .ok (.iconst 2, 1) := by decide +kernel
theorem dM_write_83 : decode cM_write 83 = .ok (.invokevirtual 195, 3) := by decide +kernel
theorem dM_write_86 : decode cM_write 86 = .ok (.iconst 0, 1) := by decide +kernel
theorem dM_write_87 : decode cM_write 87 = .ok (.istore_n 3, 1) := by decide +kernel
theorem dM_write_88 : decode cM_write 88 = .ok (.iload_n 3, 1) := by decide +kernel
theorem dM_write_89 : decode cM_write 89 = .ok (.iload_n 1, 1) := by decide +kernel
theorem dM_write_90 : decode cM_write 90 = .ok (.ifCond .ne 7, 3) := by decide +kernel
theorem dM_write_93 : decode cM_write 93 = .ok (.iconst 1, 1) := by decide +kernel
theorem dM_write_94 : decode cM_write 94 = .ok (.goto 7, 3) := by decide +kernel
theorem dM_write_97 : decode cM_write 97 = .ok (.aload_n 0, 1) := by decide +kernel
theorem dM_write_98 : decode cM_write 98 = .ok (.getfield 85, 3) := by decide +kernel
theorem dM_write_101 : decode cM_write 101 = .ok (.if_icmp .ge 24, 3) := by decide +kernel
theorem dM_write_104 : decode cM_write 104 = .ok (.aload_n 0, 1) := by decide +kernel
theorem dM_write_105 : decode cM_write 105 = .ok (.iload_n 3, 1) := by decide +kernel
theorem dM_write_106 : decode cM_write 106 = .ok (.iload_n 1, 1) := by decide +kernel
theorem dM_write_107 : decode cM_write 107 = .ok (.ifCond .ne 7, 3) := by decide +kernel
theorem dM_write_110 : decode cM_write 110 = .ok (.iconst 1, 1) := by decide +kernel
theorem dM_write_111 : decode cM_write 111 = .ok (.goto 4, 3) := by decide +kernel
theorem dM_write_114 : decode cM_write 114 = .ok (.iconst 0, 1) := by decide +kernel
theorem dM_write_115 : decode cM_write 115 = .ok (.iload_n 2, 1) := by decide +kernel
theorem dM_write_116 : decode cM_write 116 = .ok (.invokevirtual 202, 3) := by decide +kernel
theorem dM_write_119 : decode cM_write 119 = .ok (.iinc 3 1, 3) := by decide +kernel
theorem dM_write_122 : decode cM_write 122 = .ok (.goto (-34), 3) := by decide +kernel
theorem dM_write_125 : decode cM_write 125 = .ok (.aload_n 0, 1) := by decide +kernel
theorem dM_write_126 : decode cM_write 126 = .ok (.getfield 187, 3) := by decide +kernel
theorem dM_write_129 : decode cM_write 129 = .ok (.ireturn, 1) := by decide +kernel
def jM_write_115 (K88 : (Nat → Int32) → (Nat → Nat → Int32) → Int32 → Int32 → Int32 → Option (Int32 × (Nat → Int32) × (Nat → Nat → Int32))) (iv : Nat → Int32) (av : Nat → Nat → Int32) (x1 : Int32) (x2 : Int32) (x3 : Int32) (s1 : Int32) (s2 : Int32) : Option (Int32 × (Nat → Int32) × (Nat → Nat → Int32)) := (fM_putTrack iv av s1 s2 x2).bind fun (iv1, av1) => K88 iv1 av1 x1 x2 (x3 + 1)
def jM_write_101 (K88 : (Nat → Int32) → (Nat → Nat → Int32) → Int32 → Int32 → Int32 → Option (Int32 × (Nat → Int32) × (Nat → Nat → Int32))) (iv : Nat → Int32) (av : Nat → Nat → Int32) (x1 : Int32) (x2 : Int32) (x3 : Int32) (s0 : Int32) (s1 : Int32) : Option (Int32 × (Nat → Int32) × (Nat → Nat → Int32)) := if s1 ≤ s0 then (some (iv 12, iv, av)) else (if x1 = 0 then (jM_write_115 K88 iv av x1 x2 x3 x3 (1 : Int32)) else (jM_write_115 K88 iv av x1 x2 x3 x3 (0 : Int32)))
def lM_write_88 : Nat → (Nat → Int32) → (Nat → Nat → Int32) → Int32 → Int32 → Int32 → Option (Int32 × (Nat → Int32) × (Nat → Nat → Int32))
  | 0 => fun _ _ _ _ _ => none
  | k + 1 => fun iv av x1 x2 x3 => if x1 = 0 then (jM_write_101 (lM_write_88 k) iv av x1 x2 x3 x3 (1 : Int32)) else (jM_write_101 (lM_write_88 k) iv av x1 x2 x3 x3 (iv 8))
def jM_write_73 (iv : Nat → Int32) (av : Nat → Nat → Int32) (x1 : Int32) (x2 : Int32) (s1 : Int32) : Option (Int32 × (Nat → Int32) × (Nat → Nat → Int32)) := (fM_puts iv av s1 (2 : Int32)).bind fun (iv1, av1) => (fM_puts iv1 av1 (iv1 9) (2 : Int32)).bind fun (iv2, av2) => lM_write_88 FU iv2 av2 x1 x2 (0 : Int32)
def jM_write_27 (iv : Nat → Int32) (av : Nat → Nat → Int32) (x1 : Int32) (x2 : Int32) (s1 : Int32) (s2 : Int32) : Option (Int32 × (Nat → Int32) × (Nat → Nat → Int32)) := (fM_fails iv av s1 s2).bind fun (r1, iv1, av1) => if r1 = 0 then ((fM_puts (upd iv1 12 (0 : Int32)) av1 (1297377380 : Int32) (4 : Int32)).bind fun (iv3, av3) => (fM_puts iv3 av3 (6 : Int32) (4 : Int32)).bind fun (iv4, av4) => (fM_puts iv4 av4 x1 (2 : Int32)).bind fun (iv5, av5) => if x1 = 0 then (jM_write_73 iv5 av5 x1 x2 (1 : Int32)) else (jM_write_73 iv5 av5 x1 x2 (iv5 8))) else (some ((0 : Int32), iv1, av1))
def jM_write_22 (iv : Nat → Int32) (av : Nat → Nat → Int32) (x1 : Int32) (x2 : Int32) (s1 : Int32) : Option (Int32 × (Nat → Int32) × (Nat → Nat → Int32)) := jM_write_27 iv av x1 x2 s1 (1 : Int32)
def jM_write_13 (iv : Nat → Int32) (av : Nat → Nat → Int32) (x1 : Int32) (x2 : Int32) (s1 : Int32) : Option (Int32 × (Nat → Int32) × (Nat → Nat → Int32)) := if x1 < 0 then (jM_write_22 iv av x1 x2 s1) else (if x1 ≤ (2 : Int32) then (jM_write_27 iv av x1 x2 s1 (0 : Int32)) else (jM_write_22 iv av x1 x2 s1))
def fM_write (iv : Nat → Int32) (av : Nat → Nat → Int32) (x1 : Int32) (x2 : Int32) : Option (Int32 × (Nat → Int32) × (Nat → Nat → Int32)) := if (iv 6) = 0 then (jM_write_13 iv av x1 x2 (1 : Int32)) else (jM_write_13 iv av x1 x2 (0 : Int32))
set_option maxHeartbeats 4000000 in
set_option maxRecDepth 100000 in
theorem wM_write_115 {p : Program} {l : Launch} {e : Env} {s : State} {m : MethodId} {args : Array Value} {below : List Frame} {meth : Method} {c : Code} {g : gT} {q : Nat} {ad : Nat → Nat} {X : va_W} {rv : Option Value} {iv' : Nat → Int32} {av' : Nat → Nat → Int32} {r' : Int32} (C : mCx p m c cM_write 4 s args g "MidiDeskModel") (hr : meth.sig.returnType = (some .int)) (hlk : meth.locks = false) (hrv : rv = some (.int r')) {K88 : (Nat → Int32) → (Nat → Nat → Int32) → Int32 → Int32 → Int32 → Option (Int32 × (Nat → Int32) × (Nat → Nat → Int32))} (hK88 : ∀ (iv : Nat → Int32) (av : Nat → Nat → Int32) (x1 : Int32) (x2 : Int32) (x3 : Int32) (H : Heap) (locs : List Loc) (ls : Array Slot), lv_has ls 4 [(0, .ref q), (1, .int x1), (2, .int x2), (3, .int x3)] → mWd g (mA g q ad X s.heap.size) s.heap q ad X iv av H locs → K88 iv av x1 x2 x3 = some (r', iv', av') → mG p l e rM_write s m args below meth c g q ad X rv iv' av' H locs 0 0 (F0 m 88 ls [])) (iv : Nat → Int32) (av : Nat → Nat → Int32) (x1 : Int32) (x2 : Int32) (x3 : Int32) (s1 : Int32) (s2 : Int32) (H : Heap) (locs : List Loc) (ls : Array Slot) (hl : lv_has ls 4 [(0, .ref q), (1, .int x1), (2, .int x2), (3, .int x3)]) (hw : mWd g (mA g q ad X s.heap.size) s.heap q ad X iv av H locs) (hf : jM_write_115 K88 iv av x1 x2 x3 s1 s2 = some (r', iv', av')) : mG p l e rM_write s m args below meth c g q ad X rv iv' av' H locs 0 0 (F0 m 115 ls [.int s2, .int s1, .ref q]) := by
  unfold jM_write_115 at hf
  refine lv_iload_n C.1.1 C.1.2.1 dM_write_115 rfl (lv_at hl 2 rfl) ?_
  obtain ⟨⟨iv1, av1⟩, g1, hf⟩ := ts_b hf
  dsimp only at hf
  refine m_callV (rest := []) (As := [.int s1, .int s2, .int x2]) (rv := none) C hl.1 hw (cM_putTrack_met g1) (callW_of (rm := rM_putTrack) 3 C.1.2.2.2.2 gw_948 gw_950 gw_48 gw_55 gw_951 kM_putTrack ⟨Nat.le_of_ble_eq_true rfl, Nat.le_of_ble_eq_true rfl⟩) rfl rfl (Nat.le_of_ble_eq_true rfl) dM_write_116 ⟨Nat.le_of_ble_eq_true rfl, Nat.le_of_ble_eq_true rfl⟩ (fun H locs hw => ?_)
  refine W.eq (g2 := F0 m 119 ls []) rfl ?_
  refine lv_iinc (v := x3 + 1) (lv' := [(3, .int (x3 + 1)), (0, .ref q), (1, .int x1), (2, .int x2)]) C.1.1 C.1.2.1 dM_write_119 hl (k := 3) rfl rfl (by decide) rfl (fun ls hl => ?_)
  refine lv_goto (tgt := 88) C.1.1 C.1.2.1 dM_write_122 (by decide) ?_
  exact hK88 iv1 av1 x1 x2 (x3 + 1) _ _ ls (lv_sub hl [1, 2, 3, 0] rfl) hw hf
set_option maxHeartbeats 4000000 in
set_option maxRecDepth 100000 in
theorem wM_write_101 {p : Program} {l : Launch} {e : Env} {s : State} {m : MethodId} {args : Array Value} {below : List Frame} {meth : Method} {c : Code} {g : gT} {q : Nat} {ad : Nat → Nat} {X : va_W} {rv : Option Value} {iv' : Nat → Int32} {av' : Nat → Nat → Int32} {r' : Int32} (C : mCx p m c cM_write 4 s args g "MidiDeskModel") (hr : meth.sig.returnType = (some .int)) (hlk : meth.locks = false) (hrv : rv = some (.int r')) {K88 : (Nat → Int32) → (Nat → Nat → Int32) → Int32 → Int32 → Int32 → Option (Int32 × (Nat → Int32) × (Nat → Nat → Int32))} (hK88 : ∀ (iv : Nat → Int32) (av : Nat → Nat → Int32) (x1 : Int32) (x2 : Int32) (x3 : Int32) (H : Heap) (locs : List Loc) (ls : Array Slot), lv_has ls 4 [(0, .ref q), (1, .int x1), (2, .int x2), (3, .int x3)] → mWd g (mA g q ad X s.heap.size) s.heap q ad X iv av H locs → K88 iv av x1 x2 x3 = some (r', iv', av') → mG p l e rM_write s m args below meth c g q ad X rv iv' av' H locs 0 0 (F0 m 88 ls [])) (iv : Nat → Int32) (av : Nat → Nat → Int32) (x1 : Int32) (x2 : Int32) (x3 : Int32) (s0 : Int32) (s1 : Int32) (H : Heap) (locs : List Loc) (ls : Array Slot) (hl : lv_has ls 4 [(0, .ref q), (1, .int x1), (2, .int x2), (3, .int x3)]) (hw : mWd g (mA g q ad X s.heap.size) s.heap q ad X iv av H locs) (hf : jM_write_101 K88 iv av x1 x2 x3 s0 s1 = some (r', iv', av')) : mG p l e rM_write s m args below meth c g q ad X rv iv' av' H locs 0 0 (F0 m 101 ls [.int s1, .int s0]) := by
  unfold jM_write_101 at hf
  refine lv_icmp_ge (tgt := 125) C.1.1 C.1.2.1 dM_write_101 (by decide) (fun c1 => ?_) (fun c1 => ?_)
  · have hf := ts_t hf c1
    refine lv_aload_n C.1.1 C.1.2.1 dM_write_125 rfl (lv_at hl 0 rfl) ?_
    refine mg_writtenSize C hw dM_write_126 ?_
    exact m_reti C hr hlk hrv hw hf ⟨Nat.le_of_ble_eq_true rfl, Nat.le_of_ble_eq_true rfl⟩ dM_write_129
  · have hf := ts_f hf c1
    refine lv_aload_n C.1.1 C.1.2.1 dM_write_104 rfl (lv_at hl 0 rfl) ?_
    refine lv_iload_n C.1.1 C.1.2.1 dM_write_105 rfl (lv_at hl 3 rfl) ?_
    refine lv_iload_n C.1.1 C.1.2.1 dM_write_106 rfl (lv_at hl 1 rfl) ?_
    refine lv_if_ne (tgt := 114) C.1.1 C.1.2.1 dM_write_107 (by decide) (fun c2 => ?_) (fun c2 => ?_)
    · have hf := ts_f hf c2
      refine lv_iconst (v := (0 : Int32)) C.1.1 C.1.2.1 dM_write_114 (by decide) ?_
      exact wM_write_115 C hr hlk hrv hK88 iv av x1 x2 x3 x3 (0 : Int32) _ _ ls (lv_sub hl [0, 1, 2, 3] rfl) hw hf
    · have hf := ts_t hf c2
      refine lv_iconst (v := (1 : Int32)) C.1.1 C.1.2.1 dM_write_110 (by decide) ?_
      refine lv_goto (tgt := 115) C.1.1 C.1.2.1 dM_write_111 (by decide) ?_
      exact wM_write_115 C hr hlk hrv hK88 iv av x1 x2 x3 x3 (1 : Int32) _ _ ls (lv_sub hl [0, 1, 2, 3] rfl) hw hf
set_option maxHeartbeats 4000000 in
set_option maxRecDepth 100000 in
theorem wM_write_88 {p : Program} {l : Launch} {e : Env} {s : State} {m : MethodId} {args : Array Value} {below : List Frame} {meth : Method} {c : Code} {g : gT} {q : Nat} {ad : Nat → Nat} {X : va_W} {rv : Option Value} {iv' : Nat → Int32} {av' : Nat → Nat → Int32} {r' : Int32} (C : mCx p m c cM_write 4 s args g "MidiDeskModel") (hr : meth.sig.returnType = (some .int)) (hlk : meth.locks = false) (hrv : rv = some (.int r')) (k : Nat) : ∀ (iv : Nat → Int32) (av : Nat → Nat → Int32) (x1 : Int32) (x2 : Int32) (x3 : Int32) (H : Heap) (locs : List Loc) (ls : Array Slot), lv_has ls 4 [(0, .ref q), (1, .int x1), (2, .int x2), (3, .int x3)] → mWd g (mA g q ad X s.heap.size) s.heap q ad X iv av H locs → lM_write_88 k iv av x1 x2 x3 = some (r', iv', av') → mG p l e rM_write s m args below meth c g q ad X rv iv' av' H locs 0 0 (F0 m 88 ls []) := by
  induction k with
  | zero => intro iv av x1 x2 x3 H locs ls hl hw hf; cases hf
  | succ k ih =>
    intro iv av x1 x2 x3 H locs ls hl hw hf
    have hf : (if x1 = 0 then (jM_write_101 (lM_write_88 k) iv av x1 x2 x3 x3 (1 : Int32)) else (jM_write_101 (lM_write_88 k) iv av x1 x2 x3 x3 (iv 8))) = some (r', iv', av') := hf
    refine lv_iload_n C.1.1 C.1.2.1 dM_write_88 rfl (lv_at hl 3 rfl) ?_
    refine lv_iload_n C.1.1 C.1.2.1 dM_write_89 rfl (lv_at hl 1 rfl) ?_
    refine lv_if_ne (tgt := 97) C.1.1 C.1.2.1 dM_write_90 (by decide) (fun c1 => ?_) (fun c1 => ?_)
    · have hf := ts_f hf c1
      refine lv_aload_n C.1.1 C.1.2.1 dM_write_97 rfl (lv_at hl 0 rfl) ?_
      refine mg_tracks C hw dM_write_98 ?_
      exact wM_write_101 C hr hlk hrv ih iv av x1 x2 x3 x3 (iv 8) _ _ ls (lv_sub hl [0, 1, 2, 3] rfl) hw hf
    · have hf := ts_t hf c1
      refine lv_iconst (v := (1 : Int32)) C.1.1 C.1.2.1 dM_write_93 (by decide) ?_
      refine lv_goto (tgt := 101) C.1.1 C.1.2.1 dM_write_94 (by decide) ?_
      exact wM_write_101 C hr hlk hrv ih iv av x1 x2 x3 x3 (1 : Int32) _ _ ls (lv_sub hl [0, 1, 2, 3] rfl) hw hf
set_option maxHeartbeats 4000000 in
set_option maxRecDepth 100000 in
theorem wM_write_73 {p : Program} {l : Launch} {e : Env} {s : State} {m : MethodId} {args : Array Value} {below : List Frame} {meth : Method} {c : Code} {g : gT} {q : Nat} {ad : Nat → Nat} {X : va_W} {rv : Option Value} {iv' : Nat → Int32} {av' : Nat → Nat → Int32} {r' : Int32} (C : mCx p m c cM_write 4 s args g "MidiDeskModel") (hr : meth.sig.returnType = (some .int)) (hlk : meth.locks = false) (hrv : rv = some (.int r')) (iv : Nat → Int32) (av : Nat → Nat → Int32) (x1 : Int32) (x2 : Int32) (s1 : Int32) (H : Heap) (locs : List Loc) (ls : Array Slot) (hl : lv_has ls 4 [(0, .ref q), (1, .int x1), (2, .int x2)]) (hw : mWd g (mA g q ad X s.heap.size) s.heap q ad X iv av H locs) (hf : jM_write_73 iv av x1 x2 s1 = some (r', iv', av')) : mG p l e rM_write s m args below meth c g q ad X rv iv' av' H locs 0 0 (F0 m 73 ls [.int s1, .ref q]) := by
  unfold jM_write_73 at hf
  refine lv_iconst (v := (2 : Int32)) C.1.1 C.1.2.1 dM_write_73 (by decide) ?_
  obtain ⟨⟨iv1, av1⟩, g1, hf⟩ := ts_b hf
  dsimp only at hf
  refine m_callV (rest := []) (As := [.int s1, .int (2 : Int32)]) (rv := none) C hl.1 hw (cM_puts_met g1) (callW_of (rm := rM_puts) 2 C.1.2.2.2.2 gw_940 gw_942 gw_46 gw_55 gw_943 kM_puts ⟨Nat.le_of_ble_eq_true rfl, Nat.le_of_ble_eq_true rfl⟩) rfl rfl (Nat.le_of_ble_eq_true rfl) dM_write_74 ⟨Nat.le_of_ble_eq_true rfl, Nat.le_of_ble_eq_true rfl⟩ (fun H locs hw => ?_)
  refine W.eq (g2 := F0 m 77 ls []) rfl ?_
  refine lv_aload_n C.1.1 C.1.2.1 dM_write_77 rfl (lv_at hl 0 rfl) ?_
  refine lv_aload_n C.1.1 C.1.2.1 dM_write_78 rfl (lv_at hl 0 rfl) ?_
  refine mg_division C hw dM_write_79 ?_
  refine lv_iconst (v := (2 : Int32)) C.1.1 C.1.2.1 dM_write_82 (by decide) ?_
  obtain ⟨⟨iv2, av2⟩, g2, hf⟩ := ts_b hf
  dsimp only at hf
  refine m_callV (rest := []) (As := [.int (iv1 9), .int (2 : Int32)]) (rv := none) C hl.1 hw (cM_puts_met g2) (callW_of (rm := rM_puts) 2 C.1.2.2.2.2 gw_940 gw_942 gw_46 gw_55 gw_943 kM_puts ⟨Nat.le_of_ble_eq_true rfl, Nat.le_of_ble_eq_true rfl⟩) rfl rfl (Nat.le_of_ble_eq_true rfl) dM_write_83 ⟨Nat.le_of_ble_eq_true rfl, Nat.le_of_ble_eq_true rfl⟩ (fun H locs hw => ?_)
  refine W.eq (g2 := F0 m 86 ls []) rfl ?_
  refine lv_iconst (v := (0 : Int32)) C.1.1 C.1.2.1 dM_write_86 (by decide) ?_
  refine lv_istore_n (lv' := [(3, .int (0 : Int32)), (0, .ref q), (1, .int x1), (2, .int x2)]) C.1.1 C.1.2.1 dM_write_87 rfl hl (by decide) rfl (fun ls hl => ?_)
  exact wM_write_88 C hr hlk hrv FU iv2 av2 x1 x2 (0 : Int32) _ _ ls (lv_sub hl [1, 2, 3, 0] rfl) hw hf
set_option maxHeartbeats 4000000 in
set_option maxRecDepth 100000 in
theorem wM_write_27 {p : Program} {l : Launch} {e : Env} {s : State} {m : MethodId} {args : Array Value} {below : List Frame} {meth : Method} {c : Code} {g : gT} {q : Nat} {ad : Nat → Nat} {X : va_W} {rv : Option Value} {iv' : Nat → Int32} {av' : Nat → Nat → Int32} {r' : Int32} (C : mCx p m c cM_write 4 s args g "MidiDeskModel") (hr : meth.sig.returnType = (some .int)) (hlk : meth.locks = false) (hrv : rv = some (.int r')) (iv : Nat → Int32) (av : Nat → Nat → Int32) (x1 : Int32) (x2 : Int32) (s1 : Int32) (s2 : Int32) (H : Heap) (locs : List Loc) (ls : Array Slot) (hl : lv_has ls 4 [(0, .ref q), (1, .int x1), (2, .int x2)]) (hw : mWd g (mA g q ad X s.heap.size) s.heap q ad X iv av H locs) (hf : jM_write_27 iv av x1 x2 s1 s2 = some (r', iv', av')) : mG p l e rM_write s m args below meth c g q ad X rv iv' av' H locs 0 0 (F0 m 27 ls [.int s2, .int s1, .ref q]) := by
  unfold jM_write_27 at hf
  obtain ⟨⟨r1, iv1, av1⟩, g1, hf⟩ := ts_b hf
  dsimp only at hf
  refine m_callV (rest := []) (As := [.int s1, .int s2]) (rv := (some (.int r1))) C hl.1 hw (cM_fails_met g1) (callW_of (rm := rM_fails) 2 C.1.2.2.2.2 gw_877 gw_879 gw_39 gw_55 gw_880 kM_fails ⟨Nat.le_of_ble_eq_true rfl, Nat.le_of_ble_eq_true rfl⟩) rfl rfl (Nat.le_of_ble_eq_true rfl) dM_write_27 ⟨Nat.le_of_ble_eq_true rfl, Nat.le_of_ble_eq_true rfl⟩ (fun H locs hw => ?_)
  refine W.eq (g2 := F0 m 30 ls [.int r1]) rfl ?_
  refine lv_if_eq (tgt := 35) C.1.1 C.1.2.1 dM_write_30 (by decide) (fun c2 => ?_) (fun c2 => ?_)
  · have hf := ts_t hf c2
    refine lv_aload_n C.1.1 C.1.2.1 dM_write_35 rfl (lv_at hl 0 rfl) ?_
    refine lv_iconst (v := (0 : Int32)) C.1.1 C.1.2.1 dM_write_36 (by decide) ?_
    refine mp_writtenSize C hw dM_write_37 (fun H locs hw => ?_)
    refine lv_aload_n C.1.1 C.1.2.1 dM_write_40 rfl (lv_at hl 0 rfl) ?_
    refine lv_ldc C.1.1 C.1.2.1 C.1.2.2.2.1 (C.1.2.2.2.2 _ gw_939) dM_write_41 ?_
    refine lv_iconst (v := (4 : Int32)) C.1.1 C.1.2.1 dM_write_43 (by decide) ?_
    obtain ⟨⟨iv3, av3⟩, g3, hf⟩ := ts_b hf
    dsimp only at hf
    refine m_callV (rest := []) (As := [.int (1297377380 : Int32), .int (4 : Int32)]) (rv := none) C hl.1 hw (cM_puts_met g3) (callW_of (rm := rM_puts) 2 C.1.2.2.2.2 gw_940 gw_942 gw_46 gw_55 gw_943 kM_puts ⟨Nat.le_of_ble_eq_true rfl, Nat.le_of_ble_eq_true rfl⟩) rfl rfl (Nat.le_of_ble_eq_true rfl) dM_write_44 ⟨Nat.le_of_ble_eq_true rfl, Nat.le_of_ble_eq_true rfl⟩ (fun H locs hw => ?_)
    refine W.eq (g2 := F0 m 47 ls []) rfl ?_
    refine lv_aload_n C.1.1 C.1.2.1 dM_write_47 rfl (lv_at hl 0 rfl) ?_
    refine lv_bipush (v := (6 : Int32)) C.1.1 C.1.2.1 dM_write_48 (by decide) ?_
    refine lv_iconst (v := (4 : Int32)) C.1.1 C.1.2.1 dM_write_50 (by decide) ?_
    obtain ⟨⟨iv4, av4⟩, g4, hf⟩ := ts_b hf
    dsimp only at hf
    refine m_callV (rest := []) (As := [.int (6 : Int32), .int (4 : Int32)]) (rv := none) C hl.1 hw (cM_puts_met g4) (callW_of (rm := rM_puts) 2 C.1.2.2.2.2 gw_940 gw_942 gw_46 gw_55 gw_943 kM_puts ⟨Nat.le_of_ble_eq_true rfl, Nat.le_of_ble_eq_true rfl⟩) rfl rfl (Nat.le_of_ble_eq_true rfl) dM_write_51 ⟨Nat.le_of_ble_eq_true rfl, Nat.le_of_ble_eq_true rfl⟩ (fun H locs hw => ?_)
    refine W.eq (g2 := F0 m 54 ls []) rfl ?_
    refine lv_aload_n C.1.1 C.1.2.1 dM_write_54 rfl (lv_at hl 0 rfl) ?_
    refine lv_iload_n C.1.1 C.1.2.1 dM_write_55 rfl (lv_at hl 1 rfl) ?_
    refine lv_iconst (v := (2 : Int32)) C.1.1 C.1.2.1 dM_write_56 (by decide) ?_
    obtain ⟨⟨iv5, av5⟩, g5, hf⟩ := ts_b hf
    dsimp only at hf
    refine m_callV (rest := []) (As := [.int x1, .int (2 : Int32)]) (rv := none) C hl.1 hw (cM_puts_met g5) (callW_of (rm := rM_puts) 2 C.1.2.2.2.2 gw_940 gw_942 gw_46 gw_55 gw_943 kM_puts ⟨Nat.le_of_ble_eq_true rfl, Nat.le_of_ble_eq_true rfl⟩) rfl rfl (Nat.le_of_ble_eq_true rfl) dM_write_57 ⟨Nat.le_of_ble_eq_true rfl, Nat.le_of_ble_eq_true rfl⟩ (fun H locs hw => ?_)
    refine W.eq (g2 := F0 m 60 ls []) rfl ?_
    refine lv_aload_n C.1.1 C.1.2.1 dM_write_60 rfl (lv_at hl 0 rfl) ?_
    refine lv_iload_n C.1.1 C.1.2.1 dM_write_61 rfl (lv_at hl 1 rfl) ?_
    refine lv_if_ne (tgt := 69) C.1.1 C.1.2.1 dM_write_62 (by decide) (fun c6 => ?_) (fun c6 => ?_)
    · have hf := ts_f hf c6
      refine lv_aload_n C.1.1 C.1.2.1 dM_write_69 rfl (lv_at hl 0 rfl) ?_
      refine mg_tracks C hw dM_write_70 ?_
      exact wM_write_73 C hr hlk hrv iv5 av5 x1 x2 (iv5 8) _ _ ls (lv_sub hl [0, 1, 2] rfl) hw hf
    · have hf := ts_t hf c6
      refine lv_iconst (v := (1 : Int32)) C.1.1 C.1.2.1 dM_write_65 (by decide) ?_
      refine lv_goto (tgt := 73) C.1.1 C.1.2.1 dM_write_66 (by decide) ?_
      exact wM_write_73 C hr hlk hrv iv5 av5 x1 x2 (1 : Int32) _ _ ls (lv_sub hl [0, 1, 2] rfl) hw hf
  · have hf := ts_f hf c2
    refine lv_iconst (v := (0 : Int32)) C.1.1 C.1.2.1 dM_write_33 (by decide) ?_
    exact m_reti C hr hlk hrv hw hf ⟨Nat.le_of_ble_eq_true rfl, Nat.le_of_ble_eq_true rfl⟩ dM_write_34
set_option maxHeartbeats 4000000 in
set_option maxRecDepth 100000 in
theorem wM_write_22 {p : Program} {l : Launch} {e : Env} {s : State} {m : MethodId} {args : Array Value} {below : List Frame} {meth : Method} {c : Code} {g : gT} {q : Nat} {ad : Nat → Nat} {X : va_W} {rv : Option Value} {iv' : Nat → Int32} {av' : Nat → Nat → Int32} {r' : Int32} (C : mCx p m c cM_write 4 s args g "MidiDeskModel") (hr : meth.sig.returnType = (some .int)) (hlk : meth.locks = false) (hrv : rv = some (.int r')) (iv : Nat → Int32) (av : Nat → Nat → Int32) (x1 : Int32) (x2 : Int32) (s1 : Int32) (H : Heap) (locs : List Loc) (ls : Array Slot) (hl : lv_has ls 4 [(0, .ref q), (1, .int x1), (2, .int x2)]) (hw : mWd g (mA g q ad X s.heap.size) s.heap q ad X iv av H locs) (hf : jM_write_22 iv av x1 x2 s1 = some (r', iv', av')) : mG p l e rM_write s m args below meth c g q ad X rv iv' av' H locs 0 0 (F0 m 22 ls [.int s1, .ref q]) := by
  unfold jM_write_22 at hf
  refine lv_iconst (v := (1 : Int32)) C.1.1 C.1.2.1 dM_write_22 (by decide) ?_
  refine lv_goto (tgt := 27) C.1.1 C.1.2.1 dM_write_23 (by decide) ?_
  exact wM_write_27 C hr hlk hrv iv av x1 x2 s1 (1 : Int32) _ _ ls (lv_sub hl [0, 1, 2] rfl) hw hf
set_option maxHeartbeats 4000000 in
set_option maxRecDepth 100000 in
theorem wM_write_13 {p : Program} {l : Launch} {e : Env} {s : State} {m : MethodId} {args : Array Value} {below : List Frame} {meth : Method} {c : Code} {g : gT} {q : Nat} {ad : Nat → Nat} {X : va_W} {rv : Option Value} {iv' : Nat → Int32} {av' : Nat → Nat → Int32} {r' : Int32} (C : mCx p m c cM_write 4 s args g "MidiDeskModel") (hr : meth.sig.returnType = (some .int)) (hlk : meth.locks = false) (hrv : rv = some (.int r')) (iv : Nat → Int32) (av : Nat → Nat → Int32) (x1 : Int32) (x2 : Int32) (s1 : Int32) (H : Heap) (locs : List Loc) (ls : Array Slot) (hl : lv_has ls 4 [(0, .ref q), (1, .int x1), (2, .int x2)]) (hw : mWd g (mA g q ad X s.heap.size) s.heap q ad X iv av H locs) (hf : jM_write_13 iv av x1 x2 s1 = some (r', iv', av')) : mG p l e rM_write s m args below meth c g q ad X rv iv' av' H locs 0 0 (F0 m 13 ls [.int s1, .ref q]) := by
  unfold jM_write_13 at hf
  refine lv_iload_n C.1.1 C.1.2.1 dM_write_13 rfl (lv_at hl 1 rfl) ?_
  refine lv_if_lt (tgt := 22) C.1.1 C.1.2.1 dM_write_14 (by decide) (fun c1 => ?_) (fun c1 => ?_)
  · have hf := ts_t hf c1
    exact wM_write_22 C hr hlk hrv iv av x1 x2 s1 _ _ ls (lv_sub hl [0, 1, 2] rfl) hw hf
  · have hf := ts_f hf c1
    refine lv_iload_n C.1.1 C.1.2.1 dM_write_17 rfl (lv_at hl 1 rfl) ?_
    refine lv_iconst (v := (2 : Int32)) C.1.1 C.1.2.1 dM_write_18 (by decide) ?_
    refine lv_icmp_le (tgt := 26) C.1.1 C.1.2.1 dM_write_19 (by decide) (fun c2 => ?_) (fun c2 => ?_)
    · have hf := ts_t hf c2
      refine lv_iconst (v := (0 : Int32)) C.1.1 C.1.2.1 dM_write_26 (by decide) ?_
      exact wM_write_27 C hr hlk hrv iv av x1 x2 s1 (0 : Int32) _ _ ls (lv_sub hl [0, 1, 2] rfl) hw hf
    · have hf := ts_f hf c2
      exact wM_write_22 C hr hlk hrv iv av x1 x2 s1 _ _ ls (lv_sub hl [0, 1, 2] rfl) hw hf
set_option maxHeartbeats 4000000 in
set_option maxRecDepth 100000 in
theorem cM_write_met {l : Launch} {g : gT} {q : Nat} {ad : Nat → Nat} {X : va_W} {iv iv' : Nat → Int32} {av av' : Nat → Nat → Int32} {x1 : Int32} {x2 : Int32} {r' : Int32} (hf : fM_write iv av x1 x2 = some (r', iv', av')) : mMet l yM_write cM_write 4 (some .int) rM_write g q ad X iv av [.ref q, .int x1, .int x2] (some (.int r')) iv' av' := by
  refine m_entry (by decide) (Nat.le_of_ble_eq_true rfl) ?_
  intro p e s m args below meth c ls C hr hlk hnm hl hw
  have hrv : ((some (.int r')) : Option Value) = (some (.int r')) := rfl
  have C : mCx p m c cM_write 4 s args g "MidiDeskModel" := C
  have hl : lv_has ls 4 [(0, .ref q), (1, .int x1), (2, .int x2)] := hl
  unfold fM_write at hf
  refine lv_aload_n C.1.1 C.1.2.1 dM_write_0 rfl (lv_at hl 0 rfl) ?_
  refine lv_aload_n C.1.1 C.1.2.1 dM_write_1 rfl (lv_at hl 0 rfl) ?_
  refine mg_there C hw dM_write_2 ?_
  refine lv_if_ne (tgt := 12) C.1.1 C.1.2.1 dM_write_5 (by decide) (fun c1 => ?_) (fun c1 => ?_)
  · have hf := ts_f hf c1
    refine lv_iconst (v := (0 : Int32)) C.1.1 C.1.2.1 dM_write_12 (by decide) ?_
    exact wM_write_13 C hr hlk hrv iv av x1 x2 (0 : Int32) _ _ ls (lv_sub hl [0, 1, 2] rfl) hw hf
  · have hf := ts_t hf c1
    refine lv_iconst (v := (1 : Int32)) C.1.1 C.1.2.1 dM_write_8 (by decide) ?_
    refine lv_goto (tgt := 13) C.1.1 C.1.2.1 dM_write_9 (by decide) ?_
    exact wM_write_13 C hr hlk hrv iv av x1 x2 (1 : Int32) _ _ ls (lv_sub hl [0, 1, 2] rfl) hw hf
abbrev cM_written : ByteArray := prog_8_method_40_code
abbrev yM_written : MethodName := ⟨"MidiDeskModel", "written", "(I)I"⟩
theorem kM_written : yM_written.cls ≠ "java/lang/invoke/MethodHandle" ∧ yM_written.cls ≠ "java/lang/invoke/VarHandle" ∧ (parseMethodDescriptor yM_written.desc).map (fun d => d.parameters.length) = some 1 := by decide +kernel
abbrev rM_written : Room := { frames := 0, cells := 0, slots := 0, locals := 0 }
theorem dM_written_0 : decode cM_written 0 = .ok (.aload_n 0, 1) := by decide +kernel
theorem dM_written_1 : decode cM_written 1 = .ok (.iconst 0, 1) := by decide +kernel
theorem dM_written_2 : decode cM_written 2 = .ok (.putfield 47, 3) := by decide +kernel
theorem dM_written_5 : decode cM_written 5 = .ok (.iload_n 1, 1) := by decide +kernel
theorem dM_written_6 : decode cM_written 6 = .ok (.ifCond .lt 20, 3) := by decide +kernel
theorem dM_written_9 : decode cM_written 9 = .ok (.iload_n 1, 1) := by decide +kernel
theorem dM_written_10 : decode cM_written 10 = .ok (.aload_n 0, 1) := by decide +kernel
theorem dM_written_11 : decode cM_written 11 = .ok (.getfield 187, 3) := by decide +kernel
theorem dM_written_14 : decode cM_written 14 = .ok (.if_icmp .ge 12, 3) := by decide +kernel
theorem dM_written_17 : decode cM_written 17 = .ok (.aload_n 0, 1) := by decide +kernel
theorem dM_written_18 : decode cM_written 18 = .ok (.getfield 44, 3) := by decide +kernel
theorem dM_written_21 : decode cM_written 21 = .ok (.iload_n 1, 1) := by decide +kernel
theorem dM_written_22 : decode cM_written 22 = .ok (.iaload, 1) := by decide +kernel
theorem dM_written_23 : decode cM_written 23 = .ok (.goto 4, 3) := by decide +kernel
theorem dM_written_26 : decode cM_written 26 = .ok (.iconst (-1), 1) := by decide +kernel
theorem dM_written_27 : decode cM_written 27 = .ok (.ireturn, 1) := by decide +kernel
def fM_written (iv : Nat → Int32) (av : Nat → Nat → Int32) (x1 : Int32) : Option (Int32 × (Nat → Int32) × (Nat → Nat → Int32)) := if x1 < 0 then (some ((-1 : Int32), upd iv 0 (0 : Int32), av)) else (if ((upd iv 0 (0 : Int32)) 12) ≤ x1 then (some ((-1 : Int32), upd iv 0 (0 : Int32), av)) else (if x1 < 0 ∨ 32768 ≤ x1.toNatClampNeg then none else (some (av 11 x1.toNatClampNeg, upd iv 0 (0 : Int32), av))))
set_option maxHeartbeats 4000000 in
set_option maxRecDepth 100000 in
theorem cM_written_met {l : Launch} {g : gT} {q : Nat} {ad : Nat → Nat} {X : va_W} {iv iv' : Nat → Int32} {av av' : Nat → Nat → Int32} {x1 : Int32} {r' : Int32} (hf : fM_written iv av x1 = some (r', iv', av')) : mMet l yM_written cM_written 2 (some .int) rM_written g q ad X iv av [.ref q, .int x1] (some (.int r')) iv' av' := by
  refine m_entry (by decide) (Nat.le_of_ble_eq_true rfl) ?_
  intro p e s m args below meth c ls C hr hlk hnm hl hw
  have hrv : ((some (.int r')) : Option Value) = (some (.int r')) := rfl
  have C : mCx p m c cM_written 2 s args g "MidiDeskModel" := C
  have hl : lv_has ls 2 [(0, .ref q), (1, .int x1)] := hl
  unfold fM_written at hf
  refine lv_aload_n C.1.1 C.1.2.1 dM_written_0 rfl (lv_at hl 0 rfl) ?_
  refine lv_iconst (v := (0 : Int32)) C.1.1 C.1.2.1 dM_written_1 (by decide) ?_
  refine mp_thrown C hw dM_written_2 (fun H locs hw => ?_)
  refine lv_iload_n C.1.1 C.1.2.1 dM_written_5 rfl (lv_at hl 1 rfl) ?_
  refine lv_if_lt (tgt := 26) C.1.1 C.1.2.1 dM_written_6 (by decide) (fun c1 => ?_) (fun c1 => ?_)
  · have hf := ts_t hf c1
    refine lv_iconst (v := (-1 : Int32)) C.1.1 C.1.2.1 dM_written_26 (by decide) ?_
    exact m_reti C hr hlk hrv hw hf ⟨Nat.le_of_ble_eq_true rfl, Nat.le_of_ble_eq_true rfl⟩ dM_written_27
  · have hf := ts_f hf c1
    refine lv_iload_n C.1.1 C.1.2.1 dM_written_9 rfl (lv_at hl 1 rfl) ?_
    refine lv_aload_n C.1.1 C.1.2.1 dM_written_10 rfl (lv_at hl 0 rfl) ?_
    refine mg_writtenSize C hw dM_written_11 ?_
    refine lv_icmp_ge (tgt := 26) C.1.1 C.1.2.1 dM_written_14 (by decide) (fun c2 => ?_) (fun c2 => ?_)
    · have hf := ts_t hf c2
      refine lv_iconst (v := (-1 : Int32)) C.1.1 C.1.2.1 dM_written_26 (by decide) ?_
      exact m_reti C hr hlk hrv hw hf ⟨Nat.le_of_ble_eq_true rfl, Nat.le_of_ble_eq_true rfl⟩ dM_written_27
    · have hf := ts_f hf c2
      refine lv_aload_n C.1.1 C.1.2.1 dM_written_17 rfl (lv_at hl 0 rfl) ?_
      refine mg_written C hw dM_written_18 ?_
      refine lv_iload_n C.1.1 C.1.2.1 dM_written_21 rfl (lv_at hl 1 rfl) ?_
      obtain ⟨h3, hf⟩ := ts_g hf
      refine ma_written C hw h3 dM_written_22 ?_
      refine lv_goto (tgt := 27) C.1.1 C.1.2.1 dM_written_23 (by decide) ?_
      exact m_reti C hr hlk hrv hw hf ⟨Nat.le_of_ble_eq_true rfl, Nat.le_of_ble_eq_true rfl⟩ dM_written_27
abbrev cM_back : ByteArray := prog_8_method_41_code
abbrev yM_back : MethodName := ⟨"MidiDeskModel", "back", "()I"⟩
theorem kM_back : yM_back.cls ≠ "java/lang/invoke/MethodHandle" ∧ yM_back.cls ≠ "java/lang/invoke/VarHandle" ∧ (parseMethodDescriptor yM_back.desc).map (fun d => d.parameters.length) = some 0 := by decide +kernel
abbrev rM_back : Room := { frames := 0, cells := 0, slots := 0, locals := 0 }
theorem dM_back_0 : decode cM_back 0 = .ok (.aload_n 0, 1) := by decide +kernel
theorem dM_back_1 : decode cM_back 1 = .ok (.iconst 0, 1) := by decide +kernel
theorem dM_back_2 : decode cM_back 2 = .ok (.putfield 47, 3) := by decide +kernel
theorem dM_back_5 : decode cM_back 5 = .ok (.aload_n 0, 1) := by decide +kernel
theorem dM_back_6 : decode cM_back 6 = .ok (.getfield 187, 3) := by decide +kernel
theorem dM_back_9 : decode cM_back 9 = .ok (.ifCond .eq 13, 3) := by decide +kernel
theorem dM_back_12 : decode cM_back 12 = .ok (.aload_n 0, 1) := by decide +kernel
theorem dM_back_13 : decode cM_back 13 = .ok (.getfield 187, 3) := by decide +kernel
theorem dM_back_16 : decode cM_back 16 = .ok (.sipush 12000, 3) := by decide +kernel
theorem dM_back_19 : decode cM_back 19 = .ok (.if_icmp .le 5, 3) := by decide +kernel
theorem dM_back_22 : decode cM_back 22 = .ok (.iconst (-1), 1) := by decide +kernel
theorem dM_back_23 : decode cM_back 23 = .ok (.ireturn, 1) := by decide +kernel
theorem dM_back_24 : decode cM_back 24 = .ok (.iconst 0, 1) := by decide +kernel
theorem dM_back_25 : decode cM_back 25 = .ok (.istore_n 1, 1) := by decide +kernel
theorem dM_back_26 : decode cM_back 26 = .ok (.iload_n 1, 1) := by decide +kernel
theorem dM_back_27 : decode cM_back 27 = .ok (.aload_n 0, 1) := by decide +kernel
theorem dM_back_28 : decode cM_back 28 = .ok (.getfield 187, 3) := by decide +kernel
theorem dM_back_31 : decode cM_back 31 = .ok (.if_icmp .ge 21, 3) := by decide +kernel
theorem dM_back_34 : decode cM_back 34 = .ok (.aload_n 0, 1) := by decide +kernel
theorem dM_back_35 : decode cM_back 35 = .ok (.getfield 7, 3) := by decide +kernel
theorem dM_back_38 : decode cM_back 38 = .ok (.iload_n 1, 1) := by decide +kernel
theorem dM_back_39 : decode cM_back 39 = .ok (.aload_n 0, 1) := by decide +kernel
theorem dM_back_40 : decode cM_back 40 = .ok (.getfield 44, 3) := by decide +kernel
theorem dM_back_43 : decode cM_back 43 = .ok (.iload_n 1, 1) := by decide +kernel
theorem dM_back_44 : decode cM_back 44 = .ok (.iaload, 1) := by decide +kernel
theorem dM_back_45 : decode cM_back 45 = .ok (.iastore, 1) := by decide +kernel
theorem dM_back_46 : decode cM_back 46 = .ok (.iinc 1 1, 3) := by decide +kernel
theorem dM_back_49 : decode cM_back 49 = .ok (.goto (-23), 3) := by decide +kernel
theorem dM_back_52 : decode cM_back 52 = .ok (.aload_n 0, 1) := by decide +kernel
theorem dM_back_53 : decode cM_back 53 = .ok (.aload_n 0, 1) := by decide +kernel
theorem dM_back_54 : decode cM_back 54 = .ok (.getfield 187, 3) := by decide +kernel
theorem dM_back_57 : decode cM_back 57 = .ok (.putfield 51, 3) := by decide +kernel
theorem dM_back_60 : decode cM_back 60 = .ok (.aload_n 0, 1) := by decide +kernel
theorem dM_back_61 : decode cM_back 61 = .ok (.getfield 51, 3) := by decide +kernel
theorem dM_back_64 : decode cM_back 64 = .ok (.ireturn, 1) := by decide +kernel
def lM_back_26 : Nat → (Nat → Int32) → (Nat → Nat → Int32) → Int32 → Option (Int32 × (Nat → Int32) × (Nat → Nat → Int32))
  | 0 => fun _ _ _ => none
  | k + 1 => fun iv av x1 => if (iv 12) ≤ x1 then (some ((upd iv 1 (iv 12)) 1, upd iv 1 (iv 12), av)) else (if x1 < 0 ∨ 32768 ≤ x1.toNatClampNeg then none else (if x1 < 0 ∨ 12000 ≤ x1.toNatClampNeg then none else (lM_back_26 k iv (up2 av 0 x1.toNatClampNeg (av 11 x1.toNatClampNeg)) (x1 + 1))))
def fM_back (iv : Nat → Int32) (av : Nat → Nat → Int32) : Option (Int32 × (Nat → Int32) × (Nat → Nat → Int32)) := if ((upd iv 0 (0 : Int32)) 12) = 0 then (some ((-1 : Int32), upd iv 0 (0 : Int32), av)) else (if ((upd iv 0 (0 : Int32)) 12) ≤ (12000 : Int32) then (lM_back_26 FU (upd iv 0 (0 : Int32)) av (0 : Int32)) else (some ((-1 : Int32), upd iv 0 (0 : Int32), av)))
set_option maxHeartbeats 4000000 in
set_option maxRecDepth 100000 in
theorem wM_back_26 {p : Program} {l : Launch} {e : Env} {s : State} {m : MethodId} {args : Array Value} {below : List Frame} {meth : Method} {c : Code} {g : gT} {q : Nat} {ad : Nat → Nat} {X : va_W} {rv : Option Value} {iv' : Nat → Int32} {av' : Nat → Nat → Int32} {r' : Int32} (C : mCx p m c cM_back 2 s args g "MidiDeskModel") (hr : meth.sig.returnType = (some .int)) (hlk : meth.locks = false) (hrv : rv = some (.int r')) (k : Nat) : ∀ (iv : Nat → Int32) (av : Nat → Nat → Int32) (x1 : Int32) (H : Heap) (locs : List Loc) (ls : Array Slot), lv_has ls 2 [(0, .ref q), (1, .int x1)] → mWd g (mA g q ad X s.heap.size) s.heap q ad X iv av H locs → lM_back_26 k iv av x1 = some (r', iv', av') → mG p l e rM_back s m args below meth c g q ad X rv iv' av' H locs 0 0 (F0 m 26 ls []) := by
  induction k with
  | zero => intro iv av x1 H locs ls hl hw hf; cases hf
  | succ k ih =>
    intro iv av x1 H locs ls hl hw hf
    have hf : (if (iv 12) ≤ x1 then (some ((upd iv 1 (iv 12)) 1, upd iv 1 (iv 12), av)) else (if x1 < 0 ∨ 32768 ≤ x1.toNatClampNeg then none else (if x1 < 0 ∨ 12000 ≤ x1.toNatClampNeg then none else (lM_back_26 k iv (up2 av 0 x1.toNatClampNeg (av 11 x1.toNatClampNeg)) (x1 + 1))))) = some (r', iv', av') := hf
    refine lv_iload_n C.1.1 C.1.2.1 dM_back_26 rfl (lv_at hl 1 rfl) ?_
    refine lv_aload_n C.1.1 C.1.2.1 dM_back_27 rfl (lv_at hl 0 rfl) ?_
    refine mg_writtenSize C hw dM_back_28 ?_
    refine lv_icmp_ge (tgt := 52) C.1.1 C.1.2.1 dM_back_31 (by decide) (fun c1 => ?_) (fun c1 => ?_)
    · have hf := ts_t hf c1
      refine lv_aload_n C.1.1 C.1.2.1 dM_back_52 rfl (lv_at hl 0 rfl) ?_
      refine lv_aload_n C.1.1 C.1.2.1 dM_back_53 rfl (lv_at hl 0 rfl) ?_
      refine mg_writtenSize C hw dM_back_54 ?_
      refine mp_size C hw dM_back_57 (fun H locs hw => ?_)
      refine lv_aload_n C.1.1 C.1.2.1 dM_back_60 rfl (lv_at hl 0 rfl) ?_
      refine mg_size C hw dM_back_61 ?_
      exact m_reti C hr hlk hrv hw hf ⟨Nat.le_of_ble_eq_true rfl, Nat.le_of_ble_eq_true rfl⟩ dM_back_64
    · have hf := ts_f hf c1
      refine lv_aload_n C.1.1 C.1.2.1 dM_back_34 rfl (lv_at hl 0 rfl) ?_
      refine mg_input C hw dM_back_35 ?_
      refine lv_iload_n C.1.1 C.1.2.1 dM_back_38 rfl (lv_at hl 1 rfl) ?_
      refine lv_aload_n C.1.1 C.1.2.1 dM_back_39 rfl (lv_at hl 0 rfl) ?_
      refine mg_written C hw dM_back_40 ?_
      refine lv_iload_n C.1.1 C.1.2.1 dM_back_43 rfl (lv_at hl 1 rfl) ?_
      obtain ⟨h2, hf⟩ := ts_g hf
      refine ma_written C hw h2 dM_back_44 ?_
      obtain ⟨h3, hf⟩ := ts_g hf
      refine ms_input C hw h3 dM_back_45 (fun H locs hw => ?_)
      refine lv_iinc (v := x1 + 1) (lv' := [(1, .int (x1 + 1)), (0, .ref q)]) C.1.1 C.1.2.1 dM_back_46 hl (k := 1) rfl rfl (by decide) rfl (fun ls hl => ?_)
      refine lv_goto (tgt := 26) C.1.1 C.1.2.1 dM_back_49 (by decide) ?_
      exact ih iv (up2 av 0 x1.toNatClampNeg (av 11 x1.toNatClampNeg)) (x1 + 1) _ _ ls (lv_sub hl [1, 0] rfl) hw hf
set_option maxHeartbeats 4000000 in
set_option maxRecDepth 100000 in
theorem cM_back_met {l : Launch} {g : gT} {q : Nat} {ad : Nat → Nat} {X : va_W} {iv iv' : Nat → Int32} {av av' : Nat → Nat → Int32} {r' : Int32} (hf : fM_back iv av = some (r', iv', av')) : mMet l yM_back cM_back 2 (some .int) rM_back g q ad X iv av [.ref q] (some (.int r')) iv' av' := by
  refine m_entry (by decide) (Nat.le_of_ble_eq_true rfl) ?_
  intro p e s m args below meth c ls C hr hlk hnm hl hw
  have hrv : ((some (.int r')) : Option Value) = (some (.int r')) := rfl
  have C : mCx p m c cM_back 2 s args g "MidiDeskModel" := C
  have hl : lv_has ls 2 [(0, .ref q)] := hl
  unfold fM_back at hf
  refine lv_aload_n C.1.1 C.1.2.1 dM_back_0 rfl (lv_at hl 0 rfl) ?_
  refine lv_iconst (v := (0 : Int32)) C.1.1 C.1.2.1 dM_back_1 (by decide) ?_
  refine mp_thrown C hw dM_back_2 (fun H locs hw => ?_)
  refine lv_aload_n C.1.1 C.1.2.1 dM_back_5 rfl (lv_at hl 0 rfl) ?_
  refine mg_writtenSize C hw dM_back_6 ?_
  refine lv_if_eq (tgt := 22) C.1.1 C.1.2.1 dM_back_9 (by decide) (fun c1 => ?_) (fun c1 => ?_)
  · have hf := ts_t hf c1
    refine lv_iconst (v := (-1 : Int32)) C.1.1 C.1.2.1 dM_back_22 (by decide) ?_
    exact m_reti C hr hlk hrv hw hf ⟨Nat.le_of_ble_eq_true rfl, Nat.le_of_ble_eq_true rfl⟩ dM_back_23
  · have hf := ts_f hf c1
    refine lv_aload_n C.1.1 C.1.2.1 dM_back_12 rfl (lv_at hl 0 rfl) ?_
    refine mg_writtenSize C hw dM_back_13 ?_
    refine lv_sipush (v := (12000 : Int32)) C.1.1 C.1.2.1 dM_back_16 (by decide) ?_
    refine lv_icmp_le (tgt := 24) C.1.1 C.1.2.1 dM_back_19 (by decide) (fun c2 => ?_) (fun c2 => ?_)
    · have hf := ts_t hf c2
      refine lv_iconst (v := (0 : Int32)) C.1.1 C.1.2.1 dM_back_24 (by decide) ?_
      refine lv_istore_n (lv' := [(1, .int (0 : Int32)), (0, .ref q)]) C.1.1 C.1.2.1 dM_back_25 rfl hl (by decide) rfl (fun ls hl => ?_)
      exact wM_back_26 C hr hlk hrv FU (upd iv 0 (0 : Int32)) av (0 : Int32) _ _ ls (lv_sub hl [1, 0] rfl) hw hf
    · have hf := ts_f hf c2
      refine lv_iconst (v := (-1 : Int32)) C.1.1 C.1.2.1 dM_back_22 (by decide) ?_
      exact m_reti C hr hlk hrv hw hf ⟨Nat.le_of_ble_eq_true rfl, Nat.le_of_ble_eq_true rfl⟩ dM_back_23
abbrev cM_counted : ByteArray := prog_8_method_42_code
abbrev yM_counted : MethodName := ⟨"MidiDeskModel", "counted", "(Z)I"⟩
theorem kM_counted : yM_counted.cls ≠ "java/lang/invoke/MethodHandle" ∧ yM_counted.cls ≠ "java/lang/invoke/VarHandle" ∧ (parseMethodDescriptor yM_counted.desc).map (fun d => d.parameters.length) = some 1 := by decide +kernel
abbrev rM_counted : Room := { frames := 1, cells := 0, slots := 0, locals := 21 }
theorem dM_counted_0 : decode cM_counted 0 = .ok (.iconst 0, 1) := by decide +kernel
theorem dM_counted_1 : decode cM_counted 1 = .ok (.istore_n 2, 1) := by decide +kernel
theorem dM_counted_2 : decode cM_counted 2 = .ok (.iconst 0, 1) := by decide +kernel
theorem dM_counted_3 : decode cM_counted 3 = .ok (.istore_n 3, 1) := by decide +kernel
theorem dM_counted_4 : decode cM_counted 4 = .ok (.iload_n 3, 1) := by decide +kernel
theorem dM_counted_5 : decode cM_counted 5 = .ok (.aload_n 0, 1) := by decide +kernel
theorem dM_counted_6 : decode cM_counted 6 = .ok (.getfield 95, 3) := by decide +kernel
theorem dM_counted_9 : decode cM_counted 9 = .ok (.if_icmp .ge 40, 3) := by decide +kernel
theorem dM_counted_12 : decode cM_counted 12 = .ok (.iload_n 2, 1) := by decide +kernel
theorem dM_counted_13 : decode cM_counted 13 = .ok (.iload_n 1, 1) := by decide +kernel
theorem dM_counted_14 : decode cM_counted 14 = .ok (.ifCond .eq 14, 3) := by decide +kernel
theorem dM_counted_17 : decode cM_counted 17 = .ok (.aload_n 0, 1) := by decide +kernel
theorem dM_counted_18 : decode cM_counted 18 = .ok (.iload_n 3, 1) := by decide +kernel
theorem dM_counted_19 : decode cM_counted 19 = .ok (.invokevirtual 154, 3) := by decide +kernel
theorem dM_counted_22 : decode cM_counted 22 = .ok (.ifCond .eq 18, 3) := by decide +kernel
theorem dM_counted_25 : decode cM_counted 25 = .ok (.goto 11, 3) := by decide +kernel
theorem dM_counted_28 : decode cM_counted 28 = .ok (.aload_n 0, 1) := by decide +kernel
theorem dM_counted_29 : decode cM_counted 29 = .ok (.iload_n 3, 1) := by decide +kernel
theorem dM_counted_30 : decode cM_counted 30 = .ok (.invokevirtual 169, 3) := by decide +kernel
theorem dM_counted_33 : decode cM_counted 33 = .ok (.ifCond .eq 7, 3) := by decide +kernel
theorem dM_counted_36 : decode cM_counted 36 = .ok (.iconst 1, 1) := by decide +kernel
theorem dM_counted_37 : decode cM_counted 37 = .ok (.goto 4, 3) := by decide +kernel
theorem dM_counted_40 : decode cM_counted 40 = .ok (.iconst 0, 1) := by decide +kernel
theorem dM_counted_41 : decode cM_counted 41 = .ok (.iadd, 1) := by decide +kernel
theorem dM_counted_42 : decode cM_counted 42 = .ok (.istore_n 2, 1) := by decide +kernel
theorem dM_counted_43 : decode cM_counted 43 = .ok (.iinc 3 1, 3) := by decide +kernel
theorem dM_counted_46 : decode cM_counted 46 = .ok (.goto (-42), 3) := by decide +kernel
theorem dM_counted_49 : decode cM_counted 49 = .ok (.iload_n 2, 1) := by decide +kernel
theorem dM_counted_50 : decode cM_counted 50 = .ok (.ireturn, 1) := by decide +kernel
def jM_counted_41 (K4 : (Nat → Int32) → (Nat → Nat → Int32) → Int32 → Int32 → Int32 → Option (Int32 × (Nat → Int32) × (Nat → Nat → Int32))) (iv : Nat → Int32) (av : Nat → Nat → Int32) (x1 : Int32) (x3 : Int32) (s0 : Int32) (s1 : Int32) : Option (Int32 × (Nat → Int32) × (Nat → Nat → Int32)) := K4 iv av x1 (s0 + s1) (x3 + 1)
def jM_counted_40 (K4 : (Nat → Int32) → (Nat → Nat → Int32) → Int32 → Int32 → Int32 → Option (Int32 × (Nat → Int32) × (Nat → Nat → Int32))) (iv : Nat → Int32) (av : Nat → Nat → Int32) (x1 : Int32) (x3 : Int32) (s0 : Int32) : Option (Int32 × (Nat → Int32) × (Nat → Nat → Int32)) := jM_counted_41 K4 iv av x1 x3 s0 (0 : Int32)
def jM_counted_36 (K4 : (Nat → Int32) → (Nat → Nat → Int32) → Int32 → Int32 → Int32 → Option (Int32 × (Nat → Int32) × (Nat → Nat → Int32))) (iv : Nat → Int32) (av : Nat → Nat → Int32) (x1 : Int32) (x3 : Int32) (s0 : Int32) : Option (Int32 × (Nat → Int32) × (Nat → Nat → Int32)) := jM_counted_41 K4 iv av x1 x3 s0 (1 : Int32)
def lM_counted_4 : Nat → (Nat → Int32) → (Nat → Nat → Int32) → Int32 → Int32 → Int32 → Option (Int32 × (Nat → Int32) × (Nat → Nat → Int32))
  | 0 => fun _ _ _ _ _ => none
  | k + 1 => fun iv av x1 x2 x3 => if (iv 10) ≤ x3 then (some (x2, iv, av)) else (if x1 = 0 then ((fM_begins iv av x3).bind fun (r3, iv3, av3) => if r3 = 0 then (jM_counted_40 (lM_counted_4 k) iv3 av3 x1 x3 x2) else (jM_counted_36 (lM_counted_4 k) iv3 av3 x1 x3 x2)) else ((fM_isTempo iv av x3).bind fun (r5, iv5, av5) => if r5 = 0 then (jM_counted_40 (lM_counted_4 k) iv5 av5 x1 x3 x2) else (jM_counted_36 (lM_counted_4 k) iv5 av5 x1 x3 x2)))
def fM_counted (iv : Nat → Int32) (av : Nat → Nat → Int32) (x1 : Int32) : Option (Int32 × (Nat → Int32) × (Nat → Nat → Int32)) := lM_counted_4 FU iv av x1 (0 : Int32) (0 : Int32)
set_option maxHeartbeats 4000000 in
set_option maxRecDepth 100000 in
theorem wM_counted_41 {p : Program} {l : Launch} {e : Env} {s : State} {m : MethodId} {args : Array Value} {below : List Frame} {meth : Method} {c : Code} {g : gT} {q : Nat} {ad : Nat → Nat} {X : va_W} {rv : Option Value} {iv' : Nat → Int32} {av' : Nat → Nat → Int32} {r' : Int32} (C : mCx p m c cM_counted 4 s args g "MidiDeskModel") (hr : meth.sig.returnType = (some .int)) (hlk : meth.locks = false) (hrv : rv = some (.int r')) {K4 : (Nat → Int32) → (Nat → Nat → Int32) → Int32 → Int32 → Int32 → Option (Int32 × (Nat → Int32) × (Nat → Nat → Int32))} (hK4 : ∀ (iv : Nat → Int32) (av : Nat → Nat → Int32) (x1 : Int32) (x2 : Int32) (x3 : Int32) (H : Heap) (locs : List Loc) (ls : Array Slot), lv_has ls 4 [(0, .ref q), (1, .int x1), (2, .int x2), (3, .int x3)] → mWd g (mA g q ad X s.heap.size) s.heap q ad X iv av H locs → K4 iv av x1 x2 x3 = some (r', iv', av') → mG p l e rM_counted s m args below meth c g q ad X rv iv' av' H locs 0 0 (F0 m 4 ls [])) (iv : Nat → Int32) (av : Nat → Nat → Int32) (x1 : Int32) (x3 : Int32) (s0 : Int32) (s1 : Int32) (H : Heap) (locs : List Loc) (ls : Array Slot) (hl : lv_has ls 4 [(0, .ref q), (1, .int x1), (3, .int x3)]) (hw : mWd g (mA g q ad X s.heap.size) s.heap q ad X iv av H locs) (hf : jM_counted_41 K4 iv av x1 x3 s0 s1 = some (r', iv', av')) : mG p l e rM_counted s m args below meth c g q ad X rv iv' av' H locs 0 0 (F0 m 41 ls [.int s1, .int s0]) := by
  unfold jM_counted_41 at hf
  refine lv_iadd C.1.1 C.1.2.1 dM_counted_41 ?_
  refine lv_istore_n (lv' := [(2, .int (s0 + s1)), (0, .ref q), (1, .int x1), (3, .int x3)]) C.1.1 C.1.2.1 dM_counted_42 rfl hl (by decide) rfl (fun ls hl => ?_)
  refine lv_iinc (v := x3 + 1) (lv' := [(3, .int (x3 + 1)), (2, .int (s0 + s1)), (0, .ref q), (1, .int x1)]) C.1.1 C.1.2.1 dM_counted_43 hl (k := 3) rfl rfl (by decide) rfl (fun ls hl => ?_)
  refine lv_goto (tgt := 4) C.1.1 C.1.2.1 dM_counted_46 (by decide) ?_
  exact hK4 iv av x1 (s0 + s1) (x3 + 1) _ _ ls (lv_sub hl [2, 3, 1, 0] rfl) hw hf
set_option maxHeartbeats 4000000 in
set_option maxRecDepth 100000 in
theorem wM_counted_40 {p : Program} {l : Launch} {e : Env} {s : State} {m : MethodId} {args : Array Value} {below : List Frame} {meth : Method} {c : Code} {g : gT} {q : Nat} {ad : Nat → Nat} {X : va_W} {rv : Option Value} {iv' : Nat → Int32} {av' : Nat → Nat → Int32} {r' : Int32} (C : mCx p m c cM_counted 4 s args g "MidiDeskModel") (hr : meth.sig.returnType = (some .int)) (hlk : meth.locks = false) (hrv : rv = some (.int r')) {K4 : (Nat → Int32) → (Nat → Nat → Int32) → Int32 → Int32 → Int32 → Option (Int32 × (Nat → Int32) × (Nat → Nat → Int32))} (hK4 : ∀ (iv : Nat → Int32) (av : Nat → Nat → Int32) (x1 : Int32) (x2 : Int32) (x3 : Int32) (H : Heap) (locs : List Loc) (ls : Array Slot), lv_has ls 4 [(0, .ref q), (1, .int x1), (2, .int x2), (3, .int x3)] → mWd g (mA g q ad X s.heap.size) s.heap q ad X iv av H locs → K4 iv av x1 x2 x3 = some (r', iv', av') → mG p l e rM_counted s m args below meth c g q ad X rv iv' av' H locs 0 0 (F0 m 4 ls [])) (iv : Nat → Int32) (av : Nat → Nat → Int32) (x1 : Int32) (x3 : Int32) (s0 : Int32) (H : Heap) (locs : List Loc) (ls : Array Slot) (hl : lv_has ls 4 [(0, .ref q), (1, .int x1), (3, .int x3)]) (hw : mWd g (mA g q ad X s.heap.size) s.heap q ad X iv av H locs) (hf : jM_counted_40 K4 iv av x1 x3 s0 = some (r', iv', av')) : mG p l e rM_counted s m args below meth c g q ad X rv iv' av' H locs 0 0 (F0 m 40 ls [.int s0]) := by
  unfold jM_counted_40 at hf
  refine lv_iconst (v := (0 : Int32)) C.1.1 C.1.2.1 dM_counted_40 (by decide) ?_
  exact wM_counted_41 C hr hlk hrv hK4 iv av x1 x3 s0 (0 : Int32) _ _ ls (lv_sub hl [0, 1, 2] rfl) hw hf
set_option maxHeartbeats 4000000 in
set_option maxRecDepth 100000 in
theorem wM_counted_36 {p : Program} {l : Launch} {e : Env} {s : State} {m : MethodId} {args : Array Value} {below : List Frame} {meth : Method} {c : Code} {g : gT} {q : Nat} {ad : Nat → Nat} {X : va_W} {rv : Option Value} {iv' : Nat → Int32} {av' : Nat → Nat → Int32} {r' : Int32} (C : mCx p m c cM_counted 4 s args g "MidiDeskModel") (hr : meth.sig.returnType = (some .int)) (hlk : meth.locks = false) (hrv : rv = some (.int r')) {K4 : (Nat → Int32) → (Nat → Nat → Int32) → Int32 → Int32 → Int32 → Option (Int32 × (Nat → Int32) × (Nat → Nat → Int32))} (hK4 : ∀ (iv : Nat → Int32) (av : Nat → Nat → Int32) (x1 : Int32) (x2 : Int32) (x3 : Int32) (H : Heap) (locs : List Loc) (ls : Array Slot), lv_has ls 4 [(0, .ref q), (1, .int x1), (2, .int x2), (3, .int x3)] → mWd g (mA g q ad X s.heap.size) s.heap q ad X iv av H locs → K4 iv av x1 x2 x3 = some (r', iv', av') → mG p l e rM_counted s m args below meth c g q ad X rv iv' av' H locs 0 0 (F0 m 4 ls [])) (iv : Nat → Int32) (av : Nat → Nat → Int32) (x1 : Int32) (x3 : Int32) (s0 : Int32) (H : Heap) (locs : List Loc) (ls : Array Slot) (hl : lv_has ls 4 [(0, .ref q), (1, .int x1), (3, .int x3)]) (hw : mWd g (mA g q ad X s.heap.size) s.heap q ad X iv av H locs) (hf : jM_counted_36 K4 iv av x1 x3 s0 = some (r', iv', av')) : mG p l e rM_counted s m args below meth c g q ad X rv iv' av' H locs 0 0 (F0 m 36 ls [.int s0]) := by
  unfold jM_counted_36 at hf
  refine lv_iconst (v := (1 : Int32)) C.1.1 C.1.2.1 dM_counted_36 (by decide) ?_
  refine lv_goto (tgt := 41) C.1.1 C.1.2.1 dM_counted_37 (by decide) ?_
  exact wM_counted_41 C hr hlk hrv hK4 iv av x1 x3 s0 (1 : Int32) _ _ ls (lv_sub hl [0, 1, 2] rfl) hw hf
set_option maxHeartbeats 4000000 in
set_option maxRecDepth 100000 in
theorem wM_counted_4 {p : Program} {l : Launch} {e : Env} {s : State} {m : MethodId} {args : Array Value} {below : List Frame} {meth : Method} {c : Code} {g : gT} {q : Nat} {ad : Nat → Nat} {X : va_W} {rv : Option Value} {iv' : Nat → Int32} {av' : Nat → Nat → Int32} {r' : Int32} (C : mCx p m c cM_counted 4 s args g "MidiDeskModel") (hr : meth.sig.returnType = (some .int)) (hlk : meth.locks = false) (hrv : rv = some (.int r')) (k : Nat) : ∀ (iv : Nat → Int32) (av : Nat → Nat → Int32) (x1 : Int32) (x2 : Int32) (x3 : Int32) (H : Heap) (locs : List Loc) (ls : Array Slot), lv_has ls 4 [(0, .ref q), (1, .int x1), (2, .int x2), (3, .int x3)] → mWd g (mA g q ad X s.heap.size) s.heap q ad X iv av H locs → lM_counted_4 k iv av x1 x2 x3 = some (r', iv', av') → mG p l e rM_counted s m args below meth c g q ad X rv iv' av' H locs 0 0 (F0 m 4 ls []) := by
  induction k with
  | zero => intro iv av x1 x2 x3 H locs ls hl hw hf; cases hf
  | succ k ih =>
    intro iv av x1 x2 x3 H locs ls hl hw hf
    have hf : (if (iv 10) ≤ x3 then (some (x2, iv, av)) else (if x1 = 0 then ((fM_begins iv av x3).bind fun (r3, iv3, av3) => if r3 = 0 then (jM_counted_40 (lM_counted_4 k) iv3 av3 x1 x3 x2) else (jM_counted_36 (lM_counted_4 k) iv3 av3 x1 x3 x2)) else ((fM_isTempo iv av x3).bind fun (r5, iv5, av5) => if r5 = 0 then (jM_counted_40 (lM_counted_4 k) iv5 av5 x1 x3 x2) else (jM_counted_36 (lM_counted_4 k) iv5 av5 x1 x3 x2)))) = some (r', iv', av') := hf
    refine lv_iload_n C.1.1 C.1.2.1 dM_counted_4 rfl (lv_at hl 3 rfl) ?_
    refine lv_aload_n C.1.1 C.1.2.1 dM_counted_5 rfl (lv_at hl 0 rfl) ?_
    refine mg_events C hw dM_counted_6 ?_
    refine lv_icmp_ge (tgt := 49) C.1.1 C.1.2.1 dM_counted_9 (by decide) (fun c1 => ?_) (fun c1 => ?_)
    · have hf := ts_t hf c1
      refine lv_iload_n C.1.1 C.1.2.1 dM_counted_49 rfl (lv_at hl 2 rfl) ?_
      exact m_reti C hr hlk hrv hw hf ⟨Nat.le_of_ble_eq_true rfl, Nat.le_of_ble_eq_true rfl⟩ dM_counted_50
    · have hf := ts_f hf c1
      refine lv_iload_n C.1.1 C.1.2.1 dM_counted_12 rfl (lv_at hl 2 rfl) ?_
      refine lv_iload_n C.1.1 C.1.2.1 dM_counted_13 rfl (lv_at hl 1 rfl) ?_
      refine lv_if_eq (tgt := 28) C.1.1 C.1.2.1 dM_counted_14 (by decide) (fun c2 => ?_) (fun c2 => ?_)
      · have hf := ts_t hf c2
        refine lv_aload_n C.1.1 C.1.2.1 dM_counted_28 rfl (lv_at hl 0 rfl) ?_
        refine lv_iload_n C.1.1 C.1.2.1 dM_counted_29 rfl (lv_at hl 3 rfl) ?_
        obtain ⟨⟨r3, iv3, av3⟩, g3, hf⟩ := ts_b hf
        dsimp only at hf
        refine m_callV (rest := [.int x2]) (As := [.int x3]) (rv := (some (.int r3))) C hl.1 hw (cM_begins_met g3) (callW_of (rm := rM_begins) 1 C.1.2.2.2.2 gw_905 gw_907 gw_43 gw_55 gw_908 kM_begins ⟨Nat.le_of_ble_eq_true rfl, Nat.le_of_ble_eq_true rfl⟩) rfl rfl (Nat.le_of_ble_eq_true rfl) dM_counted_30 ⟨Nat.le_of_ble_eq_true rfl, Nat.le_of_ble_eq_true rfl⟩ (fun H locs hw => ?_)
        refine W.eq (g2 := F0 m 33 ls [.int r3, .int x2]) rfl ?_
        refine lv_if_eq (tgt := 40) C.1.1 C.1.2.1 dM_counted_33 (by decide) (fun c4 => ?_) (fun c4 => ?_)
        · have hf := ts_t hf c4
          exact wM_counted_40 C hr hlk hrv ih iv3 av3 x1 x3 x2 _ _ ls (lv_sub hl [0, 1, 3] rfl) hw hf
        · have hf := ts_f hf c4
          exact wM_counted_36 C hr hlk hrv ih iv3 av3 x1 x3 x2 _ _ ls (lv_sub hl [0, 1, 3] rfl) hw hf
      · have hf := ts_f hf c2
        refine lv_aload_n C.1.1 C.1.2.1 dM_counted_17 rfl (lv_at hl 0 rfl) ?_
        refine lv_iload_n C.1.1 C.1.2.1 dM_counted_18 rfl (lv_at hl 3 rfl) ?_
        obtain ⟨⟨r5, iv5, av5⟩, g5, hf⟩ := ts_b hf
        dsimp only at hf
        refine m_callV (rest := [.int x2]) (As := [.int x3]) (rv := (some (.int r5))) C hl.1 hw (cM_isTempo_met g5) (callW_of (rm := rM_isTempo) 1 C.1.2.2.2.2 gw_888 gw_890 gw_41 gw_55 gw_891 kM_isTempo ⟨Nat.le_of_ble_eq_true rfl, Nat.le_of_ble_eq_true rfl⟩) rfl rfl (Nat.le_of_ble_eq_true rfl) dM_counted_19 ⟨Nat.le_of_ble_eq_true rfl, Nat.le_of_ble_eq_true rfl⟩ (fun H locs hw => ?_)
        refine W.eq (g2 := F0 m 22 ls [.int r5, .int x2]) rfl ?_
        refine lv_if_eq (tgt := 40) C.1.1 C.1.2.1 dM_counted_22 (by decide) (fun c6 => ?_) (fun c6 => ?_)
        · have hf := ts_t hf c6
          exact wM_counted_40 C hr hlk hrv ih iv5 av5 x1 x3 x2 _ _ ls (lv_sub hl [0, 1, 3] rfl) hw hf
        · have hf := ts_f hf c6
          refine lv_goto (tgt := 36) C.1.1 C.1.2.1 dM_counted_25 (by decide) ?_
          exact wM_counted_36 C hr hlk hrv ih iv5 av5 x1 x3 x2 _ _ ls (lv_sub hl [0, 1, 3] rfl) hw hf
set_option maxHeartbeats 4000000 in
set_option maxRecDepth 100000 in
theorem cM_counted_met {l : Launch} {g : gT} {q : Nat} {ad : Nat → Nat} {X : va_W} {iv iv' : Nat → Int32} {av av' : Nat → Nat → Int32} {x1 : Int32} {r' : Int32} (hf : fM_counted iv av x1 = some (r', iv', av')) : mMet l yM_counted cM_counted 4 (some .int) rM_counted g q ad X iv av [.ref q, .int x1] (some (.int r')) iv' av' := by
  refine m_entry (by decide) (Nat.le_of_ble_eq_true rfl) ?_
  intro p e s m args below meth c ls C hr hlk hnm hl hw
  have hrv : ((some (.int r')) : Option Value) = (some (.int r')) := rfl
  have C : mCx p m c cM_counted 4 s args g "MidiDeskModel" := C
  have hl : lv_has ls 4 [(0, .ref q), (1, .int x1)] := hl
  unfold fM_counted at hf
  refine lv_iconst (v := (0 : Int32)) C.1.1 C.1.2.1 dM_counted_0 (by decide) ?_
  refine lv_istore_n (lv' := [(2, .int (0 : Int32)), (0, .ref q), (1, .int x1)]) C.1.1 C.1.2.1 dM_counted_1 rfl hl (by decide) rfl (fun ls hl => ?_)
  refine lv_iconst (v := (0 : Int32)) C.1.1 C.1.2.1 dM_counted_2 (by decide) ?_
  refine lv_istore_n (lv' := [(3, .int (0 : Int32)), (2, .int (0 : Int32)), (0, .ref q), (1, .int x1)]) C.1.1 C.1.2.1 dM_counted_3 rfl hl (by decide) rfl (fun ls hl => ?_)
  exact wM_counted_4 C hr hlk hrv FU iv av x1 (0 : Int32) (0 : Int32) _ _ ls (lv_sub hl [2, 3, 1, 0] rfl) hw hf
abbrev cM_count : ByteArray := prog_8_method_43_code
abbrev yM_count : MethodName := ⟨"MidiDeskModel", "count", "(I)I"⟩
theorem kM_count : yM_count.cls ≠ "java/lang/invoke/MethodHandle" ∧ yM_count.cls ≠ "java/lang/invoke/VarHandle" ∧ (parseMethodDescriptor yM_count.desc).map (fun d => d.parameters.length) = some 1 := by decide +kernel
abbrev rM_count : Room := { frames := 2, cells := 0, slots := 0, locals := 44 }
theorem dM_count_0 : decode cM_count 0 = .ok (.aload_n 0, 1) := by decide +kernel
theorem dM_count_1 : decode cM_count 1 = .ok (.iconst 0, 1) := by decide +kernel
theorem dM_count_2 : decode cM_count 2 = .ok (.putfield 47, 3) := by decide +kernel
theorem dM_count_5 : decode cM_count 5 = .ok (.iload_n 1, 1) := by decide +kernel
theorem dM_count_6 : decode cM_count 6 = .ok (.iconst 1, 1) := by decide +kernel
theorem dM_count_7 : decode cM_count 7 = .ok (.if_icmp .le 8, 3) := by decide +kernel
theorem dM_count_10 : decode cM_count 10 = .ok (.iload_n 1, 1) := by decide +kernel
theorem dM_count_11 : decode cM_count 11 = .ok (.iconst 5, 1) := by decide +kernel
theorem dM_count_12 : decode cM_count 12 = .ok (.if_icmp .lt 9, 3) := by decide +kernel
theorem dM_count_15 : decode cM_count 15 = .ok (.iload_n 1, 1) := by decide +kernel
theorem dM_count_16 : decode cM_count 16 = .ok (.bipush 9, 2) := by decide +kernel
theorem dM_count_18 : decode cM_count 18 = .ok (.if_icmp .ne 56, 3) := by decide +kernel
theorem dM_count_21 : decode cM_count 21 = .ok (.aload_n 0, 1) := by decide +kernel
theorem dM_count_22 : decode cM_count 22 = .ok (.getfield 110, 3) := by decide +kernel
theorem dM_count_25 : decode cM_count 25 = .ok (.ifCond .ne 7, 3) := by decide +kernel
theorem dM_count_28 : decode cM_count 28 = .ok (.iconst (-1), 1) := by decide +kernel
theorem dM_count_29 : decode cM_count 29 = .ok (.goto 44, 3) := by decide +kernel
theorem dM_count_32 : decode cM_count 32 = .ok (.iload_n 1, 1) := by decide +kernel
theorem dM_count_33 : decode cM_count 33 = .ok (.iconst 2, 1) := by decide +kernel
theorem dM_count_34 : decode cM_count 34 = .ok (.if_icmp .ne 10, 3) := by decide +kernel
theorem dM_count_37 : decode cM_count 37 = .ok (.aload_n 0, 1) := by decide +kernel
theorem dM_count_38 : decode cM_count 38 = .ok (.getfield 82, 3) := by decide +kernel
theorem dM_count_41 : decode cM_count 41 = .ok (.goto 32, 3) := by decide +kernel
theorem dM_count_44 : decode cM_count 44 = .ok (.iload_n 1, 1) := by decide +kernel
theorem dM_count_45 : decode cM_count 45 = .ok (.iconst 3, 1) := by decide +kernel
theorem dM_count_46 : decode cM_count 46 = .ok (.if_icmp .ne 10, 3) := by decide +kernel
theorem dM_count_49 : decode cM_count 49 = .ok (.aload_n 0, 1) := by decide +kernel
theorem dM_count_50 : decode cM_count 50 = .ok (.getfield 85, 3) := by decide +kernel
theorem dM_count_53 : decode cM_count 53 = .ok (.goto 20, 3) := by decide +kernel
theorem dM_count_56 : decode cM_count 56 = .ok (.iload_n 1, 1) := by decide +kernel
theorem dM_count_57 : decode cM_count 57 = .ok (.iconst 4, 1) := by decide +kernel
theorem dM_count_58 : decode cM_count 58 = .ok (.if_icmp .ne 10, 3) := by decide +kernel
theorem dM_count_61 : decode cM_count 61 = .ok (.aload_n 0, 1) := by decide +kernel
theorem dM_count_62 : decode cM_count 62 = .ok (.getfield 88, 3) := by decide +kernel
theorem dM_count_65 : decode cM_count 65 = .ok (.goto 8, 3) := by decide +kernel
theorem dM_count_68 : decode cM_count 68 = .ok (.aload_n 0, 1) := by decide +kernel
theorem dM_count_69 : decode cM_count 69 = .ok (.invokevirtual 165, 3) := by decide +kernel
theorem dM_count_72 : decode cM_count 72 = .ok (.l2i, 1) := by decide +kernel
theorem dM_count_73 : decode cM_count 73 = .ok (.ireturn, 1) := by decide +kernel
theorem dM_count_74 : decode cM_count 74 = .ok (.iload_n 1, 1) := by decide +kernel
theorem dM_count_75 : decode cM_count 75 = .ok (.tableswitch 137 0 8 #[49, 54, 137, 137, 137, 70, 105, 105, 132], 49) := by decide +kernel
theorem dM_count_124 : decode cM_count 124 = .ok (.aload_n 0, 1) := by decide +kernel
theorem dM_count_125 : decode cM_count 125 = .ok (.getfield 51, 3) := by decide +kernel
theorem dM_count_128 : decode cM_count 128 = .ok (.ireturn, 1) := by decide +kernel
theorem dM_count_129 : decode cM_count 129 = .ok (.aload_n 0, 1) := by decide +kernel
theorem dM_count_130 : decode cM_count 130 = .ok (.getfield 110, 3) := by decide +kernel
theorem dM_count_133 : decode cM_count 133 = .ok (.ifCond .eq 10, 3) := by decide +kernel
theorem dM_count_136 : decode cM_count 136 = .ok (.aload_n 0, 1) := by decide +kernel
theorem dM_count_137 : decode cM_count 137 = .ok (.getfield 95, 3) := by decide +kernel
theorem dM_count_140 : decode cM_count 140 = .ok (.goto 4, 3) := by decide +kernel
theorem dM_count_143 : decode cM_count 143 = .ok (.iconst 0, 1) := by decide +kernel
theorem dM_count_144 : decode cM_count 144 = .ok (.ireturn, 1) := by decide +kernel
theorem dM_count_145 : decode cM_count 145 = .ok (.aload_n 0, 1) := by decide +kernel
theorem dM_count_146 : decode cM_count 146 = .ok (.getfield 110, 3) := by decide +kernel
theorem dM_count_149 : decode cM_count 149 = .ok (.ifCond .eq 29, 3) := by decide +kernel
theorem dM_count_152 : decode cM_count 152 = .ok (.aload_n 0, 1) := by decide +kernel
theorem dM_count_153 : decode cM_count 153 = .ok (.getfield 95, 3) := by decide +kernel
theorem dM_count_156 : decode cM_count 156 = .ok (.ifCond .le 22, 3) := by decide +kernel
theorem dM_count_159 : decode cM_count 159 = .ok (.aload_n 0, 1) := by decide +kernel
theorem dM_count_160 : decode cM_count 160 = .ok (.getfield 13, 3) := by decide +kernel
theorem dM_count_163 : decode cM_count 163 = .ok (.aload_n 0, 1) := by decide +kernel
theorem dM_count_164 : decode cM_count 164 = .ok (.getfield 34, 3) := by decide +kernel
theorem dM_count_167 : decode cM_count 167 = .ok (.aload_n 0, 1) := by decide +kernel
theorem dM_count_168 : decode cM_count 168 = .ok (.getfield 95, 3) := by decide +kernel
theorem dM_count_171 : decode cM_count 171 = .ok (.iconst 1, 1) := by decide +kernel
theorem dM_count_172 : decode cM_count 172 = .ok (.isub, 1) := by decide +kernel
theorem dM_count_173 : decode cM_count 173 = .ok (.iaload, 1) := by decide +kernel
theorem dM_count_174 : decode cM_count 174 = .ok (.iaload, 1) := by decide +kernel
theorem dM_count_175 : decode cM_count 175 = .ok (.goto 4, 3) := by decide +kernel
theorem dM_count_178 : decode cM_count 178 = .ok (.iconst 0, 1) := by decide +kernel
theorem dM_count_179 : decode cM_count 179 = .ok (.ireturn, 1) := by decide +kernel
theorem dM_count_180 : decode cM_count 180 = .ok (.aload_n 0, 1) := by decide +kernel
theorem dM_count_181 : decode cM_count 181 = .ok (.getfield 110, 3) := by decide +kernel
theorem dM_count_184 : decode cM_count 184 = .ok (.ifCond .eq 21, 3) := by decide +kernel
theorem dM_count_187 : decode cM_count 187 = .ok (.aload_n 0, 1) := by decide +kernel
theorem dM_count_188 : decode cM_count 188 = .ok (.iload_n 1, 1) := by decide +kernel
theorem dM_count_189 : decode cM_count 189 = .ok (.bipush 6, 2) := by decide +kernel
theorem dM_count_191 : decode cM_count 191 = .ok (.if_icmp .ne 7, 3) := by decide +kernel
theorem dM_count_194 : decode cM_count 194 = .ok (.iconst 1, 1) := by decide +kernel
theorem dM_count_195 : decode cM_count 195 = .ok (.goto 4, 3) := by decide +kernel
theorem dM_count_198 : decode cM_count 198 = .ok (.iconst 0, 1) := by decide +kernel
theorem dM_count_199 : decode cM_count 199 = .ok (.invokevirtual 206, 3) := by decide +kernel
theorem dM_count_202 : decode cM_count 202 = .ok (.goto 4, 3) := by decide +kernel
theorem dM_count_205 : decode cM_count 205 = .ok (.iconst 0, 1) := by decide +kernel
theorem dM_count_206 : decode cM_count 206 = .ok (.ireturn, 1) := by decide +kernel
theorem dM_count_207 : decode cM_count 207 = .ok (.aload_n 0, 1) := by decide +kernel
theorem dM_count_208 : decode cM_count 208 = .ok (.getfield 187, 3) := by decide +kernel
theorem dM_count_211 : decode cM_count 211 = .ok (.ireturn, 1) := by decide +kernel
theorem dM_count_212 : decode cM_count 212 = .ok (.iconst (-1), 1) := by decide +kernel
theorem dM_count_213 : decode cM_count 213 = .ok (.ireturn, 1) := by decide +kernel
def jM_count_21 (iv : Nat → Int32) (av : Nat → Nat → Int32) (x1 : Int32) : Option (Int32 × (Nat → Int32) × (Nat → Nat → Int32)) := if (iv 6) = 0 then (some ((-1 : Int32), iv, av)) else (if x1 = (2 : Int32) then (some (iv 7, iv, av)) else (if x1 = (3 : Int32) then (some (iv 8, iv, av)) else (if x1 = (4 : Int32) then (some (iv 9, iv, av)) else ((fM_parts iv av).bind fun (r5, iv5, av5) => some (r5.toInt32, iv5, av5)))))
def jM_count_15 (iv : Nat → Int32) (av : Nat → Nat → Int32) (x1 : Int32) : Option (Int32 × (Nat → Int32) × (Nat → Nat → Int32)) := if x1 = (9 : Int32) then (jM_count_21 iv av x1) else (if x1 = 0 then (some (iv 1, iv, av)) else (if x1 = 1 then (if (iv 6) = 0 then (some ((0 : Int32), iv, av)) else (some (iv 10, iv, av))) else (if x1 = 5 then (if (iv 6) = 0 then (some ((0 : Int32), iv, av)) else (if (iv 10) ≤ 0 then (some ((0 : Int32), iv, av)) else (if ((iv 10) - (1 : Int32)) < 0 ∨ 1001 ≤ ((iv 10) - (1 : Int32)).toNatClampNeg then none else (if (av 8 ((iv 10) - (1 : Int32)).toNatClampNeg) < 0 ∨ 1001 ≤ (av 8 ((iv 10) - (1 : Int32)).toNatClampNeg).toNatClampNeg then none else (some (av 1 (av 8 ((iv 10) - (1 : Int32)).toNatClampNeg).toNatClampNeg, iv, av)))))) else (if x1 = 6 then (if (iv 6) = 0 then (some ((0 : Int32), iv, av)) else (if x1 = (6 : Int32) then ((fM_counted iv av (1 : Int32)).bind fun (r14, iv14, av14) => some (r14, iv14, av14)) else ((fM_counted iv av (0 : Int32)).bind fun (r13, iv13, av13) => some (r13, iv13, av13)))) else (if x1 = 7 then (if (iv 6) = 0 then (some ((0 : Int32), iv, av)) else (if x1 = (6 : Int32) then ((fM_counted iv av (1 : Int32)).bind fun (r19, iv19, av19) => some (r19, iv19, av19)) else ((fM_counted iv av (0 : Int32)).bind fun (r18, iv18, av18) => some (r18, iv18, av18)))) else (if x1 = 8 then (some (iv 12, iv, av)) else (some ((-1 : Int32), iv, av))))))))
def fM_count (iv : Nat → Int32) (av : Nat → Nat → Int32) (x1 : Int32) : Option (Int32 × (Nat → Int32) × (Nat → Nat → Int32)) := if x1 ≤ (1 : Int32) then (jM_count_15 (upd iv 0 (0 : Int32)) av x1) else (if x1 < (5 : Int32) then (jM_count_21 (upd iv 0 (0 : Int32)) av x1) else (jM_count_15 (upd iv 0 (0 : Int32)) av x1))
set_option maxHeartbeats 4000000 in
set_option maxRecDepth 100000 in
theorem wM_count_21 {p : Program} {l : Launch} {e : Env} {s : State} {m : MethodId} {args : Array Value} {below : List Frame} {meth : Method} {c : Code} {g : gT} {q : Nat} {ad : Nat → Nat} {X : va_W} {rv : Option Value} {iv' : Nat → Int32} {av' : Nat → Nat → Int32} {r' : Int32} (C : mCx p m c cM_count 2 s args g "MidiDeskModel") (hr : meth.sig.returnType = (some .int)) (hlk : meth.locks = false) (hrv : rv = some (.int r')) (iv : Nat → Int32) (av : Nat → Nat → Int32) (x1 : Int32) (H : Heap) (locs : List Loc) (ls : Array Slot) (hl : lv_has ls 2 [(0, .ref q), (1, .int x1)]) (hw : mWd g (mA g q ad X s.heap.size) s.heap q ad X iv av H locs) (hf : jM_count_21 iv av x1 = some (r', iv', av')) : mG p l e rM_count s m args below meth c g q ad X rv iv' av' H locs 0 0 (F0 m 21 ls []) := by
  unfold jM_count_21 at hf
  refine lv_aload_n C.1.1 C.1.2.1 dM_count_21 rfl (lv_at hl 0 rfl) ?_
  refine mg_there C hw dM_count_22 ?_
  refine lv_if_ne (tgt := 32) C.1.1 C.1.2.1 dM_count_25 (by decide) (fun c1 => ?_) (fun c1 => ?_)
  · have hf := ts_f hf c1
    refine lv_iload_n C.1.1 C.1.2.1 dM_count_32 rfl (lv_at hl 1 rfl) ?_
    refine lv_iconst (v := (2 : Int32)) C.1.1 C.1.2.1 dM_count_33 (by decide) ?_
    refine lv_icmp_ne (tgt := 44) C.1.1 C.1.2.1 dM_count_34 (by decide) (fun c2 => ?_) (fun c2 => ?_)
    · have hf := ts_f hf c2
      refine lv_iload_n C.1.1 C.1.2.1 dM_count_44 rfl (lv_at hl 1 rfl) ?_
      refine lv_iconst (v := (3 : Int32)) C.1.1 C.1.2.1 dM_count_45 (by decide) ?_
      refine lv_icmp_ne (tgt := 56) C.1.1 C.1.2.1 dM_count_46 (by decide) (fun c3 => ?_) (fun c3 => ?_)
      · have hf := ts_f hf c3
        refine lv_iload_n C.1.1 C.1.2.1 dM_count_56 rfl (lv_at hl 1 rfl) ?_
        refine lv_iconst (v := (4 : Int32)) C.1.1 C.1.2.1 dM_count_57 (by decide) ?_
        refine lv_icmp_ne (tgt := 68) C.1.1 C.1.2.1 dM_count_58 (by decide) (fun c4 => ?_) (fun c4 => ?_)
        · have hf := ts_f hf c4
          refine lv_aload_n C.1.1 C.1.2.1 dM_count_68 rfl (lv_at hl 0 rfl) ?_
          obtain ⟨⟨r5, iv5, av5⟩, g5, hf⟩ := ts_b hf
          dsimp only at hf
          refine m_callV (rest := []) (As := []) (rv := (some (.long r5))) C hl.1 hw (cM_parts_met g5) (callW_of (rm := rM_parts) 0 C.1.2.2.2.2 gw_892 gw_894 gw_42 gw_55 gw_895 kM_parts ⟨Nat.le_of_ble_eq_true rfl, Nat.le_of_ble_eq_true rfl⟩) rfl rfl (Nat.le_of_ble_eq_true rfl) dM_count_69 ⟨Nat.le_of_ble_eq_true rfl, Nat.le_of_ble_eq_true rfl⟩ (fun H locs hw => ?_)
          refine W.eq (g2 := F0 m 72 ls [.long r5]) rfl ?_
          refine lv_l2i C.1.1 C.1.2.1 dM_count_72 rfl ?_
          exact m_reti C hr hlk hrv hw hf ⟨Nat.le_of_ble_eq_true rfl, Nat.le_of_ble_eq_true rfl⟩ dM_count_73
        · have hf := ts_t hf c4
          refine lv_aload_n C.1.1 C.1.2.1 dM_count_61 rfl (lv_at hl 0 rfl) ?_
          refine mg_division C hw dM_count_62 ?_
          refine lv_goto (tgt := 73) C.1.1 C.1.2.1 dM_count_65 (by decide) ?_
          exact m_reti C hr hlk hrv hw hf ⟨Nat.le_of_ble_eq_true rfl, Nat.le_of_ble_eq_true rfl⟩ dM_count_73
      · have hf := ts_t hf c3
        refine lv_aload_n C.1.1 C.1.2.1 dM_count_49 rfl (lv_at hl 0 rfl) ?_
        refine mg_tracks C hw dM_count_50 ?_
        refine lv_goto (tgt := 73) C.1.1 C.1.2.1 dM_count_53 (by decide) ?_
        exact m_reti C hr hlk hrv hw hf ⟨Nat.le_of_ble_eq_true rfl, Nat.le_of_ble_eq_true rfl⟩ dM_count_73
    · have hf := ts_t hf c2
      refine lv_aload_n C.1.1 C.1.2.1 dM_count_37 rfl (lv_at hl 0 rfl) ?_
      refine mg_format C hw dM_count_38 ?_
      refine lv_goto (tgt := 73) C.1.1 C.1.2.1 dM_count_41 (by decide) ?_
      exact m_reti C hr hlk hrv hw hf ⟨Nat.le_of_ble_eq_true rfl, Nat.le_of_ble_eq_true rfl⟩ dM_count_73
  · have hf := ts_t hf c1
    refine lv_iconst (v := (-1 : Int32)) C.1.1 C.1.2.1 dM_count_28 (by decide) ?_
    refine lv_goto (tgt := 73) C.1.1 C.1.2.1 dM_count_29 (by decide) ?_
    exact m_reti C hr hlk hrv hw hf ⟨Nat.le_of_ble_eq_true rfl, Nat.le_of_ble_eq_true rfl⟩ dM_count_73
set_option maxHeartbeats 4000000 in
set_option maxRecDepth 100000 in
theorem wM_count_15 {p : Program} {l : Launch} {e : Env} {s : State} {m : MethodId} {args : Array Value} {below : List Frame} {meth : Method} {c : Code} {g : gT} {q : Nat} {ad : Nat → Nat} {X : va_W} {rv : Option Value} {iv' : Nat → Int32} {av' : Nat → Nat → Int32} {r' : Int32} (C : mCx p m c cM_count 2 s args g "MidiDeskModel") (hr : meth.sig.returnType = (some .int)) (hlk : meth.locks = false) (hrv : rv = some (.int r')) (iv : Nat → Int32) (av : Nat → Nat → Int32) (x1 : Int32) (H : Heap) (locs : List Loc) (ls : Array Slot) (hl : lv_has ls 2 [(0, .ref q), (1, .int x1)]) (hw : mWd g (mA g q ad X s.heap.size) s.heap q ad X iv av H locs) (hf : jM_count_15 iv av x1 = some (r', iv', av')) : mG p l e rM_count s m args below meth c g q ad X rv iv' av' H locs 0 0 (F0 m 15 ls []) := by
  unfold jM_count_15 at hf
  refine lv_iload_n C.1.1 C.1.2.1 dM_count_15 rfl (lv_at hl 1 rfl) ?_
  refine lv_bipush (v := (9 : Int32)) C.1.1 C.1.2.1 dM_count_16 (by decide) ?_
  refine lv_icmp_ne (tgt := 74) C.1.1 C.1.2.1 dM_count_18 (by decide) (fun c1 => ?_) (fun c1 => ?_)
  · have hf := ts_f hf c1
    refine lv_iload_n C.1.1 C.1.2.1 dM_count_74 rfl (lv_at hl 1 rfl) ?_
    rcases Decidable.em (x1 = 0) with c2 | c2
    · have hf := ts_t hf c2
      refine lv_tableIn (off := 49) (tgt := 124) C.1.1 C.1.2.1 dM_count_75 (by rw [c2]; decide) (by rw [c2]; decide) (by rw [c2]; decide) (by decide) ?_
      refine lv_aload_n C.1.1 C.1.2.1 dM_count_124 rfl (lv_at hl 0 rfl) ?_
      refine mg_size C hw dM_count_125 ?_
      exact m_reti C hr hlk hrv hw hf ⟨Nat.le_of_ble_eq_true rfl, Nat.le_of_ble_eq_true rfl⟩ dM_count_128
    have hf := ts_f hf c2
    rcases Decidable.em (x1 = 1) with c3 | c3
    · have hf := ts_t hf c3
      refine lv_tableIn (off := 54) (tgt := 129) C.1.1 C.1.2.1 dM_count_75 (by rw [c3]; decide) (by rw [c3]; decide) (by rw [c3]; decide) (by decide) ?_
      refine lv_aload_n C.1.1 C.1.2.1 dM_count_129 rfl (lv_at hl 0 rfl) ?_
      refine mg_there C hw dM_count_130 ?_
      refine lv_if_eq (tgt := 143) C.1.1 C.1.2.1 dM_count_133 (by decide) (fun c4 => ?_) (fun c4 => ?_)
      · have hf := ts_t hf c4
        refine lv_iconst (v := (0 : Int32)) C.1.1 C.1.2.1 dM_count_143 (by decide) ?_
        exact m_reti C hr hlk hrv hw hf ⟨Nat.le_of_ble_eq_true rfl, Nat.le_of_ble_eq_true rfl⟩ dM_count_144
      · have hf := ts_f hf c4
        refine lv_aload_n C.1.1 C.1.2.1 dM_count_136 rfl (lv_at hl 0 rfl) ?_
        refine mg_events C hw dM_count_137 ?_
        refine lv_goto (tgt := 144) C.1.1 C.1.2.1 dM_count_140 (by decide) ?_
        exact m_reti C hr hlk hrv hw hf ⟨Nat.le_of_ble_eq_true rfl, Nat.le_of_ble_eq_true rfl⟩ dM_count_144
    have hf := ts_f hf c3
    rcases Decidable.em (x1 = 5) with c5 | c5
    · have hf := ts_t hf c5
      refine lv_tableIn (off := 70) (tgt := 145) C.1.1 C.1.2.1 dM_count_75 (by rw [c5]; decide) (by rw [c5]; decide) (by rw [c5]; decide) (by decide) ?_
      refine lv_aload_n C.1.1 C.1.2.1 dM_count_145 rfl (lv_at hl 0 rfl) ?_
      refine mg_there C hw dM_count_146 ?_
      refine lv_if_eq (tgt := 178) C.1.1 C.1.2.1 dM_count_149 (by decide) (fun c6 => ?_) (fun c6 => ?_)
      · have hf := ts_t hf c6
        refine lv_iconst (v := (0 : Int32)) C.1.1 C.1.2.1 dM_count_178 (by decide) ?_
        exact m_reti C hr hlk hrv hw hf ⟨Nat.le_of_ble_eq_true rfl, Nat.le_of_ble_eq_true rfl⟩ dM_count_179
      · have hf := ts_f hf c6
        refine lv_aload_n C.1.1 C.1.2.1 dM_count_152 rfl (lv_at hl 0 rfl) ?_
        refine mg_events C hw dM_count_153 ?_
        refine lv_if_le (tgt := 178) C.1.1 C.1.2.1 dM_count_156 (by decide) (fun c7 => ?_) (fun c7 => ?_)
        · have hf := ts_t hf c7
          refine lv_iconst (v := (0 : Int32)) C.1.1 C.1.2.1 dM_count_178 (by decide) ?_
          exact m_reti C hr hlk hrv hw hf ⟨Nat.le_of_ble_eq_true rfl, Nat.le_of_ble_eq_true rfl⟩ dM_count_179
        · have hf := ts_f hf c7
          refine lv_aload_n C.1.1 C.1.2.1 dM_count_159 rfl (lv_at hl 0 rfl) ?_
          refine mg_ticks C hw dM_count_160 ?_
          refine lv_aload_n C.1.1 C.1.2.1 dM_count_163 rfl (lv_at hl 0 rfl) ?_
          refine mg_order C hw dM_count_164 ?_
          refine lv_aload_n C.1.1 C.1.2.1 dM_count_167 rfl (lv_at hl 0 rfl) ?_
          refine mg_events C hw dM_count_168 ?_
          refine lv_iconst (v := (1 : Int32)) C.1.1 C.1.2.1 dM_count_171 (by decide) ?_
          refine lv_isub C.1.1 C.1.2.1 dM_count_172 ?_
          obtain ⟨h8, hf⟩ := ts_g hf
          refine ma_order C hw h8 dM_count_173 ?_
          obtain ⟨h9, hf⟩ := ts_g hf
          refine ma_ticks C hw h9 dM_count_174 ?_
          refine lv_goto (tgt := 179) C.1.1 C.1.2.1 dM_count_175 (by decide) ?_
          exact m_reti C hr hlk hrv hw hf ⟨Nat.le_of_ble_eq_true rfl, Nat.le_of_ble_eq_true rfl⟩ dM_count_179
    have hf := ts_f hf c5
    rcases Decidable.em (x1 = 6) with c10 | c10
    · have hf := ts_t hf c10
      refine lv_tableIn (off := 105) (tgt := 180) C.1.1 C.1.2.1 dM_count_75 (by rw [c10]; decide) (by rw [c10]; decide) (by rw [c10]; decide) (by decide) ?_
      refine lv_aload_n C.1.1 C.1.2.1 dM_count_180 rfl (lv_at hl 0 rfl) ?_
      refine mg_there C hw dM_count_181 ?_
      refine lv_if_eq (tgt := 205) C.1.1 C.1.2.1 dM_count_184 (by decide) (fun c11 => ?_) (fun c11 => ?_)
      · have hf := ts_t hf c11
        refine lv_iconst (v := (0 : Int32)) C.1.1 C.1.2.1 dM_count_205 (by decide) ?_
        exact m_reti C hr hlk hrv hw hf ⟨Nat.le_of_ble_eq_true rfl, Nat.le_of_ble_eq_true rfl⟩ dM_count_206
      · have hf := ts_f hf c11
        refine lv_aload_n C.1.1 C.1.2.1 dM_count_187 rfl (lv_at hl 0 rfl) ?_
        refine lv_iload_n C.1.1 C.1.2.1 dM_count_188 rfl (lv_at hl 1 rfl) ?_
        refine lv_bipush (v := (6 : Int32)) C.1.1 C.1.2.1 dM_count_189 (by decide) ?_
        refine lv_icmp_ne (tgt := 198) C.1.1 C.1.2.1 dM_count_191 (by decide) (fun c12 => ?_) (fun c12 => ?_)
        · have hf := ts_f hf c12
          refine lv_iconst (v := (0 : Int32)) C.1.1 C.1.2.1 dM_count_198 (by decide) ?_
          obtain ⟨⟨r13, iv13, av13⟩, g13, hf⟩ := ts_b hf
          dsimp only at hf
          refine m_callV (rest := []) (As := [.int (0 : Int32)]) (rv := (some (.int r13))) C hl.1 hw (cM_counted_met g13) (callW_of (rm := rM_counted) 1 C.1.2.2.2.2 gw_971 gw_973 gw_50 gw_55 gw_974 kM_counted ⟨Nat.le_of_ble_eq_true rfl, Nat.le_of_ble_eq_true rfl⟩) rfl rfl (Nat.le_of_ble_eq_true rfl) dM_count_199 ⟨Nat.le_of_ble_eq_true rfl, Nat.le_of_ble_eq_true rfl⟩ (fun H locs hw => ?_)
          refine W.eq (g2 := F0 m 202 ls [.int r13]) rfl ?_
          refine lv_goto (tgt := 206) C.1.1 C.1.2.1 dM_count_202 (by decide) ?_
          exact m_reti C hr hlk hrv hw hf ⟨Nat.le_of_ble_eq_true rfl, Nat.le_of_ble_eq_true rfl⟩ dM_count_206
        · have hf := ts_t hf c12
          refine lv_iconst (v := (1 : Int32)) C.1.1 C.1.2.1 dM_count_194 (by decide) ?_
          refine lv_goto (tgt := 199) C.1.1 C.1.2.1 dM_count_195 (by decide) ?_
          obtain ⟨⟨r14, iv14, av14⟩, g14, hf⟩ := ts_b hf
          dsimp only at hf
          refine m_callV (rest := []) (As := [.int (1 : Int32)]) (rv := (some (.int r14))) C hl.1 hw (cM_counted_met g14) (callW_of (rm := rM_counted) 1 C.1.2.2.2.2 gw_971 gw_973 gw_50 gw_55 gw_974 kM_counted ⟨Nat.le_of_ble_eq_true rfl, Nat.le_of_ble_eq_true rfl⟩) rfl rfl (Nat.le_of_ble_eq_true rfl) dM_count_199 ⟨Nat.le_of_ble_eq_true rfl, Nat.le_of_ble_eq_true rfl⟩ (fun H locs hw => ?_)
          refine W.eq (g2 := F0 m 202 ls [.int r14]) rfl ?_
          refine lv_goto (tgt := 206) C.1.1 C.1.2.1 dM_count_202 (by decide) ?_
          exact m_reti C hr hlk hrv hw hf ⟨Nat.le_of_ble_eq_true rfl, Nat.le_of_ble_eq_true rfl⟩ dM_count_206
    have hf := ts_f hf c10
    rcases Decidable.em (x1 = 7) with c15 | c15
    · have hf := ts_t hf c15
      refine lv_tableIn (off := 105) (tgt := 180) C.1.1 C.1.2.1 dM_count_75 (by rw [c15]; decide) (by rw [c15]; decide) (by rw [c15]; decide) (by decide) ?_
      refine lv_aload_n C.1.1 C.1.2.1 dM_count_180 rfl (lv_at hl 0 rfl) ?_
      refine mg_there C hw dM_count_181 ?_
      refine lv_if_eq (tgt := 205) C.1.1 C.1.2.1 dM_count_184 (by decide) (fun c16 => ?_) (fun c16 => ?_)
      · have hf := ts_t hf c16
        refine lv_iconst (v := (0 : Int32)) C.1.1 C.1.2.1 dM_count_205 (by decide) ?_
        exact m_reti C hr hlk hrv hw hf ⟨Nat.le_of_ble_eq_true rfl, Nat.le_of_ble_eq_true rfl⟩ dM_count_206
      · have hf := ts_f hf c16
        refine lv_aload_n C.1.1 C.1.2.1 dM_count_187 rfl (lv_at hl 0 rfl) ?_
        refine lv_iload_n C.1.1 C.1.2.1 dM_count_188 rfl (lv_at hl 1 rfl) ?_
        refine lv_bipush (v := (6 : Int32)) C.1.1 C.1.2.1 dM_count_189 (by decide) ?_
        refine lv_icmp_ne (tgt := 198) C.1.1 C.1.2.1 dM_count_191 (by decide) (fun c17 => ?_) (fun c17 => ?_)
        · have hf := ts_f hf c17
          refine lv_iconst (v := (0 : Int32)) C.1.1 C.1.2.1 dM_count_198 (by decide) ?_
          obtain ⟨⟨r18, iv18, av18⟩, g18, hf⟩ := ts_b hf
          dsimp only at hf
          refine m_callV (rest := []) (As := [.int (0 : Int32)]) (rv := (some (.int r18))) C hl.1 hw (cM_counted_met g18) (callW_of (rm := rM_counted) 1 C.1.2.2.2.2 gw_971 gw_973 gw_50 gw_55 gw_974 kM_counted ⟨Nat.le_of_ble_eq_true rfl, Nat.le_of_ble_eq_true rfl⟩) rfl rfl (Nat.le_of_ble_eq_true rfl) dM_count_199 ⟨Nat.le_of_ble_eq_true rfl, Nat.le_of_ble_eq_true rfl⟩ (fun H locs hw => ?_)
          refine W.eq (g2 := F0 m 202 ls [.int r18]) rfl ?_
          refine lv_goto (tgt := 206) C.1.1 C.1.2.1 dM_count_202 (by decide) ?_
          exact m_reti C hr hlk hrv hw hf ⟨Nat.le_of_ble_eq_true rfl, Nat.le_of_ble_eq_true rfl⟩ dM_count_206
        · have hf := ts_t hf c17
          refine lv_iconst (v := (1 : Int32)) C.1.1 C.1.2.1 dM_count_194 (by decide) ?_
          refine lv_goto (tgt := 199) C.1.1 C.1.2.1 dM_count_195 (by decide) ?_
          obtain ⟨⟨r19, iv19, av19⟩, g19, hf⟩ := ts_b hf
          dsimp only at hf
          refine m_callV (rest := []) (As := [.int (1 : Int32)]) (rv := (some (.int r19))) C hl.1 hw (cM_counted_met g19) (callW_of (rm := rM_counted) 1 C.1.2.2.2.2 gw_971 gw_973 gw_50 gw_55 gw_974 kM_counted ⟨Nat.le_of_ble_eq_true rfl, Nat.le_of_ble_eq_true rfl⟩) rfl rfl (Nat.le_of_ble_eq_true rfl) dM_count_199 ⟨Nat.le_of_ble_eq_true rfl, Nat.le_of_ble_eq_true rfl⟩ (fun H locs hw => ?_)
          refine W.eq (g2 := F0 m 202 ls [.int r19]) rfl ?_
          refine lv_goto (tgt := 206) C.1.1 C.1.2.1 dM_count_202 (by decide) ?_
          exact m_reti C hr hlk hrv hw hf ⟨Nat.le_of_ble_eq_true rfl, Nat.le_of_ble_eq_true rfl⟩ dM_count_206
    have hf := ts_f hf c15
    rcases Decidable.em (x1 = 8) with c20 | c20
    · have hf := ts_t hf c20
      refine lv_tableIn (off := 132) (tgt := 207) C.1.1 C.1.2.1 dM_count_75 (by rw [c20]; decide) (by rw [c20]; decide) (by rw [c20]; decide) (by decide) ?_
      refine lv_aload_n C.1.1 C.1.2.1 dM_count_207 rfl (lv_at hl 0 rfl) ?_
      refine mg_writtenSize C hw dM_count_208 ?_
      exact m_reti C hr hlk hrv hw hf ⟨Nat.le_of_ble_eq_true rfl, Nat.le_of_ble_eq_true rfl⟩ dM_count_211
    have hf := ts_f hf c20
    rcases Decidable.em (x1 = 2) with c21 | c21
    · refine lv_tableIn (off := 137) (tgt := 212) C.1.1 C.1.2.1 dM_count_75 (by rw [c21]; decide) (by rw [c21]; decide) (by rw [c21]; decide) (by decide) ?_
      refine lv_iconst (v := (-1 : Int32)) C.1.1 C.1.2.1 dM_count_212 (by decide) ?_
      exact m_reti C hr hlk hrv hw hf ⟨Nat.le_of_ble_eq_true rfl, Nat.le_of_ble_eq_true rfl⟩ dM_count_213
    rcases Decidable.em (x1 = 3) with c22 | c22
    · refine lv_tableIn (off := 137) (tgt := 212) C.1.1 C.1.2.1 dM_count_75 (by rw [c22]; decide) (by rw [c22]; decide) (by rw [c22]; decide) (by decide) ?_
      refine lv_iconst (v := (-1 : Int32)) C.1.1 C.1.2.1 dM_count_212 (by decide) ?_
      exact m_reti C hr hlk hrv hw hf ⟨Nat.le_of_ble_eq_true rfl, Nat.le_of_ble_eq_true rfl⟩ dM_count_213
    rcases Decidable.em (x1 = 4) with c23 | c23
    · refine lv_tableIn (off := 137) (tgt := 212) C.1.1 C.1.2.1 dM_count_75 (by rw [c23]; decide) (by rw [c23]; decide) (by rw [c23]; decide) (by decide) ?_
      refine lv_iconst (v := (-1 : Int32)) C.1.1 C.1.2.1 dM_count_212 (by decide) ?_
      exact m_reti C hr hlk hrv hw hf ⟨Nat.le_of_ble_eq_true rfl, Nat.le_of_ble_eq_true rfl⟩ dM_count_213
    refine lv_tableOut (tgt := 212) C.1.1 C.1.2.1 dM_count_75 (by have c2n := lv_neT (a := 0) c2 (by decide); have c3n := lv_neT (a := 1) c3 (by decide); have c5n := lv_neT (a := 5) c5 (by decide); have c10n := lv_neT (a := 6) c10 (by decide); have c15n := lv_neT (a := 7) c15 (by decide); have c20n := lv_neT (a := 8) c20 (by decide); have c21n := lv_neT (a := 2) c21 (by decide); have c22n := lv_neT (a := 3) c22 (by decide); have c23n := lv_neT (a := 4) c23 (by decide); omega) (by decide) ?_
    refine lv_iconst (v := (-1 : Int32)) C.1.1 C.1.2.1 dM_count_212 (by decide) ?_
    exact m_reti C hr hlk hrv hw hf ⟨Nat.le_of_ble_eq_true rfl, Nat.le_of_ble_eq_true rfl⟩ dM_count_213
  · have hf := ts_t hf c1
    exact wM_count_21 C hr hlk hrv iv av x1 _ _ ls (lv_sub hl [0, 1] rfl) hw hf
set_option maxHeartbeats 4000000 in
set_option maxRecDepth 100000 in
theorem cM_count_met {l : Launch} {g : gT} {q : Nat} {ad : Nat → Nat} {X : va_W} {iv iv' : Nat → Int32} {av av' : Nat → Nat → Int32} {x1 : Int32} {r' : Int32} (hf : fM_count iv av x1 = some (r', iv', av')) : mMet l yM_count cM_count 2 (some .int) rM_count g q ad X iv av [.ref q, .int x1] (some (.int r')) iv' av' := by
  refine m_entry (by decide) (Nat.le_of_ble_eq_true rfl) ?_
  intro p e s m args below meth c ls C hr hlk hnm hl hw
  have hrv : ((some (.int r')) : Option Value) = (some (.int r')) := rfl
  have C : mCx p m c cM_count 2 s args g "MidiDeskModel" := C
  have hl : lv_has ls 2 [(0, .ref q), (1, .int x1)] := hl
  unfold fM_count at hf
  refine lv_aload_n C.1.1 C.1.2.1 dM_count_0 rfl (lv_at hl 0 rfl) ?_
  refine lv_iconst (v := (0 : Int32)) C.1.1 C.1.2.1 dM_count_1 (by decide) ?_
  refine mp_thrown C hw dM_count_2 (fun H locs hw => ?_)
  refine lv_iload_n C.1.1 C.1.2.1 dM_count_5 rfl (lv_at hl 1 rfl) ?_
  refine lv_iconst (v := (1 : Int32)) C.1.1 C.1.2.1 dM_count_6 (by decide) ?_
  refine lv_icmp_le (tgt := 15) C.1.1 C.1.2.1 dM_count_7 (by decide) (fun c1 => ?_) (fun c1 => ?_)
  · have hf := ts_t hf c1
    exact wM_count_15 C hr hlk hrv (upd iv 0 (0 : Int32)) av x1 _ _ ls (lv_sub hl [0, 1] rfl) hw hf
  · have hf := ts_f hf c1
    refine lv_iload_n C.1.1 C.1.2.1 dM_count_10 rfl (lv_at hl 1 rfl) ?_
    refine lv_iconst (v := (5 : Int32)) C.1.1 C.1.2.1 dM_count_11 (by decide) ?_
    refine lv_icmp_lt (tgt := 21) C.1.1 C.1.2.1 dM_count_12 (by decide) (fun c2 => ?_) (fun c2 => ?_)
    · have hf := ts_t hf c2
      exact wM_count_21 C hr hlk hrv (upd iv 0 (0 : Int32)) av x1 _ _ ls (lv_sub hl [0, 1] rfl) hw hf
    · have hf := ts_f hf c2
      exact wM_count_15 C hr hlk hrv (upd iv 0 (0 : Int32)) av x1 _ _ ls (lv_sub hl [0, 1] rfl) hw hf
end
