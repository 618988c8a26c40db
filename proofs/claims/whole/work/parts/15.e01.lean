theorem ts_c {α : Type} {c : Prop} {d : Decidable c} {a : Option α} {r : α} (h : @ite _ c d a none = some r) : c ∧ a = some r := by
  by_cases hc : c
  · rw [if_pos hc] at h; exact ⟨hc, h⟩
  · rw [if_neg hc] at h; cases h
theorem gw_0 : (Cond.selects "MidiDesk$Parser" ({ cls := "MidiDesk$Parser", name := "head", desc := "()V" } : Jvm.MethodName) ({ cls := "MidiDesk$Parser", name := "head", desc := "()V" } : Jvm.MethodName)) ∈ gw := gw_in 0 (by decide +kernel) (by decide +kernel)
theorem gw_3 : (Cond.selects "MidiDesk$Parser" ({ cls := "MidiDesk$Parser", name := "beginsTrack", desc := "()Z" } : Jvm.MethodName) ({ cls := "MidiDesk$Parser", name := "beginsTrack", desc := "()Z" } : Jvm.MethodName)) ∈ gw := gw_in 3 (by decide +kernel) (by decide +kernel)
theorem gw_4 : (Cond.selects "MidiDesk$Parser" ({ cls := "MidiDesk$Parser", name := "track", desc := "()V" } : Jvm.MethodName) ({ cls := "MidiDesk$Parser", name := "track", desc := "()V" } : Jvm.MethodName)) ∈ gw := gw_in 4 (by decide +kernel) (by decide +kernel)
theorem gw_5 : (Cond.selects "MidiDesk$Parser" ({ cls := "MidiDesk$Parser", name := "oneEvent", desc := "()V" } : Jvm.MethodName) ({ cls := "MidiDesk$Parser", name := "oneEvent", desc := "()V" } : Jvm.MethodName)) ∈ gw := gw_in 5 (by decide +kernel) (by decide +kernel)
theorem gw_7 : (Cond.selects "MidiDesk$Parser" ({ cls := "MidiDesk$Parser", name := "status", desc := "()I" } : Jvm.MethodName) ({ cls := "MidiDesk$Parser", name := "status", desc := "()I" } : Jvm.MethodName)) ∈ gw := gw_in 7 (by decide +kernel) (by decide +kernel)
theorem gw_8 : (Cond.selects "MidiDesk$Parser" ({ cls := "MidiDesk$Parser", name := "channelEvent", desc := "(I)V" } : Jvm.MethodName) ({ cls := "MidiDesk$Parser", name := "channelEvent", desc := "(I)V" } : Jvm.MethodName)) ∈ gw := gw_in 8 (by decide +kernel) (by decide +kernel)
theorem gw_10 : (Cond.selects "MidiDesk$Parser" ({ cls := "MidiDesk$Parser", name := "metaEvent", desc := "()V" } : Jvm.MethodName) ({ cls := "MidiDesk$Parser", name := "metaEvent", desc := "()V" } : Jvm.MethodName)) ∈ gw := gw_in 10 (by decide +kernel) (by decide +kernel)
theorem gw_12 : (Cond.selects "MidiDesk$Parser" ({ cls := "MidiDesk$Parser", name := "exclusiveEvent", desc := "()V" } : Jvm.MethodName) ({ cls := "MidiDesk$Parser", name := "exclusiveEvent", desc := "()V" } : Jvm.MethodName)) ∈ gw := gw_in 12 (by decide +kernel) (by decide +kernel)
theorem gw_13 : (Cond.selects "MidiDesk$Parser" ({ cls := "MidiDesk$Parser", name := "keep", desc := "(I)V" } : Jvm.MethodName) ({ cls := "MidiDesk$Parser", name := "keep", desc := "(I)V" } : Jvm.MethodName)) ∈ gw := gw_in 13 (by decide +kernel) (by decide +kernel)
theorem gw_233 : (Jvm.Cond.methodLink "MidiDesk$Parser" (19 : Nat) ({ cls := "MidiDesk$Score", name := "forget", desc := "()V" } : Jvm.MethodName)) ∈ gw := gw_in 233 (by decide +kernel) (by decide +kernel)
theorem gw_234 : (Jvm.Cond.instanceMethod ({ cls := "MidiDesk$Score", name := "forget", desc := "()V" } : Jvm.MethodName)) ∈ gw := gw_in 234 (by decide +kernel) (by decide +kernel)
theorem gw_235 : (Jvm.Cond.selects "MidiDesk$Score" ({ cls := "MidiDesk$Score", name := "forget", desc := "()V" } : Jvm.MethodName) ({ cls := "MidiDesk$Score", name := "forget", desc := "()V" } : Jvm.MethodName)) ∈ gw := gw_in 235 (by decide +kernel) (by decide +kernel)
theorem gw_236 : (Jvm.Cond.code ({ cls := "MidiDesk$Score", name := "forget", desc := "()V" } : Jvm.MethodName) prog_6_method_2_code (1 : Nat) (Option.none : Option Jvm.ClassFile.FieldType)) ∈ gw := gw_in 236 (by decide +kernel) (by decide +kernel)
theorem gw_241 : (Jvm.Cond.methodLink "MidiDesk$Parser" (24 : Nat) ({ cls := "MidiDesk$Bytes", name := "size", desc := "()I" } : Jvm.MethodName)) ∈ gw := gw_in 241 (by decide +kernel) (by decide +kernel)
theorem gw_242 : (Jvm.Cond.methodLink "MidiDesk$Parser" (34 : Nat) ({ cls := "MidiDesk$Parser", name := "head", desc := "()V" } : Jvm.MethodName)) ∈ gw := gw_in 242 (by decide +kernel) (by decide +kernel)
theorem gw_244 : (Jvm.Cond.instanceMethod ({ cls := "MidiDesk$Parser", name := "head", desc := "()V" } : Jvm.MethodName)) ∈ gw := gw_in 244 (by decide +kernel) (by decide +kernel)
theorem gw_245 : (Jvm.Cond.code ({ cls := "MidiDesk$Parser", name := "head", desc := "()V" } : Jvm.MethodName) prog_4_method_7_code (5 : Nat) (Option.none : Option Jvm.ClassFile.FieldType)) ∈ gw := gw_in 245 (by decide +kernel) (by decide +kernel)
theorem gw_264 : (Jvm.Cond.methodLink "MidiDesk$Parser" (43 : Nat) ({ cls := "MidiDesk$Parser", name := "beginsTrack", desc := "()Z" } : Jvm.MethodName)) ∈ gw := gw_in 264 (by decide +kernel) (by decide +kernel)
theorem gw_266 : (Jvm.Cond.instanceMethod ({ cls := "MidiDesk$Parser", name := "beginsTrack", desc := "()Z" } : Jvm.MethodName)) ∈ gw := gw_in 266 (by decide +kernel) (by decide +kernel)
theorem gw_267 : (Jvm.Cond.code ({ cls := "MidiDesk$Parser", name := "beginsTrack", desc := "()Z" } : Jvm.MethodName) prog_4_method_9_code (5 : Nat) (Option.some Jvm.ClassFile.FieldType.boolean)) ∈ gw := gw_in 267 (by decide +kernel) (by decide +kernel)
theorem gw_269 : (Jvm.Cond.methodLink "MidiDesk$Parser" (47 : Nat) ({ cls := "MidiDesk$Parser", name := "track", desc := "()V" } : Jvm.MethodName)) ∈ gw := gw_in 269 (by decide +kernel) (by decide +kernel)
theorem gw_271 : (Jvm.Cond.instanceMethod ({ cls := "MidiDesk$Parser", name := "track", desc := "()V" } : Jvm.MethodName)) ∈ gw := gw_in 271 (by decide +kernel) (by decide +kernel)
theorem gw_272 : (Jvm.Cond.code ({ cls := "MidiDesk$Parser", name := "track", desc := "()V" } : Jvm.MethodName) prog_4_method_10_code (2 : Nat) (Option.none : Option Jvm.ClassFile.FieldType)) ∈ gw := gw_in 272 (by decide +kernel) (by decide +kernel)
theorem gw_273 : (Jvm.Cond.methodLink "MidiDesk$Parser" (102 : Nat) ({ cls := "MidiDesk$Parser", name := "oneEvent", desc := "()V" } : Jvm.MethodName)) ∈ gw := gw_in 273 (by decide +kernel) (by decide +kernel)
theorem gw_275 : (Jvm.Cond.instanceMethod ({ cls := "MidiDesk$Parser", name := "oneEvent", desc := "()V" } : Jvm.MethodName)) ∈ gw := gw_in 275 (by decide +kernel) (by decide +kernel)
theorem gw_276 : (Jvm.Cond.code ({ cls := "MidiDesk$Parser", name := "oneEvent", desc := "()V" } : Jvm.MethodName) prog_4_method_11_code (4 : Nat) (Option.none : Option Jvm.ClassFile.FieldType)) ∈ gw := gw_in 276 (by decide +kernel) (by decide +kernel)
theorem gw_281 : (Jvm.Cond.constant "MidiDesk$Parser" (108 : Nat) (268435455 : Int32)) ∈ gw := gw_in 281 (by decide +kernel) (by decide +kernel)
theorem gw_282 : (Jvm.Cond.methodLink "MidiDesk$Parser" (109 : Nat) ({ cls := "MidiDesk$Parser", name := "status", desc := "()I" } : Jvm.MethodName)) ∈ gw := gw_in 282 (by decide +kernel) (by decide +kernel)
theorem gw_284 : (Jvm.Cond.instanceMethod ({ cls := "MidiDesk$Parser", name := "status", desc := "()I" } : Jvm.MethodName)) ∈ gw := gw_in 284 (by decide +kernel) (by decide +kernel)
theorem gw_285 : (Jvm.Cond.code ({ cls := "MidiDesk$Parser", name := "status", desc := "()I" } : Jvm.MethodName) prog_4_method_12_code (3 : Nat) (Option.some Jvm.ClassFile.FieldType.int)) ∈ gw := gw_in 285 (by decide +kernel) (by decide +kernel)
theorem gw_286 : (Jvm.Cond.methodLink "MidiDesk$Parser" (112 : Nat) ({ cls := "MidiDesk$Parser", name := "channelEvent", desc := "(I)V" } : Jvm.MethodName)) ∈ gw := gw_in 286 (by decide +kernel) (by decide +kernel)
theorem gw_288 : (Jvm.Cond.instanceMethod ({ cls := "MidiDesk$Parser", name := "channelEvent", desc := "(I)V" } : Jvm.MethodName)) ∈ gw := gw_in 288 (by decide +kernel) (by decide +kernel)
theorem gw_289 : (Jvm.Cond.code ({ cls := "MidiDesk$Parser", name := "channelEvent", desc := "(I)V" } : Jvm.MethodName) prog_4_method_13_code (2 : Nat) (Option.none : Option Jvm.ClassFile.FieldType)) ∈ gw := gw_in 289 (by decide +kernel) (by decide +kernel)
theorem gw_297 : (Jvm.Cond.methodLink "MidiDesk$Parser" (116 : Nat) ({ cls := "MidiDesk$Parser", name := "metaEvent", desc := "()V" } : Jvm.MethodName)) ∈ gw := gw_in 297 (by decide +kernel) (by decide +kernel)
theorem gw_299 : (Jvm.Cond.instanceMethod ({ cls := "MidiDesk$Parser", name := "metaEvent", desc := "()V" } : Jvm.MethodName)) ∈ gw := gw_in 299 (by decide +kernel) (by decide +kernel)
theorem gw_300 : (Jvm.Cond.code ({ cls := "MidiDesk$Parser", name := "metaEvent", desc := "()V" } : Jvm.MethodName) prog_4_method_15_code (3 : Nat) (Option.none : Option Jvm.ClassFile.FieldType)) ∈ gw := gw_in 300 (by decide +kernel) (by decide +kernel)
theorem gw_305 : (Jvm.Cond.methodLink "MidiDesk$Parser" (119 : Nat) ({ cls := "MidiDesk$Parser", name := "exclusiveEvent", desc := "()V" } : Jvm.MethodName)) ∈ gw := gw_in 305 (by decide +kernel) (by decide +kernel)
theorem gw_307 : (Jvm.Cond.instanceMethod ({ cls := "MidiDesk$Parser", name := "exclusiveEvent", desc := "()V" } : Jvm.MethodName)) ∈ gw := gw_in 307 (by decide +kernel) (by decide +kernel)
theorem gw_308 : (Jvm.Cond.code ({ cls := "MidiDesk$Parser", name := "exclusiveEvent", desc := "()V" } : Jvm.MethodName) prog_4_method_14_code (1 : Nat) (Option.none : Option Jvm.ClassFile.FieldType)) ∈ gw := gw_in 308 (by decide +kernel) (by decide +kernel)
theorem gw_309 : (Jvm.Cond.methodLink "MidiDesk$Parser" (124 : Nat) ({ cls := "MidiDesk$Score", name := "hasRoomFor", desc := "(I)Z" } : Jvm.MethodName)) ∈ gw := gw_in 309 (by decide +kernel) (by decide +kernel)
theorem gw_310 : (Jvm.Cond.instanceMethod ({ cls := "MidiDesk$Score", name := "hasRoomFor", desc := "(I)Z" } : Jvm.MethodName)) ∈ gw := gw_in 310 (by decide +kernel) (by decide +kernel)
theorem gw_311 : (Jvm.Cond.selects "MidiDesk$Score" ({ cls := "MidiDesk$Score", name := "hasRoomFor", desc := "(I)Z" } : Jvm.MethodName) ({ cls := "MidiDesk$Score", name := "hasRoomFor", desc := "(I)Z" } : Jvm.MethodName)) ∈ gw := gw_in 311 (by decide +kernel) (by decide +kernel)
theorem gw_312 : (Jvm.Cond.code ({ cls := "MidiDesk$Score", name := "hasRoomFor", desc := "(I)Z" } : Jvm.MethodName) prog_6_method_4_code (2 : Nat) (Option.some Jvm.ClassFile.FieldType.boolean)) ∈ gw := gw_in 312 (by decide +kernel) (by decide +kernel)
theorem gw_317 : (Jvm.Cond.methodLink "MidiDesk$Parser" (127 : Nat) ({ cls := "MidiDesk$Parser", name := "keep", desc := "(I)V" } : Jvm.MethodName)) ∈ gw := gw_in 317 (by decide +kernel) (by decide +kernel)
theorem gw_319 : (Jvm.Cond.instanceMethod ({ cls := "MidiDesk$Parser", name := "keep", desc := "(I)V" } : Jvm.MethodName)) ∈ gw := gw_in 319 (by decide +kernel) (by decide +kernel)
theorem gw_320 : (Jvm.Cond.code ({ cls := "MidiDesk$Parser", name := "keep", desc := "(I)V" } : Jvm.MethodName) prog_4_method_17_code (4 : Nat) (Option.none : Option Jvm.ClassFile.FieldType)) ∈ gw := gw_in 320 (by decide +kernel) (by decide +kernel)
theorem gw_321 : (Jvm.Cond.methodLink "MidiDesk$Parser" (148 : Nat) ({ cls := "MidiDesk$Score", name := "addEvent", desc := "()LMidiDesk$Event;" } : Jvm.MethodName)) ∈ gw := gw_in 321 (by decide +kernel) (by decide +kernel)
theorem gw_322 : (Jvm.Cond.instanceMethod ({ cls := "MidiDesk$Score", name := "addEvent", desc := "()LMidiDesk$Event;" } : Jvm.MethodName)) ∈ gw := gw_in 322 (by decide +kernel) (by decide +kernel)
theorem gw_323 : (Jvm.Cond.selects "MidiDesk$Score" ({ cls := "MidiDesk$Score", name := "addEvent", desc := "()LMidiDesk$Event;" } : Jvm.MethodName) ({ cls := "MidiDesk$Score", name := "addEvent", desc := "()LMidiDesk$Event;" } : Jvm.MethodName)) ∈ gw := gw_in 323 (by decide +kernel) (by decide +kernel)
theorem gw_324 : (Jvm.Cond.code ({ cls := "MidiDesk$Score", name := "addEvent", desc := "()LMidiDesk$Event;" } : Jvm.MethodName) prog_6_method_5_code (2 : Nat) (Option.some (Jvm.ClassFile.FieldType.object "MidiDesk$Event"))) ∈ gw := gw_in 324 (by decide +kernel) (by decide +kernel)
theorem gw_378 : (Jvm.Cond.methodLink "MidiDesk$Parser" (166 : Nat) ({ cls := "MidiDesk$Bytes", name := "put", desc := "(I)V" } : Jvm.MethodName)) ∈ gw := gw_in 378 (by decide +kernel) (by decide +kernel)
theorem gw_379 : (Jvm.Cond.methodLink "MidiDesk$Parser" (60 : Nat) ({ cls := "MidiDesk$Score", name := "putInOrder", desc := "()V" } : Jvm.MethodName)) ∈ gw := gw_in 379 (by decide +kernel) (by decide +kernel)
abbrev cS_addEvent : ByteArray := prog_6_method_5_code
abbrev yS_addEvent : MethodName := ⟨"MidiDesk$Score", "addEvent", "()LMidiDesk$Event;"⟩
theorem kS_addEvent : yS_addEvent.cls ≠ "java/lang/invoke/MethodHandle" ∧ yS_addEvent.cls ≠ "java/lang/invoke/VarHandle" ∧ (parseMethodDescriptor yS_addEvent.desc).map (fun d => d.parameters.length) = some 0 := by decide +kernel
abbrev frS_addEvent : Nat := 2
abbrev loS_addEvent : Nat := 32
theorem dS_addEvent_0 : decode cS_addEvent 0 = .ok (.aload_n 0, 1) := by decide +kernel
theorem dS_addEvent_1 : decode cS_addEvent 1 = .ok (.getfield 33, 3) := by decide +kernel
theorem dS_addEvent_4 : decode cS_addEvent 4 = .ok (.aload_n 0, 1) := by decide +kernel
theorem dS_addEvent_5 : decode cS_addEvent 5 = .ok (.getfield 22, 3) := by decide +kernel
theorem dS_addEvent_8 : decode cS_addEvent 8 = .ok (.arraylength, 1) := by decide +kernel
theorem dS_addEvent_9 : decode cS_addEvent 9 = .ok (.if_icmp .ne 44, 3) := by decide +kernel
theorem dS_addEvent_12 : decode cS_addEvent 12 = .ok (.iconst 2, 1) := by decide +kernel
theorem dS_addEvent_13 : decode cS_addEvent 13 = .ok (.aload_n 0, 1) := by decide +kernel
theorem dS_addEvent_14 : decode cS_addEvent 14 = .ok (.getfield 33, 3) := by decide +kernel
theorem dS_addEvent_17 : decode cS_addEvent 17 = .ok (.imul, 1) := by decide +kernel
theorem dS_addEvent_18 : decode cS_addEvent 18 = .ok (.anewarray 20, 3) := by decide +kernel
theorem dS_addEvent_21 : decode cS_addEvent 21 = .ok (.astore_n 1, 1) := by decide +kernel
theorem dS_addEvent_22 : decode cS_addEvent 22 = .ok (.aload_n 0, 1) := by decide +kernel
theorem dS_addEvent_23 : decode cS_addEvent 23 = .ok (.getfield 22, 3) := by decide +kernel
theorem dS_addEvent_26 : decode cS_addEvent 26 = .ok (.aload_n 1, 1) := by decide +kernel
theorem dS_addEvent_27 : decode cS_addEvent 27 = .ok (.iconst 0, 1) := by decide +kernel
theorem dS_addEvent_28 : decode cS_addEvent 28 = .ok (.aload_n 0, 1) := by decide +kernel
theorem dS_addEvent_29 : decode cS_addEvent 29 = .ok (.getfield 33, 3) := by decide +kernel
theorem dS_addEvent_32 : decode cS_addEvent 32 = .ok (.invokestatic 49, 3) := by decide +kernel
theorem dS_addEvent_35 : decode cS_addEvent 35 = .ok (.aload_n 0, 1) := by decide +kernel
theorem dS_addEvent_36 : decode cS_addEvent 36 = .ok (.aload_n 1, 1) := by decide +kernel
theorem dS_addEvent_37 : decode cS_addEvent 37 = .ok (.putfield 22, 3) := by decide +kernel
theorem dS_addEvent_40 : decode cS_addEvent 40 = .ok (.aload_n 0, 1) := by decide +kernel
theorem dS_addEvent_41 : decode cS_addEvent 41 = .ok (.iconst 2, 1) := by decide +kernel
theorem dS_addEvent_42 : decode cS_addEvent 42 = .ok (.aload_n 0, 1) := by decide +kernel
theorem dS_addEvent_43 : decode cS_addEvent 43 = .ok (.getfield 33, 3) := by decide +kernel
theorem dS_addEvent_46 : decode cS_addEvent 46 = .ok (.imul, 1) := by decide +kernel
theorem dS_addEvent_47 : decode cS_addEvent 47 = .ok (.anewarray 20, 3) := by decide +kernel
theorem dS_addEvent_50 : decode cS_addEvent 50 = .ok (.putfield 26, 3) := by decide +kernel
theorem dS_addEvent_53 : decode cS_addEvent 53 = .ok (.aload_n 0, 1) := by decide +kernel
theorem dS_addEvent_54 : decode cS_addEvent 54 = .ok (.getfield 22, 3) := by decide +kernel
theorem dS_addEvent_57 : decode cS_addEvent 57 = .ok (.aload_n 0, 1) := by decide +kernel
theorem dS_addEvent_58 : decode cS_addEvent 58 = .ok (.getfield 33, 3) := by decide +kernel
theorem dS_addEvent_61 : decode cS_addEvent 61 = .ok (.aaload, 1) := by decide +kernel
theorem dS_addEvent_62 : decode cS_addEvent 62 = .ok (.ifnonnull 19, 3) := by decide +kernel
theorem dS_addEvent_65 : decode cS_addEvent 65 = .ok (.aload_n 0, 1) := by decide +kernel
theorem dS_addEvent_66 : decode cS_addEvent 66 = .ok (.getfield 22, 3) := by decide +kernel
theorem dS_addEvent_69 : decode cS_addEvent 69 = .ok (.aload_n 0, 1) := by decide +kernel
theorem dS_addEvent_70 : decode cS_addEvent 70 = .ok (.getfield 33, 3) := by decide +kernel
theorem dS_addEvent_73 : decode cS_addEvent 73 = .ok (.new 20, 3) := by decide +kernel
theorem dS_addEvent_76 : decode cS_addEvent 76 = .ok (.dup, 1) := by decide +kernel
theorem dS_addEvent_77 : decode cS_addEvent 77 = .ok (.invokespecial 53, 3) := by decide +kernel
theorem dS_addEvent_80 : decode cS_addEvent 80 = .ok (.aastore, 1) := by decide +kernel
theorem dS_addEvent_81 : decode cS_addEvent 81 = .ok (.aload_n 0, 1) := by decide +kernel
theorem dS_addEvent_82 : decode cS_addEvent 82 = .ok (.getfield 22, 3) := by decide +kernel
theorem dS_addEvent_85 : decode cS_addEvent 85 = .ok (.aload_n 0, 1) := by decide +kernel
theorem dS_addEvent_86 : decode cS_addEvent 86 = .ok (.getfield 33, 3) := by decide +kernel
theorem dS_addEvent_89 : decode cS_addEvent 89 = .ok (.aaload, 1) := by decide +kernel
theorem dS_addEvent_90 : decode cS_addEvent 90 = .ok (.astore_n 1, 1) := by decide +kernel
theorem dS_addEvent_91 : decode cS_addEvent 91 = .ok (.aload_n 0, 1) := by decide +kernel
theorem dS_addEvent_92 : decode cS_addEvent 92 = .ok (.dup, 1) := by decide +kernel
theorem dS_addEvent_93 : decode cS_addEvent 93 = .ok (.getfield 33, 3) := by decide +kernel
theorem dS_addEvent_96 : decode cS_addEvent 96 = .ok (.iconst 1, 1) := by decide +kernel
theorem dS_addEvent_97 : decode cS_addEvent 97 = .ok (.iadd, 1) := by decide +kernel
theorem dS_addEvent_98 : decode cS_addEvent 98 = .ok (.putfield 33, 3) := by decide +kernel
theorem dS_addEvent_101 : decode cS_addEvent 101 = .ok (.aload_n 1, 1) := by decide +kernel
theorem dS_addEvent_102 : decode cS_addEvent 102 = .ok (.areturn, 1) := by decide +kernel
noncomputable def jS_addEvent_81 (h : cH) (z : cZ) : Option (Option Nat × cH × cZ) := if (zi z 7) < 0 ∨ h.1 3 ≤ (zi z 7).toNatClampNeg then none else (some (zr z 0 (zi z 7).toNatClampNeg, h, zU z 7 ((zi z 7) + (1 : Int32))))
set_option maxHeartbeats 4000000 in
set_option maxRecDepth 100000 in
theorem oS_addEvent_81 {h' : cH} {z' : cZ} {r' : Option Nat} (h : cH) (z : cZ) (hf : jS_addEvent_81 h z = some (r', h', z')) : cle h h' := by
  unfold jS_addEvent_81 at hf
  obtain ⟨h1, hf⟩ := ts_g hf
  cases hf
  exact cle.rf
noncomputable def jS_addEvent_53 (h : cH) (z : cZ) : Option (Option Nat × cH × cZ) := if (zi z 7) < 0 ∨ h.1 3 ≤ (zi z 7).toNatClampNeg then none else (if (zr z 0 (zi z 7).toNatClampNeg) = none then (@ite _ (wfz h z) (Classical.propDecidable _) (if (zi z 7) < 0 ∨ h.1 3 ≤ (zi z 7).toNatClampNeg then none else (jS_addEvent_81 (h.1, h.2.1 + 1, h.2.2.1 + 1, h.2.2.2 + 7) (zR (zN z h.2.1) 0 (zi z 7).toNatClampNeg (some h.2.1)))) none) else (jS_addEvent_81 h z))
set_option maxHeartbeats 4000000 in
set_option maxRecDepth 100000 in
theorem oS_addEvent_53 {h' : cH} {z' : cZ} {r' : Option Nat} (h : cH) (z : cZ) (hf : jS_addEvent_53 h z = some (r', h', z')) : cle h h' := by
  unfold jS_addEvent_53 at hf
  obtain ⟨h1, hf⟩ := ts_g hf
  rcases (Decidable.em ((zr z 0 (zi z 7).toNatClampNeg) = none)).symm with c2 | c2
  · have hf := ts_f hf c2
    exact oS_addEvent_81 h z hf
  · have hf := ts_t hf c2
    obtain ⟨hwf, hf⟩ := ts_c hf
    obtain ⟨h1, hf⟩ := ts_g hf
    exact cle.tr (show cle h (h.1, h.2.1 + 1, h.2.2.1 + 1, h.2.2.2 + 7) from ⟨Nat.le_add_right _ _, Nat.le_add_right _ _⟩) (oS_addEvent_81 (h.1, h.2.1 + 1, h.2.2.1 + 1, h.2.2.2 + 7) (zR (zN z h.2.1) 0 (zi z 7).toNatClampNeg (some h.2.1)) hf)
noncomputable def fS_addEvent (h : cH) (z : cZ) : Option (Option Nat × cH × cZ) := if (zi z 7) = (Int32.ofNat (h.1 3)) then (if ((2 : Int32) * (zi z 7)) < 0 ∨ 536870912 < ((2 : Int32) * (zi z 7)).toNatClampNeg * 4 then none else ((fS_copyL h (((2 : Int32) * (zi z 7)).toNatClampNeg) z (fun _ => none) 0 (zi z 7)).bind fun (z1, lr1) => if ((2 : Int32) * (zi (zG z1 0 lr1) 7)) < 0 ∨ 536870912 < ((2 : Int32) * (zi (zG z1 0 lr1) 7)).toNatClampNeg * 4 then none else (jS_addEvent_53 (hC (hL (hL h 3 ((2 : Int32) * (zi z 7)).toNatClampNeg) 4 ((2 : Int32) * (zi (zG z1 0 lr1) 7)).toNatClampNeg) 2 (((2 : Int32) * (zi z 7)).toNatClampNeg + ((2 : Int32) * (zi (zG z1 0 lr1) 7)).toNatClampNeg)) (zG (zG z1 0 lr1) 1 (fun _ => none))))) else (jS_addEvent_53 h z)
set_option maxHeartbeats 4000000 in
set_option maxRecDepth 100000 in
theorem oS_addEvent {h' : cH} {z' : cZ} {r' : Option Nat} {h : cH} {z : cZ} (hf : fS_addEvent h z = some (r', h', z')) : cle h h' := by
  unfold fS_addEvent at hf
  rcases (Decidable.em ((zi z 7) = (Int32.ofNat (h.1 3)))).symm with c1 | c1
  · have hf := ts_f hf c1
    exact oS_addEvent_53 h z hf
  · have hf := ts_t hf c1
    obtain ⟨h1, hf⟩ := ts_g hf
    obtain ⟨⟨z1, lr1⟩, g1, hf⟩ := ts_b hf
    try dsimp only at hf
    obtain ⟨h2, hf⟩ := ts_g hf
    exact cle.tr (show cle h (hC (hL (hL h 3 ((2 : Int32) * (zi z 7)).toNatClampNeg) 4 ((2 : Int32) * (zi (zG z1 0 lr1) 7)).toNatClampNeg) 2 (((2 : Int32) * (zi z 7)).toNatClampNeg + ((2 : Int32) * (zi (zG z1 0 lr1) 7)).toNatClampNeg)) from ⟨Nat.le_add_right _ _, Nat.le_add_right _ _⟩) (oS_addEvent_53 (hC (hL (hL h 3 ((2 : Int32) * (zi z 7)).toNatClampNeg) 4 ((2 : Int32) * (zi (zG z1 0 lr1) 7)).toNatClampNeg) 2 (((2 : Int32) * (zi z 7)).toNatClampNeg + ((2 : Int32) * (zi (zG z1 0 lr1) 7)).toNatClampNeg)) (zG (zG z1 0 lr1) 1 (fun _ => none)) hf)
set_option maxHeartbeats 4000000 in
set_option maxRecDepth 100000 in
theorem wS_addEvent_81 {p : Program} {l : Launch} {e : Env} {s : State} {m : MethodId} {args : Array Value} {below : List Frame} {meth : Method} {c : Code} {g : gT} {qq ea0 : Nat → Nat} {A0 : Nat → Prop} {h0 : cH} {X : va_W} {rv : (Nat → Nat) → Option Value} {h' : cH} {z' : cZ} {r' : Option Nat} (C : mCx p m c cS_addEvent 2 s args g "MidiDesk$Score") (hr : meth.sig.returnType = (some (.object "MidiDesk$Event"))) (hlk : meth.locks = false) (hrv : rv = fun ea => some (va_rf (Option.map ea r'))) (ad : Nat → Nat) (ea : Nat → Nat) (h : cH) (z : cZ) (H : Heap) (locs : List Loc) (ls : Array Slot) (hle : cle h0 h) (hl : lv_has ls 2 [(0, .ref (qq 4))]) (hw : cWd g A0 s.heap qq ad ea h X z H locs) (hf : jS_addEvent_81 h z = some (r', h', z')) : cGa p l e (rmA frS_addEvent loS_addEvent h0 h') s m args below meth c g qq A0 False ea0 rv X h' z' H locs (h.2.2.1 - h0.2.2.1) (h.2.2.2 - h0.2.2.2) (F0 m 81 ls []) := by
  have hmn := oS_addEvent_81 h z hf
  have hroom : h.2.2.1 - h0.2.2.1 + 0 ≤ (rmA frS_addEvent loS_addEvent h0 h').cells ∧ h.2.2.2 - h0.2.2.2 + 0 ≤ (rmA frS_addEvent loS_addEvent h0 h').slots := ⟨by have w := hmn.1; show _ ≤ h'.2.2.1 - h0.2.2.1; omega, by have w := hmn.2; show _ ≤ h'.2.2.2 - h0.2.2.2; omega⟩
  unfold jS_addEvent_81 at hf
  refine lv_aload_n C.1.1 C.1.2.1 dS_addEvent_81 rfl (lv_at hl 0 rfl) ?_
  refine cg_Score_Score_row C hw dS_addEvent_82 ?_
  refine lv_aload_n C.1.1 C.1.2.1 dS_addEvent_85 rfl (lv_at hl 0 rfl) ?_
  refine cg_Score_Score_size C hw dS_addEvent_86 ?_
  obtain ⟨h1, hf⟩ := ts_g hf
  refine cra_0 C hw h1 dS_addEvent_89 ?_
  refine c_astore_n (lv' := [(1, va_rf (Option.map ea (zr z 0 (zi z 7).toNatClampNeg))), (0, .ref (qq 4))]) C.1.1 C.1.2.1 dS_addEvent_90 rfl hl (by decide) rfl (fun ls hl => ?_)
  refine lv_aload_n C.1.1 C.1.2.1 dS_addEvent_91 rfl (lv_at hl 1 rfl) ?_
  refine lv_dup C.1.1 C.1.2.1 dS_addEvent_92 rfl ?_
  refine cg_Score_Score_size C hw dS_addEvent_93 ?_
  refine lv_iconst (v := (1 : Int32)) C.1.1 C.1.2.1 dS_addEvent_96 (by decide) ?_
  refine lv_iadd C.1.1 C.1.2.1 dS_addEvent_97 ?_
  refine cp_Score_Score_size C hw dS_addEvent_98 (fun H locs hw => ?_)
  refine c_aload_n C.1.1 C.1.2.1 dS_addEvent_101 rfl (lv_at hl 0 rfl) ?_
  exact c_retAo C hr hlk hrv (fun w => w.elim) hw hf rfl (by cases hf; exact ⟨Nat.le_refl _, Nat.le_refl _⟩) dS_addEvent_102
set_option maxHeartbeats 4000000 in
set_option maxRecDepth 100000 in
theorem wS_addEvent_53 {p : Program} {l : Launch} {e : Env} {s : State} {m : MethodId} {args : Array Value} {below : List Frame} {meth : Method} {c : Code} {g : gT} {qq ea0 : Nat → Nat} {A0 : Nat → Prop} {h0 : cH} {X : va_W} {rv : (Nat → Nat) → Option Value} {h' : cH} {z' : cZ} {r' : Option Nat} (C : mCx p m c cS_addEvent 2 s args g "MidiDesk$Score") (hr : meth.sig.returnType = (some (.object "MidiDesk$Event"))) (hlk : meth.locks = false) (hrv : rv = fun ea => some (va_rf (Option.map ea r'))) (ad : Nat → Nat) (ea : Nat → Nat) (h : cH) (z : cZ) (H : Heap) (locs : List Loc) (ls : Array Slot) (hle : cle h0 h) (hl : lv_has ls 2 [(0, .ref (qq 4))]) (hw : cWd g A0 s.heap qq ad ea h X z H locs) (hf : jS_addEvent_53 h z = some (r', h', z')) : cGa p l e (rmA frS_addEvent loS_addEvent h0 h') s m args below meth c g qq A0 False ea0 rv X h' z' H locs (h.2.2.1 - h0.2.2.1) (h.2.2.2 - h0.2.2.2) (F0 m 53 ls []) := by
  have hmn := oS_addEvent_53 h z hf
  have hroom : h.2.2.1 - h0.2.2.1 + 0 ≤ (rmA frS_addEvent loS_addEvent h0 h').cells ∧ h.2.2.2 - h0.2.2.2 + 0 ≤ (rmA frS_addEvent loS_addEvent h0 h').slots := ⟨by have w := hmn.1; show _ ≤ h'.2.2.1 - h0.2.2.1; omega, by have w := hmn.2; show _ ≤ h'.2.2.2 - h0.2.2.2; omega⟩
  unfold jS_addEvent_53 at hf
  refine lv_aload_n C.1.1 C.1.2.1 dS_addEvent_53 rfl (lv_at hl 0 rfl) ?_
  refine cg_Score_Score_row C hw dS_addEvent_54 ?_
  refine lv_aload_n C.1.1 C.1.2.1 dS_addEvent_57 rfl (lv_at hl 0 rfl) ?_
  refine cg_Score_Score_size C hw dS_addEvent_58 ?_
  obtain ⟨h1, hf⟩ := ts_g hf
  refine cra_0 C hw h1 dS_addEvent_61 ?_
  refine c_ifnonnull (x := (zr z 0 (zi z 7).toNatClampNeg)) (tgt := 81) C.1.1 C.1.2.1 dS_addEvent_62 (by decide) (fun c2 => ?_) (fun c2 => ?_)
  · have hf := ts_f hf c2
    exact wS_addEvent_81 C hr hlk hrv _ _ h z _ _ ls hle (lv_sub hl [0] rfl) hw hf
  · have hf := ts_t hf c2
    obtain ⟨hwf, hf⟩ := ts_c hf
    obtain ⟨h1, hf⟩ := ts_g hf
    have hm9 : cle (h.1, h.2.1 + 1, h.2.2.1 + 1, h.2.2.2 + 7) h' := oS_addEvent_81 _ _ hf
    have hm91 : h.2.2.1 + 1 ≤ h'.2.2.1 := hm9.1
    have hm92 : h.2.2.2 + 7 ≤ h'.2.2.2 := hm9.2
    have hle1 := hle.1
    have hle2 := hle.2
    refine lv_aload_n C.1.1 C.1.2.1 dS_addEvent_65 rfl (lv_at hl 0 rfl) ?_
    refine cg_Score_Score_row C hw dS_addEvent_66 ?_
    refine lv_aload_n C.1.1 C.1.2.1 dS_addEvent_69 rfl (lv_at hl 0 rfl) ?_
    refine cg_Score_Score_size C hw dS_addEvent_70 ?_
    refine c_newE C hw hwf (by show _ ≤ h'.2.2.1 - h0.2.2.1; omega) (by show _ ≤ h'.2.2.2 - h0.2.2.2; omega) dS_addEvent_73 (fun q1 H hw => ?_)
    refine W.widen (k := (h.1, h.2.1 + 1, h.2.2.1 + 1, h.2.2.2 + 7).2.2.1 - h0.2.2.1) (n := (h.1, h.2.1 + 1, h.2.2.1 + 1, h.2.2.2 + 7).2.2.2 - h0.2.2.2) (by show _ ≤ h.2.2.1 + 1 - h0.2.2.1; omega) (by show _ ≤ h.2.2.2 + 7 - h0.2.2.2; omega) ?_
    refine lv_dup C.1.1 C.1.2.1 dS_addEvent_76 rfl ?_
    refine c_initE (rest := [.ref q1, .int (zi z 7), .ref (ad 3)]) C hl.1 ⟨Nat.le_of_ble_eq_true rfl, Nat.le_of_ble_eq_true rfl⟩ (Nat.le_of_ble_eq_true rfl) ⟨by show h.2.2.1 + 1 - h0.2.2.1 ≤ h'.2.2.1 - h0.2.2.1; omega, by show h.2.2.2 + 7 - h0.2.2.2 ≤ h'.2.2.2 - h0.2.2.2; omega⟩ dS_addEvent_77 ?_
    refine W.eq (g2 := F0 m 80 ls [va_rf (Option.map (updN ea h.2.1 q1) (some h.2.1)), .int (zi z 7), .ref (ad 3)]) (by simp [va_rf, updN]) ?_
    refine crs_0 C hw h1 (by simp [okr]) dS_addEvent_80 (fun H locs hw => ?_)
    exact wS_addEvent_81 C hr hlk hrv _ _ (h.1, h.2.1 + 1, h.2.2.1 + 1, h.2.2.2 + 7) (zR (zN z h.2.1) 0 (zi z 7).toNatClampNeg (some h.2.1)) _ _ ls (hle.tr (show cle h (h.1, h.2.1 + 1, h.2.2.1 + 1, h.2.2.2 + 7) from ⟨Nat.le_add_right _ _, Nat.le_add_right _ _⟩)) (lv_sub hl [0] rfl) hw hf
set_option maxHeartbeats 4000000 in
set_option maxRecDepth 100000 in
theorem cS_addEvent_met {l : Launch} {g : gT} {qq ad ea : Nat → Nat} {h h' : cH} {X : va_W} {z z' : cZ} {r' : Option Nat} (hf : fS_addEvent h z = some (r', h', z')) : cMeA l yS_addEvent cS_addEvent 2 (some (.object "MidiDesk$Event")) frS_addEvent loS_addEvent g qq ad ea h X z [.ref (qq 4)] False (fun ea => some (va_rf (Option.map ea r'))) X h' z' := by
  refine c_entryA (by decide) (Nat.le_of_ble_eq_true rfl) ?_
  intro p e s m args below meth c ls C hr hlk hnm hl hw
  have hrv : (fun ea => some (va_rf (Option.map ea r')) : (Nat → Nat) → Option Value) = fun ea => some (va_rf (Option.map ea r')) := rfl
  have C : mCx p m c cS_addEvent 2 s args g "MidiDesk$Score" := C
  have hl : lv_has ls 2 [(0, .ref (qq 4))] := hl
  generalize cA g qq ad ea h X s.heap.size = A0 at hw ⊢
  have hle : cle h h := cle.rf
  have hmn := oS_addEvent hf
  have hroom : h.2.2.1 - h.2.2.1 + 0 ≤ (rmA frS_addEvent loS_addEvent h h').cells ∧ h.2.2.2 - h.2.2.2 + 0 ≤ (rmA frS_addEvent loS_addEvent h h').slots := ⟨by have w := hmn.1; show _ ≤ h'.2.2.1 - h.2.2.1; omega, by have w := hmn.2; show _ ≤ h'.2.2.2 - h.2.2.2; omega⟩
  unfold fS_addEvent at hf
  refine lv_aload_n C.1.1 C.1.2.1 dS_addEvent_0 rfl (lv_at hl 0 rfl) ?_
  refine cg_Score_Score_size C hw dS_addEvent_1 ?_
  refine lv_aload_n C.1.1 C.1.2.1 dS_addEvent_4 rfl (lv_at hl 0 rfl) ?_
  refine cg_Score_Score_row C hw dS_addEvent_5 ?_
  refine cn_3 C hw dS_addEvent_8 ?_
  refine lv_icmp_ne (tgt := 53) C.1.1 C.1.2.1 dS_addEvent_9 (by decide) (fun c1 => ?_) (fun c1 => ?_)
  · have hf := ts_f hf c1
    exact wS_addEvent_53 C hr hlk hrv _ _ h z _ _ ls hle (lv_sub hl [0] rfl) hw hf
  · have hf := ts_t hf c1
    obtain ⟨h1, hf⟩ := ts_g hf
    obtain ⟨⟨z1, lr1⟩, g1, hf⟩ := ts_b hf
    try dsimp only at hf
    obtain ⟨h2, hf⟩ := ts_g hf
    have hm9 : cle (hC (hL (hL h 3 ((2 : Int32) * (zi z 7)).toNatClampNeg) 4 ((2 : Int32) * (zi (zG z1 0 lr1) 7)).toNatClampNeg) 2 (((2 : Int32) * (zi z 7)).toNatClampNeg + ((2 : Int32) * (zi (zG z1 0 lr1) 7)).toNatClampNeg)) h' := oS_addEvent_53 _ _ hf
    have hm91 : h.2.2.1 + 2 ≤ h'.2.2.1 := hm9.1
    have hm92 : h.2.2.2 + (((2 : Int32) * (zi z 7)).toNatClampNeg + ((2 : Int32) * (zi (zG z1 0 lr1) 7)).toNatClampNeg) ≤ h'.2.2.2 := hm9.2
    have hle1 := hle.1
    have hle2 := hle.2
    refine lv_iconst (v := (2 : Int32)) C.1.1 C.1.2.1 dS_addEvent_12 (by decide) ?_
    refine lv_aload_n C.1.1 C.1.2.1 dS_addEvent_13 rfl (lv_at hl 0 rfl) ?_
    refine cg_Score_Score_size C hw dS_addEvent_14 ?_
    refine lv_imul C.1.1 C.1.2.1 dS_addEvent_17 ?_
    refine x_newr (ea := ea) C gw_100 hw.1 hw.2.1 hw.2.2.1 hw.2.2.2 (fun w => h1 (Or.inl w)) rfl (Nat.le_of_not_lt fun w => h1 (Or.inr w)) (by show _ ≤ h'.2.2.1 - h.2.2.1; omega) (by show _ ≤ h'.2.2.2 - h.2.2.2; omega) dS_addEvent_18 (fun q1 H hP hD hS => ?_)
    have hw : cWd g A0 s.heap qq ad ea h ((q1, rarr g ea ((2 : Int32) * (zi z 7)).toNatClampNeg (fun _ => none)) :: X) z H _ := ⟨cw_pushP hP, cw_pushD hD, hS, hw.2.2.2⟩
    refine lv_astore_n (lv' := [(1, .ref q1), (0, .ref (qq 4))]) C.1.1 C.1.2.1 dS_addEvent_21 rfl hl (by decide) rfl (fun ls hl => ?_)
    refine lv_aload_n C.1.1 C.1.2.1 dS_addEvent_22 rfl (lv_at hl 1 rfl) ?_
    refine cg_Score_Score_row C hw dS_addEvent_23 ?_
    refine lv_aload_n C.1.1 C.1.2.1 dS_addEvent_26 rfl (lv_at hl 0 rfl) ?_
    refine lv_iconst (v := (0 : Int32)) C.1.1 C.1.2.1 dS_addEvent_27 (by decide) ?_
    refine lv_aload_n C.1.1 C.1.2.1 dS_addEvent_28 rfl (lv_at hl 1 rfl) ?_
    refine cg_Score_Score_size C hw dS_addEvent_29 ?_
    refine c_callSX (rest := []) (As := [.ref (ad 3), .ref q1, .int 0, .int (zi z 7)]) (rv := none) C hl.1 hw (cS_copyL_met g1) rfl (callS_of (rm := rS_copyL) 4 C.1.2.2.2.2 gw_325 gw_326 gw_54 gw_327 kS_copyL ⟨Nat.le_of_ble_eq_true rfl, Nat.le_of_ble_eq_true rfl⟩) rfl rfl (Nat.le_of_ble_eq_true rfl) dS_addEvent_32 ⟨by show h.2.2.1 - h.2.2.1 + 1 + 0 ≤ h'.2.2.1 - h.2.2.1; omega, by show h.2.2.2 - h.2.2.2 + ((2 : Int32) * (zi z 7)).toNatClampNeg + 0 ≤ h'.2.2.2 - h.2.2.2; omega⟩ (fun H locs hw => ?_)
    refine W.widen (k := h.2.2.1 - h.2.2.1 + 1) (n := h.2.2.2 - h.2.2.2 + ((2 : Int32) * (zi z 7)).toNatClampNeg) (Nat.le_refl _) (Nat.le_refl _) ?_
    refine W.eq (g2 := F0 m 35 ls []) rfl ?_
    refine lv_aload_n C.1.1 C.1.2.1 dS_addEvent_35 rfl (lv_at hl 1 rfl) ?_
    refine lv_aload_n C.1.1 C.1.2.1 dS_addEvent_36 rfl (lv_at hl 0 rfl) ?_
    refine c_setrow C hw dS_addEvent_37 (fun H locs hw => ?_)
    refine lv_aload_n C.1.1 C.1.2.1 dS_addEvent_40 rfl (lv_at hl 1 rfl) ?_
    refine lv_iconst (v := (2 : Int32)) C.1.1 C.1.2.1 dS_addEvent_41 (by decide) ?_
    refine lv_aload_n C.1.1 C.1.2.1 dS_addEvent_42 rfl (lv_at hl 1 rfl) ?_
    refine cg_Score_Score_size C hw dS_addEvent_43 ?_
    refine lv_imul C.1.1 C.1.2.1 dS_addEvent_46 ?_
    refine x_newr (ea := ea) C gw_100 hw.1 hw.2.1 hw.2.2.1 hw.2.2.2 (fun w => h2 (Or.inl w)) rfl (Nat.le_of_not_lt fun w => h2 (Or.inr w)) (by show _ ≤ h'.2.2.1 - h.2.2.1; omega) (by show _ ≤ h'.2.2.2 - h.2.2.2; omega) dS_addEvent_47 (fun q2 H hP hD hS => ?_)
    have hw : cWd g A0 s.heap qq (updN ad 3 q1) ea (hL h 3 ((2 : Int32) * (zi z 7)).toNatClampNeg) ((q2, rarr g ea ((2 : Int32) * (zi (zG z1 0 lr1) 7)).toNatClampNeg (fun _ => none)) :: X) (zG z1 0 lr1) H locs := ⟨cw_pushP hP, cw_pushD hD, hS, hw.2.2.2⟩
    refine c_setspare C hw dS_addEvent_50 (fun H locs hw => ?_)
    refine W.widen (k := (hC (hL (hL h 3 ((2 : Int32) * (zi z 7)).toNatClampNeg) 4 ((2 : Int32) * (zi (zG z1 0 lr1) 7)).toNatClampNeg) 2 (((2 : Int32) * (zi z 7)).toNatClampNeg + ((2 : Int32) * (zi (zG z1 0 lr1) 7)).toNatClampNeg)).2.2.1 - h.2.2.1) (n := (hC (hL (hL h 3 ((2 : Int32) * (zi z 7)).toNatClampNeg) 4 ((2 : Int32) * (zi (zG z1 0 lr1) 7)).toNatClampNeg) 2 (((2 : Int32) * (zi z 7)).toNatClampNeg + ((2 : Int32) * (zi (zG z1 0 lr1) 7)).toNatClampNeg)).2.2.2 - h.2.2.2) (by show _ ≤ h.2.2.1 + 2 - h.2.2.1; omega) (by show _ ≤ h.2.2.2 + (((2 : Int32) * (zi z 7)).toNatClampNeg + ((2 : Int32) * (zi (zG z1 0 lr1) 7)).toNatClampNeg) - h.2.2.2; omega) ?_
    exact wS_addEvent_53 C hr hlk hrv _ _ (hC (hL (hL h 3 ((2 : Int32) * (zi z 7)).toNatClampNeg) 4 ((2 : Int32) * (zi (zG z1 0 lr1) 7)).toNatClampNeg) 2 (((2 : Int32) * (zi z 7)).toNatClampNeg + ((2 : Int32) * (zi (zG z1 0 lr1) 7)).toNatClampNeg)) (zG (zG z1 0 lr1) 1 (fun _ => none)) _ _ ls (hle.tr (show cle h (hC (hL (hL h 3 ((2 : Int32) * (zi z 7)).toNatClampNeg) 4 ((2 : Int32) * (zi (zG z1 0 lr1) 7)).toNatClampNeg) 2 (((2 : Int32) * (zi z 7)).toNatClampNeg + ((2 : Int32) * (zi (zG z1 0 lr1) 7)).toNatClampNeg)) from ⟨Nat.le_add_right _ _, Nat.le_add_right _ _⟩)) (lv_sub hl [1] rfl) hw hf
abbrev cP_keep : ByteArray := prog_4_method_17_code
abbrev yP_keep : MethodName := ⟨"MidiDesk$Parser", "keep", "(I)V"⟩
theorem kP_keep : yP_keep.cls ≠ "java/lang/invoke/MethodHandle" ∧ yP_keep.cls ≠ "java/lang/invoke/VarHandle" ∧ (parseMethodDescriptor yP_keep.desc).map (fun d => d.parameters.length) = some 1 := by decide +kernel
abbrev frP_keep : Nat := 3
abbrev loP_keep : Nat := 83
theorem dP_keep_0 : decode cP_keep 0 = .ok (.aload_n 0, 1) := by decide +kernel
theorem dP_keep_1 : decode cP_keep 1 = .ok (.getfield 37, 3) := by decide +kernel
theorem dP_keep_4 : decode cP_keep 4 = .ok (.ifCond .eq 4, 3) := by decide +kernel
theorem dP_keep_7 : decode cP_keep 7 = .ok (.return_, 1) := by decide +kernel
theorem dP_keep_8 : decode cP_keep 8 = .ok (.aload_n 0, 1) := by decide +kernel
theorem dP_keep_9 : decode cP_keep 9 = .ok (.getfield 15, 3) := by decide +kernel
theorem dP_keep_12 : decode cP_keep 12 = .ok (.invokevirtual 148, 3) := by decide +kernel
theorem dP_keep_15 : decode cP_keep 15 = .ok (.astore_n 2, 1) := by decide +kernel
theorem dP_keep_16 : decode cP_keep 16 = .ok (.aload_n 2, 1) := by decide +kernel
theorem dP_keep_17 : decode cP_keep 17 = .ok (.aload_n 0, 1) := by decide +kernel
theorem dP_keep_18 : decode cP_keep 18 = .ok (.getfield 93, 3) := by decide +kernel
theorem dP_keep_21 : decode cP_keep 21 = .ok (.putfield 152, 3) := by decide +kernel
theorem dP_keep_24 : decode cP_keep 24 = .ok (.aload_n 2, 1) := by decide +kernel
theorem dP_keep_25 : decode cP_keep 25 = .ok (.aload_n 0, 1) := by decide +kernel
theorem dP_keep_26 : decode cP_keep 26 = .ok (.getfield 50, 3) := by decide +kernel
theorem dP_keep_29 : decode cP_keep 29 = .ok (.putfield 155, 3) := by decide +kernel
theorem dP_keep_32 : decode cP_keep 32 = .ok (.aload_n 2, 1) := by decide +kernel
theorem dP_keep_33 : decode cP_keep 33 = .ok (.iload_n 1, 1) := by decide +kernel
theorem dP_keep_34 : decode cP_keep 34 = .ok (.putfield 157, 3) := by decide +kernel
theorem dP_keep_37 : decode cP_keep 37 = .ok (.aload_n 2, 1) := by decide +kernel
theorem dP_keep_38 : decode cP_keep 38 = .ok (.aload_n 0, 1) := by decide +kernel
theorem dP_keep_39 : decode cP_keep 39 = .ok (.getfield 133, 3) := by decide +kernel
theorem dP_keep_42 : decode cP_keep 42 = .ok (.putfield 159, 3) := by decide +kernel
theorem dP_keep_45 : decode cP_keep 45 = .ok (.aload_n 2, 1) := by decide +kernel
theorem dP_keep_46 : decode cP_keep 46 = .ok (.aload_n 0, 1) := by decide +kernel
theorem dP_keep_47 : decode cP_keep 47 = .ok (.getfield 139, 3) := by decide +kernel
theorem dP_keep_50 : decode cP_keep 50 = .ok (.putfield 160, 3) := by decide +kernel
theorem dP_keep_53 : decode cP_keep 53 = .ok (.aload_n 2, 1) := by decide +kernel
theorem dP_keep_54 : decode cP_keep 54 = .ok (.aload_n 0, 1) := by decide +kernel
theorem dP_keep_55 : decode cP_keep 55 = .ok (.getfield 15, 3) := by decide +kernel
theorem dP_keep_58 : decode cP_keep 58 = .ok (.getfield 161, 3) := by decide +kernel
theorem dP_keep_61 : decode cP_keep 61 = .ok (.invokevirtual 24, 3) := by decide +kernel
theorem dP_keep_64 : decode cP_keep 64 = .ok (.putfield 164, 3) := by decide +kernel
theorem dP_keep_67 : decode cP_keep 67 = .ok (.aload_n 2, 1) := by decide +kernel
theorem dP_keep_68 : decode cP_keep 68 = .ok (.aload_n 0, 1) := by decide +kernel
theorem dP_keep_69 : decode cP_keep 69 = .ok (.getfield 122, 3) := by decide +kernel
theorem dP_keep_72 : decode cP_keep 72 = .ok (.putfield 165, 3) := by decide +kernel
theorem dP_keep_75 : decode cP_keep 75 = .ok (.iconst 0, 1) := by decide +kernel
theorem dP_keep_76 : decode cP_keep 76 = .ok (.istore_n 3, 1) := by decide +kernel
theorem dP_keep_77 : decode cP_keep 77 = .ok (.iload_n 3, 1) := by decide +kernel
theorem dP_keep_78 : decode cP_keep 78 = .ok (.aload_n 0, 1) := by decide +kernel
theorem dP_keep_79 : decode cP_keep 79 = .ok (.getfield 122, 3) := by decide +kernel
theorem dP_keep_82 : decode cP_keep 82 = .ok (.if_icmp .ge 32, 3) := by decide +kernel
theorem dP_keep_85 : decode cP_keep 85 = .ok (.aload_n 0, 1) := by decide +kernel
theorem dP_keep_86 : decode cP_keep 86 = .ok (.getfield 15, 3) := by decide +kernel
theorem dP_keep_89 : decode cP_keep 89 = .ok (.getfield 161, 3) := by decide +kernel
theorem dP_keep_92 : decode cP_keep 92 = .ok (.aload_n 0, 1) := by decide +kernel
theorem dP_keep_93 : decode cP_keep 93 = .ok (.getfield 9, 3) := by decide +kernel
theorem dP_keep_96 : decode cP_keep 96 = .ok (.aload_n 0, 1) := by decide +kernel
theorem dP_keep_97 : decode cP_keep 97 = .ok (.getfield 145, 3) := by decide +kernel
theorem dP_keep_100 : decode cP_keep 100 = .ok (.iload_n 3, 1) := by decide +kernel
theorem dP_keep_101 : decode cP_keep 101 = .ok (.iadd, 1) := by decide +kernel
theorem dP_keep_102 : decode cP_keep 102 = .ok (.invokevirtual 69, 3) := by decide +kernel
theorem dP_keep_105 : decode cP_keep 105 = .ok (.invokevirtual 166, 3) := by decide +kernel
theorem dP_keep_108 : decode cP_keep 108 = .ok (.iinc 3 1, 3) := by decide +kernel
theorem dP_keep_111 : decode cP_keep 111 = .ok (.goto (-34), 3) := by decide +kernel
theorem dP_keep_114 : decode cP_keep 114 = .ok (.return_, 1) := by decide +kernel
noncomputable def jP_keep_108 (K77 : cH → cZ → (Nat → Int32) → Int32 → Option (cH × cZ × (Nat → Int32))) (h : cH) (z : cZ) (pv : Nat → Int32) (x3 : Int32) : Option (cH × cZ × (Nat → Int32)) := K77 h z pv (x3 + 1)
set_option maxHeartbeats 4000000 in
set_option maxRecDepth 100000 in
theorem oP_keep_108 {h' : cH} {z' : cZ} {pv' : Nat → Int32} {K77 : cH → cZ → (Nat → Int32) → Int32 → Option (cH × cZ × (Nat → Int32))} (hK77 : ∀ (h : cH) (z : cZ) (pv : Nat → Int32) (x3 : Int32), K77 h z pv x3 = some (h', z', pv') → cle h h') (h : cH) (z : cZ) (pv : Nat → Int32) (x3 : Int32) (hf : jP_keep_108 K77 h z pv x3 = some (h', z', pv')) : cle h h' := by
  unfold jP_keep_108 at hf
  exact hK77 h z pv (x3 + 1) hf
noncomputable def lP_keep_77 : Nat → cH → cZ → (Nat → Int32) → Int32 → Option (cH × cZ × (Nat → Int32))
  | 0 => fun _ _ _ _ => none
  | k + 1 => fun h z pv x3 => if (pv 10) ≤ x3 then (some (h, z, pv)) else ((fB0_at h z ((pv 9) + x3)).bind fun (r2, z2) => (fB2_put h z2 r2).bind fun (hh3, z3) => jP_keep_108 (lP_keep_77 k) hh3 z3 pv x3)
set_option maxHeartbeats 4000000 in
set_option maxRecDepth 100000 in
theorem oP_keep_77 {h' : cH} {z' : cZ} {pv' : Nat → Int32} (k : Nat) : ∀ (h : cH) (z : cZ) (pv : Nat → Int32) (x3 : Int32), lP_keep_77 k h z pv x3 = some (h', z', pv') → cle h h' := by
  induction k with
  | zero => intro h z pv x3 hf; cases hf
  | succ k ih =>
    intro h z pv x3 hf
    have hf : (if (pv 10) ≤ x3 then (some (h, z, pv)) else ((fB0_at h z ((pv 9) + x3)).bind fun (r2, z2) => (fB2_put h z2 r2).bind fun (hh3, z3) => jP_keep_108 (lP_keep_77 k) hh3 z3 pv x3)) = some (h', z', pv') := hf
    rcases Decidable.em ((pv 10) ≤ x3) with c1 | c1
    · have hf := ts_t hf c1
      cases hf
      exact cle.rf
    · have hf := ts_f hf c1
      obtain ⟨⟨r2, z2⟩, g2, hf⟩ := ts_b hf
      try dsimp only at hf
      obtain ⟨⟨hh3, z3⟩, g3, hf⟩ := ts_b hf
      try dsimp only at hf
      exact cle.tr (oB2_put g3) (oP_keep_108 ih hh3 z3 pv x3 hf)
noncomputable def jP_keep_15 (h : cH) (z : cZ) (pv : Nat → Int32) (x1 : Int32) (u0 : Option Nat) : Option (cH × cZ × (Nat → Int32)) := (u0).bind fun j1 => if h.2.1 ≤ j1 then none else ((fB2_size h (zE (zE (zE (zE (zE z j1 0 (pv 4)) j1 1 (pv 3)) j1 2 x1) j1 3 (pv 7)) j1 4 (pv 8))).bind fun (r2, z2) => lP_keep_77 FU h (zE (zE z2 j1 5 r2) j1 6 (pv 10)) pv (0 : Int32))
set_option maxHeartbeats 4000000 in
set_option maxRecDepth 100000 in
theorem oP_keep_15 {h' : cH} {z' : cZ} {pv' : Nat → Int32} (h : cH) (z : cZ) (pv : Nat → Int32) (x1 : Int32) (u0 : Option Nat) (hf : jP_keep_15 h z pv x1 u0 = some (h', z', pv')) : cle h h' := by
  unfold jP_keep_15 at hf
  obtain ⟨j1, ho1, hf⟩ := ts_b hf
  try dsimp only at hf
  obtain ⟨hb1, hf⟩ := ts_g hf
  have hb1 := Nat.lt_of_not_le hb1
  obtain ⟨⟨r2, z2⟩, g2, hf⟩ := ts_b hf
  try dsimp only at hf
  exact oP_keep_77 FU h (zE (zE z2 j1 5 r2) j1 6 (pv 10)) pv (0 : Int32) hf
noncomputable def fP_keep (h : cH) (z : cZ) (pv : Nat → Int32) (x1 : Int32) : Option (cH × cZ × (Nat → Int32)) := if (pv 2) = 0 then ((fS_addEvent h z).bind fun (r2, hh2, z2) => jP_keep_15 hh2 z2 pv x1 r2) else (some (h, z, pv))
set_option maxHeartbeats 4000000 in
set_option maxRecDepth 100000 in
theorem oP_keep {h' : cH} {z' : cZ} {pv' : Nat → Int32} {h : cH} {z : cZ} {pv : Nat → Int32} {x1 : Int32} (hf : fP_keep h z pv x1 = some (h', z', pv')) : cle h h' := by
  unfold fP_keep at hf
  rcases Decidable.em ((pv 2) = 0) with c1 | c1
  · have hf := ts_t hf c1
    obtain ⟨⟨r2, hh2, z2⟩, g2, hf⟩ := ts_b hf
    try dsimp only at hf
    exact cle.tr (oS_addEvent g2) (oP_keep_15 hh2 z2 pv x1 r2 hf)
  · have hf := ts_f hf c1
    cases hf
    exact cle.rf
set_option maxHeartbeats 4000000 in
set_option maxRecDepth 100000 in
theorem wP_keep_108 {p : Program} {l : Launch} {e : Env} {s : State} {m : MethodId} {args : Array Value} {below : List Frame} {meth : Method} {c : Code} {g : gT} {qq ea0 : Nat → Nat} {A0 : Nat → Prop} {h0 : cH} {X : va_W} {rv : (Nat → Nat) → Option Value} {qp : Nat} {pv' : Nat → Int32} {h' : cH} {z' : cZ} (C : mCx p m c cP_keep 4 s args g "MidiDesk$Parser") (hr : meth.sig.returnType = none) (hlk : meth.locks = false) (hrv : rv = fun ea => none) {K77 : cH → cZ → (Nat → Int32) → Int32 → Option (cH × cZ × (Nat → Int32))} (hK77 : ∀ (ad : Nat → Nat) (ea : Nat → Nat) (h : cH) (z : cZ) (pv : Nat → Int32) (x3 : Int32) (H : Heap) (locs : List Loc) (ls : Array Slot), cle h0 h → lv_has ls 4 [(0, .ref qp), (3, .int x3)] → cWd g A0 s.heap qq ad ea h (pcell qp qq pv :: X) z H locs → K77 h z pv x3 = some (h', z', pv') → cGa p l e (rmA frP_keep loP_keep h0 h') s m args below meth c g qq A0 False ea0 rv (pcell qp qq pv' :: X) h' z' H locs (h.2.2.1 - h0.2.2.1) (h.2.2.2 - h0.2.2.2) (F0 m 77 ls [])) (hM77 : ∀ (h : cH) (z : cZ) (pv : Nat → Int32) (x3 : Int32), K77 h z pv x3 = some (h', z', pv') → cle h h') (ad : Nat → Nat) (ea : Nat → Nat) (h : cH) (z : cZ) (pv : Nat → Int32) (x3 : Int32) (H : Heap) (locs : List Loc) (ls : Array Slot) (hle : cle h0 h) (hl : lv_has ls 4 [(0, .ref qp), (3, .int x3)]) (hw : cWd g A0 s.heap qq ad ea h (pcell qp qq pv :: X) z H locs) (hf : jP_keep_108 K77 h z pv x3 = some (h', z', pv')) : cGa p l e (rmA frP_keep loP_keep h0 h') s m args below meth c g qq A0 False ea0 rv (pcell qp qq pv' :: X) h' z' H locs (h.2.2.1 - h0.2.2.1) (h.2.2.2 - h0.2.2.2) (F0 m 108 ls []) := by
  have hmn := oP_keep_108 hM77 h z pv x3 hf
  have hroom : h.2.2.1 - h0.2.2.1 + 0 ≤ (rmA frP_keep loP_keep h0 h').cells ∧ h.2.2.2 - h0.2.2.2 + 0 ≤ (rmA frP_keep loP_keep h0 h').slots := ⟨by have w := hmn.1; show _ ≤ h'.2.2.1 - h0.2.2.1; omega, by have w := hmn.2; show _ ≤ h'.2.2.2 - h0.2.2.2; omega⟩
  unfold jP_keep_108 at hf
  refine lv_iinc (v := x3 + 1) (lv' := [(3, .int (x3 + 1)), (0, .ref qp)]) C.1.1 C.1.2.1 dP_keep_108 hl (k := 1) rfl rfl (by decide) rfl (fun ls hl => ?_)
  refine lv_goto (tgt := 77) C.1.1 C.1.2.1 dP_keep_111 (by decide) ?_
  exact hK77 _ _ h z pv (x3 + 1) _ _ ls hle (lv_sub hl [1, 0] rfl) hw hf
set_option maxHeartbeats 4000000 in
set_option maxRecDepth 100000 in
theorem wP_keep_77 {p : Program} {l : Launch} {e : Env} {s : State} {m : MethodId} {args : Array Value} {below : List Frame} {meth : Method} {c : Code} {g : gT} {qq ea0 : Nat → Nat} {A0 : Nat → Prop} {h0 : cH} {X : va_W} {rv : (Nat → Nat) → Option Value} {qp : Nat} {pv' : Nat → Int32} {h' : cH} {z' : cZ} (C : mCx p m c cP_keep 4 s args g "MidiDesk$Parser") (hr : meth.sig.returnType = none) (hlk : meth.locks = false) (hrv : rv = fun ea => none) (k : Nat) : ∀ (ad : Nat → Nat) (ea : Nat → Nat) (h : cH) (z : cZ) (pv : Nat → Int32) (x3 : Int32) (H : Heap) (locs : List Loc) (ls : Array Slot), cle h0 h → lv_has ls 4 [(0, .ref qp), (3, .int x3)] → cWd g A0 s.heap qq ad ea h (pcell qp qq pv :: X) z H locs → lP_keep_77 k h z pv x3 = some (h', z', pv') → cGa p l e (rmA frP_keep loP_keep h0 h') s m args below meth c g qq A0 False ea0 rv (pcell qp qq pv' :: X) h' z' H locs (h.2.2.1 - h0.2.2.1) (h.2.2.2 - h0.2.2.2) (F0 m 77 ls []) := by
  induction k with
  | zero => intro ad ea h z pv x3 H locs ls hle hl hw hf; cases hf
  | succ k ih =>
    intro ad ea h z pv x3 H locs ls hle hl hw hf
    have hmn := oP_keep_77 (k + 1) h z pv x3 hf
    have hroom : h.2.2.1 - h0.2.2.1 + 0 ≤ (rmA frP_keep loP_keep h0 h').cells ∧ h.2.2.2 - h0.2.2.2 + 0 ≤ (rmA frP_keep loP_keep h0 h').slots := ⟨by have w := hmn.1; show _ ≤ h'.2.2.1 - h0.2.2.1; omega, by have w := hmn.2; show _ ≤ h'.2.2.2 - h0.2.2.2; omega⟩
    have hf : (if (pv 10) ≤ x3 then (some (h, z, pv)) else ((fB0_at h z ((pv 9) + x3)).bind fun (r2, z2) => (fB2_put h z2 r2).bind fun (hh3, z3) => jP_keep_108 (lP_keep_77 k) hh3 z3 pv x3)) = some (h', z', pv') := hf
    have ihm := oP_keep_77 k (h' := h') (z' := z') (pv' := pv')
    refine lv_iload_n C.1.1 C.1.2.1 dP_keep_77 rfl (lv_at hl 1 rfl) ?_
    refine lv_aload_n C.1.1 C.1.2.1 dP_keep_78 rfl (lv_at hl 0 rfl) ?_
    refine cg_Parser_Parser_size C hw dP_keep_79 ?_
    refine lv_icmp_ge (tgt := 114) C.1.1 C.1.2.1 dP_keep_82 (by decide) (fun c1 => ?_) (fun c1 => ?_)
    · have hf := ts_t hf c1
      obtain ⟨hf, hpv⟩ := pr4 hf
      exact c_retAv C hr hlk hrv (fun w => w.elim) hw hf (by rw [hpv]) (by cases hf; exact ⟨Nat.le_refl _, Nat.le_refl _⟩) dP_keep_114
    · have hf := ts_f hf c1
      refine lv_aload_n C.1.1 C.1.2.1 dP_keep_85 rfl (lv_at hl 0 rfl) ?_
      refine cg_Parser_Parser_score C hw dP_keep_86 ?_
      refine cg_Parser_Score_data C hw dP_keep_89 ?_
      refine lv_aload_n C.1.1 C.1.2.1 dP_keep_92 rfl (lv_at hl 0 rfl) ?_
      refine cg_Parser_Parser_input C hw dP_keep_93 ?_
      refine lv_aload_n C.1.1 C.1.2.1 dP_keep_96 rfl (lv_at hl 0 rfl) ?_
      refine cg_Parser_Parser_start C hw dP_keep_97 ?_
      refine lv_iload_n C.1.1 C.1.2.1 dP_keep_100 rfl (lv_at hl 1 rfl) ?_
      refine lv_iadd C.1.1 C.1.2.1 dP_keep_101 ?_
      obtain ⟨⟨r2, z2⟩, g2, hf⟩ := ts_b hf
      try dsimp only at hf
      refine c_callV (rest := [.ref (qq 3)]) (As := [.int ((pv 9) + x3)]) (rv := (some (.int r2))) (b := (qq 1)) C hl.1 hw (cB0_at_met g2) rfl (callW_of (rm := rB0_at) (C := "MidiDesk$Bytes") 1 C.1.2.2.2.2 gw_255 gw_256 gw_257 gw_53 gw_258 kB0_at ⟨Nat.le_of_ble_eq_true rfl, Nat.le_of_ble_eq_true rfl⟩) (c_recv_B0 C.2 hw) rfl rfl (Nat.le_of_ble_eq_true rfl) dP_keep_102 hroom (fun H locs hw => ?_)
      refine W.eq (g2 := F0 m 105 ls [.int r2, .ref (qq 3)]) rfl ?_
      refine W.widen (k := h.2.2.1 - h0.2.2.1) (n := h.2.2.2 - h0.2.2.2) (Nat.le_refl _) (Nat.le_refl _) ?_
      obtain ⟨⟨hh3, z3⟩, g3, hf⟩ := ts_b hf
      try dsimp only at hf
      have hm9 : cle hh3 h' := oP_keep_108 ihm _ _ _ _ hf
      have hm8 := oB2_put g3
      have hm91 := hm9.1
      have hm92 := hm9.2
      have hm81 := hm8.1
      have hm82 := hm8.2
      have hle1 := hle.1
      have hle2 := hle.2
      refine c_callAA (rest := []) (As := [.int r2]) (rv := fun ea => none) (b := (qq 3)) C hl.1 hw (cB2_put_met g3) (callW_of (rm := rmA frB2_put loB2_put h hh3) (C := "MidiDesk$Bytes") 1 C.1.2.2.2.2 gw_378 gw_160 gw_161 gw_53 gw_162 kB2_put ⟨Nat.le_of_ble_eq_true rfl, Nat.le_of_ble_eq_true rfl⟩) (c_recv_B2 C.2 hw) rfl rfl (Nat.le_of_ble_eq_true rfl) dP_keep_105 ⟨by show _ ≤ h'.2.2.1 - h0.2.2.1; omega, by show _ ≤ h'.2.2.2 - h0.2.2.2; omega⟩ (fun ad H locs hw => ?_)
      refine W.widen (k := hh3.2.2.1 - h0.2.2.1) (n := hh3.2.2.2 - h0.2.2.2) (by omega) (by omega) ?_
      refine W.eq (g2 := F0 m 108 ls []) rfl ?_
      exact wP_keep_108 C hr hlk hrv ih ihm _ _ hh3 z3 pv x3 _ _ ls (hle.tr (oB2_put g3)) (lv_sub hl [0, 1] rfl) hw hf
set_option maxHeartbeats 4000000 in
set_option maxRecDepth 100000 in
theorem wP_keep_15 {p : Program} {l : Launch} {e : Env} {s : State} {m : MethodId} {args : Array Value} {below : List Frame} {meth : Method} {c : Code} {g : gT} {qq ea0 : Nat → Nat} {A0 : Nat → Prop} {h0 : cH} {X : va_W} {rv : (Nat → Nat) → Option Value} {qp : Nat} {pv' : Nat → Int32} {h' : cH} {z' : cZ} (C : mCx p m c cP_keep 4 s args g "MidiDesk$Parser") (hr : meth.sig.returnType = none) (hlk : meth.locks = false) (hrv : rv = fun ea => none) (ad : Nat → Nat) (ea : Nat → Nat) (h : cH) (z : cZ) (pv : Nat → Int32) (x1 : Int32) (u0 : Option Nat) (H : Heap) (locs : List Loc) (ls : Array Slot) (hle : cle h0 h) (hl : lv_has ls 4 [(0, .ref qp), (1, .int x1)]) (hw : cWd g A0 s.heap qq ad ea h (pcell qp qq pv :: X) z H locs) (hf : jP_keep_15 h z pv x1 u0 = some (h', z', pv')) : cGa p l e (rmA frP_keep loP_keep h0 h') s m args below meth c g qq A0 False ea0 rv (pcell qp qq pv' :: X) h' z' H locs (h.2.2.1 - h0.2.2.1) (h.2.2.2 - h0.2.2.2) (F0 m 15 ls [va_rf (Option.map ea u0)]) := by
  have hmn := oP_keep_15 h z pv x1 u0 hf
  have hroom : h.2.2.1 - h0.2.2.1 + 0 ≤ (rmA frP_keep loP_keep h0 h').cells ∧ h.2.2.2 - h0.2.2.2 + 0 ≤ (rmA frP_keep loP_keep h0 h').slots := ⟨by have w := hmn.1; show _ ≤ h'.2.2.1 - h0.2.2.1; omega, by have w := hmn.2; show _ ≤ h'.2.2.2 - h0.2.2.2; omega⟩
  unfold jP_keep_15 at hf
  refine c_astore_n (lv' := [(2, va_rf (Option.map ea u0)), (0, .ref qp), (1, .int x1)]) C.1.1 C.1.2.1 dP_keep_15 rfl hl (by decide) rfl (fun ls hl => ?_)
  refine c_aload_n C.1.1 C.1.2.1 dP_keep_16 rfl (lv_at hl 0 rfl) ?_
  refine lv_aload_n C.1.1 C.1.2.1 dP_keep_17 rfl (lv_at hl 1 rfl) ?_
  refine cg_Parser_Parser_tick C hw dP_keep_18 ?_
  obtain ⟨j1, ho1, hf⟩ := ts_b hf
  try dsimp only at hf
  obtain ⟨hb1, hf⟩ := ts_g hf
  have hb1 := Nat.lt_of_not_le hb1
  refine cp_Parser_Event_tick C hw ho1 hb1 dP_keep_21 (fun H locs hw => ?_)
  refine c_aload_n C.1.1 C.1.2.1 dP_keep_24 rfl (lv_at hl 0 rfl) ?_
  refine lv_aload_n C.1.1 C.1.2.1 dP_keep_25 rfl (lv_at hl 1 rfl) ?_
  refine cg_Parser_Parser_tracksSeen C hw dP_keep_26 ?_
  refine cp_Parser_Event_track C hw ho1 hb1 dP_keep_29 (fun H locs hw => ?_)
  refine c_aload_n C.1.1 C.1.2.1 dP_keep_32 rfl (lv_at hl 0 rfl) ?_
  refine lv_iload_n C.1.1 C.1.2.1 dP_keep_33 rfl (lv_at hl 2 rfl) ?_
  refine cp_Parser_Event_status C hw ho1 hb1 dP_keep_34 (fun H locs hw => ?_)
  refine c_aload_n C.1.1 C.1.2.1 dP_keep_37 rfl (lv_at hl 0 rfl) ?_
  refine lv_aload_n C.1.1 C.1.2.1 dP_keep_38 rfl (lv_at hl 1 rfl) ?_
  refine cg_Parser_Parser_first C hw dP_keep_39 ?_
  refine cp_Parser_Event_first C hw ho1 hb1 dP_keep_42 (fun H locs hw => ?_)
  refine c_aload_n C.1.1 C.1.2.1 dP_keep_45 rfl (lv_at hl 0 rfl) ?_
  refine lv_aload_n C.1.1 C.1.2.1 dP_keep_46 rfl (lv_at hl 1 rfl) ?_
  refine cg_Parser_Parser_second C hw dP_keep_47 ?_
  refine cp_Parser_Event_second C hw ho1 hb1 dP_keep_50 (fun H locs hw => ?_)
  refine c_aload_n C.1.1 C.1.2.1 dP_keep_53 rfl (lv_at hl 0 rfl) ?_
  refine lv_aload_n C.1.1 C.1.2.1 dP_keep_54 rfl (lv_at hl 1 rfl) ?_
  refine cg_Parser_Parser_score C hw dP_keep_55 ?_
  refine cg_Parser_Score_data C hw dP_keep_58 ?_
  obtain ⟨⟨r2, z2⟩, g2, hf⟩ := ts_b hf
  try dsimp only at hf
  refine c_callV (rest := [va_rf (Option.map ea u0)]) (As := []) (rv := (some (.int r2))) (b := (qq 3)) C hl.1 hw (cB2_size_met g2) rfl (callW_of (rm := rB2_size) (C := "MidiDesk$Bytes") 0 C.1.2.2.2.2 gw_241 gw_156 gw_157 gw_53 gw_158 kB2_size ⟨Nat.le_of_ble_eq_true rfl, Nat.le_of_ble_eq_true rfl⟩) (c_recv_B2 C.2 hw) rfl rfl (by simp [rf_cat]) dP_keep_61 hroom (fun H locs hw => ?_)
  refine W.eq (g2 := F0 m 64 ls [.int r2, va_rf (Option.map ea u0)]) rfl ?_
  refine W.widen (k := h.2.2.1 - h0.2.2.1) (n := h.2.2.2 - h0.2.2.2) (Nat.le_refl _) (Nat.le_refl _) ?_
  refine cp_Parser_Event_start C hw ho1 hb1 dP_keep_64 (fun H locs hw => ?_)
  refine c_aload_n C.1.1 C.1.2.1 dP_keep_67 rfl (lv_at hl 0 rfl) ?_
  refine lv_aload_n C.1.1 C.1.2.1 dP_keep_68 rfl (lv_at hl 1 rfl) ?_
  refine cg_Parser_Parser_size C hw dP_keep_69 ?_
  refine cp_Parser_Event_size C hw ho1 hb1 dP_keep_72 (fun H locs hw => ?_)
  refine lv_iconst (v := (0 : Int32)) C.1.1 C.1.2.1 dP_keep_75 (by decide) ?_
  refine lv_istore_n (lv' := [(3, .int (0 : Int32)), (2, va_rf (Option.map ea u0)), (0, .ref qp), (1, .int x1)]) C.1.1 C.1.2.1 dP_keep_76 rfl hl (by decide) (by generalize Option.map ea u0 = oo; cases oo <;> rfl) (fun ls hl => ?_)
  exact wP_keep_77 C hr hlk hrv FU _ _ h (zE (zE z2 j1 5 r2) j1 6 (pv 10)) pv (0 : Int32) _ _ ls hle (lv_sub hl [2, 0] rfl) hw hf
set_option maxHeartbeats 4000000 in
set_option maxRecDepth 100000 in
theorem cP_keep_met {l : Launch} {g : gT} {qq ad ea : Nat → Nat} {h h' : cH} {X : va_W} {qp : Nat} {pv pv' : Nat → Int32} {z z' : cZ} {x1 : Int32} (hf : fP_keep h z pv x1 = some (h', z', pv')) : cMeA l yP_keep cP_keep 4 none frP_keep loP_keep g qq ad ea h (pcell qp qq pv :: X) z [.ref qp, .int x1] False (fun ea => none) (pcell qp qq pv' :: X) h' z' := by
  refine c_entryA (by decide) (Nat.le_of_ble_eq_true rfl) ?_
  intro p e s m args below meth c ls C hr hlk hnm hl hw
  have hrv : (fun ea => none : (Nat → Nat) → Option Value) = fun ea => none := rfl
  have C : mCx p m c cP_keep 4 s args g "MidiDesk$Parser" := C
  have hl : lv_has ls 4 [(0, .ref qp), (1, .int x1)] := hl
  generalize cA g qq ad ea h (pcell qp qq pv :: X) s.heap.size = A0 at hw ⊢
  have hle : cle h h := cle.rf
  have hmn := oP_keep hf
  have hroom : h.2.2.1 - h.2.2.1 + 0 ≤ (rmA frP_keep loP_keep h h').cells ∧ h.2.2.2 - h.2.2.2 + 0 ≤ (rmA frP_keep loP_keep h h').slots := ⟨by have w := hmn.1; show _ ≤ h'.2.2.1 - h.2.2.1; omega, by have w := hmn.2; show _ ≤ h'.2.2.2 - h.2.2.2; omega⟩
  unfold fP_keep at hf
  refine lv_aload_n C.1.1 C.1.2.1 dP_keep_0 rfl (lv_at hl 0 rfl) ?_
  refine cg_Parser_Parser_fault C hw dP_keep_1 ?_
  refine lv_if_eq (tgt := 8) C.1.1 C.1.2.1 dP_keep_4 (by decide) (fun c1 => ?_) (fun c1 => ?_)
  · have hf := ts_t hf c1
    refine lv_aload_n C.1.1 C.1.2.1 dP_keep_8 rfl (lv_at hl 0 rfl) ?_
    refine cg_Parser_Parser_score C hw dP_keep_9 ?_
    obtain ⟨⟨r2, hh2, z2⟩, g2, hf⟩ := ts_b hf
    try dsimp only at hf
    have hm9 : cle hh2 h' := oP_keep_15 _ _ _ _ _ hf
    have hm8 := oS_addEvent g2
    have hm91 := hm9.1
    have hm92 := hm9.2
    have hm81 := hm8.1
    have hm82 := hm8.2
    have hle1 := hle.1
    have hle2 := hle.2
    refine c_callA (rest := []) (As := []) (rv := fun ea => some (va_rf (Option.map ea r2))) (b := (qq 4)) C hl.1 hw (cS_addEvent_met g2) (callW_of (rm := rmA frS_addEvent loS_addEvent h hh2) (C := "MidiDesk$Score") 0 C.1.2.2.2.2 gw_321 gw_322 gw_323 gw_54 gw_324 kS_addEvent ⟨Nat.le_of_ble_eq_true rfl, Nat.le_of_ble_eq_true rfl⟩) (c_recv_score C.2 hw) rfl rfl (Nat.le_of_ble_eq_true rfl) dP_keep_12 ⟨by show _ ≤ h'.2.2.1 - h.2.2.1; omega, by show _ ≤ h'.2.2.2 - h.2.2.2; omega⟩ (fun ad ea H locs hea hw => ?_)
    refine W.widen (k := hh2.2.2.1 - h.2.2.1) (n := hh2.2.2.2 - h.2.2.2) (by omega) (by omega) ?_
    refine W.eq (g2 := F0 m 15 ls [va_rf (Option.map ea r2)]) rfl ?_
    exact wP_keep_15 C hr hlk hrv _ _ hh2 z2 pv x1 r2 _ _ ls (hle.tr (oS_addEvent g2)) (lv_sub hl [0, 1] rfl) hw hf
  · have hf := ts_f hf c1
    obtain ⟨hf, hpv⟩ := pr4 hf
    exact c_retAv C hr hlk hrv (fun w => w.elim) hw hf (by rw [hpv]) (by cases hf; exact ⟨Nat.le_refl _, Nat.le_refl _⟩) dP_keep_7
abbrev cP_oneEvent : ByteArray := prog_4_method_11_code
abbrev yP_oneEvent : MethodName := ⟨"MidiDesk$Parser", "oneEvent", "()V"⟩
theorem kP_oneEvent : yP_oneEvent.cls ≠ "java/lang/invoke/MethodHandle" ∧ yP_oneEvent.cls ≠ "java/lang/invoke/VarHandle" ∧ (parseMethodDescriptor yP_oneEvent.desc).map (fun d => d.parameters.length) = some 0 := by decide +kernel
abbrev frP_oneEvent : Nat := 4
abbrev loP_oneEvent : Nat := 106
theorem dP_oneEvent_0 : decode cP_oneEvent 0 = .ok (.aload_n 0, 1) := by decide +kernel
theorem dP_oneEvent_1 : decode cP_oneEvent 1 = .ok (.getfield 40, 3) := by decide +kernel
theorem dP_oneEvent_4 : decode cP_oneEvent 4 = .ok (.istore_n 1, 1) := by decide +kernel
theorem dP_oneEvent_5 : decode cP_oneEvent 5 = .ok (.aload_n 0, 1) := by decide +kernel
theorem dP_oneEvent_6 : decode cP_oneEvent 6 = .ok (.dup, 1) := by decide +kernel
theorem dP_oneEvent_7 : decode cP_oneEvent 7 = .ok (.getfield 93, 3) := by decide +kernel
theorem dP_oneEvent_10 : decode cP_oneEvent 10 = .ok (.aload_n 0, 1) := by decide +kernel
theorem dP_oneEvent_11 : decode cP_oneEvent 11 = .ok (.invokevirtual 105, 3) := by decide +kernel
theorem dP_oneEvent_14 : decode cP_oneEvent 14 = .ok (.iadd, 1) := by decide +kernel
theorem dP_oneEvent_15 : decode cP_oneEvent 15 = .ok (.putfield 93, 3) := by decide +kernel
theorem dP_oneEvent_18 : decode cP_oneEvent 18 = .ok (.aload_n 0, 1) := by decide +kernel
theorem dP_oneEvent_19 : decode cP_oneEvent 19 = .ok (.aload_n 0, 1) := by decide +kernel
theorem dP_oneEvent_20 : decode cP_oneEvent 20 = .ok (.getfield 93, 3) := by decide +kernel
theorem dP_oneEvent_23 : decode cP_oneEvent 23 = .ok (.ldc 108, 2) := by decide +kernel
theorem dP_oneEvent_25 : decode cP_oneEvent 25 = .ok (.if_icmp .gt 7, 3) := by decide +kernel
theorem dP_oneEvent_28 : decode cP_oneEvent 28 = .ok (.iconst 1, 1) := by decide +kernel
theorem dP_oneEvent_29 : decode cP_oneEvent 29 = .ok (.goto 4, 3) := by decide +kernel
theorem dP_oneEvent_32 : decode cP_oneEvent 32 = .ok (.iconst 0, 1) := by decide +kernel
theorem dP_oneEvent_33 : decode cP_oneEvent 33 = .ok (.bipush 11, 2) := by decide +kernel
theorem dP_oneEvent_35 : decode cP_oneEvent 35 = .ok (.iload_n 1, 1) := by decide +kernel
theorem dP_oneEvent_36 : decode cP_oneEvent 36 = .ok (.invokevirtual 56, 3) := by decide +kernel
theorem dP_oneEvent_39 : decode cP_oneEvent 39 = .ok (.aload_n 0, 1) := by decide +kernel
theorem dP_oneEvent_40 : decode cP_oneEvent 40 = .ok (.getfield 40, 3) := by decide +kernel
theorem dP_oneEvent_43 : decode cP_oneEvent 43 = .ok (.istore_n 2, 1) := by decide +kernel
theorem dP_oneEvent_44 : decode cP_oneEvent 44 = .ok (.aload_n 0, 1) := by decide +kernel
theorem dP_oneEvent_45 : decode cP_oneEvent 45 = .ok (.invokevirtual 109, 3) := by decide +kernel
theorem dP_oneEvent_48 : decode cP_oneEvent 48 = .ok (.istore_n 3, 1) := by decide +kernel
theorem dP_oneEvent_49 : decode cP_oneEvent 49 = .ok (.aload_n 0, 1) := by decide +kernel
theorem dP_oneEvent_50 : decode cP_oneEvent 50 = .ok (.getfield 37, 3) := by decide +kernel
theorem dP_oneEvent_53 : decode cP_oneEvent 53 = .ok (.ifCond .eq 4, 3) := by decide +kernel
theorem dP_oneEvent_56 : decode cP_oneEvent 56 = .ok (.return_, 1) := by decide +kernel
theorem dP_oneEvent_57 : decode cP_oneEvent 57 = .ok (.iload_n 3, 1) := by decide +kernel
theorem dP_oneEvent_58 : decode cP_oneEvent 58 = .ok (.sipush 240, 3) := by decide +kernel
theorem dP_oneEvent_61 : decode cP_oneEvent 61 = .ok (.if_icmp .ge 11, 3) := by decide +kernel
theorem dP_oneEvent_64 : decode cP_oneEvent 64 = .ok (.aload_n 0, 1) := by decide +kernel
theorem dP_oneEvent_65 : decode cP_oneEvent 65 = .ok (.iload_n 3, 1) := by decide +kernel
theorem dP_oneEvent_66 : decode cP_oneEvent 66 = .ok (.invokevirtual 112, 3) := by decide +kernel
theorem dP_oneEvent_69 : decode cP_oneEvent 69 = .ok (.goto 21, 3) := by decide +kernel
theorem dP_oneEvent_72 : decode cP_oneEvent 72 = .ok (.iload_n 3, 1) := by decide +kernel
theorem dP_oneEvent_73 : decode cP_oneEvent 73 = .ok (.sipush 255, 3) := by decide +kernel
theorem dP_oneEvent_76 : decode cP_oneEvent 76 = .ok (.if_icmp .ne 10, 3) := by decide +kernel
theorem dP_oneEvent_79 : decode cP_oneEvent 79 = .ok (.aload_n 0, 1) := by decide +kernel
theorem dP_oneEvent_80 : decode cP_oneEvent 80 = .ok (.invokevirtual 116, 3) := by decide +kernel
theorem dP_oneEvent_83 : decode cP_oneEvent 83 = .ok (.goto 7, 3) := by decide +kernel
theorem dP_oneEvent_86 : decode cP_oneEvent 86 = .ok (.aload_n 0, 1) := by decide +kernel
theorem dP_oneEvent_87 : decode cP_oneEvent 87 = .ok (.invokevirtual 119, 3) := by decide +kernel
theorem dP_oneEvent_90 : decode cP_oneEvent 90 = .ok (.aload_n 0, 1) := by decide +kernel
theorem dP_oneEvent_91 : decode cP_oneEvent 91 = .ok (.getfield 99, 3) := by decide +kernel
theorem dP_oneEvent_94 : decode cP_oneEvent 94 = .ok (.ifCond .ne 26, 3) := by decide +kernel
theorem dP_oneEvent_97 : decode cP_oneEvent 97 = .ok (.aload_n 0, 1) := by decide +kernel
theorem dP_oneEvent_98 : decode cP_oneEvent 98 = .ok (.aload_n 0, 1) := by decide +kernel
theorem dP_oneEvent_99 : decode cP_oneEvent 99 = .ok (.getfield 15, 3) := by decide +kernel
theorem dP_oneEvent_102 : decode cP_oneEvent 102 = .ok (.aload_n 0, 1) := by decide +kernel
theorem dP_oneEvent_103 : decode cP_oneEvent 103 = .ok (.getfield 122, 3) := by decide +kernel
theorem dP_oneEvent_106 : decode cP_oneEvent 106 = .ok (.invokevirtual 124, 3) := by decide +kernel
theorem dP_oneEvent_109 : decode cP_oneEvent 109 = .ok (.bipush 9, 2) := by decide +kernel
theorem dP_oneEvent_111 : decode cP_oneEvent 111 = .ok (.iload_n 2, 1) := by decide +kernel
theorem dP_oneEvent_112 : decode cP_oneEvent 112 = .ok (.invokevirtual 56, 3) := by decide +kernel
theorem dP_oneEvent_115 : decode cP_oneEvent 115 = .ok (.aload_n 0, 1) := by decide +kernel
theorem dP_oneEvent_116 : decode cP_oneEvent 116 = .ok (.iload_n 3, 1) := by decide +kernel
theorem dP_oneEvent_117 : decode cP_oneEvent 117 = .ok (.invokevirtual 127, 3) := by decide +kernel
theorem dP_oneEvent_120 : decode cP_oneEvent 120 = .ok (.return_, 1) := by decide +kernel
noncomputable def jP_oneEvent_120 (h : cH) (z : cZ) (pv : Nat → Int32) : Option (cH × cZ × (Nat → Int32)) := some (h, z, pv)
set_option maxHeartbeats 4000000 in
set_option maxRecDepth 100000 in
theorem oP_oneEvent_120 {h' : cH} {z' : cZ} {pv' : Nat → Int32} (h : cH) (z : cZ) (pv : Nat → Int32) (hf : jP_oneEvent_120 h z pv = some (h', z', pv')) : cle h h' := by
  unfold jP_oneEvent_120 at hf
  cases hf
  exact cle.rf
noncomputable def jP_oneEvent_90 (h : cH) (z : cZ) (pv : Nat → Int32) (x2 : Int32) (x3 : Int32) : Option (cH × cZ × (Nat → Int32)) := if (pv 6) = 0 then ((fS_hasRoomFor h z (pv 10)).bind fun (r2, z2) => (fP_expect h z2 pv r2 (9 : Int32) x2).bind fun (z3, pv3) => (fP_keep h z3 pv3 x3).bind fun (hh4, z4, pv4) => jP_oneEvent_120 hh4 z4 pv4) else (jP_oneEvent_120 h z pv)
set_option maxHeartbeats 4000000 in
set_option maxRecDepth 100000 in
theorem oP_oneEvent_90 {h' : cH} {z' : cZ} {pv' : Nat → Int32} (h : cH) (z : cZ) (pv : Nat → Int32) (x2 : Int32) (x3 : Int32) (hf : jP_oneEvent_90 h z pv x2 x3 = some (h', z', pv')) : cle h h' := by
  unfold jP_oneEvent_90 at hf
  rcases (Decidable.em ((pv 6) = 0)).symm with c1 | c1
  · have hf := ts_f hf c1
    exact oP_oneEvent_120 h z pv hf
  · have hf := ts_t hf c1
    obtain ⟨⟨r2, z2⟩, g2, hf⟩ := ts_b hf
    try dsimp only at hf
    obtain ⟨⟨z3, pv3⟩, g3, hf⟩ := ts_b hf
    try dsimp only at hf
    obtain ⟨⟨hh4, z4, pv4⟩, g4, hf⟩ := ts_b hf
    try dsimp only at hf
    exact cle.tr (oP_keep g4) (oP_oneEvent_120 hh4 z4 pv4 hf)
noncomputable def jP_oneEvent_33 (h : cH) (z : cZ) (pv : Nat → Int32) (x1 : Int32) (s1 : Int32) : Option (cH × cZ × (Nat → Int32)) := (fP_expect h z pv s1 (11 : Int32) x1).bind fun (z1, pv1) => (fP_status h z1 pv1).bind fun (r2, z2, pv2) => if (pv2 2) = 0 then (if (240 : Int32) ≤ r2 then (if r2 = (255 : Int32) then ((fP_metaEvent h z2 pv2).bind fun (z7, pv7) => jP_oneEvent_90 h z7 pv7 (pv1 0) r2) else ((fP_exclusiveEvent h z2 pv2).bind fun (z6, pv6) => jP_oneEvent_90 h z6 pv6 (pv1 0) r2)) else ((fP_channelEvent h z2 pv2 r2).bind fun (z8, pv8) => jP_oneEvent_90 h z8 pv8 (pv1 0) r2)) else (some (h, z2, pv2))
set_option maxHeartbeats 4000000 in
set_option maxRecDepth 100000 in
theorem oP_oneEvent_33 {h' : cH} {z' : cZ} {pv' : Nat → Int32} (h : cH) (z : cZ) (pv : Nat → Int32) (x1 : Int32) (s1 : Int32) (hf : jP_oneEvent_33 h z pv x1 s1 = some (h', z', pv')) : cle h h' := by
  unfold jP_oneEvent_33 at hf
  obtain ⟨⟨z1, pv1⟩, g1, hf⟩ := ts_b hf
  try dsimp only at hf
  obtain ⟨⟨r2, z2, pv2⟩, g2, hf⟩ := ts_b hf
  try dsimp only at hf
  rcases Decidable.em ((pv2 2) = 0) with c3 | c3
  · have hf := ts_t hf c3
    rcases Decidable.em ((240 : Int32) ≤ r2) with c4 | c4
    · have hf := ts_t hf c4
      rcases (Decidable.em (r2 = (255 : Int32))).symm with c5 | c5
      · have hf := ts_f hf c5
        obtain ⟨⟨z6, pv6⟩, g6, hf⟩ := ts_b hf
        try dsimp only at hf
        exact oP_oneEvent_90 h z6 pv6 (pv1 0) r2 hf
      · have hf := ts_t hf c5
        obtain ⟨⟨z7, pv7⟩, g7, hf⟩ := ts_b hf
        try dsimp only at hf
        exact oP_oneEvent_90 h z7 pv7 (pv1 0) r2 hf
    · have hf := ts_f hf c4
      obtain ⟨⟨z8, pv8⟩, g8, hf⟩ := ts_b hf
      try dsimp only at hf
      exact oP_oneEvent_90 h z8 pv8 (pv1 0) r2 hf
  · have hf := ts_f hf c3
    cases hf
    exact cle.rf
noncomputable def fP_oneEvent (h : cH) (z : cZ) (pv : Nat → Int32) : Option (cH × cZ × (Nat → Int32)) := (fP_number h z pv).bind fun (r1, z1, pv1) => if (268435455 : Int32) < ((upd pv1 4 ((pv 4) + r1)) 4) then (jP_oneEvent_33 h z1 (upd pv1 4 ((pv 4) + r1)) (pv 0) (0 : Int32)) else (jP_oneEvent_33 h z1 (upd pv1 4 ((pv 4) + r1)) (pv 0) (1 : Int32))
set_option maxHeartbeats 4000000 in
set_option maxRecDepth 100000 in
theorem oP_oneEvent {h' : cH} {z' : cZ} {pv' : Nat → Int32} {h : cH} {z : cZ} {pv : Nat → Int32} (hf : fP_oneEvent h z pv = some (h', z', pv')) : cle h h' := by
  unfold fP_oneEvent at hf
  obtain ⟨⟨r1, z1, pv1⟩, g1, hf⟩ := ts_b hf
  try dsimp only at hf
  rcases Decidable.em ((268435455 : Int32) < ((upd pv1 4 ((pv 4) + r1)) 4)) with c2 | c2
  · have hf := ts_t hf c2
    exact oP_oneEvent_33 h z1 (upd pv1 4 ((pv 4) + r1)) (pv 0) (0 : Int32) hf
  · have hf := ts_f hf c2
    exact oP_oneEvent_33 h z1 (upd pv1 4 ((pv 4) + r1)) (pv 0) (1 : Int32) hf
set_option maxHeartbeats 4000000 in
set_option maxRecDepth 100000 in
theorem wP_oneEvent_120 {p : Program} {l : Launch} {e : Env} {s : State} {m : MethodId} {args : Array Value} {below : List Frame} {meth : Method} {c : Code} {g : gT} {qq ea0 : Nat → Nat} {A0 : Nat → Prop} {h0 : cH} {X : va_W} {rv : (Nat → Nat) → Option Value} {qp : Nat} {pv' : Nat → Int32} {h' : cH} {z' : cZ} (C : mCx p m c cP_oneEvent 4 s args g "MidiDesk$Parser") (hr : meth.sig.returnType = none) (hlk : meth.locks = false) (hrv : rv = fun ea => none) (ad : Nat → Nat) (ea : Nat → Nat) (h : cH) (z : cZ) (pv : Nat → Int32) (H : Heap) (locs : List Loc) (ls : Array Slot) (hle : cle h0 h) (hl : lv_has ls 4 [(0, .ref qp)]) (hw : cWd g A0 s.heap qq ad ea h (pcell qp qq pv :: X) z H locs) (hf : jP_oneEvent_120 h z pv = some (h', z', pv')) : cGa p l e (rmA frP_oneEvent loP_oneEvent h0 h') s m args below meth c g qq A0 False ea0 rv (pcell qp qq pv' :: X) h' z' H locs (h.2.2.1 - h0.2.2.1) (h.2.2.2 - h0.2.2.2) (F0 m 120 ls []) := by
  have hmn := oP_oneEvent_120 h z pv hf
  have hroom : h.2.2.1 - h0.2.2.1 + 0 ≤ (rmA frP_oneEvent loP_oneEvent h0 h').cells ∧ h.2.2.2 - h0.2.2.2 + 0 ≤ (rmA frP_oneEvent loP_oneEvent h0 h').slots := ⟨by have w := hmn.1; show _ ≤ h'.2.2.1 - h0.2.2.1; omega, by have w := hmn.2; show _ ≤ h'.2.2.2 - h0.2.2.2; omega⟩
  unfold jP_oneEvent_120 at hf
  obtain ⟨hf, hpv⟩ := pr4 hf
  exact c_retAv C hr hlk hrv (fun w => w.elim) hw hf (by rw [hpv]) (by cases hf; exact ⟨Nat.le_refl _, Nat.le_refl _⟩) dP_oneEvent_120
set_option maxHeartbeats 4000000 in
set_option maxRecDepth 100000 in
theorem wP_oneEvent_90 {p : Program} {l : Launch} {e : Env} {s : State} {m : MethodId} {args : Array Value} {below : List Frame} {meth : Method} {c : Code} {g : gT} {qq ea0 : Nat → Nat} {A0 : Nat → Prop} {h0 : cH} {X : va_W} {rv : (Nat → Nat) → Option Value} {qp : Nat} {pv' : Nat → Int32} {h' : cH} {z' : cZ} (C : mCx p m c cP_oneEvent 4 s args g "MidiDesk$Parser") (hr : meth.sig.returnType = none) (hlk : meth.locks = false) (hrv : rv = fun ea => none) (ad : Nat → Nat) (ea : Nat → Nat) (h : cH) (z : cZ) (pv : Nat → Int32) (x2 : Int32) (x3 : Int32) (H : Heap) (locs : List Loc) (ls : Array Slot) (hle : cle h0 h) (hl : lv_has ls 4 [(0, .ref qp), (2, .int x2), (3, .int x3)]) (hw : cWd g A0 s.heap qq ad ea h (pcell qp qq pv :: X) z H locs) (hf : jP_oneEvent_90 h z pv x2 x3 = some (h', z', pv')) : cGa p l e (rmA frP_oneEvent loP_oneEvent h0 h') s m args below meth c g qq A0 False ea0 rv (pcell qp qq pv' :: X) h' z' H locs (h.2.2.1 - h0.2.2.1) (h.2.2.2 - h0.2.2.2) (F0 m 90 ls []) := by
  have hmn := oP_oneEvent_90 h z pv x2 x3 hf
  have hroom : h.2.2.1 - h0.2.2.1 + 0 ≤ (rmA frP_oneEvent loP_oneEvent h0 h').cells ∧ h.2.2.2 - h0.2.2.2 + 0 ≤ (rmA frP_oneEvent loP_oneEvent h0 h').slots := ⟨by have w := hmn.1; show _ ≤ h'.2.2.1 - h0.2.2.1; omega, by have w := hmn.2; show _ ≤ h'.2.2.2 - h0.2.2.2; omega⟩
  unfold jP_oneEvent_90 at hf
  refine lv_aload_n C.1.1 C.1.2.1 dP_oneEvent_90 rfl (lv_at hl 0 rfl) ?_
  refine cg_Parser_Parser_ended C hw dP_oneEvent_91 ?_
  refine lv_if_ne (tgt := 120) C.1.1 C.1.2.1 dP_oneEvent_94 (by decide) (fun c1 => ?_) (fun c1 => ?_)
  · have hf := ts_f hf c1
    exact wP_oneEvent_120 C hr hlk hrv _ _ h z pv _ _ ls hle (lv_sub hl [0] rfl) hw hf
  · have hf := ts_t hf c1
    refine lv_aload_n C.1.1 C.1.2.1 dP_oneEvent_97 rfl (lv_at hl 0 rfl) ?_
    refine lv_aload_n C.1.1 C.1.2.1 dP_oneEvent_98 rfl (lv_at hl 0 rfl) ?_
    refine cg_Parser_Parser_score C hw dP_oneEvent_99 ?_
    refine lv_aload_n C.1.1 C.1.2.1 dP_oneEvent_102 rfl (lv_at hl 0 rfl) ?_
    refine cg_Parser_Parser_size C hw dP_oneEvent_103 ?_
    obtain ⟨⟨r2, z2⟩, g2, hf⟩ := ts_b hf
    try dsimp only at hf
    refine c_callV (rest := [.ref qp]) (As := [.int (pv 10)]) (rv := (some (.int r2))) (b := (qq 4)) C hl.1 hw (cS_hasRoomFor_met g2) rfl (callW_of (rm := rS_hasRoomFor) (C := "MidiDesk$Score") 1 C.1.2.2.2.2 gw_309 gw_310 gw_311 gw_54 gw_312 kS_hasRoomFor ⟨Nat.le_of_ble_eq_true rfl, Nat.le_of_ble_eq_true rfl⟩) (c_recv_score C.2 hw) rfl rfl (Nat.le_of_ble_eq_true rfl) dP_oneEvent_106 hroom (fun H locs hw => ?_)
    refine W.eq (g2 := F0 m 109 ls [.int r2, .ref qp]) rfl ?_
    refine W.widen (k := h.2.2.1 - h0.2.2.1) (n := h.2.2.2 - h0.2.2.2) (Nat.le_refl _) (Nat.le_refl _) ?_
    refine lv_bipush (v := (9 : Int32)) C.1.1 C.1.2.1 dP_oneEvent_109 (by decide) ?_
    refine lv_iload_n C.1.1 C.1.2.1 dP_oneEvent_111 rfl (lv_at hl 1 rfl) ?_
    obtain ⟨⟨z3, pv3⟩, g3, hf⟩ := ts_b hf
    try dsimp only at hf
    refine c_callV (rest := []) (As := [.int r2, .int (9 : Int32), .int x2]) (rv := none) (b := qp) C hl.1 hw (cP_expect_met g3) rfl (callW_of (rm := rP_expect) (C := "MidiDesk$Parser") 3 C.1.2.2.2.2 gw_250 gw_252 gw_2 gw_59 gw_253 kP_expect ⟨Nat.le_of_ble_eq_true rfl, Nat.le_of_ble_eq_true rfl⟩) (c_recvX (ci := 2) C.2 rfl hw) rfl rfl (Nat.le_of_ble_eq_true rfl) dP_oneEvent_112 hroom (fun H locs hw => ?_)
    refine W.eq (g2 := F0 m 115 ls []) rfl ?_
    refine W.widen (k := h.2.2.1 - h0.2.2.1) (n := h.2.2.2 - h0.2.2.2) (Nat.le_refl _) (Nat.le_refl _) ?_
    refine lv_aload_n C.1.1 C.1.2.1 dP_oneEvent_115 rfl (lv_at hl 0 rfl) ?_
    refine lv_iload_n C.1.1 C.1.2.1 dP_oneEvent_116 rfl (lv_at hl 2 rfl) ?_
    obtain ⟨⟨hh4, z4, pv4⟩, g4, hf⟩ := ts_b hf
    try dsimp only at hf
    have hm9 : cle hh4 h' := oP_oneEvent_120 _ _ _ hf
    have hm8 := oP_keep g4
    have hm91 := hm9.1
    have hm92 := hm9.2
    have hm81 := hm8.1
    have hm82 := hm8.2
    have hle1 := hle.1
    have hle2 := hle.2
    refine c_callA (rest := []) (As := [.int x3]) (rv := fun ea => none) (b := qp) C hl.1 hw (cP_keep_met g4) (callW_of (rm := rmA frP_keep loP_keep h hh4) (C := "MidiDesk$Parser") 1 C.1.2.2.2.2 gw_317 gw_319 gw_13 gw_59 gw_320 kP_keep ⟨Nat.le_of_ble_eq_true rfl, Nat.le_of_ble_eq_true rfl⟩) (c_recvX (ci := 2) C.2 rfl hw) rfl rfl (Nat.le_of_ble_eq_true rfl) dP_oneEvent_117 ⟨by show _ ≤ h'.2.2.1 - h0.2.2.1; omega, by show _ ≤ h'.2.2.2 - h0.2.2.2; omega⟩ (fun ad ea H locs hea hw => ?_)
    refine W.widen (k := hh4.2.2.1 - h0.2.2.1) (n := hh4.2.2.2 - h0.2.2.2) (by omega) (by omega) ?_
    refine W.eq (g2 := F0 m 120 ls []) rfl ?_
    exact wP_oneEvent_120 C hr hlk hrv _ _ hh4 z4 pv4 _ _ ls (hle.tr (oP_keep g4)) (lv_sub hl [0] rfl) hw hf
set_option maxHeartbeats 4000000 in
set_option maxRecDepth 100000 in
theorem wP_oneEvent_33 {p : Program} {l : Launch} {e : Env} {s : State} {m : MethodId} {args : Array Value} {below : List Frame} {meth : Method} {c : Code} {g : gT} {qq ea0 : Nat → Nat} {A0 : Nat → Prop} {h0 : cH} {X : va_W} {rv : (Nat → Nat) → Option Value} {qp : Nat} {pv' : Nat → Int32} {h' : cH} {z' : cZ} (C : mCx p m c cP_oneEvent 4 s args g "MidiDesk$Parser") (hr : meth.sig.returnType = none) (hlk : meth.locks = false) (hrv : rv = fun ea => none) (ad : Nat → Nat) (ea : Nat → Nat) (h : cH) (z : cZ) (pv : Nat → Int32) (x1 : Int32) (s1 : Int32) (H : Heap) (locs : List Loc) (ls : Array Slot) (hle : cle h0 h) (hl : lv_has ls 4 [(0, .ref qp), (1, .int x1)]) (hw : cWd g A0 s.heap qq ad ea h (pcell qp qq pv :: X) z H locs) (hf : jP_oneEvent_33 h z pv x1 s1 = some (h', z', pv')) : cGa p l e (rmA frP_oneEvent loP_oneEvent h0 h') s m args below meth c g qq A0 False ea0 rv (pcell qp qq pv' :: X) h' z' H locs (h.2.2.1 - h0.2.2.1) (h.2.2.2 - h0.2.2.2) (F0 m 33 ls [.int s1, .ref qp]) := by
  have hmn := oP_oneEvent_33 h z pv x1 s1 hf
  have hroom : h.2.2.1 - h0.2.2.1 + 0 ≤ (rmA frP_oneEvent loP_oneEvent h0 h').cells ∧ h.2.2.2 - h0.2.2.2 + 0 ≤ (rmA frP_oneEvent loP_oneEvent h0 h').slots := ⟨by have w := hmn.1; show _ ≤ h'.2.2.1 - h0.2.2.1; omega, by have w := hmn.2; show _ ≤ h'.2.2.2 - h0.2.2.2; omega⟩
  unfold jP_oneEvent_33 at hf
  refine lv_bipush (v := (11 : Int32)) C.1.1 C.1.2.1 dP_oneEvent_33 (by decide) ?_
  refine lv_iload_n C.1.1 C.1.2.1 dP_oneEvent_35 rfl (lv_at hl 1 rfl) ?_
  obtain ⟨⟨z1, pv1⟩, g1, hf⟩ := ts_b hf
  try dsimp only at hf
  refine c_callV (rest := []) (As := [.int s1, .int (11 : Int32), .int x1]) (rv := none) (b := qp) C hl.1 hw (cP_expect_met g1) rfl (callW_of (rm := rP_expect) (C := "MidiDesk$Parser") 3 C.1.2.2.2.2 gw_250 gw_252 gw_2 gw_59 gw_253 kP_expect ⟨Nat.le_of_ble_eq_true rfl, Nat.le_of_ble_eq_true rfl⟩) (c_recvX (ci := 2) C.2 rfl hw) rfl rfl (Nat.le_of_ble_eq_true rfl) dP_oneEvent_36 hroom (fun H locs hw => ?_)
  refine W.eq (g2 := F0 m 39 ls []) rfl ?_
  refine W.widen (k := h.2.2.1 - h0.2.2.1) (n := h.2.2.2 - h0.2.2.2) (Nat.le_refl _) (Nat.le_refl _) ?_
  refine lv_aload_n C.1.1 C.1.2.1 dP_oneEvent_39 rfl (lv_at hl 0 rfl) ?_
  refine cg_Parser_Parser_pos C hw dP_oneEvent_40 ?_
  refine lv_istore_n (lv' := [(2, .int (pv1 0)), (0, .ref qp), (1, .int x1)]) C.1.1 C.1.2.1 dP_oneEvent_43 rfl hl (by decide) rfl (fun ls hl => ?_)
  refine lv_aload_n C.1.1 C.1.2.1 dP_oneEvent_44 rfl (lv_at hl 1 rfl) ?_
  obtain ⟨⟨r2, z2, pv2⟩, g2, hf⟩ := ts_b hf
  try dsimp only at hf
  refine c_callV (rest := []) (As := []) (rv := (some (.int r2))) (b := qp) C hl.1 hw (cP_status_met g2) rfl (callW_of (rm := rP_status) (C := "MidiDesk$Parser") 0 C.1.2.2.2.2 gw_282 gw_284 gw_7 gw_59 gw_285 kP_status ⟨Nat.le_of_ble_eq_true rfl, Nat.le_of_ble_eq_true rfl⟩) (c_recvX (ci := 2) C.2 rfl hw) rfl rfl (Nat.le_of_ble_eq_true rfl) dP_oneEvent_45 hroom (fun H locs hw => ?_)
  refine W.eq (g2 := F0 m 48 ls [.int r2]) rfl ?_
  refine W.widen (k := h.2.2.1 - h0.2.2.1) (n := h.2.2.2 - h0.2.2.2) (Nat.le_refl _) (Nat.le_refl _) ?_
  refine lv_istore_n (lv' := [(3, .int r2), (2, .int (pv1 0)), (0, .ref qp), (1, .int x1)]) C.1.1 C.1.2.1 dP_oneEvent_48 rfl hl (by decide) rfl (fun ls hl => ?_)
  refine lv_aload_n C.1.1 C.1.2.1 dP_oneEvent_49 rfl (lv_at hl 2 rfl) ?_
  refine cg_Parser_Parser_fault C hw dP_oneEvent_50 ?_
  refine lv_if_eq (tgt := 57) C.1.1 C.1.2.1 dP_oneEvent_53 (by decide) (fun c3 => ?_) (fun c3 => ?_)
  · have hf := ts_t hf c3
    refine lv_iload_n C.1.1 C.1.2.1 dP_oneEvent_57 rfl (lv_at hl 0 rfl) ?_
    refine lv_sipush (v := (240 : Int32)) C.1.1 C.1.2.1 dP_oneEvent_58 (by decide) ?_
    refine lv_icmp_ge (tgt := 72) C.1.1 C.1.2.1 dP_oneEvent_61 (by decide) (fun c4 => ?_) (fun c4 => ?_)
    · have hf := ts_t hf c4
      refine lv_iload_n C.1.1 C.1.2.1 dP_oneEvent_72 rfl (lv_at hl 0 rfl) ?_
      refine lv_sipush (v := (255 : Int32)) C.1.1 C.1.2.1 dP_oneEvent_73 (by decide) ?_
      refine lv_icmp_ne (tgt := 86) C.1.1 C.1.2.1 dP_oneEvent_76 (by decide) (fun c5 => ?_) (fun c5 => ?_)
      · have hf := ts_f hf c5
        refine lv_aload_n C.1.1 C.1.2.1 dP_oneEvent_86 rfl (lv_at hl 2 rfl) ?_
        obtain ⟨⟨z6, pv6⟩, g6, hf⟩ := ts_b hf
        try dsimp only at hf
        refine c_callV (rest := []) (As := []) (rv := none) (b := qp) C hl.1 hw (cP_exclusiveEvent_met g6) rfl (callW_of (rm := rP_exclusiveEvent) (C := "MidiDesk$Parser") 0 C.1.2.2.2.2 gw_305 gw_307 gw_12 gw_59 gw_308 kP_exclusiveEvent ⟨Nat.le_of_ble_eq_true rfl, Nat.le_of_ble_eq_true rfl⟩) (c_recvX (ci := 2) C.2 rfl hw) rfl rfl (Nat.le_of_ble_eq_true rfl) dP_oneEvent_87 hroom (fun H locs hw => ?_)
        refine W.eq (g2 := F0 m 90 ls []) rfl ?_
        refine W.widen (k := h.2.2.1 - h0.2.2.1) (n := h.2.2.2 - h0.2.2.2) (Nat.le_refl _) (Nat.le_refl _) ?_
        exact wP_oneEvent_90 C hr hlk hrv _ _ h z6 pv6 (pv1 0) r2 _ _ ls hle (lv_sub hl [2, 1, 0] rfl) hw hf
      · have hf := ts_t hf c5
        refine lv_aload_n C.1.1 C.1.2.1 dP_oneEvent_79 rfl (lv_at hl 2 rfl) ?_
        obtain ⟨⟨z7, pv7⟩, g7, hf⟩ := ts_b hf
        try dsimp only at hf
        refine c_callV (rest := []) (As := []) (rv := none) (b := qp) C hl.1 hw (cP_metaEvent_met g7) rfl (callW_of (rm := rP_metaEvent) (C := "MidiDesk$Parser") 0 C.1.2.2.2.2 gw_297 gw_299 gw_10 gw_59 gw_300 kP_metaEvent ⟨Nat.le_of_ble_eq_true rfl, Nat.le_of_ble_eq_true rfl⟩) (c_recvX (ci := 2) C.2 rfl hw) rfl rfl (Nat.le_of_ble_eq_true rfl) dP_oneEvent_80 hroom (fun H locs hw => ?_)
        refine W.eq (g2 := F0 m 83 ls []) rfl ?_
        refine W.widen (k := h.2.2.1 - h0.2.2.1) (n := h.2.2.2 - h0.2.2.2) (Nat.le_refl _) (Nat.le_refl _) ?_
        refine lv_goto (tgt := 90) C.1.1 C.1.2.1 dP_oneEvent_83 (by decide) ?_
        exact wP_oneEvent_90 C hr hlk hrv _ _ h z7 pv7 (pv1 0) r2 _ _ ls hle (lv_sub hl [2, 1, 0] rfl) hw hf
    · have hf := ts_f hf c4
      refine lv_aload_n C.1.1 C.1.2.1 dP_oneEvent_64 rfl (lv_at hl 2 rfl) ?_
      refine lv_iload_n C.1.1 C.1.2.1 dP_oneEvent_65 rfl (lv_at hl 0 rfl) ?_
      obtain ⟨⟨z8, pv8⟩, g8, hf⟩ := ts_b hf
      try dsimp only at hf
      refine c_callV (rest := []) (As := [.int r2]) (rv := none) (b := qp) C hl.1 hw (cP_channelEvent_met g8) rfl (callW_of (rm := rP_channelEvent) (C := "MidiDesk$Parser") 1 C.1.2.2.2.2 gw_286 gw_288 gw_8 gw_59 gw_289 kP_channelEvent ⟨Nat.le_of_ble_eq_true rfl, Nat.le_of_ble_eq_true rfl⟩) (c_recvX (ci := 2) C.2 rfl hw) rfl rfl (Nat.le_of_ble_eq_true rfl) dP_oneEvent_66 hroom (fun H locs hw => ?_)
      refine W.eq (g2 := F0 m 69 ls []) rfl ?_
      refine W.widen (k := h.2.2.1 - h0.2.2.1) (n := h.2.2.2 - h0.2.2.2) (Nat.le_refl _) (Nat.le_refl _) ?_
      refine lv_goto (tgt := 90) C.1.1 C.1.2.1 dP_oneEvent_69 (by decide) ?_
      exact wP_oneEvent_90 C hr hlk hrv _ _ h z8 pv8 (pv1 0) r2 _ _ ls hle (lv_sub hl [2, 1, 0] rfl) hw hf
  · have hf := ts_f hf c3
    obtain ⟨hf, hpv⟩ := pr4 hf
    exact c_retAv C hr hlk hrv (fun w => w.elim) hw hf (by rw [hpv]) (by cases hf; exact ⟨Nat.le_refl _, Nat.le_refl _⟩) dP_oneEvent_56
set_option maxHeartbeats 4000000 in
set_option maxRecDepth 100000 in
theorem cP_oneEvent_met {l : Launch} {g : gT} {qq ad ea : Nat → Nat} {h h' : cH} {X : va_W} {qp : Nat} {pv pv' : Nat → Int32} {z z' : cZ} (hf : fP_oneEvent h z pv = some (h', z', pv')) : cMeA l yP_oneEvent cP_oneEvent 4 none frP_oneEvent loP_oneEvent g qq ad ea h (pcell qp qq pv :: X) z [.ref qp] False (fun ea => none) (pcell qp qq pv' :: X) h' z' := by
  refine c_entryA (by decide) (Nat.le_of_ble_eq_true rfl) ?_
  intro p e s m args below meth c ls C hr hlk hnm hl hw
  have hrv : (fun ea => none : (Nat → Nat) → Option Value) = fun ea => none := rfl
  have C : mCx p m c cP_oneEvent 4 s args g "MidiDesk$Parser" := C
  have hl : lv_has ls 4 [(0, .ref qp)] := hl
  generalize cA g qq ad ea h (pcell qp qq pv :: X) s.heap.size = A0 at hw ⊢
  have hle : cle h h := cle.rf
  have hmn := oP_oneEvent hf
  have hroom : h.2.2.1 - h.2.2.1 + 0 ≤ (rmA frP_oneEvent loP_oneEvent h h').cells ∧ h.2.2.2 - h.2.2.2 + 0 ≤ (rmA frP_oneEvent loP_oneEvent h h').slots := ⟨by have w := hmn.1; show _ ≤ h'.2.2.1 - h.2.2.1; omega, by have w := hmn.2; show _ ≤ h'.2.2.2 - h.2.2.2; omega⟩
  unfold fP_oneEvent at hf
  refine lv_aload_n C.1.1 C.1.2.1 dP_oneEvent_0 rfl (lv_at hl 0 rfl) ?_
  refine cg_Parser_Parser_pos C hw dP_oneEvent_1 ?_
  refine lv_istore_n (lv' := [(1, .int (pv 0)), (0, .ref qp)]) C.1.1 C.1.2.1 dP_oneEvent_4 rfl hl (by decide) rfl (fun ls hl => ?_)
  refine lv_aload_n C.1.1 C.1.2.1 dP_oneEvent_5 rfl (lv_at hl 1 rfl) ?_
  refine lv_dup C.1.1 C.1.2.1 dP_oneEvent_6 rfl ?_
  refine cg_Parser_Parser_tick C hw dP_oneEvent_7 ?_
  refine lv_aload_n C.1.1 C.1.2.1 dP_oneEvent_10 rfl (lv_at hl 1 rfl) ?_
  obtain ⟨⟨r1, z1, pv1⟩, g1, hf⟩ := ts_b hf
  try dsimp only at hf
  refine c_callV (rest := [.int (pv 4), .ref qp]) (As := []) (rv := (some (.int r1))) (b := qp) C hl.1 hw (cP_number_met g1) rfl (callW_of (rm := rP_number) (C := "MidiDesk$Parser") 0 C.1.2.2.2.2 gw_277 gw_279 gw_6 gw_59 gw_280 kP_number ⟨Nat.le_of_ble_eq_true rfl, Nat.le_of_ble_eq_true rfl⟩) (c_recvX (ci := 2) C.2 rfl hw) rfl rfl (Nat.le_of_ble_eq_true rfl) dP_oneEvent_11 hroom (fun H locs hw => ?_)
  refine W.eq (g2 := F0 m 14 ls [.int r1, .int (pv 4), .ref qp]) rfl ?_
  refine W.widen (k := h.2.2.1 - h.2.2.1) (n := h.2.2.2 - h.2.2.2) (Nat.le_refl _) (Nat.le_refl _) ?_
  refine lv_iadd C.1.1 C.1.2.1 dP_oneEvent_14 ?_
  refine cp_Parser_Parser_tick C hw dP_oneEvent_15 (fun H locs hw => ?_)
  refine lv_aload_n C.1.1 C.1.2.1 dP_oneEvent_18 rfl (lv_at hl 1 rfl) ?_
  refine lv_aload_n C.1.1 C.1.2.1 dP_oneEvent_19 rfl (lv_at hl 1 rfl) ?_
  refine cg_Parser_Parser_tick C hw dP_oneEvent_20 ?_
  refine lv_ldc C.1.1 C.1.2.1 C.1.2.2.2.1 (C.1.2.2.2.2 _ gw_281) dP_oneEvent_23 ?_
  refine lv_icmp_gt (tgt := 32) C.1.1 C.1.2.1 dP_oneEvent_25 (by decide) (fun c2 => ?_) (fun c2 => ?_)
  · have hf := ts_t hf c2
    refine lv_iconst (v := (0 : Int32)) C.1.1 C.1.2.1 dP_oneEvent_32 (by decide) ?_
    exact wP_oneEvent_33 C hr hlk hrv _ _ h z1 (upd pv1 4 ((pv 4) + r1)) (pv 0) (0 : Int32) _ _ ls hle (lv_sub hl [1, 0] rfl) hw hf
  · have hf := ts_f hf c2
    refine lv_iconst (v := (1 : Int32)) C.1.1 C.1.2.1 dP_oneEvent_28 (by decide) ?_
    refine lv_goto (tgt := 33) C.1.1 C.1.2.1 dP_oneEvent_29 (by decide) ?_
    exact wP_oneEvent_33 C hr hlk hrv _ _ h z1 (upd pv1 4 ((pv 4) + r1)) (pv 0) (1 : Int32) _ _ ls hle (lv_sub hl [1, 0] rfl) hw hf
abbrev cP_track : ByteArray := prog_4_method_10_code
abbrev yP_track : MethodName := ⟨"MidiDesk$Parser", "track", "()V"⟩
theorem kP_track : yP_track.cls ≠ "java/lang/invoke/MethodHandle" ∧ yP_track.cls ≠ "java/lang/invoke/VarHandle" ∧ (parseMethodDescriptor yP_track.desc).map (fun d => d.parameters.length) = some 0 := by decide +kernel
abbrev frP_track : Nat := 5
abbrev loP_track : Nat := 129
theorem dP_track_0 : decode cP_track 0 = .ok (.aload_n 0, 1) := by decide +kernel
theorem dP_track_1 : decode cP_track 1 = .ok (.iconst 0, 1) := by decide +kernel
theorem dP_track_2 : decode cP_track 2 = .ok (.putfield 93, 3) := by decide +kernel
theorem dP_track_5 : decode cP_track 5 = .ok (.aload_n 0, 1) := by decide +kernel
theorem dP_track_6 : decode cP_track 6 = .ok (.iconst (-1), 1) := by decide +kernel
theorem dP_track_7 : decode cP_track 7 = .ok (.putfield 96, 3) := by decide +kernel
theorem dP_track_10 : decode cP_track 10 = .ok (.aload_n 0, 1) := by decide +kernel
theorem dP_track_11 : decode cP_track 11 = .ok (.iconst 0, 1) := by decide +kernel
theorem dP_track_12 : decode cP_track 12 = .ok (.putfield 99, 3) := by decide +kernel
theorem dP_track_15 : decode cP_track 15 = .ok (.iconst 0, 1) := by decide +kernel
theorem dP_track_16 : decode cP_track 16 = .ok (.istore_n 1, 1) := by decide +kernel
theorem dP_track_17 : decode cP_track 17 = .ok (.iload_n 1, 1) := by decide +kernel
theorem dP_track_18 : decode cP_track 18 = .ok (.sipush 12000, 3) := by decide +kernel
theorem dP_track_21 : decode cP_track 21 = .ok (.if_icmp .ge 27, 3) := by decide +kernel
theorem dP_track_24 : decode cP_track 24 = .ok (.aload_n 0, 1) := by decide +kernel
theorem dP_track_25 : decode cP_track 25 = .ok (.getfield 37, 3) := by decide +kernel
theorem dP_track_28 : decode cP_track 28 = .ok (.ifCond .ne 20, 3) := by decide +kernel
theorem dP_track_31 : decode cP_track 31 = .ok (.aload_n 0, 1) := by decide +kernel
theorem dP_track_32 : decode cP_track 32 = .ok (.getfield 99, 3) := by decide +kernel
theorem dP_track_35 : decode cP_track 35 = .ok (.ifCond .ne 13, 3) := by decide +kernel
theorem dP_track_38 : decode cP_track 38 = .ok (.aload_n 0, 1) := by decide +kernel
theorem dP_track_39 : decode cP_track 39 = .ok (.invokevirtual 102, 3) := by decide +kernel
theorem dP_track_42 : decode cP_track 42 = .ok (.iinc 1 1, 3) := by decide +kernel
theorem dP_track_45 : decode cP_track 45 = .ok (.goto (-28), 3) := by decide +kernel
theorem dP_track_48 : decode cP_track 48 = .ok (.aload_n 0, 1) := by decide +kernel
theorem dP_track_49 : decode cP_track 49 = .ok (.aload_n 0, 1) := by decide +kernel
theorem dP_track_50 : decode cP_track 50 = .ok (.getfield 40, 3) := by decide +kernel
theorem dP_track_53 : decode cP_track 53 = .ok (.aload_n 0, 1) := by decide +kernel
theorem dP_track_54 : decode cP_track 54 = .ok (.getfield 30, 3) := by decide +kernel
theorem dP_track_57 : decode cP_track 57 = .ok (.if_icmp .ne 7, 3) := by decide +kernel
theorem dP_track_60 : decode cP_track 60 = .ok (.iconst 1, 1) := by decide +kernel
theorem dP_track_61 : decode cP_track 61 = .ok (.goto 4, 3) := by decide +kernel
theorem dP_track_64 : decode cP_track 64 = .ok (.iconst 0, 1) := by decide +kernel
theorem dP_track_65 : decode cP_track 65 = .ok (.bipush 7, 2) := by decide +kernel
theorem dP_track_67 : decode cP_track 67 = .ok (.aload_n 0, 1) := by decide +kernel
theorem dP_track_68 : decode cP_track 68 = .ok (.getfield 40, 3) := by decide +kernel
theorem dP_track_71 : decode cP_track 71 = .ok (.invokevirtual 56, 3) := by decide +kernel
theorem dP_track_74 : decode cP_track 74 = .ok (.aload_n 0, 1) := by decide +kernel
theorem dP_track_75 : decode cP_track 75 = .ok (.dup, 1) := by decide +kernel
theorem dP_track_76 : decode cP_track 76 = .ok (.getfield 50, 3) := by decide +kernel
theorem dP_track_79 : decode cP_track 79 = .ok (.iconst 1, 1) := by decide +kernel
theorem dP_track_80 : decode cP_track 80 = .ok (.iadd, 1) := by decide +kernel
theorem dP_track_81 : decode cP_track 81 = .ok (.putfield 50, 3) := by decide +kernel
theorem dP_track_84 : decode cP_track 84 = .ok (.return_, 1) := by decide +kernel
noncomputable def jP_track_42 (K17 : cH → cZ → (Nat → Int32) → Int32 → Option (cH × cZ × (Nat → Int32))) (h : cH) (z : cZ) (pv : Nat → Int32) (x1 : Int32) : Option (cH × cZ × (Nat → Int32)) := K17 h z pv (x1 + 1)
set_option maxHeartbeats 4000000 in
set_option maxRecDepth 100000 in
theorem oP_track_42 {h' : cH} {z' : cZ} {pv' : Nat → Int32} {K17 : cH → cZ → (Nat → Int32) → Int32 → Option (cH × cZ × (Nat → Int32))} (hK17 : ∀ (h : cH) (z : cZ) (pv : Nat → Int32) (x1 : Int32), K17 h z pv x1 = some (h', z', pv') → cle h h') (h : cH) (z : cZ) (pv : Nat → Int32) (x1 : Int32) (hf : jP_track_42 K17 h z pv x1 = some (h', z', pv')) : cle h h' := by
  unfold jP_track_42 at hf
  exact hK17 h z pv (x1 + 1) hf
noncomputable def jP_track_65 (h : cH) (z : cZ) (pv : Nat → Int32) (s1 : Int32) : Option (cH × cZ × (Nat → Int32)) := (fP_expect h z pv s1 (7 : Int32) (pv 0)).bind fun (z1, pv1) => some (h, z1, upd pv1 3 ((pv1 3) + (1 : Int32)))
set_option maxHeartbeats 4000000 in
set_option maxRecDepth 100000 in
theorem oP_track_65 {h' : cH} {z' : cZ} {pv' : Nat → Int32} (h : cH) (z : cZ) (pv : Nat → Int32) (s1 : Int32) (hf : jP_track_65 h z pv s1 = some (h', z', pv')) : cle h h' := by
  unfold jP_track_65 at hf
  obtain ⟨⟨z1, pv1⟩, g1, hf⟩ := ts_b hf
  try dsimp only at hf
  cases hf
  exact cle.rf
noncomputable def jP_track_48 (h : cH) (z : cZ) (pv : Nat → Int32) : Option (cH × cZ × (Nat → Int32)) := if (pv 0) = (pv 1) then (jP_track_65 h z pv (1 : Int32)) else (jP_track_65 h z pv (0 : Int32))
set_option maxHeartbeats 4000000 in
set_option maxRecDepth 100000 in
theorem oP_track_48 {h' : cH} {z' : cZ} {pv' : Nat → Int32} (h : cH) (z : cZ) (pv : Nat → Int32) (hf : jP_track_48 h z pv = some (h', z', pv')) : cle h h' := by
  unfold jP_track_48 at hf
  rcases (Decidable.em ((pv 0) = (pv 1))).symm with c1 | c1
  · have hf := ts_f hf c1
    exact oP_track_65 h z pv (0 : Int32) hf
  · have hf := ts_t hf c1
    exact oP_track_65 h z pv (1 : Int32) hf
noncomputable def lP_track_17 : Nat → cH → cZ → (Nat → Int32) → Int32 → Option (cH × cZ × (Nat → Int32))
  | 0 => fun _ _ _ _ => none
  | k + 1 => fun h z pv x1 => if (12000 : Int32) ≤ x1 then (jP_track_48 h z pv) else (if (pv 2) = 0 then (if (pv 6) = 0 then ((fP_oneEvent h z pv).bind fun (hh4, z4, pv4) => jP_track_42 (lP_track_17 k) hh4 z4 pv4 x1) else (jP_track_48 h z pv)) else (jP_track_48 h z pv))
set_option maxHeartbeats 4000000 in
set_option maxRecDepth 100000 in
theorem oP_track_17 {h' : cH} {z' : cZ} {pv' : Nat → Int32} (k : Nat) : ∀ (h : cH) (z : cZ) (pv : Nat → Int32) (x1 : Int32), lP_track_17 k h z pv x1 = some (h', z', pv') → cle h h' := by
  induction k with
  | zero => intro h z pv x1 hf; cases hf
  | succ k ih =>
    intro h z pv x1 hf
    have hf : (if (12000 : Int32) ≤ x1 then (jP_track_48 h z pv) else (if (pv 2) = 0 then (if (pv 6) = 0 then ((fP_oneEvent h z pv).bind fun (hh4, z4, pv4) => jP_track_42 (lP_track_17 k) hh4 z4 pv4 x1) else (jP_track_48 h z pv)) else (jP_track_48 h z pv))) = some (h', z', pv') := hf
    rcases Decidable.em ((12000 : Int32) ≤ x1) with c1 | c1
    · have hf := ts_t hf c1
      exact oP_track_48 h z pv hf
    · have hf := ts_f hf c1
      rcases (Decidable.em ((pv 2) = 0)).symm with c2 | c2
      · have hf := ts_f hf c2
        exact oP_track_48 h z pv hf
      · have hf := ts_t hf c2
        rcases (Decidable.em ((pv 6) = 0)).symm with c3 | c3
        · have hf := ts_f hf c3
          exact oP_track_48 h z pv hf
        · have hf := ts_t hf c3
          obtain ⟨⟨hh4, z4, pv4⟩, g4, hf⟩ := ts_b hf
          try dsimp only at hf
          exact cle.tr (oP_oneEvent g4) (oP_track_42 ih hh4 z4 pv4 x1 hf)
noncomputable def fP_track (h : cH) (z : cZ) (pv : Nat → Int32) : Option (cH × cZ × (Nat → Int32)) := lP_track_17 FU h z (upd (upd (upd pv 4 (0 : Int32)) 5 (-1 : Int32)) 6 (0 : Int32)) (0 : Int32)
set_option maxHeartbeats 4000000 in
set_option maxRecDepth 100000 in
theorem oP_track {h' : cH} {z' : cZ} {pv' : Nat → Int32} {h : cH} {z : cZ} {pv : Nat → Int32} (hf : fP_track h z pv = some (h', z', pv')) : cle h h' := by
  unfold fP_track at hf
  exact oP_track_17 FU h z (upd (upd (upd pv 4 (0 : Int32)) 5 (-1 : Int32)) 6 (0 : Int32)) (0 : Int32) hf
set_option maxHeartbeats 4000000 in
set_option maxRecDepth 100000 in
theorem wP_track_42 {p : Program} {l : Launch} {e : Env} {s : State} {m : MethodId} {args : Array Value} {below : List Frame} {meth : Method} {c : Code} {g : gT} {qq ea0 : Nat → Nat} {A0 : Nat → Prop} {h0 : cH} {X : va_W} {rv : (Nat → Nat) → Option Value} {qp : Nat} {pv' : Nat → Int32} {h' : cH} {z' : cZ} (C : mCx p m c cP_track 2 s args g "MidiDesk$Parser") (hr : meth.sig.returnType = none) (hlk : meth.locks = false) (hrv : rv = fun ea => none) {K17 : cH → cZ → (Nat → Int32) → Int32 → Option (cH × cZ × (Nat → Int32))} (hK17 : ∀ (ad : Nat → Nat) (ea : Nat → Nat) (h : cH) (z : cZ) (pv : Nat → Int32) (x1 : Int32) (H : Heap) (locs : List Loc) (ls : Array Slot), cle h0 h → lv_has ls 2 [(0, .ref qp), (1, .int x1)] → cWd g A0 s.heap qq ad ea h (pcell qp qq pv :: X) z H locs → K17 h z pv x1 = some (h', z', pv') → cGa p l e (rmA frP_track loP_track h0 h') s m args below meth c g qq A0 False ea0 rv (pcell qp qq pv' :: X) h' z' H locs (h.2.2.1 - h0.2.2.1) (h.2.2.2 - h0.2.2.2) (F0 m 17 ls [])) (hM17 : ∀ (h : cH) (z : cZ) (pv : Nat → Int32) (x1 : Int32), K17 h z pv x1 = some (h', z', pv') → cle h h') (ad : Nat → Nat) (ea : Nat → Nat) (h : cH) (z : cZ) (pv : Nat → Int32) (x1 : Int32) (H : Heap) (locs : List Loc) (ls : Array Slot) (hle : cle h0 h) (hl : lv_has ls 2 [(0, .ref qp), (1, .int x1)]) (hw : cWd g A0 s.heap qq ad ea h (pcell qp qq pv :: X) z H locs) (hf : jP_track_42 K17 h z pv x1 = some (h', z', pv')) : cGa p l e (rmA frP_track loP_track h0 h') s m args below meth c g qq A0 False ea0 rv (pcell qp qq pv' :: X) h' z' H locs (h.2.2.1 - h0.2.2.1) (h.2.2.2 - h0.2.2.2) (F0 m 42 ls []) := by
  have hmn := oP_track_42 hM17 h z pv x1 hf
  have hroom : h.2.2.1 - h0.2.2.1 + 0 ≤ (rmA frP_track loP_track h0 h').cells ∧ h.2.2.2 - h0.2.2.2 + 0 ≤ (rmA frP_track loP_track h0 h').slots := ⟨by have w := hmn.1; show _ ≤ h'.2.2.1 - h0.2.2.1; omega, by have w := hmn.2; show _ ≤ h'.2.2.2 - h0.2.2.2; omega⟩
  unfold jP_track_42 at hf
  refine lv_iinc (v := x1 + 1) (lv' := [(1, .int (x1 + 1)), (0, .ref qp)]) C.1.1 C.1.2.1 dP_track_42 hl (k := 1) rfl rfl (by decide) rfl (fun ls hl => ?_)
  refine lv_goto (tgt := 17) C.1.1 C.1.2.1 dP_track_45 (by decide) ?_
  exact hK17 _ _ h z pv (x1 + 1) _ _ ls hle (lv_sub hl [1, 0] rfl) hw hf
set_option maxHeartbeats 4000000 in
set_option maxRecDepth 100000 in
theorem wP_track_65 {p : Program} {l : Launch} {e : Env} {s : State} {m : MethodId} {args : Array Value} {below : List Frame} {meth : Method} {c : Code} {g : gT} {qq ea0 : Nat → Nat} {A0 : Nat → Prop} {h0 : cH} {X : va_W} {rv : (Nat → Nat) → Option Value} {qp : Nat} {pv' : Nat → Int32} {h' : cH} {z' : cZ} (C : mCx p m c cP_track 2 s args g "MidiDesk$Parser") (hr : meth.sig.returnType = none) (hlk : meth.locks = false) (hrv : rv = fun ea => none) (ad : Nat → Nat) (ea : Nat → Nat) (h : cH) (z : cZ) (pv : Nat → Int32) (s1 : Int32) (H : Heap) (locs : List Loc) (ls : Array Slot) (hle : cle h0 h) (hl : lv_has ls 2 [(0, .ref qp)]) (hw : cWd g A0 s.heap qq ad ea h (pcell qp qq pv :: X) z H locs) (hf : jP_track_65 h z pv s1 = some (h', z', pv')) : cGa p l e (rmA frP_track loP_track h0 h') s m args below meth c g qq A0 False ea0 rv (pcell qp qq pv' :: X) h' z' H locs (h.2.2.1 - h0.2.2.1) (h.2.2.2 - h0.2.2.2) (F0 m 65 ls [.int s1, .ref qp]) := by
  have hmn := oP_track_65 h z pv s1 hf
  have hroom : h.2.2.1 - h0.2.2.1 + 0 ≤ (rmA frP_track loP_track h0 h').cells ∧ h.2.2.2 - h0.2.2.2 + 0 ≤ (rmA frP_track loP_track h0 h').slots := ⟨by have w := hmn.1; show _ ≤ h'.2.2.1 - h0.2.2.1; omega, by have w := hmn.2; show _ ≤ h'.2.2.2 - h0.2.2.2; omega⟩
  unfold jP_track_65 at hf
  refine lv_bipush (v := (7 : Int32)) C.1.1 C.1.2.1 dP_track_65 (by decide) ?_
  refine lv_aload_n C.1.1 C.1.2.1 dP_track_67 rfl (lv_at hl 0 rfl) ?_
  refine cg_Parser_Parser_pos C hw dP_track_68 ?_
  obtain ⟨⟨z1, pv1⟩, g1, hf⟩ := ts_b hf
  try dsimp only at hf
  refine c_callV (rest := []) (As := [.int s1, .int (7 : Int32), .int (pv 0)]) (rv := none) (b := qp) C hl.1 hw (cP_expect_met g1) rfl (callW_of (rm := rP_expect) (C := "MidiDesk$Parser") 3 C.1.2.2.2.2 gw_250 gw_252 gw_2 gw_59 gw_253 kP_expect ⟨Nat.le_of_ble_eq_true rfl, Nat.le_of_ble_eq_true rfl⟩) (c_recvX (ci := 2) C.2 rfl hw) rfl rfl (Nat.le_of_ble_eq_true rfl) dP_track_71 hroom (fun H locs hw => ?_)
  refine W.eq (g2 := F0 m 74 ls []) rfl ?_
  refine W.widen (k := h.2.2.1 - h0.2.2.1) (n := h.2.2.2 - h0.2.2.2) (Nat.le_refl _) (Nat.le_refl _) ?_
  refine lv_aload_n C.1.1 C.1.2.1 dP_track_74 rfl (lv_at hl 0 rfl) ?_
  refine lv_dup C.1.1 C.1.2.1 dP_track_75 rfl ?_
  refine cg_Parser_Parser_tracksSeen C hw dP_track_76 ?_
  refine lv_iconst (v := (1 : Int32)) C.1.1 C.1.2.1 dP_track_79 (by decide) ?_
  refine lv_iadd C.1.1 C.1.2.1 dP_track_80 ?_
  refine cp_Parser_Parser_tracksSeen C hw dP_track_81 (fun H locs hw => ?_)
  obtain ⟨hf, hpv⟩ := pr4 hf
  exact c_retAv C hr hlk hrv (fun w => w.elim) hw hf (by rw [hpv]) (by cases hf; exact ⟨Nat.le_refl _, Nat.le_refl _⟩) dP_track_84
set_option maxHeartbeats 4000000 in
set_option maxRecDepth 100000 in
theorem wP_track_48 {p : Program} {l : Launch} {e : Env} {s : State} {m : MethodId} {args : Array Value} {below : List Frame} {meth : Method} {c : Code} {g : gT} {qq ea0 : Nat → Nat} {A0 : Nat → Prop} {h0 : cH} {X : va_W} {rv : (Nat → Nat) → Option Value} {qp : Nat} {pv' : Nat → Int32} {h' : cH} {z' : cZ} (C : mCx p m c cP_track 2 s args g "MidiDesk$Parser") (hr : meth.sig.returnType = none) (hlk : meth.locks = false) (hrv : rv = fun ea => none) (ad : Nat → Nat) (ea : Nat → Nat) (h : cH) (z : cZ) (pv : Nat → Int32) (H : Heap) (locs : List Loc) (ls : Array Slot) (hle : cle h0 h) (hl : lv_has ls 2 [(0, .ref qp)]) (hw : cWd g A0 s.heap qq ad ea h (pcell qp qq pv :: X) z H locs) (hf : jP_track_48 h z pv = some (h', z', pv')) : cGa p l e (rmA frP_track loP_track h0 h') s m args below meth c g qq A0 False ea0 rv (pcell qp qq pv' :: X) h' z' H locs (h.2.2.1 - h0.2.2.1) (h.2.2.2 - h0.2.2.2) (F0 m 48 ls []) := by
  have hmn := oP_track_48 h z pv hf
  have hroom : h.2.2.1 - h0.2.2.1 + 0 ≤ (rmA frP_track loP_track h0 h').cells ∧ h.2.2.2 - h0.2.2.2 + 0 ≤ (rmA frP_track loP_track h0 h').slots := ⟨by have w := hmn.1; show _ ≤ h'.2.2.1 - h0.2.2.1; omega, by have w := hmn.2; show _ ≤ h'.2.2.2 - h0.2.2.2; omega⟩
  unfold jP_track_48 at hf
  refine lv_aload_n C.1.1 C.1.2.1 dP_track_48 rfl (lv_at hl 0 rfl) ?_
  refine lv_aload_n C.1.1 C.1.2.1 dP_track_49 rfl (lv_at hl 0 rfl) ?_
  refine cg_Parser_Parser_pos C hw dP_track_50 ?_
  refine lv_aload_n C.1.1 C.1.2.1 dP_track_53 rfl (lv_at hl 0 rfl) ?_
  refine cg_Parser_Parser_end C hw dP_track_54 ?_
  refine lv_icmp_ne (tgt := 64) C.1.1 C.1.2.1 dP_track_57 (by decide) (fun c1 => ?_) (fun c1 => ?_)
  · have hf := ts_f hf c1
    refine lv_iconst (v := (0 : Int32)) C.1.1 C.1.2.1 dP_track_64 (by decide) ?_
    exact wP_track_65 C hr hlk hrv _ _ h z pv (0 : Int32) _ _ ls hle (lv_sub hl [0] rfl) hw hf
  · have hf := ts_t hf c1
    refine lv_iconst (v := (1 : Int32)) C.1.1 C.1.2.1 dP_track_60 (by decide) ?_
    refine lv_goto (tgt := 65) C.1.1 C.1.2.1 dP_track_61 (by decide) ?_
    exact wP_track_65 C hr hlk hrv _ _ h z pv (1 : Int32) _ _ ls hle (lv_sub hl [0] rfl) hw hf
set_option maxHeartbeats 4000000 in
set_option maxRecDepth 100000 in
theorem wP_track_17 {p : Program} {l : Launch} {e : Env} {s : State} {m : MethodId} {args : Array Value} {below : List Frame} {meth : Method} {c : Code} {g : gT} {qq ea0 : Nat → Nat} {A0 : Nat → Prop} {h0 : cH} {X : va_W} {rv : (Nat → Nat) → Option Value} {qp : Nat} {pv' : Nat → Int32} {h' : cH} {z' : cZ} (C : mCx p m c cP_track 2 s args g "MidiDesk$Parser") (hr : meth.sig.returnType = none) (hlk : meth.locks = false) (hrv : rv = fun ea => none) (k : Nat) : ∀ (ad : Nat → Nat) (ea : Nat → Nat) (h : cH) (z : cZ) (pv : Nat → Int32) (x1 : Int32) (H : Heap) (locs : List Loc) (ls : Array Slot), cle h0 h → lv_has ls 2 [(0, .ref qp), (1, .int x1)] → cWd g A0 s.heap qq ad ea h (pcell qp qq pv :: X) z H locs → lP_track_17 k h z pv x1 = some (h', z', pv') → cGa p l e (rmA frP_track loP_track h0 h') s m args below meth c g qq A0 False ea0 rv (pcell qp qq pv' :: X) h' z' H locs (h.2.2.1 - h0.2.2.1) (h.2.2.2 - h0.2.2.2) (F0 m 17 ls []) := by
  induction k with
  | zero => intro ad ea h z pv x1 H locs ls hle hl hw hf; cases hf
  | succ k ih =>
    intro ad ea h z pv x1 H locs ls hle hl hw hf
    have hmn := oP_track_17 (k + 1) h z pv x1 hf
    have hroom : h.2.2.1 - h0.2.2.1 + 0 ≤ (rmA frP_track loP_track h0 h').cells ∧ h.2.2.2 - h0.2.2.2 + 0 ≤ (rmA frP_track loP_track h0 h').slots := ⟨by have w := hmn.1; show _ ≤ h'.2.2.1 - h0.2.2.1; omega, by have w := hmn.2; show _ ≤ h'.2.2.2 - h0.2.2.2; omega⟩
    have hf : (if (12000 : Int32) ≤ x1 then (jP_track_48 h z pv) else (if (pv 2) = 0 then (if (pv 6) = 0 then ((fP_oneEvent h z pv).bind fun (hh4, z4, pv4) => jP_track_42 (lP_track_17 k) hh4 z4 pv4 x1) else (jP_track_48 h z pv)) else (jP_track_48 h z pv))) = some (h', z', pv') := hf
    have ihm := oP_track_17 k (h' := h') (z' := z') (pv' := pv')
    refine lv_iload_n C.1.1 C.1.2.1 dP_track_17 rfl (lv_at hl 1 rfl) ?_
    refine lv_sipush (v := (12000 : Int32)) C.1.1 C.1.2.1 dP_track_18 (by decide) ?_
    refine lv_icmp_ge (tgt := 48) C.1.1 C.1.2.1 dP_track_21 (by decide) (fun c1 => ?_) (fun c1 => ?_)
    · have hf := ts_t hf c1
      exact wP_track_48 C hr hlk hrv _ _ h z pv _ _ ls hle (lv_sub hl [0] rfl) hw hf
    · have hf := ts_f hf c1
      refine lv_aload_n C.1.1 C.1.2.1 dP_track_24 rfl (lv_at hl 0 rfl) ?_
      refine cg_Parser_Parser_fault C hw dP_track_25 ?_
      refine lv_if_ne (tgt := 48) C.1.1 C.1.2.1 dP_track_28 (by decide) (fun c2 => ?_) (fun c2 => ?_)
      · have hf := ts_f hf c2
        exact wP_track_48 C hr hlk hrv _ _ h z pv _ _ ls hle (lv_sub hl [0] rfl) hw hf
      · have hf := ts_t hf c2
        refine lv_aload_n C.1.1 C.1.2.1 dP_track_31 rfl (lv_at hl 0 rfl) ?_
        refine cg_Parser_Parser_ended C hw dP_track_32 ?_
        refine lv_if_ne (tgt := 48) C.1.1 C.1.2.1 dP_track_35 (by decide) (fun c3 => ?_) (fun c3 => ?_)
        · have hf := ts_f hf c3
          exact wP_track_48 C hr hlk hrv _ _ h z pv _ _ ls hle (lv_sub hl [0] rfl) hw hf
        · have hf := ts_t hf c3
          refine lv_aload_n C.1.1 C.1.2.1 dP_track_38 rfl (lv_at hl 0 rfl) ?_
          obtain ⟨⟨hh4, z4, pv4⟩, g4, hf⟩ := ts_b hf
          try dsimp only at hf
          have hm9 : cle hh4 h' := oP_track_42 ihm _ _ _ _ hf
          have hm8 := oP_oneEvent g4
          have hm91 := hm9.1
          have hm92 := hm9.2
          have hm81 := hm8.1
          have hm82 := hm8.2
          have hle1 := hle.1
          have hle2 := hle.2
          refine c_callA (rest := []) (As := []) (rv := fun ea => none) (b := qp) C hl.1 hw (cP_oneEvent_met g4) (callW_of (rm := rmA frP_oneEvent loP_oneEvent h hh4) (C := "MidiDesk$Parser") 0 C.1.2.2.2.2 gw_273 gw_275 gw_5 gw_59 gw_276 kP_oneEvent ⟨Nat.le_of_ble_eq_true rfl, Nat.le_of_ble_eq_true rfl⟩) (c_recvX (ci := 2) C.2 rfl hw) rfl rfl (Nat.le_of_ble_eq_true rfl) dP_track_39 ⟨by show _ ≤ h'.2.2.1 - h0.2.2.1; omega, by show _ ≤ h'.2.2.2 - h0.2.2.2; omega⟩ (fun ad ea H locs hea hw => ?_)
          refine W.widen (k := hh4.2.2.1 - h0.2.2.1) (n := hh4.2.2.2 - h0.2.2.2) (by omega) (by omega) ?_
          refine W.eq (g2 := F0 m 42 ls []) rfl ?_
          exact wP_track_42 C hr hlk hrv ih ihm _ _ hh4 z4 pv4 x1 _ _ ls (hle.tr (oP_oneEvent g4)) (lv_sub hl [0, 1] rfl) hw hf
set_option maxHeartbeats 4000000 in
set_option maxRecDepth 100000 in
theorem cP_track_met {l : Launch} {g : gT} {qq ad ea : Nat → Nat} {h h' : cH} {X : va_W} {qp : Nat} {pv pv' : Nat → Int32} {z z' : cZ} (hf : fP_track h z pv = some (h', z', pv')) : cMeA l yP_track cP_track 2 none frP_track loP_track g qq ad ea h (pcell qp qq pv :: X) z [.ref qp] False (fun ea => none) (pcell qp qq pv' :: X) h' z' := by
  refine c_entryA (by decide) (Nat.le_of_ble_eq_true rfl) ?_
  intro p e s m args below meth c ls C hr hlk hnm hl hw
  have hrv : (fun ea => none : (Nat → Nat) → Option Value) = fun ea => none := rfl
  have C : mCx p m c cP_track 2 s args g "MidiDesk$Parser" := C
  have hl : lv_has ls 2 [(0, .ref qp)] := hl
  generalize cA g qq ad ea h (pcell qp qq pv :: X) s.heap.size = A0 at hw ⊢
  have hle : cle h h := cle.rf
  have hmn := oP_track hf
  have hroom : h.2.2.1 - h.2.2.1 + 0 ≤ (rmA frP_track loP_track h h').cells ∧ h.2.2.2 - h.2.2.2 + 0 ≤ (rmA frP_track loP_track h h').slots := ⟨by have w := hmn.1; show _ ≤ h'.2.2.1 - h.2.2.1; omega, by have w := hmn.2; show _ ≤ h'.2.2.2 - h.2.2.2; omega⟩
  unfold fP_track at hf
  refine lv_aload_n C.1.1 C.1.2.1 dP_track_0 rfl (lv_at hl 0 rfl) ?_
  refine lv_iconst (v := (0 : Int32)) C.1.1 C.1.2.1 dP_track_1 (by decide) ?_
  refine cp_Parser_Parser_tick C hw dP_track_2 (fun H locs hw => ?_)
  refine lv_aload_n C.1.1 C.1.2.1 dP_track_5 rfl (lv_at hl 0 rfl) ?_
  refine lv_iconst (v := (-1 : Int32)) C.1.1 C.1.2.1 dP_track_6 (by decide) ?_
  refine cp_Parser_Parser_running C hw dP_track_7 (fun H locs hw => ?_)
  refine lv_aload_n C.1.1 C.1.2.1 dP_track_10 rfl (lv_at hl 0 rfl) ?_
  refine lv_iconst (v := (0 : Int32)) C.1.1 C.1.2.1 dP_track_11 (by decide) ?_
  refine cp_Parser_Parser_ended C hw (Or.inl rfl) dP_track_12 (fun H locs hw => ?_)
  refine lv_iconst (v := (0 : Int32)) C.1.1 C.1.2.1 dP_track_15 (by decide) ?_
  refine lv_istore_n (lv' := [(1, .int (0 : Int32)), (0, .ref qp)]) C.1.1 C.1.2.1 dP_track_16 rfl hl (by decide) rfl (fun ls hl => ?_)
  exact wP_track_17 C hr hlk hrv FU _ _ h z (upd (upd (upd pv 4 (0 : Int32)) 5 (-1 : Int32)) 6 (0 : Int32)) (0 : Int32) _ _ ls hle (lv_sub hl [1, 0] rfl) hw hf
abbrev cP_parse : ByteArray := prog_4_method_2_code
abbrev yP_parse : MethodName := ⟨"MidiDesk$Parser", "parse", "()I"⟩
theorem kP_parse : yP_parse.cls ≠ "java/lang/invoke/MethodHandle" ∧ yP_parse.cls ≠ "java/lang/invoke/VarHandle" ∧ (parseMethodDescriptor yP_parse.desc).map (fun d => d.parameters.length) = some 0 := by decide +kernel
abbrev frP_parse : Nat := 6
abbrev loP_parse : Nat := 150
theorem dP_parse_0 : decode cP_parse 0 = .ok (.aload_n 0, 1) := by decide +kernel
theorem dP_parse_1 : decode cP_parse 1 = .ok (.getfield 15, 3) := by decide +kernel
theorem dP_parse_4 : decode cP_parse 4 = .ok (.invokevirtual 19, 3) := by decide +kernel
theorem dP_parse_7 : decode cP_parse 7 = .ok (.aload_n 0, 1) := by decide +kernel
theorem dP_parse_8 : decode cP_parse 8 = .ok (.aload_n 0, 1) := by decide +kernel
theorem dP_parse_9 : decode cP_parse 9 = .ok (.getfield 9, 3) := by decide +kernel
theorem dP_parse_12 : decode cP_parse 12 = .ok (.invokevirtual 24, 3) := by decide +kernel
theorem dP_parse_15 : decode cP_parse 15 = .ok (.putfield 30, 3) := by decide +kernel
theorem dP_parse_18 : decode cP_parse 18 = .ok (.aload_n 0, 1) := by decide +kernel
theorem dP_parse_19 : decode cP_parse 19 = .ok (.invokevirtual 34, 3) := by decide +kernel
theorem dP_parse_22 : decode cP_parse 22 = .ok (.iconst 0, 1) := by decide +kernel
theorem dP_parse_23 : decode cP_parse 23 = .ok (.istore_n 1, 1) := by decide +kernel
theorem dP_parse_24 : decode cP_parse 24 = .ok (.iload_n 1, 1) := by decide +kernel
theorem dP_parse_25 : decode cP_parse 25 = .ok (.sipush 12000, 3) := by decide +kernel
theorem dP_parse_28 : decode cP_parse 28 = .ok (.if_icmp .ge 63, 3) := by decide +kernel
theorem dP_parse_31 : decode cP_parse 31 = .ok (.aload_n 0, 1) := by decide +kernel
theorem dP_parse_32 : decode cP_parse 32 = .ok (.getfield 37, 3) := by decide +kernel
theorem dP_parse_35 : decode cP_parse 35 = .ok (.ifCond .ne 56, 3) := by decide +kernel
theorem dP_parse_38 : decode cP_parse 38 = .ok (.aload_n 0, 1) := by decide +kernel
theorem dP_parse_39 : decode cP_parse 39 = .ok (.getfield 40, 3) := by decide +kernel
theorem dP_parse_42 : decode cP_parse 42 = .ok (.aload_n 0, 1) := by decide +kernel
theorem dP_parse_43 : decode cP_parse 43 = .ok (.getfield 9, 3) := by decide +kernel
theorem dP_parse_46 : decode cP_parse 46 = .ok (.invokevirtual 24, 3) := by decide +kernel
theorem dP_parse_49 : decode cP_parse 49 = .ok (.if_icmp .ge 42, 3) := by decide +kernel
theorem dP_parse_52 : decode cP_parse 52 = .ok (.aload_n 0, 1) := by decide +kernel
theorem dP_parse_53 : decode cP_parse 53 = .ok (.invokevirtual 43, 3) := by decide +kernel
theorem dP_parse_56 : decode cP_parse 56 = .ok (.ifCond .eq 10, 3) := by decide +kernel
theorem dP_parse_59 : decode cP_parse 59 = .ok (.aload_n 0, 1) := by decide +kernel
theorem dP_parse_60 : decode cP_parse 60 = .ok (.invokevirtual 47, 3) := by decide +kernel
theorem dP_parse_63 : decode cP_parse 63 = .ok (.goto 11, 3) := by decide +kernel
theorem dP_parse_66 : decode cP_parse 66 = .ok (.aload_n 0, 1) := by decide +kernel
theorem dP_parse_67 : decode cP_parse 67 = .ok (.aload_n 0, 1) := by decide +kernel
theorem dP_parse_68 : decode cP_parse 68 = .ok (.getfield 30, 3) := by decide +kernel
theorem dP_parse_71 : decode cP_parse 71 = .ok (.putfield 40, 3) := by decide +kernel
theorem dP_parse_74 : decode cP_parse 74 = .ok (.aload_n 0, 1) := by decide +kernel
theorem dP_parse_75 : decode cP_parse 75 = .ok (.aload_n 0, 1) := by decide +kernel
theorem dP_parse_76 : decode cP_parse 76 = .ok (.getfield 9, 3) := by decide +kernel
theorem dP_parse_79 : decode cP_parse 79 = .ok (.invokevirtual 24, 3) := by decide +kernel
theorem dP_parse_82 : decode cP_parse 82 = .ok (.putfield 30, 3) := by decide +kernel
theorem dP_parse_85 : decode cP_parse 85 = .ok (.iinc 1 1, 3) := by decide +kernel
theorem dP_parse_88 : decode cP_parse 88 = .ok (.goto (-64), 3) := by decide +kernel
theorem dP_parse_91 : decode cP_parse 91 = .ok (.aload_n 0, 1) := by decide +kernel
theorem dP_parse_92 : decode cP_parse 92 = .ok (.aload_n 0, 1) := by decide +kernel
theorem dP_parse_93 : decode cP_parse 93 = .ok (.getfield 50, 3) := by decide +kernel
theorem dP_parse_96 : decode cP_parse 96 = .ok (.aload_n 0, 1) := by decide +kernel
theorem dP_parse_97 : decode cP_parse 97 = .ok (.getfield 15, 3) := by decide +kernel
theorem dP_parse_100 : decode cP_parse 100 = .ok (.getfield 53, 3) := by decide +kernel
theorem dP_parse_103 : decode cP_parse 103 = .ok (.if_icmp .ne 7, 3) := by decide +kernel
theorem dP_parse_106 : decode cP_parse 106 = .ok (.iconst 1, 1) := by decide +kernel
theorem dP_parse_107 : decode cP_parse 107 = .ok (.goto 4, 3) := by decide +kernel
theorem dP_parse_110 : decode cP_parse 110 = .ok (.iconst 0, 1) := by decide +kernel
theorem dP_parse_111 : decode cP_parse 111 = .ok (.bipush 10, 2) := by decide +kernel
theorem dP_parse_113 : decode cP_parse 113 = .ok (.aload_n 0, 1) := by decide +kernel
theorem dP_parse_114 : decode cP_parse 114 = .ok (.getfield 30, 3) := by decide +kernel
theorem dP_parse_117 : decode cP_parse 117 = .ok (.invokevirtual 56, 3) := by decide +kernel
theorem dP_parse_120 : decode cP_parse 120 = .ok (.aload_n 0, 1) := by decide +kernel
theorem dP_parse_121 : decode cP_parse 121 = .ok (.getfield 37, 3) := by decide +kernel
theorem dP_parse_124 : decode cP_parse 124 = .ok (.ifCond .ne 21, 3) := by decide +kernel
theorem dP_parse_127 : decode cP_parse 127 = .ok (.aload_n 0, 1) := by decide +kernel
theorem dP_parse_128 : decode cP_parse 128 = .ok (.getfield 15, 3) := by decide +kernel
theorem dP_parse_131 : decode cP_parse 131 = .ok (.invokevirtual 60, 3) := by decide +kernel
theorem dP_parse_134 : decode cP_parse 134 = .ok (.aload_n 0, 1) := by decide +kernel
theorem dP_parse_135 : decode cP_parse 135 = .ok (.getfield 15, 3) := by decide +kernel
theorem dP_parse_138 : decode cP_parse 138 = .ok (.iconst 1, 1) := by decide +kernel
theorem dP_parse_139 : decode cP_parse 139 = .ok (.putfield 63, 3) := by decide +kernel
theorem dP_parse_142 : decode cP_parse 142 = .ok (.goto 10, 3) := by decide +kernel
theorem dP_parse_145 : decode cP_parse 145 = .ok (.aload_n 0, 1) := by decide +kernel
theorem dP_parse_146 : decode cP_parse 146 = .ok (.getfield 15, 3) := by decide +kernel
theorem dP_parse_149 : decode cP_parse 149 = .ok (.invokevirtual 19, 3) := by decide +kernel
theorem dP_parse_152 : decode cP_parse 152 = .ok (.aload_n 0, 1) := by decide +kernel
theorem dP_parse_153 : decode cP_parse 153 = .ok (.getfield 37, 3) := by decide +kernel
theorem dP_parse_156 : decode cP_parse 156 = .ok (.ireturn, 1) := by decide +kernel
noncomputable def jP_parse_74 (K24 : cH → cZ → (Nat → Int32) → Int32 → Option (Int32 × cH × cZ × (Nat → Int32))) (h : cH) (z : cZ) (pv : Nat → Int32) (x1 : Int32) : Option (Int32 × cH × cZ × (Nat → Int32)) := (fB0_size h z).bind fun (r1, z1) => K24 h z1 (upd pv 1 r1) (x1 + 1)
set_option maxHeartbeats 4000000 in
set_option maxRecDepth 100000 in
theorem oP_parse_74 {h' : cH} {z' : cZ} {pv' : Nat → Int32} {r' : Int32} {K24 : cH → cZ → (Nat → Int32) → Int32 → Option (Int32 × cH × cZ × (Nat → Int32))} (hK24 : ∀ (h : cH) (z : cZ) (pv : Nat → Int32) (x1 : Int32), K24 h z pv x1 = some (r', h', z', pv') → cle h h') (h : cH) (z : cZ) (pv : Nat → Int32) (x1 : Int32) (hf : jP_parse_74 K24 h z pv x1 = some (r', h', z', pv')) : cle h h' := by
  unfold jP_parse_74 at hf
  obtain ⟨⟨r1, z1⟩, g1, hf⟩ := ts_b hf
  try dsimp only at hf
  exact hK24 h z1 (upd pv 1 r1) (x1 + 1) hf
noncomputable def jP_parse_63 (K24 : cH → cZ → (Nat → Int32) → Int32 → Option (Int32 × cH × cZ × (Nat → Int32))) (h : cH) (z : cZ) (pv : Nat → Int32) (x1 : Int32) : Option (Int32 × cH × cZ × (Nat → Int32)) := jP_parse_74 K24 h z pv x1
set_option maxHeartbeats 4000000 in
set_option maxRecDepth 100000 in
theorem oP_parse_63 {h' : cH} {z' : cZ} {pv' : Nat → Int32} {r' : Int32} {K24 : cH → cZ → (Nat → Int32) → Int32 → Option (Int32 × cH × cZ × (Nat → Int32))} (hK24 : ∀ (h : cH) (z : cZ) (pv : Nat → Int32) (x1 : Int32), K24 h z pv x1 = some (r', h', z', pv') → cle h h') (h : cH) (z : cZ) (pv : Nat → Int32) (x1 : Int32) (hf : jP_parse_63 K24 h z pv x1 = some (r', h', z', pv')) : cle h h' := by
  unfold jP_parse_63 at hf
  exact oP_parse_74 hK24 h z pv x1 hf
noncomputable def jP_parse_111 (h : cH) (z : cZ) (pv : Nat → Int32) (s1 : Int32) : Option (Int32 × cH × cZ × (Nat → Int32)) := (fP_expect h z pv s1 (10 : Int32) (pv 1)).bind fun (z1, pv1) => if (pv1 2) = 0 then ((fS_putInOrder h z1).bind fun z4 => some (pv1 2, h, zU z4 3 (1 : Int32), pv1)) else ((fS_forget h z1).bind fun z3 => some (pv1 2, h, z3, pv1))
set_option maxHeartbeats 4000000 in
set_option maxRecDepth 100000 in
theorem oP_parse_111 {h' : cH} {z' : cZ} {pv' : Nat → Int32} {r' : Int32} (h : cH) (z : cZ) (pv : Nat → Int32) (s1 : Int32) (hf : jP_parse_111 h z pv s1 = some (r', h', z', pv')) : cle h h' := by
  unfold jP_parse_111 at hf
  obtain ⟨⟨z1, pv1⟩, g1, hf⟩ := ts_b hf
  try dsimp only at hf
  rcases (Decidable.em ((pv1 2) = 0)).symm with c2 | c2
  · have hf := ts_f hf c2
    obtain ⟨z3, g3, hf⟩ := ts_b hf
    try dsimp only at hf
    cases hf
    exact cle.rf
  · have hf := ts_t hf c2
    obtain ⟨z4, g4, hf⟩ := ts_b hf
    try dsimp only at hf
    cases hf
    exact cle.rf
noncomputable def jP_parse_91 (h : cH) (z : cZ) (pv : Nat → Int32) : Option (Int32 × cH × cZ × (Nat → Int32)) := if (pv 3) = (zi z 5) then (jP_parse_111 h z pv (1 : Int32)) else (jP_parse_111 h z pv (0 : Int32))
set_option maxHeartbeats 4000000 in
set_option maxRecDepth 100000 in
theorem oP_parse_91 {h' : cH} {z' : cZ} {pv' : Nat → Int32} {r' : Int32} (h : cH) (z : cZ) (pv : Nat → Int32) (hf : jP_parse_91 h z pv = some (r', h', z', pv')) : cle h h' := by
  unfold jP_parse_91 at hf
  rcases (Decidable.em ((pv 3) = (zi z 5))).symm with c1 | c1
  · have hf := ts_f hf c1
    exact oP_parse_111 h z pv (0 : Int32) hf
  · have hf := ts_t hf c1
    exact oP_parse_111 h z pv (1 : Int32) hf
noncomputable def lP_parse_24 : Nat → cH → cZ → (Nat → Int32) → Int32 → Option (Int32 × cH × cZ × (Nat → Int32))
  | 0 => fun _ _ _ _ => none
  | k + 1 => fun h z pv x1 => if (12000 : Int32) ≤ x1 then (jP_parse_91 h z pv) else (if (pv 2) = 0 then ((fB0_size h z).bind fun (r3, z3) => if r3 ≤ (pv 0) then (jP_parse_91 h z3 pv) else ((fP_beginsTrack h z3 pv).bind fun (r5, z5, pv5) => if r5 = 0 then (jP_parse_74 (lP_parse_24 k) h z5 (upd pv5 0 (pv5 1)) x1) else ((fP_track h z5 pv5).bind fun (hh7, z7, pv7) => jP_parse_63 (lP_parse_24 k) hh7 z7 pv7 x1))) else (jP_parse_91 h z pv))
set_option maxHeartbeats 4000000 in
set_option maxRecDepth 100000 in
theorem oP_parse_24 {h' : cH} {z' : cZ} {pv' : Nat → Int32} {r' : Int32} (k : Nat) : ∀ (h : cH) (z : cZ) (pv : Nat → Int32) (x1 : Int32), lP_parse_24 k h z pv x1 = some (r', h', z', pv') → cle h h' := by
  induction k with
  | zero => intro h z pv x1 hf; cases hf
  | succ k ih =>
    intro h z pv x1 hf
    have hf : (if (12000 : Int32) ≤ x1 then (jP_parse_91 h z pv) else (if (pv 2) = 0 then ((fB0_size h z).bind fun (r3, z3) => if r3 ≤ (pv 0) then (jP_parse_91 h z3 pv) else ((fP_beginsTrack h z3 pv).bind fun (r5, z5, pv5) => if r5 = 0 then (jP_parse_74 (lP_parse_24 k) h z5 (upd pv5 0 (pv5 1)) x1) else ((fP_track h z5 pv5).bind fun (hh7, z7, pv7) => jP_parse_63 (lP_parse_24 k) hh7 z7 pv7 x1))) else (jP_parse_91 h z pv))) = some (r', h', z', pv') := hf
    rcases Decidable.em ((12000 : Int32) ≤ x1) with c1 | c1
    · have hf := ts_t hf c1
      exact oP_parse_91 h z pv hf
    · have hf := ts_f hf c1
      rcases (Decidable.em ((pv 2) = 0)).symm with c2 | c2
      · have hf := ts_f hf c2
        exact oP_parse_91 h z pv hf
      · have hf := ts_t hf c2
        obtain ⟨⟨r3, z3⟩, g3, hf⟩ := ts_b hf
        try dsimp only at hf
        rcases Decidable.em (r3 ≤ (pv 0)) with c4 | c4
        · have hf := ts_t hf c4
          exact oP_parse_91 h z3 pv hf
        · have hf := ts_f hf c4
          obtain ⟨⟨r5, z5, pv5⟩, g5, hf⟩ := ts_b hf
          try dsimp only at hf
          rcases Decidable.em (r5 = 0) with c6 | c6
          · have hf := ts_t hf c6
            exact oP_parse_74 ih h z5 (upd pv5 0 (pv5 1)) x1 hf
          · have hf := ts_f hf c6
            obtain ⟨⟨hh7, z7, pv7⟩, g7, hf⟩ := ts_b hf
            try dsimp only at hf
            exact cle.tr (oP_track g7) (oP_parse_63 ih hh7 z7 pv7 x1 hf)
noncomputable def fP_parse (h : cH) (z : cZ) (pv : Nat → Int32) : Option (Int32 × cH × cZ × (Nat → Int32)) := (fS_forget h z).bind fun z1 => (fB0_size h z1).bind fun (r2, z2) => (fP_head h z2 (upd pv 1 r2)).bind fun (z3, pv3) => lP_parse_24 FU h z3 pv3 (0 : Int32)
set_option maxHeartbeats 4000000 in
set_option maxRecDepth 100000 in
theorem oP_parse {h' : cH} {z' : cZ} {pv' : Nat → Int32} {r' : Int32} {h : cH} {z : cZ} {pv : Nat → Int32} (hf : fP_parse h z pv = some (r', h', z', pv')) : cle h h' := by
  unfold fP_parse at hf
  obtain ⟨z1, g1, hf⟩ := ts_b hf
  try dsimp only at hf
  obtain ⟨⟨r2, z2⟩, g2, hf⟩ := ts_b hf
  try dsimp only at hf
  obtain ⟨⟨z3, pv3⟩, g3, hf⟩ := ts_b hf
  try dsimp only at hf
  exact oP_parse_24 FU h z3 pv3 (0 : Int32) hf
set_option maxHeartbeats 4000000 in
set_option maxRecDepth 100000 in
theorem wP_parse_74 {p : Program} {l : Launch} {e : Env} {s : State} {m : MethodId} {args : Array Value} {below : List Frame} {meth : Method} {c : Code} {g : gT} {qq ea0 : Nat → Nat} {A0 : Nat → Prop} {h0 : cH} {X : va_W} {rv : (Nat → Nat) → Option Value} {qp : Nat} {pv' : Nat → Int32} {h' : cH} {z' : cZ} {r' : Int32} (C : mCx p m c cP_parse 2 s args g "MidiDesk$Parser") (hr : meth.sig.returnType = (some .int)) (hlk : meth.locks = false) (hrv : rv = fun ea => some (.int r')) {K24 : cH → cZ → (Nat → Int32) → Int32 → Option (Int32 × cH × cZ × (Nat → Int32))} (hK24 : ∀ (ad : Nat → Nat) (ea : Nat → Nat) (h : cH) (z : cZ) (pv : Nat → Int32) (x1 : Int32) (H : Heap) (locs : List Loc) (ls : Array Slot), cle h0 h → lv_has ls 2 [(0, .ref qp), (1, .int x1)] → cWd g A0 s.heap qq ad ea h (pcell qp qq pv :: X) z H locs → K24 h z pv x1 = some (r', h', z', pv') → cGa p l e (rmA frP_parse loP_parse h0 h') s m args below meth c g qq A0 False ea0 rv (pcell qp qq pv' :: X) h' z' H locs (h.2.2.1 - h0.2.2.1) (h.2.2.2 - h0.2.2.2) (F0 m 24 ls [])) (hM24 : ∀ (h : cH) (z : cZ) (pv : Nat → Int32) (x1 : Int32), K24 h z pv x1 = some (r', h', z', pv') → cle h h') (ad : Nat → Nat) (ea : Nat → Nat) (h : cH) (z : cZ) (pv : Nat → Int32) (x1 : Int32) (H : Heap) (locs : List Loc) (ls : Array Slot) (hle : cle h0 h) (hl : lv_has ls 2 [(0, .ref qp), (1, .int x1)]) (hw : cWd g A0 s.heap qq ad ea h (pcell qp qq pv :: X) z H locs) (hf : jP_parse_74 K24 h z pv x1 = some (r', h', z', pv')) : cGa p l e (rmA frP_parse loP_parse h0 h') s m args below meth c g qq A0 False ea0 rv (pcell qp qq pv' :: X) h' z' H locs (h.2.2.1 - h0.2.2.1) (h.2.2.2 - h0.2.2.2) (F0 m 74 ls []) := by
  have hmn := oP_parse_74 hM24 h z pv x1 hf
  have hroom : h.2.2.1 - h0.2.2.1 + 0 ≤ (rmA frP_parse loP_parse h0 h').cells ∧ h.2.2.2 - h0.2.2.2 + 0 ≤ (rmA frP_parse loP_parse h0 h').slots := ⟨by have w := hmn.1; show _ ≤ h'.2.2.1 - h0.2.2.1; omega, by have w := hmn.2; show _ ≤ h'.2.2.2 - h0.2.2.2; omega⟩
  unfold jP_parse_74 at hf
  refine lv_aload_n C.1.1 C.1.2.1 dP_parse_74 rfl (lv_at hl 0 rfl) ?_
  refine lv_aload_n C.1.1 C.1.2.1 dP_parse_75 rfl (lv_at hl 0 rfl) ?_
  refine cg_Parser_Parser_input C hw dP_parse_76 ?_
  obtain ⟨⟨r1, z1⟩, g1, hf⟩ := ts_b hf
  try dsimp only at hf
  refine c_callV (rest := [.ref qp]) (As := []) (rv := (some (.int r1))) (b := (qq 1)) C hl.1 hw (cB0_size_met g1) rfl (callW_of (rm := rB0_size) (C := "MidiDesk$Bytes") 0 C.1.2.2.2.2 gw_241 gw_156 gw_157 gw_53 gw_158 kB0_size ⟨Nat.le_of_ble_eq_true rfl, Nat.le_of_ble_eq_true rfl⟩) (c_recv_B0 C.2 hw) rfl rfl (Nat.le_of_ble_eq_true rfl) dP_parse_79 hroom (fun H locs hw => ?_)
  refine W.eq (g2 := F0 m 82 ls [.int r1, .ref qp]) rfl ?_
  refine W.widen (k := h.2.2.1 - h0.2.2.1) (n := h.2.2.2 - h0.2.2.2) (Nat.le_refl _) (Nat.le_refl _) ?_
  refine cp_Parser_Parser_end C hw dP_parse_82 (fun H locs hw => ?_)
  refine lv_iinc (v := x1 + 1) (lv' := [(1, .int (x1 + 1)), (0, .ref qp)]) C.1.1 C.1.2.1 dP_parse_85 hl (k := 1) rfl rfl (by decide) rfl (fun ls hl => ?_)
  refine lv_goto (tgt := 24) C.1.1 C.1.2.1 dP_parse_88 (by decide) ?_
  exact hK24 _ _ h z1 (upd pv 1 r1) (x1 + 1) _ _ ls hle (lv_sub hl [1, 0] rfl) hw hf
set_option maxHeartbeats 4000000 in
set_option maxRecDepth 100000 in
theorem wP_parse_63 {p : Program} {l : Launch} {e : Env} {s : State} {m : MethodId} {args : Array Value} {below : List Frame} {meth : Method} {c : Code} {g : gT} {qq ea0 : Nat → Nat} {A0 : Nat → Prop} {h0 : cH} {X : va_W} {rv : (Nat → Nat) → Option Value} {qp : Nat} {pv' : Nat → Int32} {h' : cH} {z' : cZ} {r' : Int32} (C : mCx p m c cP_parse 2 s args g "MidiDesk$Parser") (hr : meth.sig.returnType = (some .int)) (hlk : meth.locks = false) (hrv : rv = fun ea => some (.int r')) {K24 : cH → cZ → (Nat → Int32) → Int32 → Option (Int32 × cH × cZ × (Nat → Int32))} (hK24 : ∀ (ad : Nat → Nat) (ea : Nat → Nat) (h : cH) (z : cZ) (pv : Nat → Int32) (x1 : Int32) (H : Heap) (locs : List Loc) (ls : Array Slot), cle h0 h → lv_has ls 2 [(0, .ref qp), (1, .int x1)] → cWd g A0 s.heap qq ad ea h (pcell qp qq pv :: X) z H locs → K24 h z pv x1 = some (r', h', z', pv') → cGa p l e (rmA frP_parse loP_parse h0 h') s m args below meth c g qq A0 False ea0 rv (pcell qp qq pv' :: X) h' z' H locs (h.2.2.1 - h0.2.2.1) (h.2.2.2 - h0.2.2.2) (F0 m 24 ls [])) (hM24 : ∀ (h : cH) (z : cZ) (pv : Nat → Int32) (x1 : Int32), K24 h z pv x1 = some (r', h', z', pv') → cle h h') (ad : Nat → Nat) (ea : Nat → Nat) (h : cH) (z : cZ) (pv : Nat → Int32) (x1 : Int32) (H : Heap) (locs : List Loc) (ls : Array Slot) (hle : cle h0 h) (hl : lv_has ls 2 [(0, .ref qp), (1, .int x1)]) (hw : cWd g A0 s.heap qq ad ea h (pcell qp qq pv :: X) z H locs) (hf : jP_parse_63 K24 h z pv x1 = some (r', h', z', pv')) : cGa p l e (rmA frP_parse loP_parse h0 h') s m args below meth c g qq A0 False ea0 rv (pcell qp qq pv' :: X) h' z' H locs (h.2.2.1 - h0.2.2.1) (h.2.2.2 - h0.2.2.2) (F0 m 63 ls []) := by
  have hmn := oP_parse_63 hM24 h z pv x1 hf
  have hroom : h.2.2.1 - h0.2.2.1 + 0 ≤ (rmA frP_parse loP_parse h0 h').cells ∧ h.2.2.2 - h0.2.2.2 + 0 ≤ (rmA frP_parse loP_parse h0 h').slots := ⟨by have w := hmn.1; show _ ≤ h'.2.2.1 - h0.2.2.1; omega, by have w := hmn.2; show _ ≤ h'.2.2.2 - h0.2.2.2; omega⟩
  unfold jP_parse_63 at hf
  refine lv_goto (tgt := 74) C.1.1 C.1.2.1 dP_parse_63 (by decide) ?_
  exact wP_parse_74 C hr hlk hrv hK24 hM24 _ _ h z pv x1 _ _ ls hle (lv_sub hl [0, 1] rfl) hw hf
set_option maxHeartbeats 4000000 in
set_option maxRecDepth 100000 in
theorem wP_parse_111 {p : Program} {l : Launch} {e : Env} {s : State} {m : MethodId} {args : Array Value} {below : List Frame} {meth : Method} {c : Code} {g : gT} {qq ea0 : Nat → Nat} {A0 : Nat → Prop} {h0 : cH} {X : va_W} {rv : (Nat → Nat) → Option Value} {qp : Nat} {pv' : Nat → Int32} {h' : cH} {z' : cZ} {r' : Int32} (C : mCx p m c cP_parse 2 s args g "MidiDesk$Parser") (hr : meth.sig.returnType = (some .int)) (hlk : meth.locks = false) (hrv : rv = fun ea => some (.int r')) (ad : Nat → Nat) (ea : Nat → Nat) (h : cH) (z : cZ) (pv : Nat → Int32) (s1 : Int32) (H : Heap) (locs : List Loc) (ls : Array Slot) (hle : cle h0 h) (hl : lv_has ls 2 [(0, .ref qp)]) (hw : cWd g A0 s.heap qq ad ea h (pcell qp qq pv :: X) z H locs) (hf : jP_parse_111 h z pv s1 = some (r', h', z', pv')) : cGa p l e (rmA frP_parse loP_parse h0 h') s m args below meth c g qq A0 False ea0 rv (pcell qp qq pv' :: X) h' z' H locs (h.2.2.1 - h0.2.2.1) (h.2.2.2 - h0.2.2.2) (F0 m 111 ls [.int s1, .ref qp]) := by
  have hmn := oP_parse_111 h z pv s1 hf
  have hroom : h.2.2.1 - h0.2.2.1 + 0 ≤ (rmA frP_parse loP_parse h0 h').cells ∧ h.2.2.2 - h0.2.2.2 + 0 ≤ (rmA frP_parse loP_parse h0 h').slots := ⟨by have w := hmn.1; show _ ≤ h'.2.2.1 - h0.2.2.1; omega, by have w := hmn.2; show _ ≤ h'.2.2.2 - h0.2.2.2; omega⟩
  unfold jP_parse_111 at hf
  refine lv_bipush (v := (10 : Int32)) C.1.1 C.1.2.1 dP_parse_111 (by decide) ?_
  refine lv_aload_n C.1.1 C.1.2.1 dP_parse_113 rfl (lv_at hl 0 rfl) ?_
  refine cg_Parser_Parser_end C hw dP_parse_114 ?_
  obtain ⟨⟨z1, pv1⟩, g1, hf⟩ := ts_b hf
  try dsimp only at hf
  refine c_callV (rest := []) (As := [.int s1, .int (10 : Int32), .int (pv 1)]) (rv := none) (b := qp) C hl.1 hw (cP_expect_met g1) rfl (callW_of (rm := rP_expect) (C := "MidiDesk$Parser") 3 C.1.2.2.2.2 gw_250 gw_252 gw_2 gw_59 gw_253 kP_expect ⟨Nat.le_of_ble_eq_true rfl, Nat.le_of_ble_eq_true rfl⟩) (c_recvX (ci := 2) C.2 rfl hw) rfl rfl (Nat.le_of_ble_eq_true rfl) dP_parse_117 hroom (fun H locs hw => ?_)
  refine W.eq (g2 := F0 m 120 ls []) rfl ?_
  refine W.widen (k := h.2.2.1 - h0.2.2.1) (n := h.2.2.2 - h0.2.2.2) (Nat.le_refl _) (Nat.le_refl _) ?_
  refine lv_aload_n C.1.1 C.1.2.1 dP_parse_120 rfl (lv_at hl 0 rfl) ?_
  refine cg_Parser_Parser_fault C hw dP_parse_121 ?_
  refine lv_if_ne (tgt := 145) C.1.1 C.1.2.1 dP_parse_124 (by decide) (fun c2 => ?_) (fun c2 => ?_)
  · have hf := ts_f hf c2
    refine lv_aload_n C.1.1 C.1.2.1 dP_parse_145 rfl (lv_at hl 0 rfl) ?_
    refine cg_Parser_Parser_score C hw dP_parse_146 ?_
    obtain ⟨z3, g3, hf⟩ := ts_b hf
    try dsimp only at hf
    refine c_callV (rest := []) (As := []) (rv := none) (b := (qq 4)) C hl.1 hw (cS_forget_met g3) rfl (callW_of (rm := rS_forget) (C := "MidiDesk$Score") 0 C.1.2.2.2.2 gw_233 gw_234 gw_235 gw_54 gw_236 kS_forget ⟨Nat.le_of_ble_eq_true rfl, Nat.le_of_ble_eq_true rfl⟩) (c_recv_score C.2 hw) rfl rfl (Nat.le_of_ble_eq_true rfl) dP_parse_149 hroom (fun H locs hw => ?_)
    refine W.eq (g2 := F0 m 152 ls []) rfl ?_
    refine W.widen (k := h.2.2.1 - h0.2.2.1) (n := h.2.2.2 - h0.2.2.2) (Nat.le_refl _) (Nat.le_refl _) ?_
    refine lv_aload_n C.1.1 C.1.2.1 dP_parse_152 rfl (lv_at hl 0 rfl) ?_
    refine cg_Parser_Parser_fault C hw dP_parse_153 ?_
    obtain ⟨hf, hpv⟩ := pr5 hf
    exact c_retAi C hr hlk hrv (fun w => w.elim) hw hf (by rw [hpv]) (by cases hf; exact ⟨Nat.le_refl _, Nat.le_refl _⟩) dP_parse_156
  · have hf := ts_t hf c2
    refine lv_aload_n C.1.1 C.1.2.1 dP_parse_127 rfl (lv_at hl 0 rfl) ?_
    refine cg_Parser_Parser_score C hw dP_parse_128 ?_
    obtain ⟨z4, g4, hf⟩ := ts_b hf
    try dsimp only at hf
    refine c_callV (rest := []) (As := []) (rv := none) (b := (qq 4)) C hl.1 hw (cS_putInOrder_met g4) rfl (callW_of (rm := rS_putInOrder) (C := "MidiDesk$Score") 0 C.1.2.2.2.2 gw_379 gw_380 gw_381 gw_54 gw_382 kS_putInOrder ⟨Nat.le_of_ble_eq_true rfl, Nat.le_of_ble_eq_true rfl⟩) (c_recv_score C.2 hw) rfl rfl (Nat.le_of_ble_eq_true rfl) dP_parse_131 hroom (fun H locs hw => ?_)
    refine W.eq (g2 := F0 m 134 ls []) rfl ?_
    refine W.widen (k := h.2.2.1 - h0.2.2.1) (n := h.2.2.2 - h0.2.2.2) (Nat.le_refl _) (Nat.le_refl _) ?_
    refine lv_aload_n C.1.1 C.1.2.1 dP_parse_134 rfl (lv_at hl 0 rfl) ?_
    refine cg_Parser_Parser_score C hw dP_parse_135 ?_
    refine lv_iconst (v := (1 : Int32)) C.1.1 C.1.2.1 dP_parse_138 (by decide) ?_
    refine cp_Parser_Score_present C hw (Or.inr rfl) dP_parse_139 (fun H locs hw => ?_)
    refine lv_goto (tgt := 152) C.1.1 C.1.2.1 dP_parse_142 (by decide) ?_
    refine lv_aload_n C.1.1 C.1.2.1 dP_parse_152 rfl (lv_at hl 0 rfl) ?_
    refine cg_Parser_Parser_fault C hw dP_parse_153 ?_
    obtain ⟨hf, hpv⟩ := pr5 hf
    exact c_retAi C hr hlk hrv (fun w => w.elim) hw hf (by rw [hpv]) (by cases hf; exact ⟨Nat.le_refl _, Nat.le_refl _⟩) dP_parse_156
set_option maxHeartbeats 4000000 in
set_option maxRecDepth 100000 in
theorem wP_parse_91 {p : Program} {l : Launch} {e : Env} {s : State} {m : MethodId} {args : Array Value} {below : List Frame} {meth : Method} {c : Code} {g : gT} {qq ea0 : Nat → Nat} {A0 : Nat → Prop} {h0 : cH} {X : va_W} {rv : (Nat → Nat) → Option Value} {qp : Nat} {pv' : Nat → Int32} {h' : cH} {z' : cZ} {r' : Int32} (C : mCx p m c cP_parse 2 s args g "MidiDesk$Parser") (hr : meth.sig.returnType = (some .int)) (hlk : meth.locks = false) (hrv : rv = fun ea => some (.int r')) (ad : Nat → Nat) (ea : Nat → Nat) (h : cH) (z : cZ) (pv : Nat → Int32) (H : Heap) (locs : List Loc) (ls : Array Slot) (hle : cle h0 h) (hl : lv_has ls 2 [(0, .ref qp)]) (hw : cWd g A0 s.heap qq ad ea h (pcell qp qq pv :: X) z H locs) (hf : jP_parse_91 h z pv = some (r', h', z', pv')) : cGa p l e (rmA frP_parse loP_parse h0 h') s m args below meth c g qq A0 False ea0 rv (pcell qp qq pv' :: X) h' z' H locs (h.2.2.1 - h0.2.2.1) (h.2.2.2 - h0.2.2.2) (F0 m 91 ls []) := by
  have hmn := oP_parse_91 h z pv hf
  have hroom : h.2.2.1 - h0.2.2.1 + 0 ≤ (rmA frP_parse loP_parse h0 h').cells ∧ h.2.2.2 - h0.2.2.2 + 0 ≤ (rmA frP_parse loP_parse h0 h').slots := ⟨by have w := hmn.1; show _ ≤ h'.2.2.1 - h0.2.2.1; omega, by have w := hmn.2; show _ ≤ h'.2.2.2 - h0.2.2.2; omega⟩
  unfold jP_parse_91 at hf
  refine lv_aload_n C.1.1 C.1.2.1 dP_parse_91 rfl (lv_at hl 0 rfl) ?_
  refine lv_aload_n C.1.1 C.1.2.1 dP_parse_92 rfl (lv_at hl 0 rfl) ?_
  refine cg_Parser_Parser_tracksSeen C hw dP_parse_93 ?_
  refine lv_aload_n C.1.1 C.1.2.1 dP_parse_96 rfl (lv_at hl 0 rfl) ?_
  refine cg_Parser_Parser_score C hw dP_parse_97 ?_
  refine cg_Parser_Score_tracks C hw dP_parse_100 ?_
  refine lv_icmp_ne (tgt := 110) C.1.1 C.1.2.1 dP_parse_103 (by decide) (fun c1 => ?_) (fun c1 => ?_)
  · have hf := ts_f hf c1
    refine lv_iconst (v := (0 : Int32)) C.1.1 C.1.2.1 dP_parse_110 (by decide) ?_
    exact wP_parse_111 C hr hlk hrv _ _ h z pv (0 : Int32) _ _ ls hle (lv_sub hl [0] rfl) hw hf
  · have hf := ts_t hf c1
    refine lv_iconst (v := (1 : Int32)) C.1.1 C.1.2.1 dP_parse_106 (by decide) ?_
    refine lv_goto (tgt := 111) C.1.1 C.1.2.1 dP_parse_107 (by decide) ?_
    exact wP_parse_111 C hr hlk hrv _ _ h z pv (1 : Int32) _ _ ls hle (lv_sub hl [0] rfl) hw hf
set_option maxHeartbeats 4000000 in
set_option maxRecDepth 100000 in
theorem wP_parse_24 {p : Program} {l : Launch} {e : Env} {s : State} {m : MethodId} {args : Array Value} {below : List Frame} {meth : Method} {c : Code} {g : gT} {qq ea0 : Nat → Nat} {A0 : Nat → Prop} {h0 : cH} {X : va_W} {rv : (Nat → Nat) → Option Value} {qp : Nat} {pv' : Nat → Int32} {h' : cH} {z' : cZ} {r' : Int32} (C : mCx p m c cP_parse 2 s args g "MidiDesk$Parser") (hr : meth.sig.returnType = (some .int)) (hlk : meth.locks = false) (hrv : rv = fun ea => some (.int r')) (k : Nat) : ∀ (ad : Nat → Nat) (ea : Nat → Nat) (h : cH) (z : cZ) (pv : Nat → Int32) (x1 : Int32) (H : Heap) (locs : List Loc) (ls : Array Slot), cle h0 h → lv_has ls 2 [(0, .ref qp), (1, .int x1)] → cWd g A0 s.heap qq ad ea h (pcell qp qq pv :: X) z H locs → lP_parse_24 k h z pv x1 = some (r', h', z', pv') → cGa p l e (rmA frP_parse loP_parse h0 h') s m args below meth c g qq A0 False ea0 rv (pcell qp qq pv' :: X) h' z' H locs (h.2.2.1 - h0.2.2.1) (h.2.2.2 - h0.2.2.2) (F0 m 24 ls []) := by
  induction k with
  | zero => intro ad ea h z pv x1 H locs ls hle hl hw hf; cases hf
  | succ k ih =>
    intro ad ea h z pv x1 H locs ls hle hl hw hf
    have hmn := oP_parse_24 (k + 1) h z pv x1 hf
    have hroom : h.2.2.1 - h0.2.2.1 + 0 ≤ (rmA frP_parse loP_parse h0 h').cells ∧ h.2.2.2 - h0.2.2.2 + 0 ≤ (rmA frP_parse loP_parse h0 h').slots := ⟨by have w := hmn.1; show _ ≤ h'.2.2.1 - h0.2.2.1; omega, by have w := hmn.2; show _ ≤ h'.2.2.2 - h0.2.2.2; omega⟩
    have hf : (if (12000 : Int32) ≤ x1 then (jP_parse_91 h z pv) else (if (pv 2) = 0 then ((fB0_size h z).bind fun (r3, z3) => if r3 ≤ (pv 0) then (jP_parse_91 h z3 pv) else ((fP_beginsTrack h z3 pv).bind fun (r5, z5, pv5) => if r5 = 0 then (jP_parse_74 (lP_parse_24 k) h z5 (upd pv5 0 (pv5 1)) x1) else ((fP_track h z5 pv5).bind fun (hh7, z7, pv7) => jP_parse_63 (lP_parse_24 k) hh7 z7 pv7 x1))) else (jP_parse_91 h z pv))) = some (r', h', z', pv') := hf
    have ihm := oP_parse_24 k (h' := h') (z' := z') (pv' := pv') (r' := r')
    refine lv_iload_n C.1.1 C.1.2.1 dP_parse_24 rfl (lv_at hl 1 rfl) ?_
    refine lv_sipush (v := (12000 : Int32)) C.1.1 C.1.2.1 dP_parse_25 (by decide) ?_
    refine lv_icmp_ge (tgt := 91) C.1.1 C.1.2.1 dP_parse_28 (by decide) (fun c1 => ?_) (fun c1 => ?_)
    · have hf := ts_t hf c1
      exact wP_parse_91 C hr hlk hrv _ _ h z pv _ _ ls hle (lv_sub hl [0] rfl) hw hf
    · have hf := ts_f hf c1
      refine lv_aload_n C.1.1 C.1.2.1 dP_parse_31 rfl (lv_at hl 0 rfl) ?_
      refine cg_Parser_Parser_fault C hw dP_parse_32 ?_
      refine lv_if_ne (tgt := 91) C.1.1 C.1.2.1 dP_parse_35 (by decide) (fun c2 => ?_) (fun c2 => ?_)
      · have hf := ts_f hf c2
        exact wP_parse_91 C hr hlk hrv _ _ h z pv _ _ ls hle (lv_sub hl [0] rfl) hw hf
      · have hf := ts_t hf c2
        refine lv_aload_n C.1.1 C.1.2.1 dP_parse_38 rfl (lv_at hl 0 rfl) ?_
        refine cg_Parser_Parser_pos C hw dP_parse_39 ?_
        refine lv_aload_n C.1.1 C.1.2.1 dP_parse_42 rfl (lv_at hl 0 rfl) ?_
        refine cg_Parser_Parser_input C hw dP_parse_43 ?_
        obtain ⟨⟨r3, z3⟩, g3, hf⟩ := ts_b hf
        try dsimp only at hf
        refine c_callV (rest := [.int (pv 0)]) (As := []) (rv := (some (.int r3))) (b := (qq 1)) C hl.1 hw (cB0_size_met g3) rfl (callW_of (rm := rB0_size) (C := "MidiDesk$Bytes") 0 C.1.2.2.2.2 gw_241 gw_156 gw_157 gw_53 gw_158 kB0_size ⟨Nat.le_of_ble_eq_true rfl, Nat.le_of_ble_eq_true rfl⟩) (c_recv_B0 C.2 hw) rfl rfl (Nat.le_of_ble_eq_true rfl) dP_parse_46 hroom (fun H locs hw => ?_)
        refine W.eq (g2 := F0 m 49 ls [.int r3, .int (pv 0)]) rfl ?_
        refine W.widen (k := h.2.2.1 - h0.2.2.1) (n := h.2.2.2 - h0.2.2.2) (Nat.le_refl _) (Nat.le_refl _) ?_
        refine lv_icmp_ge (tgt := 91) C.1.1 C.1.2.1 dP_parse_49 (by decide) (fun c4 => ?_) (fun c4 => ?_)
        · have hf := ts_t hf c4
          exact wP_parse_91 C hr hlk hrv _ _ h z3 pv _ _ ls hle (lv_sub hl [0] rfl) hw hf
        · have hf := ts_f hf c4
          refine lv_aload_n C.1.1 C.1.2.1 dP_parse_52 rfl (lv_at hl 0 rfl) ?_
          obtain ⟨⟨r5, z5, pv5⟩, g5, hf⟩ := ts_b hf
          try dsimp only at hf
          refine c_callV (rest := []) (As := []) (rv := (some (.int r5))) (b := qp) C hl.1 hw (cP_beginsTrack_met g5) rfl (callW_of (rm := rP_beginsTrack) (C := "MidiDesk$Parser") 0 C.1.2.2.2.2 gw_264 gw_266 gw_3 gw_59 gw_267 kP_beginsTrack ⟨Nat.le_of_ble_eq_true rfl, Nat.le_of_ble_eq_true rfl⟩) (c_recvX (ci := 2) C.2 rfl hw) rfl rfl (Nat.le_of_ble_eq_true rfl) dP_parse_53 hroom (fun H locs hw => ?_)
          refine W.eq (g2 := F0 m 56 ls [.int r5]) rfl ?_
          refine W.widen (k := h.2.2.1 - h0.2.2.1) (n := h.2.2.2 - h0.2.2.2) (Nat.le_refl _) (Nat.le_refl _) ?_
          refine lv_if_eq (tgt := 66) C.1.1 C.1.2.1 dP_parse_56 (by decide) (fun c6 => ?_) (fun c6 => ?_)
          · have hf := ts_t hf c6
            refine lv_aload_n C.1.1 C.1.2.1 dP_parse_66 rfl (lv_at hl 0 rfl) ?_
            refine lv_aload_n C.1.1 C.1.2.1 dP_parse_67 rfl (lv_at hl 0 rfl) ?_
            refine cg_Parser_Parser_end C hw dP_parse_68 ?_
            refine cp_Parser_Parser_pos C hw dP_parse_71 (fun H locs hw => ?_)
            exact wP_parse_74 C hr hlk hrv ih ihm _ _ h z5 (upd pv5 0 (pv5 1)) x1 _ _ ls hle (lv_sub hl [0, 1] rfl) hw hf
          · have hf := ts_f hf c6
            refine lv_aload_n C.1.1 C.1.2.1 dP_parse_59 rfl (lv_at hl 0 rfl) ?_
            obtain ⟨⟨hh7, z7, pv7⟩, g7, hf⟩ := ts_b hf
            try dsimp only at hf
            have hm9 : cle hh7 h' := oP_parse_63 ihm _ _ _ _ hf
            have hm8 := oP_track g7
            have hm91 := hm9.1
            have hm92 := hm9.2
            have hm81 := hm8.1
            have hm82 := hm8.2
            have hle1 := hle.1
            have hle2 := hle.2
            refine c_callA (rest := []) (As := []) (rv := fun ea => none) (b := qp) C hl.1 hw (cP_track_met g7) (callW_of (rm := rmA frP_track loP_track h hh7) (C := "MidiDesk$Parser") 0 C.1.2.2.2.2 gw_269 gw_271 gw_4 gw_59 gw_272 kP_track ⟨Nat.le_of_ble_eq_true rfl, Nat.le_of_ble_eq_true rfl⟩) (c_recvX (ci := 2) C.2 rfl hw) rfl rfl (Nat.le_of_ble_eq_true rfl) dP_parse_60 ⟨by show _ ≤ h'.2.2.1 - h0.2.2.1; omega, by show _ ≤ h'.2.2.2 - h0.2.2.2; omega⟩ (fun ad ea H locs hea hw => ?_)
            refine W.widen (k := hh7.2.2.1 - h0.2.2.1) (n := hh7.2.2.2 - h0.2.2.2) (by omega) (by omega) ?_
            refine W.eq (g2 := F0 m 63 ls []) rfl ?_
            exact wP_parse_63 C hr hlk hrv ih ihm _ _ hh7 z7 pv7 x1 _ _ ls (hle.tr (oP_track g7)) (lv_sub hl [0, 1] rfl) hw hf
set_option maxHeartbeats 4000000 in
set_option maxRecDepth 100000 in
theorem cP_parse_met {l : Launch} {g : gT} {qq ad ea : Nat → Nat} {h h' : cH} {X : va_W} {qp : Nat} {pv pv' : Nat → Int32} {z z' : cZ} {r' : Int32} (hf : fP_parse h z pv = some (r', h', z', pv')) : cMeA l yP_parse cP_parse 2 (some .int) frP_parse loP_parse g qq ad ea h (pcell qp qq pv :: X) z [.ref qp] False (fun ea => some (.int r')) (pcell qp qq pv' :: X) h' z' := by
  refine c_entryA (by decide) (Nat.le_of_ble_eq_true rfl) ?_
  intro p e s m args below meth c ls C hr hlk hnm hl hw
  have hrv : (fun ea => some (.int r') : (Nat → Nat) → Option Value) = fun ea => some (.int r') := rfl
  have C : mCx p m c cP_parse 2 s args g "MidiDesk$Parser" := C
  have hl : lv_has ls 2 [(0, .ref qp)] := hl
  generalize cA g qq ad ea h (pcell qp qq pv :: X) s.heap.size = A0 at hw ⊢
  have hle : cle h h := cle.rf
  have hmn := oP_parse hf
  have hroom : h.2.2.1 - h.2.2.1 + 0 ≤ (rmA frP_parse loP_parse h h').cells ∧ h.2.2.2 - h.2.2.2 + 0 ≤ (rmA frP_parse loP_parse h h').slots := ⟨by have w := hmn.1; show _ ≤ h'.2.2.1 - h.2.2.1; omega, by have w := hmn.2; show _ ≤ h'.2.2.2 - h.2.2.2; omega⟩
  unfold fP_parse at hf
  refine lv_aload_n C.1.1 C.1.2.1 dP_parse_0 rfl (lv_at hl 0 rfl) ?_
  refine cg_Parser_Parser_score C hw dP_parse_1 ?_
  obtain ⟨z1, g1, hf⟩ := ts_b hf
  try dsimp only at hf
  refine c_callV (rest := []) (As := []) (rv := none) (b := (qq 4)) C hl.1 hw (cS_forget_met g1) rfl (callW_of (rm := rS_forget) (C := "MidiDesk$Score") 0 C.1.2.2.2.2 gw_233 gw_234 gw_235 gw_54 gw_236 kS_forget ⟨Nat.le_of_ble_eq_true rfl, Nat.le_of_ble_eq_true rfl⟩) (c_recv_score C.2 hw) rfl rfl (Nat.le_of_ble_eq_true rfl) dP_parse_4 hroom (fun H locs hw => ?_)
  refine W.eq (g2 := F0 m 7 ls []) rfl ?_
  refine W.widen (k := h.2.2.1 - h.2.2.1) (n := h.2.2.2 - h.2.2.2) (Nat.le_refl _) (Nat.le_refl _) ?_
  refine lv_aload_n C.1.1 C.1.2.1 dP_parse_7 rfl (lv_at hl 0 rfl) ?_
  refine lv_aload_n C.1.1 C.1.2.1 dP_parse_8 rfl (lv_at hl 0 rfl) ?_
  refine cg_Parser_Parser_input C hw dP_parse_9 ?_
  obtain ⟨⟨r2, z2⟩, g2, hf⟩ := ts_b hf
  try dsimp only at hf
  refine c_callV (rest := [.ref qp]) (As := []) (rv := (some (.int r2))) (b := (qq 1)) C hl.1 hw (cB0_size_met g2) rfl (callW_of (rm := rB0_size) (C := "MidiDesk$Bytes") 0 C.1.2.2.2.2 gw_241 gw_156 gw_157 gw_53 gw_158 kB0_size ⟨Nat.le_of_ble_eq_true rfl, Nat.le_of_ble_eq_true rfl⟩) (c_recv_B0 C.2 hw) rfl rfl (Nat.le_of_ble_eq_true rfl) dP_parse_12 hroom (fun H locs hw => ?_)
  refine W.eq (g2 := F0 m 15 ls [.int r2, .ref qp]) rfl ?_
  refine W.widen (k := h.2.2.1 - h.2.2.1) (n := h.2.2.2 - h.2.2.2) (Nat.le_refl _) (Nat.le_refl _) ?_
  refine cp_Parser_Parser_end C hw dP_parse_15 (fun H locs hw => ?_)
  refine lv_aload_n C.1.1 C.1.2.1 dP_parse_18 rfl (lv_at hl 0 rfl) ?_
  obtain ⟨⟨z3, pv3⟩, g3, hf⟩ := ts_b hf
  try dsimp only at hf
  refine c_callV (rest := []) (As := []) (rv := none) (b := qp) C hl.1 hw (cP_head_met g3) rfl (callW_of (rm := rP_head) (C := "MidiDesk$Parser") 0 C.1.2.2.2.2 gw_242 gw_244 gw_0 gw_59 gw_245 kP_head ⟨Nat.le_of_ble_eq_true rfl, Nat.le_of_ble_eq_true rfl⟩) (c_recvX (ci := 2) C.2 rfl hw) rfl rfl (Nat.le_of_ble_eq_true rfl) dP_parse_19 hroom (fun H locs hw => ?_)
  refine W.eq (g2 := F0 m 22 ls []) rfl ?_
  refine W.widen (k := h.2.2.1 - h.2.2.1) (n := h.2.2.2 - h.2.2.2) (Nat.le_refl _) (Nat.le_refl _) ?_
  refine lv_iconst (v := (0 : Int32)) C.1.1 C.1.2.1 dP_parse_22 (by decide) ?_
  refine lv_istore_n (lv' := [(1, .int (0 : Int32)), (0, .ref qp)]) C.1.1 C.1.2.1 dP_parse_23 rfl hl (by decide) rfl (fun ls hl => ?_)
  exact wP_parse_24 C hr hlk hrv FU _ _ h z3 pv3 (0 : Int32) _ _ ls hle (lv_sub hl [1, 0] rfl) hw hf
