
theorem mw_app {g : gT} {q : Nat} {ad : Nat → Nat} {iv : Nat → Int32} {av : Nat → Nat → Int32} {X : va_W} : mw g q ad iv av X = mw g q ad iv av [] ++ X := rfl
theorem mw_pushP {D : va_G} {cl : List vw_C} {g : gT} {q : Nat} {ad : Nat → Nat} {iv : Nat → Int32} {av : Nat → Nat → Int32} {X : va_W} {x : Nat × va_E} {H : Heap} (hP : va_P D cl (mw g q ad iv av X ++ [x]) H) : va_P D cl (mw g q ad iv av (x :: X)) H := by
  rw [mw_app] at hP ⊢
  have := va_P.swap hP
  rw [List.append_assoc] at this
  exact this
theorem mw_pushD {A : Nat → Prop} {g : gT} {q : Nat} {ad : Nat → Nat} {iv : Nat → Int32} {av : Nat → Nat → Int32} {X : va_W} {x : Nat × va_E} (hD : va_D A (mw g q ad iv av X ++ [x])) : va_D A (mw g q ad iv av (x :: X)) := by
  rw [mw_app] at hD ⊢
  have := va_D.swap hD
  rw [List.append_assoc] at this
  exact this
section CLR
variable {p : Program} {l : Launch} {e : Env} {R : Room} {s : State} {m : MethodId} {args : Array Value} {below : List Frame} {meth : Method} {c : Code} {H : Heap} {locs : List Loc} {cells slots : Nat} {Q : State → Prop} {cc : ByteArray} {nL pc : Nat} {ls : Array Slot} {rest : List Value} {g : gT} {A : Nat → Prop} {H0 : Heap} {q : Nat} {ad : Nat → Nat} {X : va_W} {iv : Nat → Int32} {av : Nat → Nat → Int32}
theorem mw_drop {x : Nat × va_E} (hw : mWd g A H0 q ad (x :: X) iv av H locs) : mWd g A H0 q ad X iv av H locs := by
  refine ⟨?_, ?_, hw.2.2.1, hw.2.2.2⟩
  · have hP := hw.1
    rw [mw_app] at hP ⊢
    refine va_P_in hP (fun y hy => ?_)
    rcases List.mem_append.mp hy with w | w
    · exact List.mem_append_left _ w
    · exact List.mem_append_right _ (List.mem_cons_of_mem _ w)
  · have hD := hw.2.1
    rw [mw_app] at hD ⊢
    rw [va_D_nd] at hD ⊢
    refine ⟨?_, fun y hy => hD.2 y ?_⟩
    · refine List.Nodup.sublist ?_ hD.1
      exact ((List.Sublist.refl _).append (List.sublist_cons_self _ _)).map _
    · rcases List.mem_append.mp hy with w | w
      · exact List.mem_append_left _ w
      · exact List.mem_append_right _ (List.mem_cons_of_mem _ w)
theorem mn_ald {i : Int32} {qn rn : Nat} {rw : Nat → Int32} (C : mCx p m c cc nL s args g "MidiDeskModel") (hw : mWd g A H0 q ad ((qn, larr g rn rw) :: X) iv av H locs) (hin : ¬ (i < 0 ∨ rn ≤ i.toNatClampNeg)) (hdg : decode cc pc = .ok (.iaload, 1)) (kk : W p l e R s m args below meth c H locs cells slots Q (F0 m (pc + 1) ls (.int (rw i.toNatClampNeg) :: rest))) : W p l e R s m args below meth c H locs cells slots Q (F0 m pc ls (.int i :: .ref qn :: rest)) :=
  va_iald C.1.1 C.1.2.1 C.2.1 hw.1 13 0 rfl rfl hin hdg kk
theorem mn_ast {i x : Int32} {qn rn : Nat} {rw : Nat → Int32} (C : mCx p m c cc nL s args g "MidiDeskModel") (hw : mWd g A H0 q ad ((qn, larr g rn rw) :: X) iv av H locs) (hin : ¬ (i < 0 ∨ rn ≤ i.toNatClampNeg)) (hdg : decode cc pc = .ok (.iastore, 1)) (kk : ∀ (H1 : Heap) (locs1 : List Loc), mWd g A H0 q ad ((qn, larr g rn (upd rw i.toNatClampNeg x)) :: X) iv av H1 locs1 → W p l e R s m args below meth c H1 locs1 cells slots Q (F0 m (pc + 1) ls rest)) : W p l e R s m args below meth c H locs cells slots Q (F0 m pc ls (.int x :: .int i :: .ref qn :: rest)) :=
  va_iast C.1.1 C.1.2.1 C.2.1 hw.1 hw.2.1 hw.2.2.1 13 0 rfl rfl hin hdg (fun H1 locs1 hP hD hS => kk H1 locs1 ⟨hP, hD, hS, hw.2.2.2⟩)
end CLR
abbrev cM_clear : ByteArray := prog_8_method_34_code
abbrev yM_clear : MethodName := ⟨"MidiDeskModel", "clear", "(I)I"⟩
theorem kM_clear : yM_clear.cls ≠ "java/lang/invoke/MethodHandle" ∧ yM_clear.cls ≠ "java/lang/invoke/VarHandle" ∧ (parseMethodDescriptor yM_clear.desc).map (fun d => d.parameters.length) = some 1 := by decide +kernel
abbrev rM_clear : Room := { frames := 1, cells := 1, slots := 7007, locals := 22 }
theorem dM_clear_0 : decode cM_clear 0 = .ok (.aload_n 0, 1) := by decide +kernel
theorem dM_clear_1 : decode cM_clear 1 = .ok (.aload_n 0, 1) := by decide +kernel
theorem dM_clear_2 : decode cM_clear 2 = .ok (.getfield 110, 3) := by decide +kernel
theorem dM_clear_5 : decode cM_clear 5 = .ok (.ifCond .ne 7, 3) := by decide +kernel
theorem dM_clear_8 : decode cM_clear 8 = .ok (.iconst 1, 1) := by decide +kernel
theorem dM_clear_9 : decode cM_clear 9 = .ok (.goto 4, 3) := by decide +kernel
theorem dM_clear_12 : decode cM_clear 12 = .ok (.iconst 0, 1) := by decide +kernel
theorem dM_clear_13 : decode cM_clear 13 = .ok (.iload_n 1, 1) := by decide +kernel
theorem dM_clear_14 : decode cM_clear 14 = .ok (.ifCond .lt 11, 3) := by decide +kernel
theorem dM_clear_17 : decode cM_clear 17 = .ok (.iload_n 1, 1) := by decide +kernel
theorem dM_clear_18 : decode cM_clear 18 = .ok (.aload_n 0, 1) := by decide +kernel
theorem dM_clear_19 : decode cM_clear 19 = .ok (.getfield 85, 3) := by decide +kernel
theorem dM_clear_22 : decode cM_clear 22 = .ok (.if_icmp .lt 7, 3) := by decide +kernel
theorem dM_clear_25 : decode cM_clear 25 = .ok (.iconst 1, 1) := by decide +kernel
theorem dM_clear_26 : decode cM_clear 26 = .ok (.goto 4, 3) := by decide +kernel
theorem dM_clear_29 : decode cM_clear 29 = .ok (.iconst 0, 1) := by decide +kernel
theorem dM_clear_30 : decode cM_clear 30 = .ok (.invokevirtual 158, 3) := by decide +kernel
theorem dM_clear_33 : decode cM_clear 33 = .ok (.ifCond .eq 5, 3) := by decide +kernel
theorem dM_clear_36 : decode cM_clear 36 = .ok (.iconst 0, 1) := by decide +kernel
theorem dM_clear_37 : decode cM_clear 37 = .ok (.ireturn, 1) := by decide +kernel
theorem dM_clear_38 : decode cM_clear 38 = .ok (.iconst 0, 1) := by decide +kernel
theorem dM_clear_39 : decode cM_clear 39 = .ok (.istore_n 2, 1) := by decide +kernel
theorem dM_clear_40 : decode cM_clear 40 = .ok (.iconst 0, 1) := by decide +kernel
theorem dM_clear_41 : decode cM_clear 41 = .ok (.istore_n 3, 1) := by decide +kernel
theorem dM_clear_42 : decode cM_clear 42 = .ok (.iload_n 3, 1) := by decide +kernel
theorem dM_clear_43 : decode cM_clear 43 = .ok (.aload_n 0, 1) := by decide +kernel
theorem dM_clear_44 : decode cM_clear 44 = .ok (.getfield 95, 3) := by decide +kernel
theorem dM_clear_47 : decode cM_clear 47 = .ok (.if_icmp .ge 42, 3) := by decide +kernel
theorem dM_clear_50 : decode cM_clear 50 = .ok (.aload_n 0, 1) := by decide +kernel
theorem dM_clear_51 : decode cM_clear 51 = .ok (.getfield 16, 3) := by decide +kernel
theorem dM_clear_54 : decode cM_clear 54 = .ok (.aload_n 0, 1) := by decide +kernel
theorem dM_clear_55 : decode cM_clear 55 = .ok (.getfield 34, 3) := by decide +kernel
theorem dM_clear_58 : decode cM_clear 58 = .ok (.iload_n 3, 1) := by decide +kernel
theorem dM_clear_59 : decode cM_clear 59 = .ok (.iaload, 1) := by decide +kernel
theorem dM_clear_60 : decode cM_clear 60 = .ok (.iaload, 1) := by decide +kernel
theorem dM_clear_61 : decode cM_clear 61 = .ok (.iload_n 1, 1) := by decide +kernel
theorem dM_clear_62 : decode cM_clear 62 = .ok (.if_icmp .ne 6, 3) := by decide +kernel
theorem dM_clear_65 : decode cM_clear 65 = .ok (.goto 18, 3) := by decide +kernel
theorem dM_clear_68 : decode cM_clear 68 = .ok (.aload_n 0, 1) := by decide +kernel
theorem dM_clear_69 : decode cM_clear 69 = .ok (.getfield 37, 3) := by decide +kernel
theorem dM_clear_72 : decode cM_clear 72 = .ok (.iload_n 2, 1) := by decide +kernel
theorem dM_clear_73 : decode cM_clear 73 = .ok (.aload_n 0, 1) := by decide +kernel
theorem dM_clear_74 : decode cM_clear 74 = .ok (.getfield 34, 3) := by decide +kernel
theorem dM_clear_77 : decode cM_clear 77 = .ok (.iload_n 3, 1) := by decide +kernel
theorem dM_clear_78 : decode cM_clear 78 = .ok (.iaload, 1) := by decide +kernel
theorem dM_clear_79 : decode cM_clear 79 = .ok (.iastore, 1) := by decide +kernel
theorem dM_clear_80 : decode cM_clear 80 = .ok (.iinc 2 1, 3) := by decide +kernel
theorem dM_clear_83 : decode cM_clear 83 = .ok (.iinc 3 1, 3) := by decide +kernel
theorem dM_clear_86 : decode cM_clear 86 = .ok (.goto (-44), 3) := by decide +kernel
theorem dM_clear_89 : decode cM_clear 89 = .ok (.aload_n 0, 1) := by decide +kernel
theorem dM_clear_90 : decode cM_clear 90 = .ok (.getfield 95, 3) := by decide +kernel
theorem dM_clear_93 : decode cM_clear 93 = .ok (.iload_n 2, 1) := by decide +kernel
theorem dM_clear_94 : decode cM_clear 94 = .ok (.isub, 1) := by decide +kernel
theorem dM_clear_95 : decode cM_clear 95 = .ok (.istore_n 3, 1) := by decide +kernel
theorem dM_clear_96 : decode cM_clear 96 = .ok (.bipush 7, 2) := by decide +kernel
theorem dM_clear_98 : decode cM_clear 98 = .ok (.iload_n 2, 1) := by decide +kernel
theorem dM_clear_99 : decode cM_clear 99 = .ok (.imul, 1) := by decide +kernel
theorem dM_clear_100 : decode cM_clear 100 = .ok (.newarray .int, 2) := by decide +kernel
theorem dM_clear_102 : decode cM_clear 102 = .ok (.astore 4, 2) := by decide +kernel
theorem dM_clear_104 : decode cM_clear 104 = .ok (.iconst 0, 1) := by decide +kernel
theorem dM_clear_105 : decode cM_clear 105 = .ok (.istore 5, 2) := by decide +kernel
theorem dM_clear_107 : decode cM_clear 107 = .ok (.iload 5, 2) := by decide +kernel
theorem dM_clear_109 : decode cM_clear 109 = .ok (.iload_n 2, 1) := by decide +kernel
theorem dM_clear_110 : decode cM_clear 110 = .ok (.if_icmp .ge 136, 3) := by decide +kernel
theorem dM_clear_113 : decode cM_clear 113 = .ok (.aload_n 0, 1) := by decide +kernel
theorem dM_clear_114 : decode cM_clear 114 = .ok (.getfield 37, 3) := by decide +kernel
theorem dM_clear_117 : decode cM_clear 117 = .ok (.iload 5, 2) := by decide +kernel
theorem dM_clear_119 : decode cM_clear 119 = .ok (.iaload, 1) := by decide +kernel
theorem dM_clear_120 : decode cM_clear 120 = .ok (.istore 6, 2) := by decide +kernel
theorem dM_clear_122 : decode cM_clear 122 = .ok (.aload 4, 2) := by decide +kernel
theorem dM_clear_124 : decode cM_clear 124 = .ok (.bipush 7, 2) := by decide +kernel
theorem dM_clear_126 : decode cM_clear 126 = .ok (.iload 5, 2) := by decide +kernel
theorem dM_clear_128 : decode cM_clear 128 = .ok (.imul, 1) := by decide +kernel
theorem dM_clear_129 : decode cM_clear 129 = .ok (.aload_n 0, 1) := by decide +kernel
theorem dM_clear_130 : decode cM_clear 130 = .ok (.getfield 13, 3) := by decide +kernel
theorem dM_clear_133 : decode cM_clear 133 = .ok (.iload 6, 2) := by decide +kernel
theorem dM_clear_135 : decode cM_clear 135 = .ok (.iaload, 1) := by decide +kernel
theorem dM_clear_136 : decode cM_clear 136 = .ok (.iastore, 1) := by decide +kernel
theorem dM_clear_137 : decode cM_clear 137 = .ok (.aload 4, 2) := by decide +kernel
theorem dM_clear_139 : decode cM_clear 139 = .ok (.bipush 7, 2) := by decide +kernel
theorem dM_clear_141 : decode cM_clear 141 = .ok (.iload 5, 2) := by decide +kernel
theorem dM_clear_143 : decode cM_clear 143 = .ok (.imul, 1) := by decide +kernel
theorem dM_clear_144 : decode cM_clear 144 = .ok (.iconst 1, 1) := by decide +kernel
theorem dM_clear_145 : decode cM_clear 145 = .ok (.iadd, 1) := by decide +kernel
theorem dM_clear_146 : decode cM_clear 146 = .ok (.aload_n 0, 1) := by decide +kernel
theorem dM_clear_147 : decode cM_clear 147 = .ok (.getfield 16, 3) := by decide +kernel
theorem dM_clear_150 : decode cM_clear 150 = .ok (.iload 6, 2) := by decide +kernel
theorem dM_clear_152 : decode cM_clear 152 = .ok (.iaload, 1) := by decide +kernel
theorem dM_clear_153 : decode cM_clear 153 = .ok (.iastore, 1) := by decide +kernel
theorem dM_clear_154 : decode cM_clear 154 = .ok (.aload 4, 2) := by decide +kernel
theorem dM_clear_156 : decode cM_clear 156 = .ok (.bipush 7, 2) := by decide +kernel
theorem dM_clear_158 : decode cM_clear 158 = .ok (.iload 5, 2) := by decide +kernel
theorem dM_clear_160 : decode cM_clear 160 = .ok (.imul, 1) := by decide +kernel
theorem dM_clear_161 : decode cM_clear 161 = .ok (.iconst 2, 1) := by decide +kernel
theorem dM_clear_162 : decode cM_clear 162 = .ok (.iadd, 1) := by decide +kernel
theorem dM_clear_163 : decode cM_clear 163 = .ok (.aload_n 0, 1) := by decide +kernel
theorem dM_clear_164 : decode cM_clear 164 = .ok (.getfield 19, 3) := by decide +kernel
theorem dM_clear_167 : decode cM_clear 167 = .ok (.iload 6, 2) := by decide +kernel
theorem dM_clear_169 : decode cM_clear 169 = .ok (.iaload, 1) := by decide +kernel
theorem dM_clear_170 : decode cM_clear 170 = .ok (.iastore, 1) := by decide +kernel
theorem dM_clear_171 : decode cM_clear 171 = .ok (.aload 4, 2) := by decide +kernel
theorem dM_clear_173 : decode cM_clear 173 = .ok (.bipush 7, 2) := by decide +kernel
theorem dM_clear_175 : decode cM_clear 175 = .ok (.iload 5, 2) := by decide +kernel
theorem dM_clear_177 : decode cM_clear 177 = .ok (.imul, 1) := by decide +kernel
theorem dM_clear_178 : decode cM_clear 178 = .ok (.iconst 3, 1) := by decide +kernel
theorem dM_clear_179 : decode cM_clear 179 = .ok (.iadd, 1) := by decide +kernel
theorem dM_clear_180 : decode cM_clear 180 = .ok (.aload_n 0, 1) := by decide +kernel
theorem dM_clear_181 : decode cM_clear 181 = .ok (.getfield 22, 3) := by decide +kernel
theorem dM_clear_184 : decode cM_clear 184 = .ok (.iload 6, 2) := by decide +kernel
theorem dM_clear_186 : decode cM_clear 186 = .ok (.iaload, 1) := by decide +kernel
theorem dM_clear_187 : decode cM_clear 187 = .ok (.iastore, 1) := by decide +kernel
theorem dM_clear_188 : decode cM_clear 188 = .ok (.aload 4, 2) := by decide +kernel
theorem dM_clear_190 : decode cM_clear 190 = .ok (.bipush 7, 2) := by decide +kernel
theorem dM_clear_192 : decode cM_clear 192 = .ok (.iload 5, 2) := by decide +kernel
theorem dM_clear_194 : decode cM_clear 194 = .ok (.imul, 1) := by decide +kernel
theorem dM_clear_195 : decode cM_clear 195 = .ok (.iconst 4, 1) := by decide +kernel
theorem dM_clear_196 : decode cM_clear 196 = .ok (.iadd, 1) := by decide +kernel
theorem dM_clear_197 : decode cM_clear 197 = .ok (.aload_n 0, 1) := by decide +kernel
theorem dM_clear_198 : decode cM_clear 198 = .ok (.getfield 25, 3) := by decide +kernel
theorem dM_clear_201 : decode cM_clear 201 = .ok (.iload 6, 2) := by decide +kernel
theorem dM_clear_203 : decode cM_clear 203 = .ok (.iaload, 1) := by decide +kernel
theorem dM_clear_204 : decode cM_clear 204 = .ok (.iastore, 1) := by decide +kernel
theorem dM_clear_205 : decode cM_clear 205 = .ok (.aload 4, 2) := by decide +kernel
theorem dM_clear_207 : decode cM_clear 207 = .ok (.bipush 7, 2) := by decide +kernel
theorem dM_clear_209 : decode cM_clear 209 = .ok (.iload 5, 2) := by decide +kernel
theorem dM_clear_211 : decode cM_clear 211 = .ok (.imul, 1) := by decide +kernel
theorem dM_clear_212 : decode cM_clear 212 = .ok (.iconst 5, 1) := by decide +kernel
theorem dM_clear_213 : decode cM_clear 213 = .ok (.iadd, 1) := by decide +kernel
theorem dM_clear_214 : decode cM_clear 214 = .ok (.aload_n 0, 1) := by decide +kernel
theorem dM_clear_215 : decode cM_clear 215 = .ok (.getfield 28, 3) := by decide +kernel
theorem dM_clear_218 : decode cM_clear 218 = .ok (.iload 6, 2) := by decide +kernel
theorem dM_clear_220 : decode cM_clear 220 = .ok (.iaload, 1) := by decide +kernel
theorem dM_clear_221 : decode cM_clear 221 = .ok (.iastore, 1) := by decide +kernel
theorem dM_clear_222 : decode cM_clear 222 = .ok (.aload 4, 2) := by decide +kernel
theorem dM_clear_224 : decode cM_clear 224 = .ok (.bipush 7, 2) := by decide +kernel
theorem dM_clear_226 : decode cM_clear 226 = .ok (.iload 5, 2) := by decide +kernel
theorem dM_clear_228 : decode cM_clear 228 = .ok (.imul, 1) := by decide +kernel
theorem dM_clear_229 : decode cM_clear 229 = .ok (.bipush 6, 2) := by decide +kernel
theorem dM_clear_231 : decode cM_clear 231 = .ok (.iadd, 1) := by decide +kernel
theorem dM_clear_232 : decode cM_clear 232 = .ok (.aload_n 0, 1) := by decide +kernel
theorem dM_clear_233 : decode cM_clear 233 = .ok (.getfield 31, 3) := by decide +kernel
theorem dM_clear_236 : decode cM_clear 236 = .ok (.iload 6, 2) := by decide +kernel
theorem dM_clear_238 : decode cM_clear 238 = .ok (.iaload, 1) := by decide +kernel
theorem dM_clear_239 : decode cM_clear 239 = .ok (.iastore, 1) := by decide +kernel
theorem dM_clear_240 : decode cM_clear 240 = .ok (.iinc 5 1, 3) := by decide +kernel
theorem dM_clear_243 : decode cM_clear 243 = .ok (.goto (-136), 3) := by decide +kernel
theorem dM_clear_246 : decode cM_clear 246 = .ok (.iconst 0, 1) := by decide +kernel
theorem dM_clear_247 : decode cM_clear 247 = .ok (.istore 5, 2) := by decide +kernel
theorem dM_clear_249 : decode cM_clear 249 = .ok (.iload 5, 2) := by decide +kernel
theorem dM_clear_251 : decode cM_clear 251 = .ok (.iload_n 2, 1) := by decide +kernel
theorem dM_clear_252 : decode cM_clear 252 = .ok (.if_icmp .ge 136, 3) := by decide +kernel
theorem dM_clear_255 : decode cM_clear 255 = .ok (.aload_n 0, 1) := by decide +kernel
theorem dM_clear_256 : decode cM_clear 256 = .ok (.getfield 13, 3) := by decide +kernel
theorem dM_clear_259 : decode cM_clear 259 = .ok (.iload 5, 2) := by decide +kernel
theorem dM_clear_261 : decode cM_clear 261 = .ok (.aload 4, 2) := by decide +kernel
theorem dM_clear_263 : decode cM_clear 263 = .ok (.bipush 7, 2) := by decide +kernel
theorem dM_clear_265 : decode cM_clear 265 = .ok (.iload 5, 2) := by decide +kernel
theorem dM_clear_267 : decode cM_clear 267 = .ok (.imul, 1) := by decide +kernel
theorem dM_clear_268 : decode cM_clear 268 = .ok (.iaload, 1) := by decide +kernel
theorem dM_clear_269 : decode cM_clear 269 = .ok (.iastore, 1) := by decide +kernel
theorem dM_clear_270 : decode cM_clear 270 = .ok (.aload_n 0, 1) := by decide +kernel
theorem dM_clear_271 : decode cM_clear 271 = .ok (.getfield 16, 3) := by decide +kernel
theorem dM_clear_274 : decode cM_clear 274 = .ok (.iload 5, 2) := by decide +kernel
theorem dM_clear_276 : decode cM_clear 276 = .ok (.aload 4, 2) := by decide +kernel
theorem dM_clear_278 : decode cM_clear 278 = .ok (.bipush 7, 2) := by decide +kernel
theorem dM_clear_280 : decode cM_clear 280 = .ok (.iload 5, 2) := by decide +kernel
theorem dM_clear_282 : decode cM_clear 282 = .ok (.imul, 1) := by decide +kernel
theorem dM_clear_283 : decode cM_clear 283 = .ok (.iconst 1, 1) := by decide +kernel
theorem dM_clear_284 : decode cM_clear 284 = .ok (.iadd, 1) := by decide +kernel
theorem dM_clear_285 : decode cM_clear 285 = .ok (.iaload, 1) := by decide +kernel
theorem dM_clear_286 : decode cM_clear 286 = .ok (.iastore, 1) := by decide +kernel
theorem dM_clear_287 : decode cM_clear 287 = .ok (.aload_n 0, 1) := by decide +kernel
theorem dM_clear_288 : decode cM_clear 288 = .ok (.getfield 19, 3) := by decide +kernel
theorem dM_clear_291 : decode cM_clear 291 = .ok (.iload 5, 2) := by decide +kernel
theorem dM_clear_293 : decode cM_clear 293 = .ok (.aload 4, 2) := by decide +kernel
theorem dM_clear_295 : decode cM_clear 295 = .ok (.bipush 7, 2) := by decide +kernel
theorem dM_clear_297 : decode cM_clear 297 = .ok (.iload 5, 2) := by decide +kernel
theorem dM_clear_299 : decode cM_clear 299 = .ok (.imul, 1) := by decide +kernel
theorem dM_clear_300 : decode cM_clear 300 = .ok (.iconst 2, 1) := by decide +kernel
theorem dM_clear_301 : decode cM_clear 301 = .ok (.iadd, 1) := by decide +kernel
theorem dM_clear_302 : decode cM_clear 302 = .ok (.iaload, 1) := by decide +kernel
theorem dM_clear_303 : decode cM_clear 303 = .ok (.iastore, 1) := by decide +kernel
theorem dM_clear_304 : decode cM_clear 304 = .ok (.aload_n 0, 1) := by decide +kernel
theorem dM_clear_305 : decode cM_clear 305 = .ok (.getfield 22, 3) := by decide +kernel
theorem dM_clear_308 : decode cM_clear 308 = .ok (.iload 5, 2) := by decide +kernel
theorem dM_clear_310 : decode cM_clear 310 = .ok (.aload 4, 2) := by decide +kernel
theorem dM_clear_312 : decode cM_clear 312 = .ok (.bipush 7, 2) := by decide +kernel
theorem dM_clear_314 : decode cM_clear 314 = .ok (.iload 5, 2) := by decide +kernel
theorem dM_clear_316 : decode cM_clear 316 = .ok (.imul, 1) := by decide +kernel
theorem dM_clear_317 : decode cM_clear 317 = .ok (.iconst 3, 1) := by decide +kernel
theorem dM_clear_318 : decode cM_clear 318 = .ok (.iadd, 1) := by decide +kernel
theorem dM_clear_319 : decode cM_clear 319 = .ok (.iaload, 1) := by decide +kernel
theorem dM_clear_320 : decode cM_clear 320 = .ok (.iastore, 1) := by decide +kernel
theorem dM_clear_321 : decode cM_clear 321 = .ok (.aload_n 0, 1) := by decide +kernel
theorem dM_clear_322 : decode cM_clear 322 = .ok (.getfield 25, 3) := by decide +kernel
theorem dM_clear_325 : decode cM_clear 325 = .ok (.iload 5, 2) := by decide +kernel
theorem dM_clear_327 : decode cM_clear 327 = .ok (.aload 4, 2) := by decide +kernel
theorem dM_clear_329 : decode cM_clear 329 = .ok (.bipush 7, 2) := by decide +kernel
theorem dM_clear_331 : decode cM_clear 331 = .ok (.iload 5, 2) := by decide +kernel
theorem dM_clear_333 : decode cM_clear 333 = .ok (.imul, 1) := by decide +kernel
theorem dM_clear_334 : decode cM_clear 334 = .ok (.iconst 4, 1) := by decide +kernel
theorem dM_clear_335 : decode cM_clear 335 = .ok (.iadd, 1) := by decide +kernel
theorem dM_clear_336 : decode cM_clear 336 = .ok (.iaload, 1) := by decide +kernel
theorem dM_clear_337 : decode cM_clear 337 = .ok (.iastore, 1) := by decide +kernel
theorem dM_clear_338 : decode cM_clear 338 = .ok (.aload_n 0, 1) := by decide +kernel
theorem dM_clear_339 : decode cM_clear 339 = .ok (.getfield 28, 3) := by decide +kernel
theorem dM_clear_342 : decode cM_clear 342 = .ok (.iload 5, 2) := by decide +kernel
theorem dM_clear_344 : decode cM_clear 344 = .ok (.aload 4, 2) := by decide +kernel
theorem dM_clear_346 : decode cM_clear 346 = .ok (.bipush 7, 2) := by decide +kernel
theorem dM_clear_348 : decode cM_clear 348 = .ok (.iload 5, 2) := by decide +kernel
theorem dM_clear_350 : decode cM_clear 350 = .ok (.imul, 1) := by decide +kernel
theorem dM_clear_351 : decode cM_clear 351 = .ok (.iconst 5, 1) := by decide +kernel
theorem dM_clear_352 : decode cM_clear 352 = .ok (.iadd, 1) := by decide +kernel
theorem dM_clear_353 : decode cM_clear 353 = .ok (.iaload, 1) := by decide +kernel
theorem dM_clear_354 : decode cM_clear 354 = .ok (.iastore, 1) := by decide +kernel
theorem dM_clear_355 : decode cM_clear 355 = .ok (.aload_n 0, 1) := by decide +kernel
theorem dM_clear_356 : decode cM_clear 356 = .ok (.getfield 31, 3) := by decide +kernel
theorem dM_clear_359 : decode cM_clear 359 = .ok (.iload 5, 2) := by decide +kernel
theorem dM_clear_361 : decode cM_clear 361 = .ok (.aload 4, 2) := by decide +kernel
theorem dM_clear_363 : decode cM_clear 363 = .ok (.bipush 7, 2) := by decide +kernel
theorem dM_clear_365 : decode cM_clear 365 = .ok (.iload 5, 2) := by decide +kernel
theorem dM_clear_367 : decode cM_clear 367 = .ok (.imul, 1) := by decide +kernel
theorem dM_clear_368 : decode cM_clear 368 = .ok (.bipush 6, 2) := by decide +kernel
theorem dM_clear_370 : decode cM_clear 370 = .ok (.iadd, 1) := by decide +kernel
theorem dM_clear_371 : decode cM_clear 371 = .ok (.iaload, 1) := by decide +kernel
theorem dM_clear_372 : decode cM_clear 372 = .ok (.iastore, 1) := by decide +kernel
theorem dM_clear_373 : decode cM_clear 373 = .ok (.aload_n 0, 1) := by decide +kernel
theorem dM_clear_374 : decode cM_clear 374 = .ok (.getfield 34, 3) := by decide +kernel
theorem dM_clear_377 : decode cM_clear 377 = .ok (.iload 5, 2) := by decide +kernel
theorem dM_clear_379 : decode cM_clear 379 = .ok (.iload 5, 2) := by decide +kernel
theorem dM_clear_381 : decode cM_clear 381 = .ok (.iastore, 1) := by decide +kernel
theorem dM_clear_382 : decode cM_clear 382 = .ok (.iinc 5 1, 3) := by decide +kernel
theorem dM_clear_385 : decode cM_clear 385 = .ok (.goto (-136), 3) := by decide +kernel
theorem dM_clear_388 : decode cM_clear 388 = .ok (.aload_n 0, 1) := by decide +kernel
theorem dM_clear_389 : decode cM_clear 389 = .ok (.iload_n 2, 1) := by decide +kernel
theorem dM_clear_390 : decode cM_clear 390 = .ok (.putfield 95, 3) := by decide +kernel
theorem dM_clear_393 : decode cM_clear 393 = .ok (.iload_n 3, 1) := by decide +kernel
theorem dM_clear_394 : decode cM_clear 394 = .ok (.ireturn, 1) := by decide +kernel
def lM_clear_249 : Nat → (Nat → Int32) → (Nat → Nat → Int32) → Nat → (Nat → Int32) → Int32 → Int32 → Int32 → Option (Int32 × (Nat → Int32) × (Nat → Nat → Int32))
  | 0 => fun _ _ _ _ _ _ _ => none
  | k + 1 => fun iv av rn rw x2 x3 x5 => if x2 ≤ x5 then (some (x3, upd iv 10 x2, av)) else (if ((7 : Int32) * x5) < 0 ∨ rn ≤ ((7 : Int32) * x5).toNatClampNeg then none else (if x5 < 0 ∨ 1001 ≤ x5.toNatClampNeg then none else (if (((7 : Int32) * x5) + (1 : Int32)) < 0 ∨ rn ≤ (((7 : Int32) * x5) + (1 : Int32)).toNatClampNeg then none else (if x5 < 0 ∨ 1001 ≤ x5.toNatClampNeg then none else (if (((7 : Int32) * x5) + (2 : Int32)) < 0 ∨ rn ≤ (((7 : Int32) * x5) + (2 : Int32)).toNatClampNeg then none else (if x5 < 0 ∨ 1001 ≤ x5.toNatClampNeg then none else (if (((7 : Int32) * x5) + (3 : Int32)) < 0 ∨ rn ≤ (((7 : Int32) * x5) + (3 : Int32)).toNatClampNeg then none else (if x5 < 0 ∨ 1001 ≤ x5.toNatClampNeg then none else (if (((7 : Int32) * x5) + (4 : Int32)) < 0 ∨ rn ≤ (((7 : Int32) * x5) + (4 : Int32)).toNatClampNeg then none else (if x5 < 0 ∨ 1001 ≤ x5.toNatClampNeg then none else (if (((7 : Int32) * x5) + (5 : Int32)) < 0 ∨ rn ≤ (((7 : Int32) * x5) + (5 : Int32)).toNatClampNeg then none else (if x5 < 0 ∨ 1001 ≤ x5.toNatClampNeg then none else (if (((7 : Int32) * x5) + (6 : Int32)) < 0 ∨ rn ≤ (((7 : Int32) * x5) + (6 : Int32)).toNatClampNeg then none else (if x5 < 0 ∨ 1001 ≤ x5.toNatClampNeg then none else (if x5 < 0 ∨ 1001 ≤ x5.toNatClampNeg then none else (lM_clear_249 k iv (up2 (up2 (up2 (up2 (up2 (up2 (up2 (up2 av 1 x5.toNatClampNeg (rw ((7 : Int32) * x5).toNatClampNeg)) 2 x5.toNatClampNeg (rw (((7 : Int32) * x5) + (1 : Int32)).toNatClampNeg)) 3 x5.toNatClampNeg (rw (((7 : Int32) * x5) + (2 : Int32)).toNatClampNeg)) 4 x5.toNatClampNeg (rw (((7 : Int32) * x5) + (3 : Int32)).toNatClampNeg)) 5 x5.toNatClampNeg (rw (((7 : Int32) * x5) + (4 : Int32)).toNatClampNeg)) 6 x5.toNatClampNeg (rw (((7 : Int32) * x5) + (5 : Int32)).toNatClampNeg)) 7 x5.toNatClampNeg (rw (((7 : Int32) * x5) + (6 : Int32)).toNatClampNeg)) 8 x5.toNatClampNeg x5) rn rw x2 x3 (x5 + 1)))))))))))))))))
def lM_clear_107 : Nat → (Nat → Int32) → (Nat → Nat → Int32) → Nat → (Nat → Int32) → Int32 → Int32 → Int32 → Option (Int32 × (Nat → Int32) × (Nat → Nat → Int32))
  | 0 => fun _ _ _ _ _ _ _ => none
  | k + 1 => fun iv av rn rw x2 x3 x5 => if x2 ≤ x5 then (lM_clear_249 FU iv av rn rw x2 x3 (0 : Int32)) else (if x5 < 0 ∨ 1001 ≤ x5.toNatClampNeg then none else (if (av 9 x5.toNatClampNeg) < 0 ∨ 1001 ≤ (av 9 x5.toNatClampNeg).toNatClampNeg then none else (if ((7 : Int32) * x5) < 0 ∨ rn ≤ ((7 : Int32) * x5).toNatClampNeg then none else (if (av 9 x5.toNatClampNeg) < 0 ∨ 1001 ≤ (av 9 x5.toNatClampNeg).toNatClampNeg then none else (if (((7 : Int32) * x5) + (1 : Int32)) < 0 ∨ rn ≤ (((7 : Int32) * x5) + (1 : Int32)).toNatClampNeg then none else (if (av 9 x5.toNatClampNeg) < 0 ∨ 1001 ≤ (av 9 x5.toNatClampNeg).toNatClampNeg then none else (if (((7 : Int32) * x5) + (2 : Int32)) < 0 ∨ rn ≤ (((7 : Int32) * x5) + (2 : Int32)).toNatClampNeg then none else (if (av 9 x5.toNatClampNeg) < 0 ∨ 1001 ≤ (av 9 x5.toNatClampNeg).toNatClampNeg then none else (if (((7 : Int32) * x5) + (3 : Int32)) < 0 ∨ rn ≤ (((7 : Int32) * x5) + (3 : Int32)).toNatClampNeg then none else (if (av 9 x5.toNatClampNeg) < 0 ∨ 1001 ≤ (av 9 x5.toNatClampNeg).toNatClampNeg then none else (if (((7 : Int32) * x5) + (4 : Int32)) < 0 ∨ rn ≤ (((7 : Int32) * x5) + (4 : Int32)).toNatClampNeg then none else (if (av 9 x5.toNatClampNeg) < 0 ∨ 1001 ≤ (av 9 x5.toNatClampNeg).toNatClampNeg then none else (if (((7 : Int32) * x5) + (5 : Int32)) < 0 ∨ rn ≤ (((7 : Int32) * x5) + (5 : Int32)).toNatClampNeg then none else (if (av 9 x5.toNatClampNeg) < 0 ∨ 1001 ≤ (av 9 x5.toNatClampNeg).toNatClampNeg then none else (if (((7 : Int32) * x5) + (6 : Int32)) < 0 ∨ rn ≤ (((7 : Int32) * x5) + (6 : Int32)).toNatClampNeg then none else (lM_clear_107 k iv av rn (upd (upd (upd (upd (upd (upd (upd rw ((7 : Int32) * x5).toNatClampNeg (av 1 (av 9 x5.toNatClampNeg).toNatClampNeg)) (((7 : Int32) * x5) + (1 : Int32)).toNatClampNeg (av 2 (av 9 x5.toNatClampNeg).toNatClampNeg)) (((7 : Int32) * x5) + (2 : Int32)).toNatClampNeg (av 3 (av 9 x5.toNatClampNeg).toNatClampNeg)) (((7 : Int32) * x5) + (3 : Int32)).toNatClampNeg (av 4 (av 9 x5.toNatClampNeg).toNatClampNeg)) (((7 : Int32) * x5) + (4 : Int32)).toNatClampNeg (av 5 (av 9 x5.toNatClampNeg).toNatClampNeg)) (((7 : Int32) * x5) + (5 : Int32)).toNatClampNeg (av 6 (av 9 x5.toNatClampNeg).toNatClampNeg)) (((7 : Int32) * x5) + (6 : Int32)).toNatClampNeg (av 7 (av 9 x5.toNatClampNeg).toNatClampNeg)) x2 x3 (x5 + 1)))))))))))))))))
def jM_clear_83 (K42 : (Nat → Int32) → (Nat → Nat → Int32) → Int32 → Int32 → Int32 → Option (Int32 × (Nat → Int32) × (Nat → Nat → Int32))) (iv : Nat → Int32) (av : Nat → Nat → Int32) (x1 : Int32) (x2 : Int32) (x3 : Int32) : Option (Int32 × (Nat → Int32) × (Nat → Nat → Int32)) := K42 iv av x1 x2 (x3 + 1)
def lM_clear_42 : Nat → (Nat → Int32) → (Nat → Nat → Int32) → Int32 → Int32 → Int32 → Option (Int32 × (Nat → Int32) × (Nat → Nat → Int32))
  | 0 => fun _ _ _ _ _ => none
  | k + 1 => fun iv av x1 x2 x3 => if (iv 10) ≤ x3 then (if ((7 : Int32) * x2) < 0 ∨ 7007 < ((7 : Int32) * x2).toNatClampNeg then none else (lM_clear_107 FU iv av (((7 : Int32) * x2).toNatClampNeg) (fun _ => 0) x2 ((iv 10) - x2) (0 : Int32))) else (if x3 < 0 ∨ 1001 ≤ x3.toNatClampNeg then none else (if (av 8 x3.toNatClampNeg) < 0 ∨ 1001 ≤ (av 8 x3.toNatClampNeg).toNatClampNeg then none else (if (av 2 (av 8 x3.toNatClampNeg).toNatClampNeg) = x1 then (jM_clear_83 (lM_clear_42 k) iv av x1 x2 x3) else (if x3 < 0 ∨ 1001 ≤ x3.toNatClampNeg then none else (if x2 < 0 ∨ 1001 ≤ x2.toNatClampNeg then none else (jM_clear_83 (lM_clear_42 k) iv (up2 av 9 x2.toNatClampNeg (av 8 x3.toNatClampNeg)) x1 (x2 + 1) x3))))))
def jM_clear_30 (iv : Nat → Int32) (av : Nat → Nat → Int32) (x1 : Int32) (s1 : Int32) (s2 : Int32) : Option (Int32 × (Nat → Int32) × (Nat → Nat → Int32)) := (fM_fails iv av s1 s2).bind fun (r1, iv1, av1) => if r1 = 0 then (lM_clear_42 FU iv1 av1 x1 (0 : Int32) (0 : Int32)) else (some ((0 : Int32), iv1, av1))
def jM_clear_25 (iv : Nat → Int32) (av : Nat → Nat → Int32) (x1 : Int32) (s1 : Int32) : Option (Int32 × (Nat → Int32) × (Nat → Nat → Int32)) := jM_clear_30 iv av x1 s1 (1 : Int32)
def jM_clear_13 (iv : Nat → Int32) (av : Nat → Nat → Int32) (x1 : Int32) (s1 : Int32) : Option (Int32 × (Nat → Int32) × (Nat → Nat → Int32)) := if x1 < 0 then (jM_clear_25 iv av x1 s1) else (if x1 < (iv 8) then (jM_clear_30 iv av x1 s1 (0 : Int32)) else (jM_clear_25 iv av x1 s1))
def fM_clear (iv : Nat → Int32) (av : Nat → Nat → Int32) (x1 : Int32) : Option (Int32 × (Nat → Int32) × (Nat → Nat → Int32)) := if (iv 6) = 0 then (jM_clear_13 iv av x1 (1 : Int32)) else (jM_clear_13 iv av x1 (0 : Int32))
set_option maxHeartbeats 4000000 in
set_option maxRecDepth 100000 in
theorem wM_clear_249 {p : Program} {l : Launch} {e : Env} {s : State} {m : MethodId} {args : Array Value} {below : List Frame} {meth : Method} {c : Code} {g : gT} {q : Nat} {ad : Nat → Nat} {X : va_W} {rv : Option Value} {iv' : Nat → Int32} {av' : Nat → Nat → Int32} {r' : Int32} (C : mCx p m c cM_clear 7 s args g "MidiDeskModel") (hr : meth.sig.returnType = (some .int)) (hlk : meth.locks = false) (hrv : rv = some (.int r')) (k : Nat) : ∀ (qn : Nat) (iv : Nat → Int32) (av : Nat → Nat → Int32) (rn : Nat) (rw : (Nat → Int32)) (x2 : Int32) (x3 : Int32) (x5 : Int32) (H : Heap) (locs : List Loc) (ls : Array Slot), lv_has ls 7 [(0, .ref q), (2, .int x2), (3, .int x3), (4, .ref qn), (5, .int x5)] → mWd g (mA g q ad X s.heap.size) s.heap q ad ((qn, larr g rn rw) :: X) iv av H locs → lM_clear_249 k iv av rn rw x2 x3 x5 = some (r', iv', av') → mG p l e rM_clear s m args below meth c g q ad X rv iv' av' H locs rM_clear.cells rM_clear.slots (F0 m 249 ls []) := by
  induction k with
  | zero => intro qn iv av rn rw x2 x3 x5 H locs ls hl hw hf; cases hf
  | succ k ih =>
    intro qn iv av rn rw x2 x3 x5 H locs ls hl hw hf
    have hf : (if x2 ≤ x5 then (some (x3, upd iv 10 x2, av)) else (if ((7 : Int32) * x5) < 0 ∨ rn ≤ ((7 : Int32) * x5).toNatClampNeg then none else (if x5 < 0 ∨ 1001 ≤ x5.toNatClampNeg then none else (if (((7 : Int32) * x5) + (1 : Int32)) < 0 ∨ rn ≤ (((7 : Int32) * x5) + (1 : Int32)).toNatClampNeg then none else (if x5 < 0 ∨ 1001 ≤ x5.toNatClampNeg then none else (if (((7 : Int32) * x5) + (2 : Int32)) < 0 ∨ rn ≤ (((7 : Int32) * x5) + (2 : Int32)).toNatClampNeg then none else (if x5 < 0 ∨ 1001 ≤ x5.toNatClampNeg then none else (if (((7 : Int32) * x5) + (3 : Int32)) < 0 ∨ rn ≤ (((7 : Int32) * x5) + (3 : Int32)).toNatClampNeg then none else (if x5 < 0 ∨ 1001 ≤ x5.toNatClampNeg then none else (if (((7 : Int32) * x5) + (4 : Int32)) < 0 ∨ rn ≤ (((7 : Int32) * x5) + (4 : Int32)).toNatClampNeg then none else (if x5 < 0 ∨ 1001 ≤ x5.toNatClampNeg then none else (if (((7 : Int32) * x5) + (5 : Int32)) < 0 ∨ rn ≤ (((7 : Int32) * x5) + (5 : Int32)).toNatClampNeg then none else (if x5 < 0 ∨ 1001 ≤ x5.toNatClampNeg then none else (if (((7 : Int32) * x5) + (6 : Int32)) < 0 ∨ rn ≤ (((7 : Int32) * x5) + (6 : Int32)).toNatClampNeg then none else (if x5 < 0 ∨ 1001 ≤ x5.toNatClampNeg then none else (if x5 < 0 ∨ 1001 ≤ x5.toNatClampNeg then none else (lM_clear_249 k iv (up2 (up2 (up2 (up2 (up2 (up2 (up2 (up2 av 1 x5.toNatClampNeg (rw ((7 : Int32) * x5).toNatClampNeg)) 2 x5.toNatClampNeg (rw (((7 : Int32) * x5) + (1 : Int32)).toNatClampNeg)) 3 x5.toNatClampNeg (rw (((7 : Int32) * x5) + (2 : Int32)).toNatClampNeg)) 4 x5.toNatClampNeg (rw (((7 : Int32) * x5) + (3 : Int32)).toNatClampNeg)) 5 x5.toNatClampNeg (rw (((7 : Int32) * x5) + (4 : Int32)).toNatClampNeg)) 6 x5.toNatClampNeg (rw (((7 : Int32) * x5) + (5 : Int32)).toNatClampNeg)) 7 x5.toNatClampNeg (rw (((7 : Int32) * x5) + (6 : Int32)).toNatClampNeg)) 8 x5.toNatClampNeg x5) rn rw x2 x3 (x5 + 1)))))))))))))))))) = some (r', iv', av') := hf
    refine lv_iload C.1.1 C.1.2.1 dM_clear_249 (lv_at hl 4 rfl) ?_
    refine lv_iload_n C.1.1 C.1.2.1 dM_clear_251 rfl (lv_at hl 1 rfl) ?_
    refine lv_icmp_ge (tgt := 388) C.1.1 C.1.2.1 dM_clear_252 (by decide) (fun c1 => ?_) (fun c1 => ?_)
    · have hf := ts_t hf c1
      refine lv_aload_n C.1.1 C.1.2.1 dM_clear_388 rfl (lv_at hl 0 rfl) ?_
      refine lv_iload_n C.1.1 C.1.2.1 dM_clear_389 rfl (lv_at hl 1 rfl) ?_
      refine mp_events C hw dM_clear_390 (fun H locs hw => ?_)
      refine lv_iload_n C.1.1 C.1.2.1 dM_clear_393 rfl (lv_at hl 2 rfl) ?_
      have hw := mw_drop hw
      exact m_reti C hr hlk hrv hw hf ⟨Nat.le_refl _, Nat.le_refl _⟩ dM_clear_394
    · have hf := ts_f hf c1
      refine lv_aload_n C.1.1 C.1.2.1 dM_clear_255 rfl (lv_at hl 0 rfl) ?_
      refine mg_ticks C hw dM_clear_256 ?_
      refine lv_iload C.1.1 C.1.2.1 dM_clear_259 (lv_at hl 4 rfl) ?_
      refine lv_aload C.1.1 C.1.2.1 dM_clear_261 (lv_at hl 3 rfl) ?_
      refine lv_bipush (v := (7 : Int32)) C.1.1 C.1.2.1 dM_clear_263 (by decide) ?_
      refine lv_iload C.1.1 C.1.2.1 dM_clear_265 (lv_at hl 4 rfl) ?_
      refine lv_imul C.1.1 C.1.2.1 dM_clear_267 ?_
      obtain ⟨h2, hf⟩ := ts_g hf
      refine mn_ald C hw h2 dM_clear_268 ?_
      obtain ⟨h3, hf⟩ := ts_g hf
      refine ms_ticks C hw h3 dM_clear_269 (fun H locs hw => ?_)
      refine lv_aload_n C.1.1 C.1.2.1 dM_clear_270 rfl (lv_at hl 0 rfl) ?_
      refine mg_trackOf C hw dM_clear_271 ?_
      refine lv_iload C.1.1 C.1.2.1 dM_clear_274 (lv_at hl 4 rfl) ?_
      refine lv_aload C.1.1 C.1.2.1 dM_clear_276 (lv_at hl 3 rfl) ?_
      refine lv_bipush (v := (7 : Int32)) C.1.1 C.1.2.1 dM_clear_278 (by decide) ?_
      refine lv_iload C.1.1 C.1.2.1 dM_clear_280 (lv_at hl 4 rfl) ?_
      refine lv_imul C.1.1 C.1.2.1 dM_clear_282 ?_
      refine lv_iconst (v := (1 : Int32)) C.1.1 C.1.2.1 dM_clear_283 (by decide) ?_
      refine lv_iadd C.1.1 C.1.2.1 dM_clear_284 ?_
      obtain ⟨h4, hf⟩ := ts_g hf
      refine mn_ald C hw h4 dM_clear_285 ?_
      obtain ⟨h5, hf⟩ := ts_g hf
      refine ms_trackOf C hw h5 dM_clear_286 (fun H locs hw => ?_)
      refine lv_aload_n C.1.1 C.1.2.1 dM_clear_287 rfl (lv_at hl 0 rfl) ?_
      refine mg_status C hw dM_clear_288 ?_
      refine lv_iload C.1.1 C.1.2.1 dM_clear_291 (lv_at hl 4 rfl) ?_
      refine lv_aload C.1.1 C.1.2.1 dM_clear_293 (lv_at hl 3 rfl) ?_
      refine lv_bipush (v := (7 : Int32)) C.1.1 C.1.2.1 dM_clear_295 (by decide) ?_
      refine lv_iload C.1.1 C.1.2.1 dM_clear_297 (lv_at hl 4 rfl) ?_
      refine lv_imul C.1.1 C.1.2.1 dM_clear_299 ?_
      refine lv_iconst (v := (2 : Int32)) C.1.1 C.1.2.1 dM_clear_300 (by decide) ?_
      refine lv_iadd C.1.1 C.1.2.1 dM_clear_301 ?_
      obtain ⟨h6, hf⟩ := ts_g hf
      refine mn_ald C hw h6 dM_clear_302 ?_
      obtain ⟨h7, hf⟩ := ts_g hf
      refine ms_status C hw h7 dM_clear_303 (fun H locs hw => ?_)
      refine lv_aload_n C.1.1 C.1.2.1 dM_clear_304 rfl (lv_at hl 0 rfl) ?_
      refine mg_first C hw dM_clear_305 ?_
      refine lv_iload C.1.1 C.1.2.1 dM_clear_308 (lv_at hl 4 rfl) ?_
      refine lv_aload C.1.1 C.1.2.1 dM_clear_310 (lv_at hl 3 rfl) ?_
      refine lv_bipush (v := (7 : Int32)) C.1.1 C.1.2.1 dM_clear_312 (by decide) ?_
      refine lv_iload C.1.1 C.1.2.1 dM_clear_314 (lv_at hl 4 rfl) ?_
      refine lv_imul C.1.1 C.1.2.1 dM_clear_316 ?_
      refine lv_iconst (v := (3 : Int32)) C.1.1 C.1.2.1 dM_clear_317 (by decide) ?_
      refine lv_iadd C.1.1 C.1.2.1 dM_clear_318 ?_
      obtain ⟨h8, hf⟩ := ts_g hf
      refine mn_ald C hw h8 dM_clear_319 ?_
      obtain ⟨h9, hf⟩ := ts_g hf
      refine ms_first C hw h9 dM_clear_320 (fun H locs hw => ?_)
      refine lv_aload_n C.1.1 C.1.2.1 dM_clear_321 rfl (lv_at hl 0 rfl) ?_
      refine mg_second C hw dM_clear_322 ?_
      refine lv_iload C.1.1 C.1.2.1 dM_clear_325 (lv_at hl 4 rfl) ?_
      refine lv_aload C.1.1 C.1.2.1 dM_clear_327 (lv_at hl 3 rfl) ?_
      refine lv_bipush (v := (7 : Int32)) C.1.1 C.1.2.1 dM_clear_329 (by decide) ?_
      refine lv_iload C.1.1 C.1.2.1 dM_clear_331 (lv_at hl 4 rfl) ?_
      refine lv_imul C.1.1 C.1.2.1 dM_clear_333 ?_
      refine lv_iconst (v := (4 : Int32)) C.1.1 C.1.2.1 dM_clear_334 (by decide) ?_
      refine lv_iadd C.1.1 C.1.2.1 dM_clear_335 ?_
      obtain ⟨h10, hf⟩ := ts_g hf
      refine mn_ald C hw h10 dM_clear_336 ?_
      obtain ⟨h11, hf⟩ := ts_g hf
      refine ms_second C hw h11 dM_clear_337 (fun H locs hw => ?_)
      refine lv_aload_n C.1.1 C.1.2.1 dM_clear_338 rfl (lv_at hl 0 rfl) ?_
      refine mg_from C hw dM_clear_339 ?_
      refine lv_iload C.1.1 C.1.2.1 dM_clear_342 (lv_at hl 4 rfl) ?_
      refine lv_aload C.1.1 C.1.2.1 dM_clear_344 (lv_at hl 3 rfl) ?_
      refine lv_bipush (v := (7 : Int32)) C.1.1 C.1.2.1 dM_clear_346 (by decide) ?_
      refine lv_iload C.1.1 C.1.2.1 dM_clear_348 (lv_at hl 4 rfl) ?_
      refine lv_imul C.1.1 C.1.2.1 dM_clear_350 ?_
      refine lv_iconst (v := (5 : Int32)) C.1.1 C.1.2.1 dM_clear_351 (by decide) ?_
      refine lv_iadd C.1.1 C.1.2.1 dM_clear_352 ?_
      obtain ⟨h12, hf⟩ := ts_g hf
      refine mn_ald C hw h12 dM_clear_353 ?_
      obtain ⟨h13, hf⟩ := ts_g hf
      refine ms_from C hw h13 dM_clear_354 (fun H locs hw => ?_)
      refine lv_aload_n C.1.1 C.1.2.1 dM_clear_355 rfl (lv_at hl 0 rfl) ?_
      refine mg_counts C hw dM_clear_356 ?_
      refine lv_iload C.1.1 C.1.2.1 dM_clear_359 (lv_at hl 4 rfl) ?_
      refine lv_aload C.1.1 C.1.2.1 dM_clear_361 (lv_at hl 3 rfl) ?_
      refine lv_bipush (v := (7 : Int32)) C.1.1 C.1.2.1 dM_clear_363 (by decide) ?_
      refine lv_iload C.1.1 C.1.2.1 dM_clear_365 (lv_at hl 4 rfl) ?_
      refine lv_imul C.1.1 C.1.2.1 dM_clear_367 ?_
      refine lv_bipush (v := (6 : Int32)) C.1.1 C.1.2.1 dM_clear_368 (by decide) ?_
      refine lv_iadd C.1.1 C.1.2.1 dM_clear_370 ?_
      obtain ⟨h14, hf⟩ := ts_g hf
      refine mn_ald C hw h14 dM_clear_371 ?_
      obtain ⟨h15, hf⟩ := ts_g hf
      refine ms_counts C hw h15 dM_clear_372 (fun H locs hw => ?_)
      refine lv_aload_n C.1.1 C.1.2.1 dM_clear_373 rfl (lv_at hl 0 rfl) ?_
      refine mg_order C hw dM_clear_374 ?_
      refine lv_iload C.1.1 C.1.2.1 dM_clear_377 (lv_at hl 4 rfl) ?_
      refine lv_iload C.1.1 C.1.2.1 dM_clear_379 (lv_at hl 4 rfl) ?_
      obtain ⟨h16, hf⟩ := ts_g hf
      refine ms_order C hw h16 dM_clear_381 (fun H locs hw => ?_)
      refine lv_iinc (v := x5 + 1) (lv' := [(5, .int (x5 + 1)), (0, .ref q), (2, .int x2), (3, .int x3), (4, .ref qn)]) C.1.1 C.1.2.1 dM_clear_382 hl (k := 4) rfl rfl (by decide) rfl (fun ls hl => ?_)
      refine lv_goto (tgt := 249) C.1.1 C.1.2.1 dM_clear_385 (by decide) ?_
      exact ih qn iv (up2 (up2 (up2 (up2 (up2 (up2 (up2 (up2 av 1 x5.toNatClampNeg (rw ((7 : Int32) * x5).toNatClampNeg)) 2 x5.toNatClampNeg (rw (((7 : Int32) * x5) + (1 : Int32)).toNatClampNeg)) 3 x5.toNatClampNeg (rw (((7 : Int32) * x5) + (2 : Int32)).toNatClampNeg)) 4 x5.toNatClampNeg (rw (((7 : Int32) * x5) + (3 : Int32)).toNatClampNeg)) 5 x5.toNatClampNeg (rw (((7 : Int32) * x5) + (4 : Int32)).toNatClampNeg)) 6 x5.toNatClampNeg (rw (((7 : Int32) * x5) + (5 : Int32)).toNatClampNeg)) 7 x5.toNatClampNeg (rw (((7 : Int32) * x5) + (6 : Int32)).toNatClampNeg)) 8 x5.toNatClampNeg x5) rn rw x2 x3 (x5 + 1) _ _ ls (lv_sub hl [1, 2, 3, 4, 0] rfl) hw hf
set_option maxHeartbeats 4000000 in
set_option maxRecDepth 100000 in
theorem wM_clear_107 {p : Program} {l : Launch} {e : Env} {s : State} {m : MethodId} {args : Array Value} {below : List Frame} {meth : Method} {c : Code} {g : gT} {q : Nat} {ad : Nat → Nat} {X : va_W} {rv : Option Value} {iv' : Nat → Int32} {av' : Nat → Nat → Int32} {r' : Int32} (C : mCx p m c cM_clear 7 s args g "MidiDeskModel") (hr : meth.sig.returnType = (some .int)) (hlk : meth.locks = false) (hrv : rv = some (.int r')) (k : Nat) : ∀ (qn : Nat) (iv : Nat → Int32) (av : Nat → Nat → Int32) (rn : Nat) (rw : (Nat → Int32)) (x2 : Int32) (x3 : Int32) (x5 : Int32) (H : Heap) (locs : List Loc) (ls : Array Slot), lv_has ls 7 [(0, .ref q), (2, .int x2), (3, .int x3), (4, .ref qn), (5, .int x5)] → mWd g (mA g q ad X s.heap.size) s.heap q ad ((qn, larr g rn rw) :: X) iv av H locs → lM_clear_107 k iv av rn rw x2 x3 x5 = some (r', iv', av') → mG p l e rM_clear s m args below meth c g q ad X rv iv' av' H locs rM_clear.cells rM_clear.slots (F0 m 107 ls []) := by
  induction k with
  | zero => intro qn iv av rn rw x2 x3 x5 H locs ls hl hw hf; cases hf
  | succ k ih =>
    intro qn iv av rn rw x2 x3 x5 H locs ls hl hw hf
    have hf : (if x2 ≤ x5 then (lM_clear_249 FU iv av rn rw x2 x3 (0 : Int32)) else (if x5 < 0 ∨ 1001 ≤ x5.toNatClampNeg then none else (if (av 9 x5.toNatClampNeg) < 0 ∨ 1001 ≤ (av 9 x5.toNatClampNeg).toNatClampNeg then none else (if ((7 : Int32) * x5) < 0 ∨ rn ≤ ((7 : Int32) * x5).toNatClampNeg then none else (if (av 9 x5.toNatClampNeg) < 0 ∨ 1001 ≤ (av 9 x5.toNatClampNeg).toNatClampNeg then none else (if (((7 : Int32) * x5) + (1 : Int32)) < 0 ∨ rn ≤ (((7 : Int32) * x5) + (1 : Int32)).toNatClampNeg then none else (if (av 9 x5.toNatClampNeg) < 0 ∨ 1001 ≤ (av 9 x5.toNatClampNeg).toNatClampNeg then none else (if (((7 : Int32) * x5) + (2 : Int32)) < 0 ∨ rn ≤ (((7 : Int32) * x5) + (2 : Int32)).toNatClampNeg then none else (if (av 9 x5.toNatClampNeg) < 0 ∨ 1001 ≤ (av 9 x5.toNatClampNeg).toNatClampNeg then none else (if (((7 : Int32) * x5) + (3 : Int32)) < 0 ∨ rn ≤ (((7 : Int32) * x5) + (3 : Int32)).toNatClampNeg then none else (if (av 9 x5.toNatClampNeg) < 0 ∨ 1001 ≤ (av 9 x5.toNatClampNeg).toNatClampNeg then none else (if (((7 : Int32) * x5) + (4 : Int32)) < 0 ∨ rn ≤ (((7 : Int32) * x5) + (4 : Int32)).toNatClampNeg then none else (if (av 9 x5.toNatClampNeg) < 0 ∨ 1001 ≤ (av 9 x5.toNatClampNeg).toNatClampNeg then none else (if (((7 : Int32) * x5) + (5 : Int32)) < 0 ∨ rn ≤ (((7 : Int32) * x5) + (5 : Int32)).toNatClampNeg then none else (if (av 9 x5.toNatClampNeg) < 0 ∨ 1001 ≤ (av 9 x5.toNatClampNeg).toNatClampNeg then none else (if (((7 : Int32) * x5) + (6 : Int32)) < 0 ∨ rn ≤ (((7 : Int32) * x5) + (6 : Int32)).toNatClampNeg then none else (lM_clear_107 k iv av rn (upd (upd (upd (upd (upd (upd (upd rw ((7 : Int32) * x5).toNatClampNeg (av 1 (av 9 x5.toNatClampNeg).toNatClampNeg)) (((7 : Int32) * x5) + (1 : Int32)).toNatClampNeg (av 2 (av 9 x5.toNatClampNeg).toNatClampNeg)) (((7 : Int32) * x5) + (2 : Int32)).toNatClampNeg (av 3 (av 9 x5.toNatClampNeg).toNatClampNeg)) (((7 : Int32) * x5) + (3 : Int32)).toNatClampNeg (av 4 (av 9 x5.toNatClampNeg).toNatClampNeg)) (((7 : Int32) * x5) + (4 : Int32)).toNatClampNeg (av 5 (av 9 x5.toNatClampNeg).toNatClampNeg)) (((7 : Int32) * x5) + (5 : Int32)).toNatClampNeg (av 6 (av 9 x5.toNatClampNeg).toNatClampNeg)) (((7 : Int32) * x5) + (6 : Int32)).toNatClampNeg (av 7 (av 9 x5.toNatClampNeg).toNatClampNeg)) x2 x3 (x5 + 1)))))))))))))))))) = some (r', iv', av') := hf
    refine lv_iload C.1.1 C.1.2.1 dM_clear_107 (lv_at hl 4 rfl) ?_
    refine lv_iload_n C.1.1 C.1.2.1 dM_clear_109 rfl (lv_at hl 1 rfl) ?_
    refine lv_icmp_ge (tgt := 246) C.1.1 C.1.2.1 dM_clear_110 (by decide) (fun c1 => ?_) (fun c1 => ?_)
    · have hf := ts_t hf c1
      refine lv_iconst (v := (0 : Int32)) C.1.1 C.1.2.1 dM_clear_246 (by decide) ?_
      refine lv_istore (lv' := [(5, .int (0 : Int32)), (0, .ref q), (2, .int x2), (3, .int x3), (4, .ref qn)]) C.1.1 C.1.2.1 dM_clear_247 hl (by decide) rfl (fun ls hl => ?_)
      exact wM_clear_249 C hr hlk hrv FU qn iv av rn rw x2 x3 (0 : Int32) _ _ ls (lv_sub hl [1, 2, 3, 4, 0] rfl) hw hf
    · have hf := ts_f hf c1
      refine lv_aload_n C.1.1 C.1.2.1 dM_clear_113 rfl (lv_at hl 0 rfl) ?_
      refine mg_spare C hw dM_clear_114 ?_
      refine lv_iload C.1.1 C.1.2.1 dM_clear_117 (lv_at hl 4 rfl) ?_
      obtain ⟨h2, hf⟩ := ts_g hf
      refine ma_spare C hw h2 dM_clear_119 ?_
      refine lv_istore (lv' := [(6, .int (av 9 x5.toNatClampNeg)), (0, .ref q), (2, .int x2), (3, .int x3), (4, .ref qn), (5, .int x5)]) C.1.1 C.1.2.1 dM_clear_120 hl (by decide) rfl (fun ls hl => ?_)
      refine lv_aload C.1.1 C.1.2.1 dM_clear_122 (lv_at hl 4 rfl) ?_
      refine lv_bipush (v := (7 : Int32)) C.1.1 C.1.2.1 dM_clear_124 (by decide) ?_
      refine lv_iload C.1.1 C.1.2.1 dM_clear_126 (lv_at hl 5 rfl) ?_
      refine lv_imul C.1.1 C.1.2.1 dM_clear_128 ?_
      refine lv_aload_n C.1.1 C.1.2.1 dM_clear_129 rfl (lv_at hl 1 rfl) ?_
      refine mg_ticks C hw dM_clear_130 ?_
      refine lv_iload C.1.1 C.1.2.1 dM_clear_133 (lv_at hl 0 rfl) ?_
      obtain ⟨h3, hf⟩ := ts_g hf
      refine ma_ticks C hw h3 dM_clear_135 ?_
      obtain ⟨h4, hf⟩ := ts_g hf
      refine mn_ast C hw h4 dM_clear_136 (fun H locs hw => ?_)
      refine lv_aload C.1.1 C.1.2.1 dM_clear_137 (lv_at hl 4 rfl) ?_
      refine lv_bipush (v := (7 : Int32)) C.1.1 C.1.2.1 dM_clear_139 (by decide) ?_
      refine lv_iload C.1.1 C.1.2.1 dM_clear_141 (lv_at hl 5 rfl) ?_
      refine lv_imul C.1.1 C.1.2.1 dM_clear_143 ?_
      refine lv_iconst (v := (1 : Int32)) C.1.1 C.1.2.1 dM_clear_144 (by decide) ?_
      refine lv_iadd C.1.1 C.1.2.1 dM_clear_145 ?_
      refine lv_aload_n C.1.1 C.1.2.1 dM_clear_146 rfl (lv_at hl 1 rfl) ?_
      refine mg_trackOf C hw dM_clear_147 ?_
      refine lv_iload C.1.1 C.1.2.1 dM_clear_150 (lv_at hl 0 rfl) ?_
      obtain ⟨h5, hf⟩ := ts_g hf
      refine ma_trackOf C hw h5 dM_clear_152 ?_
      obtain ⟨h6, hf⟩ := ts_g hf
      refine mn_ast C hw h6 dM_clear_153 (fun H locs hw => ?_)
      refine lv_aload C.1.1 C.1.2.1 dM_clear_154 (lv_at hl 4 rfl) ?_
      refine lv_bipush (v := (7 : Int32)) C.1.1 C.1.2.1 dM_clear_156 (by decide) ?_
      refine lv_iload C.1.1 C.1.2.1 dM_clear_158 (lv_at hl 5 rfl) ?_
      refine lv_imul C.1.1 C.1.2.1 dM_clear_160 ?_
      refine lv_iconst (v := (2 : Int32)) C.1.1 C.1.2.1 dM_clear_161 (by decide) ?_
      refine lv_iadd C.1.1 C.1.2.1 dM_clear_162 ?_
      refine lv_aload_n C.1.1 C.1.2.1 dM_clear_163 rfl (lv_at hl 1 rfl) ?_
      refine mg_status C hw dM_clear_164 ?_
      refine lv_iload C.1.1 C.1.2.1 dM_clear_167 (lv_at hl 0 rfl) ?_
      obtain ⟨h7, hf⟩ := ts_g hf
      refine ma_status C hw h7 dM_clear_169 ?_
      obtain ⟨h8, hf⟩ := ts_g hf
      refine mn_ast C hw h8 dM_clear_170 (fun H locs hw => ?_)
      refine lv_aload C.1.1 C.1.2.1 dM_clear_171 (lv_at hl 4 rfl) ?_
      refine lv_bipush (v := (7 : Int32)) C.1.1 C.1.2.1 dM_clear_173 (by decide) ?_
      refine lv_iload C.1.1 C.1.2.1 dM_clear_175 (lv_at hl 5 rfl) ?_
      refine lv_imul C.1.1 C.1.2.1 dM_clear_177 ?_
      refine lv_iconst (v := (3 : Int32)) C.1.1 C.1.2.1 dM_clear_178 (by decide) ?_
      refine lv_iadd C.1.1 C.1.2.1 dM_clear_179 ?_
      refine lv_aload_n C.1.1 C.1.2.1 dM_clear_180 rfl (lv_at hl 1 rfl) ?_
      refine mg_first C hw dM_clear_181 ?_
      refine lv_iload C.1.1 C.1.2.1 dM_clear_184 (lv_at hl 0 rfl) ?_
      obtain ⟨h9, hf⟩ := ts_g hf
      refine ma_first C hw h9 dM_clear_186 ?_
      obtain ⟨h10, hf⟩ := ts_g hf
      refine mn_ast C hw h10 dM_clear_187 (fun H locs hw => ?_)
      refine lv_aload C.1.1 C.1.2.1 dM_clear_188 (lv_at hl 4 rfl) ?_
      refine lv_bipush (v := (7 : Int32)) C.1.1 C.1.2.1 dM_clear_190 (by decide) ?_
      refine lv_iload C.1.1 C.1.2.1 dM_clear_192 (lv_at hl 5 rfl) ?_
      refine lv_imul C.1.1 C.1.2.1 dM_clear_194 ?_
      refine lv_iconst (v := (4 : Int32)) C.1.1 C.1.2.1 dM_clear_195 (by decide) ?_
      refine lv_iadd C.1.1 C.1.2.1 dM_clear_196 ?_
      refine lv_aload_n C.1.1 C.1.2.1 dM_clear_197 rfl (lv_at hl 1 rfl) ?_
      refine mg_second C hw dM_clear_198 ?_
      refine lv_iload C.1.1 C.1.2.1 dM_clear_201 (lv_at hl 0 rfl) ?_
      obtain ⟨h11, hf⟩ := ts_g hf
      refine ma_second C hw h11 dM_clear_203 ?_
      obtain ⟨h12, hf⟩ := ts_g hf
      refine mn_ast C hw h12 dM_clear_204 (fun H locs hw => ?_)
      refine lv_aload C.1.1 C.1.2.1 dM_clear_205 (lv_at hl 4 rfl) ?_
      refine lv_bipush (v := (7 : Int32)) C.1.1 C.1.2.1 dM_clear_207 (by decide) ?_
      refine lv_iload C.1.1 C.1.2.1 dM_clear_209 (lv_at hl 5 rfl) ?_
      refine lv_imul C.1.1 C.1.2.1 dM_clear_211 ?_
      refine lv_iconst (v := (5 : Int32)) C.1.1 C.1.2.1 dM_clear_212 (by decide) ?_
      refine lv_iadd C.1.1 C.1.2.1 dM_clear_213 ?_
      refine lv_aload_n C.1.1 C.1.2.1 dM_clear_214 rfl (lv_at hl 1 rfl) ?_
      refine mg_from C hw dM_clear_215 ?_
      refine lv_iload C.1.1 C.1.2.1 dM_clear_218 (lv_at hl 0 rfl) ?_
      obtain ⟨h13, hf⟩ := ts_g hf
      refine ma_from C hw h13 dM_clear_220 ?_
      obtain ⟨h14, hf⟩ := ts_g hf
      refine mn_ast C hw h14 dM_clear_221 (fun H locs hw => ?_)
      refine lv_aload C.1.1 C.1.2.1 dM_clear_222 (lv_at hl 4 rfl) ?_
      refine lv_bipush (v := (7 : Int32)) C.1.1 C.1.2.1 dM_clear_224 (by decide) ?_
      refine lv_iload C.1.1 C.1.2.1 dM_clear_226 (lv_at hl 5 rfl) ?_
      refine lv_imul C.1.1 C.1.2.1 dM_clear_228 ?_
      refine lv_bipush (v := (6 : Int32)) C.1.1 C.1.2.1 dM_clear_229 (by decide) ?_
      refine lv_iadd C.1.1 C.1.2.1 dM_clear_231 ?_
      refine lv_aload_n C.1.1 C.1.2.1 dM_clear_232 rfl (lv_at hl 1 rfl) ?_
      refine mg_counts C hw dM_clear_233 ?_
      refine lv_iload C.1.1 C.1.2.1 dM_clear_236 (lv_at hl 0 rfl) ?_
      obtain ⟨h15, hf⟩ := ts_g hf
      refine ma_counts C hw h15 dM_clear_238 ?_
      obtain ⟨h16, hf⟩ := ts_g hf
      refine mn_ast C hw h16 dM_clear_239 (fun H locs hw => ?_)
      refine lv_iinc (v := x5 + 1) (lv' := [(5, .int (x5 + 1)), (6, .int (av 9 x5.toNatClampNeg)), (0, .ref q), (2, .int x2), (3, .int x3), (4, .ref qn)]) C.1.1 C.1.2.1 dM_clear_240 hl (k := 5) rfl rfl (by decide) rfl (fun ls hl => ?_)
      refine lv_goto (tgt := 107) C.1.1 C.1.2.1 dM_clear_243 (by decide) ?_
      exact ih qn iv av rn (upd (upd (upd (upd (upd (upd (upd rw ((7 : Int32) * x5).toNatClampNeg (av 1 (av 9 x5.toNatClampNeg).toNatClampNeg)) (((7 : Int32) * x5) + (1 : Int32)).toNatClampNeg (av 2 (av 9 x5.toNatClampNeg).toNatClampNeg)) (((7 : Int32) * x5) + (2 : Int32)).toNatClampNeg (av 3 (av 9 x5.toNatClampNeg).toNatClampNeg)) (((7 : Int32) * x5) + (3 : Int32)).toNatClampNeg (av 4 (av 9 x5.toNatClampNeg).toNatClampNeg)) (((7 : Int32) * x5) + (4 : Int32)).toNatClampNeg (av 5 (av 9 x5.toNatClampNeg).toNatClampNeg)) (((7 : Int32) * x5) + (5 : Int32)).toNatClampNeg (av 6 (av 9 x5.toNatClampNeg).toNatClampNeg)) (((7 : Int32) * x5) + (6 : Int32)).toNatClampNeg (av 7 (av 9 x5.toNatClampNeg).toNatClampNeg)) x2 x3 (x5 + 1) _ _ ls (lv_sub hl [2, 3, 4, 5, 0] rfl) hw hf
set_option maxHeartbeats 4000000 in
set_option maxRecDepth 100000 in
theorem wM_clear_83 {p : Program} {l : Launch} {e : Env} {s : State} {m : MethodId} {args : Array Value} {below : List Frame} {meth : Method} {c : Code} {g : gT} {q : Nat} {ad : Nat → Nat} {X : va_W} {rv : Option Value} {iv' : Nat → Int32} {av' : Nat → Nat → Int32} {r' : Int32} (C : mCx p m c cM_clear 7 s args g "MidiDeskModel") (hr : meth.sig.returnType = (some .int)) (hlk : meth.locks = false) (hrv : rv = some (.int r')) {K42 : (Nat → Int32) → (Nat → Nat → Int32) → Int32 → Int32 → Int32 → Option (Int32 × (Nat → Int32) × (Nat → Nat → Int32))} (hK42 : ∀ (iv : Nat → Int32) (av : Nat → Nat → Int32) (x1 : Int32) (x2 : Int32) (x3 : Int32) (H : Heap) (locs : List Loc) (ls : Array Slot), lv_has ls 7 [(0, .ref q), (1, .int x1), (2, .int x2), (3, .int x3)] → mWd g (mA g q ad X s.heap.size) s.heap q ad X iv av H locs → K42 iv av x1 x2 x3 = some (r', iv', av') → mG p l e rM_clear s m args below meth c g q ad X rv iv' av' H locs 0 0 (F0 m 42 ls [])) (iv : Nat → Int32) (av : Nat → Nat → Int32) (x1 : Int32) (x2 : Int32) (x3 : Int32) (H : Heap) (locs : List Loc) (ls : Array Slot) (hl : lv_has ls 7 [(0, .ref q), (1, .int x1), (2, .int x2), (3, .int x3)]) (hw : mWd g (mA g q ad X s.heap.size) s.heap q ad X iv av H locs) (hf : jM_clear_83 K42 iv av x1 x2 x3 = some (r', iv', av')) : mG p l e rM_clear s m args below meth c g q ad X rv iv' av' H locs 0 0 (F0 m 83 ls []) := by
  unfold jM_clear_83 at hf
  refine lv_iinc (v := x3 + 1) (lv' := [(3, .int (x3 + 1)), (0, .ref q), (1, .int x1), (2, .int x2)]) C.1.1 C.1.2.1 dM_clear_83 hl (k := 3) rfl rfl (by decide) rfl (fun ls hl => ?_)
  refine lv_goto (tgt := 42) C.1.1 C.1.2.1 dM_clear_86 (by decide) ?_
  exact hK42 iv av x1 x2 (x3 + 1) _ _ ls (lv_sub hl [1, 2, 3, 0] rfl) hw hf
set_option maxHeartbeats 4000000 in
set_option maxRecDepth 100000 in
theorem wM_clear_42 {p : Program} {l : Launch} {e : Env} {s : State} {m : MethodId} {args : Array Value} {below : List Frame} {meth : Method} {c : Code} {g : gT} {q : Nat} {ad : Nat → Nat} {X : va_W} {rv : Option Value} {iv' : Nat → Int32} {av' : Nat → Nat → Int32} {r' : Int32} (C : mCx p m c cM_clear 7 s args g "MidiDeskModel") (hr : meth.sig.returnType = (some .int)) (hlk : meth.locks = false) (hrv : rv = some (.int r')) (k : Nat) : ∀ (iv : Nat → Int32) (av : Nat → Nat → Int32) (x1 : Int32) (x2 : Int32) (x3 : Int32) (H : Heap) (locs : List Loc) (ls : Array Slot), lv_has ls 7 [(0, .ref q), (1, .int x1), (2, .int x2), (3, .int x3)] → mWd g (mA g q ad X s.heap.size) s.heap q ad X iv av H locs → lM_clear_42 k iv av x1 x2 x3 = some (r', iv', av') → mG p l e rM_clear s m args below meth c g q ad X rv iv' av' H locs 0 0 (F0 m 42 ls []) := by
  induction k with
  | zero => intro iv av x1 x2 x3 H locs ls hl hw hf; cases hf
  | succ k ih =>
    intro iv av x1 x2 x3 H locs ls hl hw hf
    have hf : (if (iv 10) ≤ x3 then (if ((7 : Int32) * x2) < 0 ∨ 7007 < ((7 : Int32) * x2).toNatClampNeg then none else (lM_clear_107 FU iv av (((7 : Int32) * x2).toNatClampNeg) (fun _ => 0) x2 ((iv 10) - x2) (0 : Int32))) else (if x3 < 0 ∨ 1001 ≤ x3.toNatClampNeg then none else (if (av 8 x3.toNatClampNeg) < 0 ∨ 1001 ≤ (av 8 x3.toNatClampNeg).toNatClampNeg then none else (if (av 2 (av 8 x3.toNatClampNeg).toNatClampNeg) = x1 then (jM_clear_83 (lM_clear_42 k) iv av x1 x2 x3) else (if x3 < 0 ∨ 1001 ≤ x3.toNatClampNeg then none else (if x2 < 0 ∨ 1001 ≤ x2.toNatClampNeg then none else (jM_clear_83 (lM_clear_42 k) iv (up2 av 9 x2.toNatClampNeg (av 8 x3.toNatClampNeg)) x1 (x2 + 1) x3))))))) = some (r', iv', av') := hf
    refine lv_iload_n C.1.1 C.1.2.1 dM_clear_42 rfl (lv_at hl 3 rfl) ?_
    refine lv_aload_n C.1.1 C.1.2.1 dM_clear_43 rfl (lv_at hl 0 rfl) ?_
    refine mg_events C hw dM_clear_44 ?_
    refine lv_icmp_ge (tgt := 89) C.1.1 C.1.2.1 dM_clear_47 (by decide) (fun c1 => ?_) (fun c1 => ?_)
    · have hf := ts_t hf c1
      refine lv_aload_n C.1.1 C.1.2.1 dM_clear_89 rfl (lv_at hl 0 rfl) ?_
      refine mg_events C hw dM_clear_90 ?_
      refine lv_iload_n C.1.1 C.1.2.1 dM_clear_93 rfl (lv_at hl 2 rfl) ?_
      refine lv_isub C.1.1 C.1.2.1 dM_clear_94 ?_
      refine lv_istore_n (lv' := [(3, .int ((iv 10) - x2)), (0, .ref q), (1, .int x1), (2, .int x2)]) C.1.1 C.1.2.1 dM_clear_95 rfl hl (by decide) rfl (fun ls hl => ?_)
      refine lv_bipush (v := (7 : Int32)) C.1.1 C.1.2.1 dM_clear_96 (by decide) ?_
      refine lv_iload_n C.1.1 C.1.2.1 dM_clear_98 rfl (lv_at hl 3 rfl) ?_
      refine lv_imul C.1.1 C.1.2.1 dM_clear_99 ?_
      obtain ⟨h2, hf⟩ := ts_g hf
      have h9 : ((7 : Int32) * x2).toNatClampNeg ≤ 7007 := Nat.le_of_not_lt fun w => h2 (Or.inr w)
      refine x_newi C hw.1 hw.2.1 hw.2.2.1 hw.2.2.2 (fun w => h2 (Or.inl w)) rfl (by omega) (Nat.le_of_ble_eq_true rfl) (by show 0 + _ ≤ 7007; omega) dM_clear_100 (fun qn H hP hD hS => ?_)
      have hw : mWd g (mA g q ad X s.heap.size) s.heap q ad ((qn, larr g (((7 : Int32) * x2).toNatClampNeg) (fun _ => 0)) :: X) iv av H _ := ⟨mw_pushP hP, mw_pushD hD, hS, hw.2.2.2⟩
      refine W.widen (k := rM_clear.cells) (n := rM_clear.slots) (Nat.le_of_ble_eq_true rfl) (by show 0 + _ ≤ 7007; omega) ?_
      refine lv_astore (lv' := [(4, .ref qn), (3, .int ((iv 10) - x2)), (0, .ref q), (1, .int x1), (2, .int x2)]) C.1.1 C.1.2.1 dM_clear_102 hl (by decide) rfl (fun ls hl => ?_)
      refine lv_iconst (v := (0 : Int32)) C.1.1 C.1.2.1 dM_clear_104 (by decide) ?_
      refine lv_istore (lv' := [(5, .int (0 : Int32)), (4, .ref qn), (3, .int ((iv 10) - x2)), (0, .ref q), (1, .int x1), (2, .int x2)]) C.1.1 C.1.2.1 dM_clear_105 hl (by decide) rfl (fun ls hl => ?_)
      exact wM_clear_107 C hr hlk hrv FU qn iv av (((7 : Int32) * x2).toNatClampNeg) (fun _ => 0) x2 ((iv 10) - x2) (0 : Int32) _ _ ls (lv_sub hl [3, 5, 2, 1, 0] rfl) hw hf
    · have hf := ts_f hf c1
      refine lv_aload_n C.1.1 C.1.2.1 dM_clear_50 rfl (lv_at hl 0 rfl) ?_
      refine mg_trackOf C hw dM_clear_51 ?_
      refine lv_aload_n C.1.1 C.1.2.1 dM_clear_54 rfl (lv_at hl 0 rfl) ?_
      refine mg_order C hw dM_clear_55 ?_
      refine lv_iload_n C.1.1 C.1.2.1 dM_clear_58 rfl (lv_at hl 3 rfl) ?_
      obtain ⟨h3, hf⟩ := ts_g hf
      refine ma_order C hw h3 dM_clear_59 ?_
      obtain ⟨h4, hf⟩ := ts_g hf
      refine ma_trackOf C hw h4 dM_clear_60 ?_
      refine lv_iload_n C.1.1 C.1.2.1 dM_clear_61 rfl (lv_at hl 1 rfl) ?_
      refine lv_icmp_ne (tgt := 68) C.1.1 C.1.2.1 dM_clear_62 (by decide) (fun c5 => ?_) (fun c5 => ?_)
      · have hf := ts_f hf c5
        refine lv_aload_n C.1.1 C.1.2.1 dM_clear_68 rfl (lv_at hl 0 rfl) ?_
        refine mg_spare C hw dM_clear_69 ?_
        refine lv_iload_n C.1.1 C.1.2.1 dM_clear_72 rfl (lv_at hl 2 rfl) ?_
        refine lv_aload_n C.1.1 C.1.2.1 dM_clear_73 rfl (lv_at hl 0 rfl) ?_
        refine mg_order C hw dM_clear_74 ?_
        refine lv_iload_n C.1.1 C.1.2.1 dM_clear_77 rfl (lv_at hl 3 rfl) ?_
        obtain ⟨h6, hf⟩ := ts_g hf
        refine ma_order C hw h6 dM_clear_78 ?_
        obtain ⟨h7, hf⟩ := ts_g hf
        refine ms_spare C hw h7 dM_clear_79 (fun H locs hw => ?_)
        refine lv_iinc (v := x2 + 1) (lv' := [(2, .int (x2 + 1)), (0, .ref q), (1, .int x1), (3, .int x3)]) C.1.1 C.1.2.1 dM_clear_80 hl (k := 2) rfl rfl (by decide) rfl (fun ls hl => ?_)
        exact wM_clear_83 C hr hlk hrv ih iv (up2 av 9 x2.toNatClampNeg (av 8 x3.toNatClampNeg)) x1 (x2 + 1) x3 _ _ ls (lv_sub hl [1, 2, 0, 3] rfl) hw hf
      · have hf := ts_t hf c5
        refine lv_goto (tgt := 83) C.1.1 C.1.2.1 dM_clear_65 (by decide) ?_
        exact wM_clear_83 C hr hlk hrv ih iv av x1 x2 x3 _ _ ls (lv_sub hl [0, 1, 2, 3] rfl) hw hf
set_option maxHeartbeats 4000000 in
set_option maxRecDepth 100000 in
theorem wM_clear_30 {p : Program} {l : Launch} {e : Env} {s : State} {m : MethodId} {args : Array Value} {below : List Frame} {meth : Method} {c : Code} {g : gT} {q : Nat} {ad : Nat → Nat} {X : va_W} {rv : Option Value} {iv' : Nat → Int32} {av' : Nat → Nat → Int32} {r' : Int32} (C : mCx p m c cM_clear 7 s args g "MidiDeskModel") (hr : meth.sig.returnType = (some .int)) (hlk : meth.locks = false) (hrv : rv = some (.int r')) (iv : Nat → Int32) (av : Nat → Nat → Int32) (x1 : Int32) (s1 : Int32) (s2 : Int32) (H : Heap) (locs : List Loc) (ls : Array Slot) (hl : lv_has ls 7 [(0, .ref q), (1, .int x1)]) (hw : mWd g (mA g q ad X s.heap.size) s.heap q ad X iv av H locs) (hf : jM_clear_30 iv av x1 s1 s2 = some (r', iv', av')) : mG p l e rM_clear s m args below meth c g q ad X rv iv' av' H locs 0 0 (F0 m 30 ls [.int s2, .int s1, .ref q]) := by
  unfold jM_clear_30 at hf
  obtain ⟨⟨r1, iv1, av1⟩, g1, hf⟩ := ts_b hf
  dsimp only at hf
  refine m_callV (rest := []) (As := [.int s1, .int s2]) (rv := (some (.int r1))) C hl.1 hw (cM_fails_met g1) (callW_of (rm := rM_fails) 2 C.1.2.2.2.2 gw_877 gw_879 gw_39 gw_55 gw_880 kM_fails ⟨Nat.le_of_ble_eq_true rfl, Nat.le_of_ble_eq_true rfl⟩) rfl rfl (Nat.le_of_ble_eq_true rfl) dM_clear_30 ⟨Nat.le_of_ble_eq_true rfl, Nat.le_of_ble_eq_true rfl⟩ (fun H locs hw => ?_)
  refine W.eq (g2 := F0 m 33 ls [.int r1]) rfl ?_
  refine lv_if_eq (tgt := 38) C.1.1 C.1.2.1 dM_clear_33 (by decide) (fun c2 => ?_) (fun c2 => ?_)
  · have hf := ts_t hf c2
    refine lv_iconst (v := (0 : Int32)) C.1.1 C.1.2.1 dM_clear_38 (by decide) ?_
    refine lv_istore_n (lv' := [(2, .int (0 : Int32)), (0, .ref q), (1, .int x1)]) C.1.1 C.1.2.1 dM_clear_39 rfl hl (by decide) rfl (fun ls hl => ?_)
    refine lv_iconst (v := (0 : Int32)) C.1.1 C.1.2.1 dM_clear_40 (by decide) ?_
    refine lv_istore_n (lv' := [(3, .int (0 : Int32)), (2, .int (0 : Int32)), (0, .ref q), (1, .int x1)]) C.1.1 C.1.2.1 dM_clear_41 rfl hl (by decide) rfl (fun ls hl => ?_)
    exact wM_clear_42 C hr hlk hrv FU iv1 av1 x1 (0 : Int32) (0 : Int32) _ _ ls (lv_sub hl [2, 3, 1, 0] rfl) hw hf
  · have hf := ts_f hf c2
    refine lv_iconst (v := (0 : Int32)) C.1.1 C.1.2.1 dM_clear_36 (by decide) ?_
    exact m_reti C hr hlk hrv hw hf ⟨Nat.le_of_ble_eq_true rfl, Nat.le_of_ble_eq_true rfl⟩ dM_clear_37
set_option maxHeartbeats 4000000 in
set_option maxRecDepth 100000 in
theorem wM_clear_25 {p : Program} {l : Launch} {e : Env} {s : State} {m : MethodId} {args : Array Value} {below : List Frame} {meth : Method} {c : Code} {g : gT} {q : Nat} {ad : Nat → Nat} {X : va_W} {rv : Option Value} {iv' : Nat → Int32} {av' : Nat → Nat → Int32} {r' : Int32} (C : mCx p m c cM_clear 7 s args g "MidiDeskModel") (hr : meth.sig.returnType = (some .int)) (hlk : meth.locks = false) (hrv : rv = some (.int r')) (iv : Nat → Int32) (av : Nat → Nat → Int32) (x1 : Int32) (s1 : Int32) (H : Heap) (locs : List Loc) (ls : Array Slot) (hl : lv_has ls 7 [(0, .ref q), (1, .int x1)]) (hw : mWd g (mA g q ad X s.heap.size) s.heap q ad X iv av H locs) (hf : jM_clear_25 iv av x1 s1 = some (r', iv', av')) : mG p l e rM_clear s m args below meth c g q ad X rv iv' av' H locs 0 0 (F0 m 25 ls [.int s1, .ref q]) := by
  unfold jM_clear_25 at hf
  refine lv_iconst (v := (1 : Int32)) C.1.1 C.1.2.1 dM_clear_25 (by decide) ?_
  refine lv_goto (tgt := 30) C.1.1 C.1.2.1 dM_clear_26 (by decide) ?_
  exact wM_clear_30 C hr hlk hrv iv av x1 s1 (1 : Int32) _ _ ls (lv_sub hl [0, 1] rfl) hw hf
set_option maxHeartbeats 4000000 in
set_option maxRecDepth 100000 in
theorem wM_clear_13 {p : Program} {l : Launch} {e : Env} {s : State} {m : MethodId} {args : Array Value} {below : List Frame} {meth : Method} {c : Code} {g : gT} {q : Nat} {ad : Nat → Nat} {X : va_W} {rv : Option Value} {iv' : Nat → Int32} {av' : Nat → Nat → Int32} {r' : Int32} (C : mCx p m c cM_clear 7 s args g "MidiDeskModel") (hr : meth.sig.returnType = (some .int)) (hlk : meth.locks = false) (hrv : rv = some (.int r')) (iv : Nat → Int32) (av : Nat → Nat → Int32) (x1 : Int32) (s1 : Int32) (H : Heap) (locs : List Loc) (ls : Array Slot) (hl : lv_has ls 7 [(0, .ref q), (1, .int x1)]) (hw : mWd g (mA g q ad X s.heap.size) s.heap q ad X iv av H locs) (hf : jM_clear_13 iv av x1 s1 = some (r', iv', av')) : mG p l e rM_clear s m args below meth c g q ad X rv iv' av' H locs 0 0 (F0 m 13 ls [.int s1, .ref q]) := by
  unfold jM_clear_13 at hf
  refine lv_iload_n C.1.1 C.1.2.1 dM_clear_13 rfl (lv_at hl 1 rfl) ?_
  refine lv_if_lt (tgt := 25) C.1.1 C.1.2.1 dM_clear_14 (by decide) (fun c1 => ?_) (fun c1 => ?_)
  · have hf := ts_t hf c1
    exact wM_clear_25 C hr hlk hrv iv av x1 s1 _ _ ls (lv_sub hl [0, 1] rfl) hw hf
  · have hf := ts_f hf c1
    refine lv_iload_n C.1.1 C.1.2.1 dM_clear_17 rfl (lv_at hl 1 rfl) ?_
    refine lv_aload_n C.1.1 C.1.2.1 dM_clear_18 rfl (lv_at hl 0 rfl) ?_
    refine mg_tracks C hw dM_clear_19 ?_
    refine lv_icmp_lt (tgt := 29) C.1.1 C.1.2.1 dM_clear_22 (by decide) (fun c2 => ?_) (fun c2 => ?_)
    · have hf := ts_t hf c2
      refine lv_iconst (v := (0 : Int32)) C.1.1 C.1.2.1 dM_clear_29 (by decide) ?_
      exact wM_clear_30 C hr hlk hrv iv av x1 s1 (0 : Int32) _ _ ls (lv_sub hl [0, 1] rfl) hw hf
    · have hf := ts_f hf c2
      exact wM_clear_25 C hr hlk hrv iv av x1 s1 _ _ ls (lv_sub hl [0, 1] rfl) hw hf
set_option maxHeartbeats 4000000 in
set_option maxRecDepth 100000 in
theorem cM_clear_met {l : Launch} {g : gT} {q : Nat} {ad : Nat → Nat} {X : va_W} {iv iv' : Nat → Int32} {av av' : Nat → Nat → Int32} {x1 : Int32} {r' : Int32} (hf : fM_clear iv av x1 = some (r', iv', av')) : mMet l yM_clear cM_clear 7 (some .int) rM_clear g q ad X iv av [.ref q, .int x1] (some (.int r')) iv' av' := by
  refine m_entry (by decide) (Nat.le_of_ble_eq_true rfl) ?_
  intro p e s m args below meth c ls C hr hlk hnm hl hw
  have hrv : ((some (.int r')) : Option Value) = (some (.int r')) := rfl
  have C : mCx p m c cM_clear 7 s args g "MidiDeskModel" := C
  have hl : lv_has ls 7 [(0, .ref q), (1, .int x1)] := hl
  unfold fM_clear at hf
  refine lv_aload_n C.1.1 C.1.2.1 dM_clear_0 rfl (lv_at hl 0 rfl) ?_
  refine lv_aload_n C.1.1 C.1.2.1 dM_clear_1 rfl (lv_at hl 0 rfl) ?_
  refine mg_there C hw dM_clear_2 ?_
  refine lv_if_ne (tgt := 12) C.1.1 C.1.2.1 dM_clear_5 (by decide) (fun c1 => ?_) (fun c1 => ?_)
  · have hf := ts_f hf c1
    refine lv_iconst (v := (0 : Int32)) C.1.1 C.1.2.1 dM_clear_12 (by decide) ?_
    exact wM_clear_13 C hr hlk hrv iv av x1 (0 : Int32) _ _ ls (lv_sub hl [0, 1] rfl) hw hf
  · have hf := ts_t hf c1
    refine lv_iconst (v := (1 : Int32)) C.1.1 C.1.2.1 dM_clear_8 (by decide) ?_
    refine lv_goto (tgt := 13) C.1.1 C.1.2.1 dM_clear_9 (by decide) ?_
    exact wM_clear_13 C hr hlk hrv iv av x1 (1 : Int32) _ _ ls (lv_sub hl [0, 1] rfl) hw hf
