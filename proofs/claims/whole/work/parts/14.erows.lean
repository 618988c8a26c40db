theorem gw_73 : (Jvm.Cond.instanceMethod ({ cls := "java/lang/Object", name := "<init>", desc := "()V" } : Jvm.MethodName)) ∈ gw := gw_in 73 (by decide +kernel) (by decide +kernel)
theorem gw_74 : (Jvm.Cond.code ({ cls := "java/lang/Object", name := "<init>", desc := "()V" } : Jvm.MethodName) object_method_1_code (1 : Nat) (Option.none : Option Jvm.ClassFile.FieldType)) ∈ gw := gw_in 74 (by decide +kernel) (by decide +kernel)
theorem gw_100 : (Jvm.Cond.classLink "MidiDesk$Score" (20 : Nat) "MidiDesk$Event") ∈ gw := gw_in 100 (by decide +kernel) (by decide +kernel)
theorem gw_328 : (Jvm.Cond.instantiable "MidiDesk$Event" (7 : Nat)) ∈ gw := gw_in 328 (by decide +kernel) (by decide +kernel)
theorem gw_330 : (Jvm.Cond.instanceMethod ({ cls := "MidiDesk$Event", name := "<init>", desc := "()V" } : Jvm.MethodName)) ∈ gw := gw_in 330 (by decide +kernel) (by decide +kernel)
theorem gw_331 : (Jvm.Cond.code ({ cls := "MidiDesk$Event", name := "<init>", desc := "()V" } : Jvm.MethodName) prog_3_method_1_code (1 : Nat) (Option.none : Option Jvm.ClassFile.FieldType)) ∈ gw := gw_in 331 (by decide +kernel) (by decide +kernel)
theorem gw_332 : (Jvm.Cond.methodLink "MidiDesk$Event" (3 : Nat) ({ cls := "java/lang/Object", name := "<init>", desc := "()V" } : Jvm.MethodName)) ∈ gw := gw_in 332 (by decide +kernel) (by decide +kernel)
theorem nw_278 : (Jvm.Cond.methodLinkNest "MidiDesk$Score" (53 : Nat) ({ cls := "MidiDesk$Event", name := "<init>", desc := "()V" } : Jvm.MethodName) "MidiDesk") ∈ nestw := List.mem_filter.mpr ⟨List.mem_of_getElem? (i := 278) (by decide +kernel), rfl⟩
abbrev yE_init : MethodName := ⟨"MidiDesk$Event", "<init>", "()V"⟩
abbrev cE_init : ByteArray := prog_3_method_1_code
theorem kE_init : yE_init.cls ≠ "java/lang/invoke/MethodHandle" ∧ yE_init.cls ≠ "java/lang/invoke/VarHandle" ∧ (parseMethodDescriptor yE_init.desc).map (fun d => d.parameters.length) = some 0 := by decide +kernel
theorem dE_init_0 : decode cE_init 0 = .ok (.aload_n 0, 1) := by decide +kernel
theorem dE_init_1 : decode cE_init 1 = .ok (.invokespecial 3, 3) := by decide +kernel
theorem dE_init_4 : decode cE_init 4 = .ok (.return_, 1) := by decide +kernel
set_option maxHeartbeats 4000000 in
/-- Event(): nothing but Object's -/
theorem E_init_met {l : Launch} {g : gT} {q : Nat} : Met l yE_init (.code yE_init cE_init 1 none :: gw) { frames := 1, cells := 0, slots := 0, locals := 12 } (va_Pc [.ref q] (fun U => kK g U)) (fun _ st oc t => oc = .returned none ∧ t.heap = st.heap) 0 0 (fun _ => False) := by
  refine Met.ofW (cc := cE_init) (maxL := 1) (ret := none) (by decide) rfl ?_
  intro p e s m args below meth c s₁ B hml hv
  obtain ⟨rfl, hK⟩ := hv
  have hts := atoms_spec (ws := Cond.code yE_init cE_init 1 none :: gw) B.pre
  have hown : s.vm.findClass "MidiDesk$Event" = some m.cls := findClass_of_methodNamed B.named
  have C : mCx p m c cE_init 1 s [Value.ref q].toArray g "MidiDesk$Event" := ⟨⟨B.exec, B.bytes, hml, hown, fun w hw => hts w (List.mem_cons_of_mem _ hw)⟩, hK⟩
  have hlk := B.notSynchronized
  have hr := B.returns
  have hl := lv_entry [.ref q] (n := 1) (Nat.le_of_ble_eq_true rfl)
  rw [lg_entry_eq]
  generalize (lg_sl [.ref q] ++ List.replicate (1 - (lg_sl [.ref q]).length) Slot.unset).toArray = ls at hl ⊢
  have hl : lv_has ls 1 [(0, .ref q)] := hl
  refine lv_aload_n C.1.1 C.1.2.1 dE_init_0 rfl (lv_at hl 0 rfl) ?_
  refine W.objInit C.1.1 C.1.2.1 hown (C.1.2.2.2.2 _ gw_332) (C.1.2.2.2.2 _ gw_73) (C.1.2.2.2.2 _ gw_74) rfl (by rw [hml]; exact hl.1) rfl dE_init_1 (Nat.le_of_ble_eq_true rfl) (Nat.le_of_ble_eq_true rfl) ?_
  refine W.eq (g2 := F0 m 4 ls []) rfl ?_
  exact W.vret C.1.1 C.1.2.1 hr (fun t ht hW => ⟨rfl, ht⟩) (fun q h => by cases h) dE_init_4 hlk
section ER
variable {p : Program} {l : Launch} {e : Env} {R : Room} {s : State} {m : MethodId} {args : Array Value} {below : List Frame} {meth : Method} {c : Code} {H : Heap} {locs : List Loc} {cells slots : Nat} {Q : State → Prop} {cc : ByteArray} {nL pc : Nat} {ls : Array Slot} {rest : List Value} {g : gT} {A : Nat → Prop} {H0 : Heap} {qq ad ea : Nat → Nat} {X : va_W} {h : cH} {z : cZ} {own : String}
theorem x_same {st0 : List Value} {mc ms : Nat} {rv : Option Value} (hr : va_Run p l e R s m args below meth c H locs cells slots mc ms (F0 m pc ls st0) rest (fun st oc t => oc = .returned rv ∧ t.heap = st.heap) (fun _ => False))
    (kk : W p l e R s m args below meth c H locs (cells + mc) (slots + ms) Q (F0 m (pc + 3) ls (rv.toList ++ rest))) : W p l e R s m args below meth c H locs cells slots Q (F0 m pc ls st0) := by
  intro T hT X
  obtain ⟨v, st₀, t, T', L, h0, X', hL, e1, e2, ⟨hv, hh⟩, st⟩ := hr T hT X
  cases hv
  have hL0 : L = [] := by
    cases L with
    | nil => rfl
    | cons a L => exact absurd (hL a List.mem_cons_self) (fun w => w)
  subst hL0
  rw [List.append_nil] at X'
  obtain ⟨t2, a1, b1⟩ := kk T' (by rw [e1, hh, h0]) X'
  exact ⟨t2, st t2 a1, b1⟩
theorem c_initE {q : Nat} (C : mCx p m c cc nL s args g "MidiDesk$Score") (hl : ls.size = nL) (hR : 2 ≤ R.frames ∧ 32 ≤ R.locals) (hr : (rest.map fun v => v.category).sum ≤ 8) (hc : cells ≤ R.cells ∧ slots ≤ R.slots) (hdg : decode cc pc = .ok (.invokespecial 53, 3)) (kk : W p l e R s m args below meth c H locs cells slots Q (F0 m (pc + 3) ls rest)) : W p l e R s m args below meth c H locs cells slots Q (F0 m pc ls (.ref q :: rest)) := by
  refine x_same (rv := none) (rest := rest) (va_runIN (b := q) (As := []) (rest := rest) C.1 (E_init_met (g := g) (q := q)) ⟨va_cnB (host := "MidiDesk") 0 C.1.2.2.2.2 (gw_GI gw_331) rfl rfl rfl (C.2.2.1 _ nw_278) (C.1.2.2.2.2 _ gw_60) kE_init ⟨hR.1, hR.2⟩, rfl, C.1.2.2.2.2 _ gw_330⟩ ⟨fun a U gf mk w => ⟨w.1, kK.same (s := U) (U := U.calling gf mk a) rfl w.2⟩, fun U hU hW => ⟨rfl, kK.moved hW C.2⟩⟩ rfl rfl hl rfl (lv_room hr) hdg ⟨hc.1, hc.2⟩) kk
theorem cpool_new {ea : Nat → Nat} {z : cZ} {n q : Nat} : cpool (updN ea n q) (zN z n) (n + 1) = cpool ea z n ++ [(q, .inr (1, [.int 0, .int 0, .int 0, .int 0, .int 0, .int 0, .int 0]))] := by
  simp only [cpool, List.range_succ, List.map_append, List.map_cons, List.map_nil]
  congr 1
  · apply List.map_congr_left
    intro j hj
    have hj : j < n := List.mem_range.mp hj
    have hne : ¬ j = n := by omega
    simp [cev, cevf, updN, zN, ze, hne]
  · simp [cev, cevf, updN, zN, ze]
/-- new Event -/
theorem c_newE (C : mCx p m c cc nL s args g "MidiDesk$Score") (hw : cWd g A H0 qq ad ea h X z H locs) (hwf : wfz h z) (hc : cells + 1 ≤ R.cells) (hs : slots + 7 ≤ R.slots) (hdg : decode cc pc = .ok (.new 20, 3))
    (kk : ∀ (q : Nat) (H1 : Heap), cWd g A H0 qq ad (updN ea h.2.1 q) (h.1, h.2.1 + 1, h.2.2.1 + 1, h.2.2.2 + 7) X (zN z h.2.1) H1 locs → W p l e R s m args below meth c H1 locs (cells + 1) (slots + 7) Q (F0 m (pc + 3) ls (.ref q :: rest))) : W p l e R s m args below meth c H locs cells slots Q (F0 m pc ls rest) := by
  refine va_new (ci := 1) (fs := [.int 0, .int 0, .int 0, .int 0, .int 0, .int 0, .int 0]) (C := R_Event) (T := F_Event) (N := 7) C.1.1 C.1.2.1 C.1.2.2.2.2 i_Event t_Event t_Event_ok C.1.2.2.2.1 (C.1.2.2.2.2 _ gw_100) (C.1.2.2.2.2 _ gw_328) (C.1.2.2.2.2 _ gw_60) C.2.1 hw.1 hw.2.1 hw.2.2.1 hw.2.2.2 rfl (fun j hj => by rcases (show j = 0 ∨ j = 1 ∨ j = 2 ∨ j = 3 ∨ j = 4 ∨ j = 5 ∨ j = 6 by omega) with rfl | rfl | rfl | rfl | rfl | rfl | rfl <;> rfl) hc hs hdg (fun q H1 hP hD hS => ?_)
  have hr : ∀ k, (fun t => Option.map (updN ea h.2.1 q) (zr (zN z h.2.1) k t)) = (fun t => Option.map ea (zr z k t)) := by
    intro k
    funext t
    show Option.map (updN ea h.2.1 q) (zr z k t) = _
    cases hz : zr z k t with
    | none => rfl
    | some j =>
      have := hwf k t j hz
      simp [updN, show ¬ j = h.2.1 by omega]
  have e : cw g qq ad (updN ea h.2.1 q) (h.1, h.2.1 + 1, h.2.2.1 + 1, h.2.2.2 + 7) (zN z h.2.1) X = (cwb g qq ad ea h z ++ [(q, .inr (1, [.int 0, .int 0, .int 0, .int 0, .int 0, .int 0, .int 0]))]) ++ X := by
    unfold cw
    rw [hr, hr]
    show _ :: _ :: _ :: _ :: _ :: _ :: _ :: _ :: _ :: _ :: (cpool (updN ea h.2.1 q) (zN z h.2.1) (h.2.1 + 1) ++ X) = _
    rw [cpool_new]
    simp only [cwb, List.append_assoc]
    rfl
  refine kk q H1 ⟨?_, ?_, hS, hw.2.2.2⟩
  · rw [e]
    rw [cw_app] at hP
    exact va_P.swap hP
  · rw [e]
    rw [cw_app] at hD
    exact va_D.swap hD
theorem c_setrow {q N : Nat} {lr : Nat → Option Nat} (C : mCx p m c cc nL s args g "MidiDesk$Score") (hw : cWd g A H0 qq ad ea h ((q, rarr g ea N lr) :: X) z H locs) (hdg : decode cc pc = .ok (.putfield 22, 3))
    (kk : ∀ (H1 : Heap) (locs1 : List Loc), cWd g A H0 qq (updN ad 3 q) ea (hL h 3 N) X (zG z 0 lr) H1 locs1 → W p l e R s m args below meth c H1 locs1 cells slots Q (F0 m (pc + 3) ls rest)) : W p l e R s m args below meth c H locs cells slots Q (F0 m pc ls (.ref q :: .ref (qq 4) :: rest)) := by
  have hP := cw_endP hw.1
  have hD := cw_endD hw.2.1
  refine va_put (ci := 4) (ty := .array (.object "MidiDesk$Event")) (v := .ref q) (C := R_Score) (T := F_Score) (N := 8) C.1.1 C.1.2.1 C.1.2.2.2.2 i_Score t_Score t_Score_ok n_Score C.1.2.2.2.1 C.2.1 hP hD hw.2.2.1 4 rfl rfl 5 (by decide) (C.1.2.2.2.2 _ gw_119) (fun _ w => w) rfl (by decide +kernel) rfl rfl (Nat.le_of_ble_eq_true rfl) hdg (fun H1 locs1 hP hD hS => ?_)
  refine kk H1 locs1 ⟨?_, ?_, hS, hw.2.2.2⟩
  · exact va_P_set (i := 8) (ws := (cw g qq ad ea h z X).set 4 (qq 4, .inr (4, [.ref (qq 3), .int (zi z 3), .int (zi z 4), .int (zi z 5), .int (zi z 6), .ref q, .ref (ad 4), .int (zi z 7)]))) hP
  · exact va_D_set (i := 8) (ws := (cw g qq ad ea h z X).set 4 (qq 4, .inr (4, [.ref (qq 3), .int (zi z 3), .int (zi z 4), .int (zi z 5), .int (zi z 6), .ref q, .ref (ad 4), .int (zi z 7)]))) hD
theorem c_setspare {q N : Nat} {lr : Nat → Option Nat} (C : mCx p m c cc nL s args g "MidiDesk$Score") (hw : cWd g A H0 qq ad ea h ((q, rarr g ea N lr) :: X) z H locs) (hdg : decode cc pc = .ok (.putfield 26, 3))
    (kk : ∀ (H1 : Heap) (locs1 : List Loc), cWd g A H0 qq (updN ad 4 q) ea (hL h 4 N) X (zG z 1 lr) H1 locs1 → W p l e R s m args below meth c H1 locs1 cells slots Q (F0 m (pc + 3) ls rest)) : W p l e R s m args below meth c H locs cells slots Q (F0 m pc ls (.ref q :: .ref (qq 4) :: rest)) := by
  have hP := cw_endP hw.1
  have hD := cw_endD hw.2.1
  refine va_put (ci := 4) (ty := .array (.object "MidiDesk$Event")) (v := .ref q) (C := R_Score) (T := F_Score) (N := 8) C.1.1 C.1.2.1 C.1.2.2.2.2 i_Score t_Score t_Score_ok n_Score C.1.2.2.2.1 C.2.1 hP hD hw.2.2.1 4 rfl rfl 6 (by decide) (C.1.2.2.2.2 _ gw_120) (fun _ w => w) rfl (by decide +kernel) rfl rfl (Nat.le_of_ble_eq_true rfl) hdg (fun H1 locs1 hP hD hS => ?_)
  refine kk H1 locs1 ⟨?_, ?_, hS, hw.2.2.2⟩
  · exact va_P_set (i := 9) (ws := (cw g qq ad ea h z X).set 4 (qq 4, .inr (4, [.ref (qq 3), .int (zi z 3), .int (zi z 4), .int (zi z 5), .int (zi z 6), .ref (ad 3), .ref q, .int (zi z 7)]))) hP
  · exact va_D_set (i := 9) (ws := (cw g qq ad ea h z X).set 4 (qq 4, .inr (4, [.ref (qq 3), .int (zi z 3), .int (zi z 4), .int (zi z 5), .int (zi z 6), .ref (ad 3), .ref q, .int (zi z 7)]))) hD
theorem c_callSX {y : MethodName} {bytes : ByteArray} {maxL index n : Nat} {ret : Option FieldType} {rm : Room} {As : List Value} {rv : Option Value} {X' : va_W} {z' : cZ} {st0 : List Value} (C : mCx p m c cc nL s args g own) (hl : ls.size = nL) (hw : cWd g A H0 qq ad ea h X z H locs)
    (hM : cMet l y bytes maxL ret rm g qq ad ea h X z As rv X' z') (hX : X.map Prod.fst = X'.map Prod.fst) (hcw : CallB R s args own index y bytes maxL ret (Cond.code y bytes maxL ret :: gw) rm rm.cells rm.slots n ∧ (Cond.static y).before args s = true)
    (hn : As.length = n) (hst : st0 = As.reverse ++ rest) (hr : (rest.map fun v => v.category).sum ≤ 8) (hdg : decode cc pc = .ok (.invokestatic index, 3)) (hf : cells + rm.cells ≤ R.cells ∧ slots + rm.slots ≤ R.slots)
    (kk : ∀ (H1 : Heap) (locs1 : List Loc), cWd g A H0 qq ad ea h X' z' H1 locs1 → W p l e R s m args below meth c H1 locs1 (cells + rm.cells) (slots + rm.slots) Q (F0 m (pc + 3) ls (rv.toList ++ rest))) : W p l e R s m args below meth c H locs cells slots Q (F0 m pc ls st0) := by
  refine x_call (B := fun t => va_P g.1 classes (cw g qq ad ea h z' X') t) (rv := rv) (va_runS (As := As) (rest := rest) C.1 (hM H.size) hcw ⟨cPc_blind, c_pre C.2 hw⟩ rfl hn hl hst (lv_room hr) hdg hf) hw.2.2.1 (fun y _ w => c_free rfl hw rfl y w) (c_free rfl hw rfl) (fun H1 locs1 hB hS => kk H1 locs1 ⟨hB, va_D_map (cw_map hX) hw.2.1, hS, hw.2.2.2⟩)
/-- a store into the array that stands ahead of the others -/
theorem crs_L {i : Int32} {o : Option Nat} {q N : Nat} {lr : Nat → Option Nat} (C : mCx p m c cc nL s args g own) (hw : cWd g A H0 qq ad ea h ((q, rarr g ea N lr) :: X) z H locs) (hin : ¬ (i < 0 ∨ N ≤ i.toNatClampNeg)) (ho : ¬ okr h.2.1 o = false) (hdg : decode cc pc = .ok (.aastore, 1)) (kk : ∀ (H1 : Heap) (locs1 : List Loc), cWd g A H0 qq ad ea h ((q, rarr g ea N (va_up lr i.toNatClampNeg o)) :: X) z H1 locs1 → W p l e R s m args below meth c H1 locs1 cells slots Q (F0 m (pc + 1) ls rest)) : W p l e R s m args below meth c H locs cells slots Q (F0 m pc ls (va_rf (Option.map ea o) :: .int i :: .ref q :: rest)) := by
  have e : va_up (fun t => Option.map ea (lr t)) i.toNatClampNeg (Option.map ea o) = (fun t => Option.map ea (va_up lr i.toNatClampNeg o t)) := by
    funext t
    by_cases ht : t = i.toNatClampNeg
    · subst ht; simp [va_up]
    · simp [va_up, ht]
  cases o with
  | none =>
    refine va_astqN (C := "MidiDesk$Event") C.1.1 C.1.2.1 C.2.1 hw.1 hw.2.1 hw.2.2.1 (h.2.1 + 10) 2 cw_x rfl hin hdg (fun H1 locs1 hP hD hS => ?_)
    have e : va_up (fun t => Option.map ea (lr t)) i.toNatClampNeg none = _ := e
    rw [e, cw_xset] at hP hD
    exact kk H1 locs1 ⟨hP, hD, hS, hw.2.2.2⟩
  | some j =>
    have hj : j < h.2.1 := by simpa [okr] using ho
    refine va_astq (r := (R_Event, F_Event, 7)) C.1.1 C.1.2.1 C.2.1 hw.1 hw.2.1 hw.2.2.1 (h.2.1 + 10) 2 (j + 10) 1 cw_x rfl (cw_ev hj) rfl hin hdg (fun H1 locs1 hP hD hS => ?_)
    have e : va_up (fun t => Option.map ea (lr t)) i.toNatClampNeg (some (ea j)) = _ := e
    rw [e, cw_xset] at hP hD
    exact kk H1 locs1 ⟨hP, hD, hS, hw.2.2.2⟩
end ER
abbrev cS_copyL : ByteArray := prog_6_method_6_code
abbrev yS_copyL : MethodName := ⟨"MidiDesk$Score", "copyEvents", "([LMidiDesk$Event;[LMidiDesk$Event;II)V"⟩
theorem kS_copyL : yS_copyL.cls ≠ "java/lang/invoke/MethodHandle" ∧ yS_copyL.cls ≠ "java/lang/invoke/VarHandle" ∧ (parseMethodDescriptor yS_copyL.desc).map (fun d => d.parameters.length) = some 4 := by decide +kernel
abbrev rS_copyL : Room := { frames := 0, cells := 0, slots := 0, locals := 0 }
theorem dS_copyL_0 : decode cS_copyL 0 = .ok (.iconst 0, 1) := by decide +kernel
theorem dS_copyL_1 : decode cS_copyL 1 = .ok (.istore 4, 2) := by decide +kernel
theorem dS_copyL_3 : decode cS_copyL 3 = .ok (.iload 4, 2) := by decide +kernel
theorem dS_copyL_5 : decode cS_copyL 5 = .ok (.iload_n 3, 1) := by decide +kernel
theorem dS_copyL_6 : decode cS_copyL 6 = .ok (.if_icmp .ge 19, 3) := by decide +kernel
theorem dS_copyL_9 : decode cS_copyL 9 = .ok (.aload_n 1, 1) := by decide +kernel
theorem dS_copyL_10 : decode cS_copyL 10 = .ok (.iload_n 2, 1) := by decide +kernel
theorem dS_copyL_11 : decode cS_copyL 11 = .ok (.iload 4, 2) := by decide +kernel
theorem dS_copyL_13 : decode cS_copyL 13 = .ok (.iadd, 1) := by decide +kernel
theorem dS_copyL_14 : decode cS_copyL 14 = .ok (.aload_n 0, 1) := by decide +kernel
theorem dS_copyL_15 : decode cS_copyL 15 = .ok (.iload 4, 2) := by decide +kernel
theorem dS_copyL_17 : decode cS_copyL 17 = .ok (.aaload, 1) := by decide +kernel
theorem dS_copyL_18 : decode cS_copyL 18 = .ok (.aastore, 1) := by decide +kernel
theorem dS_copyL_19 : decode cS_copyL 19 = .ok (.iinc 4 1, 3) := by decide +kernel
theorem dS_copyL_22 : decode cS_copyL 22 = .ok (.goto (-19), 3) := by decide +kernel
theorem dS_copyL_25 : decode cS_copyL 25 = .ok (.return_, 1) := by decide +kernel
def lS_copyL_3 (h : cH) (ln : Nat) : Nat → cZ → (Nat → Option Nat) → Int32 → Int32 → Int32 → Option (cZ × (Nat → Option Nat))
  | 0 => fun _ _ _ _ _ => none
  | k + 1 => fun z lr x2 x3 x4 => if x3 ≤ x4 then (some (z, lr)) else (if x4 < 0 ∨ h.1 3 ≤ x4.toNatClampNeg then none else (if (x2 + x4) < 0 ∨ ln ≤ (x2 + x4).toNatClampNeg then none else (if okr h.2.1 (zr z 0 x4.toNatClampNeg) = false then none else (lS_copyL_3 h ln k z (va_up lr (x2 + x4).toNatClampNeg (zr z 0 x4.toNatClampNeg)) x2 x3 (x4 + 1)))))
def fS_copyL (h : cH) (ln : Nat) (z : cZ) (lr : Nat → Option Nat) (x2 : Int32) (x3 : Int32) : Option (cZ × (Nat → Option Nat)) := lS_copyL_3 h ln FU z lr x2 x3 (0 : Int32)
set_option maxHeartbeats 4000000 in
set_option maxRecDepth 100000 in
theorem wS_copyL_3 {p : Program} {l : Launch} {e : Env} {s : State} {m : MethodId} {args : Array Value} {below : List Frame} {meth : Method} {c : Code} {g : gT} {qq ad ea : Nat → Nat} {h : cH} {X : va_W} {rv : Option Value} {qp ln : Nat} {lr0 lr' : Nat → Option Nat} {z' : cZ} (C : mCx p m c cS_copyL 5 s args g "MidiDesk$Score") (hr : meth.sig.returnType = none) (hlk : meth.locks = false) (hrv : rv = none) (k : Nat) : ∀ (z : cZ) (lr : Nat → Option Nat) (x2 : Int32) (x3 : Int32) (x4 : Int32) (H : Heap) (locs : List Loc) (ls : Array Slot), lv_has ls 5 [(0, .ref (ad 3)), (1, .ref qp), (2, .int x2), (3, .int x3), (4, .int x4)] → cWd g (cA g qq ad ea h ((qp, rarr g ea ln lr0) :: X) s.heap.size) s.heap qq ad ea h ((qp, rarr g ea ln lr) :: X) z H locs → lS_copyL_3 h ln k z lr x2 x3 x4 = some (z', lr') → cG p l e rS_copyL s m args below meth c g qq ad ea h ((qp, rarr g ea ln lr0) :: X) rv ((qp, rarr g ea ln lr') :: X) z' H locs 0 0 (F0 m 3 ls []) := by
  induction k with
  | zero => intro z lr x2 x3 x4 H locs ls hl hw hf; cases hf
  | succ k ih =>
    intro z lr x2 x3 x4 H locs ls hl hw hf
    have hf : (if x3 ≤ x4 then (some (z, lr)) else (if x4 < 0 ∨ h.1 3 ≤ x4.toNatClampNeg then none else (if (x2 + x4) < 0 ∨ ln ≤ (x2 + x4).toNatClampNeg then none else (if okr h.2.1 (zr z 0 x4.toNatClampNeg) = false then none else (lS_copyL_3 h ln k z (va_up lr (x2 + x4).toNatClampNeg (zr z 0 x4.toNatClampNeg)) x2 x3 (x4 + 1)))))) = some (z', lr') := hf
    refine lv_iload C.1.1 C.1.2.1 dS_copyL_3 (lv_at hl 4 rfl) ?_
    refine lv_iload_n C.1.1 C.1.2.1 dS_copyL_5 rfl (lv_at hl 3 rfl) ?_
    refine lv_icmp_ge (tgt := 25) C.1.1 C.1.2.1 dS_copyL_6 (by decide) (fun c1 => ?_) (fun c1 => ?_)
    · have hf := ts_t hf c1
      obtain ⟨hf, hpv⟩ := pr2 hf
      exact c_retv C hr hlk hrv hw hf (by rw [hpv]) ⟨Nat.le_of_ble_eq_true rfl, Nat.le_of_ble_eq_true rfl⟩ dS_copyL_25
    · have hf := ts_f hf c1
      refine lv_aload_n C.1.1 C.1.2.1 dS_copyL_9 rfl (lv_at hl 1 rfl) ?_
      refine lv_iload_n C.1.1 C.1.2.1 dS_copyL_10 rfl (lv_at hl 2 rfl) ?_
      refine lv_iload C.1.1 C.1.2.1 dS_copyL_11 (lv_at hl 4 rfl) ?_
      refine lv_iadd C.1.1 C.1.2.1 dS_copyL_13 ?_
      refine lv_aload_n C.1.1 C.1.2.1 dS_copyL_14 rfl (lv_at hl 0 rfl) ?_
      refine lv_iload C.1.1 C.1.2.1 dS_copyL_15 (lv_at hl 4 rfl) ?_
      obtain ⟨h2, hf⟩ := ts_g hf
      refine cra_0 C hw h2 dS_copyL_17 ?_
      obtain ⟨h3, hf⟩ := ts_g hf
      obtain ⟨h4, hf⟩ := ts_g hf
      refine crs_L C hw h3 h4 dS_copyL_18 (fun H locs hw => ?_)
      refine lv_iinc (v := x4 + 1) (lv' := [(4, .int (x4 + 1)), (0, .ref (ad 3)), (1, .ref qp), (2, .int x2), (3, .int x3)]) C.1.1 C.1.2.1 dS_copyL_19 hl (k := 4) rfl rfl (by decide) rfl (fun ls hl => ?_)
      refine lv_goto (tgt := 3) C.1.1 C.1.2.1 dS_copyL_22 (by decide) ?_
      exact ih z (va_up lr (x2 + x4).toNatClampNeg (zr z 0 x4.toNatClampNeg)) x2 x3 (x4 + 1) _ _ ls (lv_sub hl [1, 2, 3, 4, 0] rfl) hw hf
set_option maxHeartbeats 4000000 in
set_option maxRecDepth 100000 in
theorem cS_copyL_met {l : Launch} {g : gT} {qq ad ea : Nat → Nat} {h : cH} {ln : Nat} {X : va_W} {qp : Nat} {lr lr' : Nat → Option Nat} {z z' : cZ} {x2 : Int32} {x3 : Int32} (hf : fS_copyL h ln z lr x2 x3 = some (z', lr')) : cMet l yS_copyL cS_copyL 5 none rS_copyL g qq ad ea h ((qp, rarr g ea ln lr) :: X) z [.ref (ad 3), .ref qp, .int x2, .int x3] (none) ((qp, rarr g ea ln lr') :: X) z' := by
  refine c_entry (by decide) (Nat.le_of_ble_eq_true rfl) ?_
  intro p e s m args below meth c ls C hr hlk hnm hl hw
  have hrv : (none : Option Value) = none := rfl
  have C : mCx p m c cS_copyL 5 s args g "MidiDesk$Score" := C
  have hl : lv_has ls 5 [(0, .ref (ad 3)), (1, .ref qp), (2, .int x2), (3, .int x3)] := hl
  unfold fS_copyL at hf
  refine lv_iconst (v := (0 : Int32)) C.1.1 C.1.2.1 dS_copyL_0 (by decide) ?_
  refine lv_istore (lv' := [(4, .int (0 : Int32)), (0, .ref (ad 3)), (1, .ref qp), (2, .int x2), (3, .int x3)]) C.1.1 C.1.2.1 dS_copyL_1 hl (by decide) rfl (fun ls hl => ?_)
  exact wS_copyL_3 C hr hlk hrv FU z lr x2 x3 (0 : Int32) _ _ ls (lv_sub hl [1, 2, 3, 4, 0] rfl) hw hf
