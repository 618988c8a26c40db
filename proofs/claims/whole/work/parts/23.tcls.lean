theorem gw_64 : (Jvm.Cond.initialized "java/lang/IllegalStateException") ∈ gw := gw_in 64 (by decide +kernel) (by decide +kernel)
theorem gw_65 : (Jvm.Cond.initialized "java/lang/IllegalArgumentException") ∈ gw := gw_in 65 (by decide +kernel) (by decide +kernel)
theorem gw_484 : (Jvm.Cond.classLink "MidiDesk" (159 : Nat) "java/lang/IllegalStateException") ∈ gw := gw_in 484 (by decide +kernel) (by decide +kernel)
theorem gw_485 : (Jvm.Cond.instantiable "java/lang/IllegalStateException" (6 : Nat)) ∈ gw := gw_in 485 (by decide +kernel) (by decide +kernel)
theorem gw_556 : (Jvm.Cond.classLink "MidiDesk" (95 : Nat) "java/lang/IllegalArgumentException") ∈ gw := gw_in 556 (by decide +kernel) (by decide +kernel)
theorem gw_557 : (Jvm.Cond.instantiable "java/lang/IllegalArgumentException" (6 : Nat)) ∈ gw := gw_in 557 (by decide +kernel) (by decide +kernel)
def ecl (k : Nat) : String := if k = 1 then nE1 else nE2
set_option maxHeartbeats 4000000 in
set_option maxRecDepth 100000 in
theorem pD_needList_met {l : Launch} {g : gT} {qq ad ea : Nat → Nat} {h : cH} {X : va_W} {z z' : cZ} (hf : fD_needList h z = some z') (sz : Nat) : Met l yD_needList (.code yD_needList cD_needList 1 none :: gw) rD_needList (cPc g qq ad ea h X z [.ref (qq 0)] sz) (fun _ st oc t => oc = .returned (none) ∧ t.heap = st.heap) 0 0 (fun _ => False) := by
  refine Met.ofW (cc := cD_needList) (maxL := 1) (ret := none) (by decide) rfl ?_
  intro p e s m args below meth c s₁ B hml hv
  obtain ⟨rfl, hsz, hK, hP, hD0⟩ := hv
  subst hsz
  have hts := atoms_spec (ws := Cond.code yD_needList cD_needList 1 none :: gw) B.pre
  have hown : s.vm.findClass "MidiDesk" = some m.cls := findClass_of_methodNamed B.named
  have C : mCx p m c cD_needList 1 s [Value.ref (qq 0)].toArray g "MidiDesk" := ⟨⟨B.exec, B.bytes, hml, hown, fun w hw => hts w (List.mem_cons_of_mem _ hw)⟩, hK⟩
  have hlk := B.notSynchronized
  have hr := B.returns
  have hl := lv_entry [.ref (qq 0)] (n := 1) (Nat.le_of_ble_eq_true rfl)
  rw [lg_entry_eq]
  generalize (lg_sl [.ref (qq 0)] ++ List.replicate (1 - (lg_sl [.ref (qq 0)]).length) Slot.unset).toArray = ls at hl ⊢
  have hl : lv_has ls 1 [(0, .ref (qq 0))] := hl
  have hAe : cA g qq ad ea h X s.heap.size = va_A (cw g qq ad ea h z X) s.heap.size := va_A_map (cw_map rfl)
  have hw : cWd g (cA g qq ad ea h X s.heap.size) s.heap qq ad ea h X z s.heap [] := ⟨hP, by rw [hAe]; exact hD0.self, va_S.rf, fun y hy => Or.inr hy⟩
  unfold fD_needList at hf
  refine lv_aload_n C.1.1 C.1.2.1 dD_needList_0 rfl (lv_at hl 0 rfl) ?_
  refine cg_Desk_Desk_score C hw dD_needList_1 ?_
  refine cg_Desk_Score_present C hw dD_needList_4 ?_
  refine lv_if_ne (tgt := 20) C.1.1 C.1.2.1 dD_needList_7 (by decide) (fun c1 => ?_) (fun c1 => ?_)
  · have hf := ts_f hf c1
    exact W.vret C.1.1 C.1.2.1 hr (fun t ht hW => ⟨rfl, ht⟩) (fun q hq => by cases hq) dD_needList_20 hlk
  · have hf := ts_t hf c1
    cases hf
set_option maxHeartbeats 4000000 in
set_option maxRecDepth 100000 in
theorem pD_needTick_met {l : Launch} {g : gT} {qq ad ea : Nat → Nat} {h : cH} {X : va_W} {z z' : cZ} {x1 : Int32} (hf : fD_needTick h z x1 = some z') (sz : Nat) : Met l yD_needTick (.code yD_needTick cD_needTick 2 none :: gw) rD_needTick (cPc g qq ad ea h X z [.ref (qq 0), .int x1] sz) (fun _ st oc t => oc = .returned (none) ∧ t.heap = st.heap) 0 0 (fun _ => False) := by
  refine Met.ofW (cc := cD_needTick) (maxL := 2) (ret := none) (by decide) rfl ?_
  intro p e s m args below meth c s₁ B hml hv
  obtain ⟨rfl, hsz, hK, hP, hD0⟩ := hv
  subst hsz
  have hts := atoms_spec (ws := Cond.code yD_needTick cD_needTick 2 none :: gw) B.pre
  have hown : s.vm.findClass "MidiDesk" = some m.cls := findClass_of_methodNamed B.named
  have C : mCx p m c cD_needTick 2 s [Value.ref (qq 0), Value.int x1].toArray g "MidiDesk" := ⟨⟨B.exec, B.bytes, hml, hown, fun w hw => hts w (List.mem_cons_of_mem _ hw)⟩, hK⟩
  have hlk := B.notSynchronized
  have hr := B.returns
  have hl := lv_entry [.ref (qq 0), .int x1] (n := 2) (Nat.le_of_ble_eq_true rfl)
  rw [lg_entry_eq]
  generalize (lg_sl [.ref (qq 0), .int x1] ++ List.replicate (2 - (lg_sl [.ref (qq 0), .int x1]).length) Slot.unset).toArray = ls at hl ⊢
  have hl : lv_has ls 2 [(0, .ref (qq 0)), (1, .int x1)] := hl
  have hAe : cA g qq ad ea h X s.heap.size = va_A (cw g qq ad ea h z X) s.heap.size := va_A_map (cw_map rfl)
  have hw : cWd g (cA g qq ad ea h X s.heap.size) s.heap qq ad ea h X z s.heap [] := ⟨hP, by rw [hAe]; exact hD0.self, va_S.rf, fun y hy => Or.inr hy⟩
  unfold fD_needTick at hf
  refine lv_iload_n C.1.1 C.1.2.1 dD_needTick_0 rfl (lv_at hl 1 rfl) ?_
  refine lv_if_lt (tgt := 10) C.1.1 C.1.2.1 dD_needTick_1 (by decide) (fun c1 => ?_) (fun c1 => ?_)
  · have hf := ts_t hf c1
    cases hf
  · have hf := ts_f hf c1
    refine lv_iload_n C.1.1 C.1.2.1 dD_needTick_4 rfl (lv_at hl 1 rfl) ?_
    refine lv_ldc C.1.1 C.1.2.1 C.1.2.2.2.1 (C.1.2.2.2.2 _ gw_555) dD_needTick_5 ?_
    refine lv_icmp_le (tgt := 20) C.1.1 C.1.2.1 dD_needTick_7 (by decide) (fun c2 => ?_) (fun c2 => ?_)
    · have hf := ts_t hf c2
      exact W.vret C.1.1 C.1.2.1 hr (fun t ht hW => ⟨rfl, ht⟩) (fun q hq => by cases hq) dD_needTick_20 hlk
    · have hf := ts_f hf c2
      cases hf
set_option maxHeartbeats 4000000 in
set_option maxRecDepth 100000 in
theorem pS_greatestTick_met {l : Launch} {g : gT} {qq ad ea : Nat → Nat} {h : cH} {X : va_W} {z z' : cZ} {r' : Int32} (hf : fS_greatestTick h z = some (r', z')) (sz : Nat) : Met l yS_greatestTick (.code yS_greatestTick cS_greatestTick 1 (some .int) :: gw) rS_greatestTick (cPc g qq ad ea h X z [.ref (qq 4)] sz) (fun _ st oc t => oc = .returned (some (.int r')) ∧ t.heap = st.heap) 0 0 (fun _ => False) := by
  refine Met.ofW (cc := cS_greatestTick) (maxL := 1) (ret := (some .int)) (by decide) rfl ?_
  intro p e s m args below meth c s₁ B hml hv
  obtain ⟨rfl, hsz, hK, hP, hD0⟩ := hv
  subst hsz
  have hts := atoms_spec (ws := Cond.code yS_greatestTick cS_greatestTick 1 (some .int) :: gw) B.pre
  have hown : s.vm.findClass "MidiDesk$Score" = some m.cls := findClass_of_methodNamed B.named
  have C : mCx p m c cS_greatestTick 1 s [Value.ref (qq 4)].toArray g "MidiDesk$Score" := ⟨⟨B.exec, B.bytes, hml, hown, fun w hw => hts w (List.mem_cons_of_mem _ hw)⟩, hK⟩
  have hlk := B.notSynchronized
  have hr := B.returns
  have hl := lv_entry [.ref (qq 4)] (n := 1) (Nat.le_of_ble_eq_true rfl)
  rw [lg_entry_eq]
  generalize (lg_sl [.ref (qq 4)] ++ List.replicate (1 - (lg_sl [.ref (qq 4)]).length) Slot.unset).toArray = ls at hl ⊢
  have hl : lv_has ls 1 [(0, .ref (qq 4))] := hl
  have hAe : cA g qq ad ea h X s.heap.size = va_A (cw g qq ad ea h z X) s.heap.size := va_A_map (cw_map rfl)
  have hw : cWd g (cA g qq ad ea h X s.heap.size) s.heap qq ad ea h X z s.heap [] := ⟨hP, by rw [hAe]; exact hD0.self, va_S.rf, fun y hy => Or.inr hy⟩
  unfold fS_greatestTick at hf
  refine lv_aload_n C.1.1 C.1.2.1 dS_greatestTick_0 rfl (lv_at hl 0 rfl) ?_
  refine cg_Score_Score_size C hw dS_greatestTick_1 ?_
  refine lv_if_le (tgt := 24) C.1.1 C.1.2.1 dS_greatestTick_4 (by decide) (fun c1 => ?_) (fun c1 => ?_)
  · have hf := ts_t hf c1
    refine lv_iconst (v := (0 : Int32)) C.1.1 C.1.2.1 dS_greatestTick_24 (by decide) ?_
    have hr9 : (0 : Int32) = r' := by cases hf; rfl
    rw [hr9]
    exact W.iret (v := r') C.1.1 C.1.2.1 hr (fun t ht hW => ⟨rfl, ht⟩) (fun q hq => by cases hq) dS_greatestTick_25 hlk
  · have hf := ts_f hf c1
    refine lv_aload_n C.1.1 C.1.2.1 dS_greatestTick_7 rfl (lv_at hl 0 rfl) ?_
    refine cg_Score_Score_row C hw dS_greatestTick_8 ?_
    refine lv_aload_n C.1.1 C.1.2.1 dS_greatestTick_11 rfl (lv_at hl 0 rfl) ?_
    refine cg_Score_Score_size C hw dS_greatestTick_12 ?_
    refine lv_iconst (v := (1 : Int32)) C.1.1 C.1.2.1 dS_greatestTick_15 (by decide) ?_
    refine lv_isub C.1.1 C.1.2.1 dS_greatestTick_16 ?_
    obtain ⟨h2, hf⟩ := ts_g hf
    refine cra_0 C hw h2 dS_greatestTick_17 ?_
    obtain ⟨j3, ho3, hf⟩ := ts_b hf
    try dsimp only at hf
    obtain ⟨hb3, hf⟩ := ts_g hf
    have hb3 := Nat.lt_of_not_le hb3
    refine cg_Score_Event_tick C hw ho3 hb3 dS_greatestTick_18 ?_
    refine lv_goto (tgt := 25) C.1.1 C.1.2.1 dS_greatestTick_21 (by decide) ?_
    have hr9 : ze z j3 0 = r' := by cases hf; rfl
    rw [hr9]
    exact W.iret (v := r') C.1.1 C.1.2.1 hr (fun t ht hW => ⟨rfl, ht⟩) (fun q hq => by cases hq) dS_greatestTick_25 hlk
set_option maxHeartbeats 4000000 in
set_option maxRecDepth 100000 in
theorem pD_nearest_met {l : Launch} {g : gT} {qq ad ea : Nat → Nat} {h : cH} {X : va_W} {z z' : cZ} {x0 : Int32} {x1 : Int32} {r' : Int32} (hf : fD_nearest h z x0 x1 = some (r', z')) (sz : Nat) : Met l yD_nearest (.code yD_nearest cD_nearest 2 (some .int) :: gw) rD_nearest (cPc g qq ad ea h X z [.int x0, .int x1] sz) (fun _ st oc t => oc = .returned (some (.int r')) ∧ t.heap = st.heap) 0 0 (fun _ => False) := by
  refine Met.ofW (cc := cD_nearest) (maxL := 2) (ret := (some .int)) (by decide) rfl ?_
  intro p e s m args below meth c s₁ B hml hv
  obtain ⟨rfl, hsz, hK, hP, hD0⟩ := hv
  subst hsz
  have hts := atoms_spec (ws := Cond.code yD_nearest cD_nearest 2 (some .int) :: gw) B.pre
  have hown : s.vm.findClass "MidiDesk" = some m.cls := findClass_of_methodNamed B.named
  have C : mCx p m c cD_nearest 2 s [Value.int x0, Value.int x1].toArray g "MidiDesk" := ⟨⟨B.exec, B.bytes, hml, hown, fun w hw => hts w (List.mem_cons_of_mem _ hw)⟩, hK⟩
  have hlk := B.notSynchronized
  have hr := B.returns
  have hl := lv_entry [.int x0, .int x1] (n := 2) (Nat.le_of_ble_eq_true rfl)
  rw [lg_entry_eq]
  generalize (lg_sl [.int x0, .int x1] ++ List.replicate (2 - (lg_sl [.int x0, .int x1]).length) Slot.unset).toArray = ls at hl ⊢
  have hl : lv_has ls 2 [(0, .int x0), (1, .int x1)] := hl
  have hAe : cA g qq ad ea h X s.heap.size = va_A (cw g qq ad ea h z X) s.heap.size := va_A_map (cw_map rfl)
  have hw : cWd g (cA g qq ad ea h X s.heap.size) s.heap qq ad ea h X z s.heap [] := ⟨hP, by rw [hAe]; exact hD0.self, va_S.rf, fun y hy => Or.inr hy⟩
  unfold fD_nearest at hf
  refine lv_iload_n C.1.1 C.1.2.1 dD_nearest_0 rfl (lv_at hl 0 rfl) ?_
  refine lv_iload_n C.1.1 C.1.2.1 dD_nearest_1 rfl (lv_at hl 1 rfl) ?_
  refine lv_iconst (v := (2 : Int32)) C.1.1 C.1.2.1 dD_nearest_2 (by decide) ?_
  obtain ⟨h1, hf⟩ := ts_g hf
  refine lv_idiv C.1.1 C.1.2.1 dD_nearest_3 h1 ?_
  refine lv_iadd C.1.1 C.1.2.1 dD_nearest_4 ?_
  refine lv_iload_n C.1.1 C.1.2.1 dD_nearest_5 rfl (lv_at hl 1 rfl) ?_
  obtain ⟨h2, hf⟩ := ts_g hf
  refine lv_idiv C.1.1 C.1.2.1 dD_nearest_6 h2 ?_
  refine lv_iload_n C.1.1 C.1.2.1 dD_nearest_7 rfl (lv_at hl 1 rfl) ?_
  refine lv_imul C.1.1 C.1.2.1 dD_nearest_8 ?_
  have hr9 : ((x0 + (x1 / (2 : Int32))) / x1) * x1 = r' := by cases hf; rfl
  rw [hr9]
  exact W.iret (v := r') C.1.1 C.1.2.1 hr (fun t ht hW => ⟨rfl, ht⟩) (fun q hq => by cases hq) dD_nearest_9 hlk
abbrev tfrD_needList : Nat := 6
abbrev tloD_needList : Nat := 100
theorem dD_needList_13 : decode cD_needList 13 = .ok (.dup, 1) := by decide +kernel
theorem dD_needList_14 : decode cD_needList 14 = .ok (.ldc 161, 2) := by decide +kernel
theorem dD_needList_16 : decode cD_needList 16 = .ok (.invokespecial 163, 3) := by decide +kernel
theorem dD_needList_19 : decode cD_needList 19 = .ok (.athrow, 1) := by decide +kernel
/-- which throw: 1 IllegalStateException, 2 IllegalArgumentException -/
def tD_needList (h : cH) (z : cZ) : Option Nat := if (zi z 3) = 0 then (some 1) else none
set_option maxHeartbeats 4000000 in
set_option maxRecDepth 100000 in
theorem tD_needList_met {l : Launch} {g : gT} {qq ad ea : Nat → Nat} {h : cH} {X : va_W} {z : cZ} {k' : Nat} (hfl : l.flags = flags0) (hf : tD_needList h z = some k') : tMet l yD_needList cD_needList 1 none tfrD_needList tloD_needList g qq ad ea h X z [.ref (qq 0)] (ecl k') := by
  refine t_entry (by decide) (Nat.le_of_ble_eq_true rfl) ?_
  intro p e s m args below meth c ls C hlk hno hl hw hE
  have C : mCx p m c cD_needList 1 s args g "MidiDesk" := C
  have hl : lv_has ls 1 [(0, .ref (qq 0))] := hl
  unfold tD_needList at hf
  refine lv_aload_n C.1.1 C.1.2.1 dD_needList_0 rfl (lv_at hl 0 rfl) ?_
  refine cg_Desk_Desk_score C hw dD_needList_1 ?_
  refine cg_Desk_Score_present C hw dD_needList_4 ?_
  refine lv_if_ne (tgt := 20) C.1.1 C.1.2.1 dD_needList_7 (by decide) (fun c1 => ?_) (fun c1 => ?_)
  · have hf := ts_f hf c1
    cases hf
  · have hf := ts_t hf c1
    cases hf
    exact t_throw (tx := "there is no list") hfl C hlk hno hl.1 hw (ex_atoms atoms_1 C.1.2.2.2.2 hE) (by decide) (hE.2.1 (161, "there is no list") (by decide)) gw_484 gw_485 gw_64 ⟨(Nat.le_of_ble_eq_true rfl), (Nat.le_of_ble_eq_true rfl)⟩ ⟨(Nat.le_of_ble_eq_true rfl), (Nat.le_of_ble_eq_true rfl)⟩ dD_needList_10 dD_needList_13 dD_needList_14 dD_needList_16 dD_needList_19
abbrev tfrD_needTick : Nat := 6
abbrev tloD_needTick : Nat := 100
theorem dD_needTick_13 : decode cD_needTick 13 = .ok (.dup, 1) := by decide +kernel
theorem dD_needTick_14 : decode cD_needTick 14 = .ok (.ldc 164, 2) := by decide +kernel
theorem dD_needTick_16 : decode cD_needTick 16 = .ok (.invokespecial 99, 3) := by decide +kernel
theorem dD_needTick_19 : decode cD_needTick 19 = .ok (.athrow, 1) := by decide +kernel
/-- which throw: 1 IllegalStateException, 2 IllegalArgumentException -/
def tD_needTick (h : cH) (z : cZ) (x1 : Int32) : Option Nat := if x1 < 0 then (some 2) else (if x1 ≤ (268435455 : Int32) then none else (some 2))
set_option maxHeartbeats 4000000 in
set_option maxRecDepth 100000 in
theorem tD_needTick_met {l : Launch} {g : gT} {qq ad ea : Nat → Nat} {h : cH} {X : va_W} {z : cZ} {x1 : Int32} {k' : Nat} (hfl : l.flags = flags0) (hf : tD_needTick h z x1 = some k') : tMet l yD_needTick cD_needTick 2 none tfrD_needTick tloD_needTick g qq ad ea h X z [.ref (qq 0), .int x1] (ecl k') := by
  refine t_entry (by decide) (Nat.le_of_ble_eq_true rfl) ?_
  intro p e s m args below meth c ls C hlk hno hl hw hE
  have C : mCx p m c cD_needTick 2 s args g "MidiDesk" := C
  have hl : lv_has ls 2 [(0, .ref (qq 0)), (1, .int x1)] := hl
  unfold tD_needTick at hf
  refine lv_iload_n C.1.1 C.1.2.1 dD_needTick_0 rfl (lv_at hl 1 rfl) ?_
  refine lv_if_lt (tgt := 10) C.1.1 C.1.2.1 dD_needTick_1 (by decide) (fun c1 => ?_) (fun c1 => ?_)
  · have hf := ts_t hf c1
    cases hf
    exact t_throw (tx := "no such tick") hfl C hlk hno hl.1 hw (ex_atoms atoms_2 C.1.2.2.2.2 hE) (by decide) (hE.2.1 (164, "no such tick") (by decide)) gw_556 gw_557 gw_65 ⟨(Nat.le_of_ble_eq_true rfl), (Nat.le_of_ble_eq_true rfl)⟩ ⟨(Nat.le_of_ble_eq_true rfl), (Nat.le_of_ble_eq_true rfl)⟩ dD_needTick_10 dD_needTick_13 dD_needTick_14 dD_needTick_16 dD_needTick_19
  · have hf := ts_f hf c1
    refine lv_iload_n C.1.1 C.1.2.1 dD_needTick_4 rfl (lv_at hl 1 rfl) ?_
    refine lv_ldc C.1.1 C.1.2.1 C.1.2.2.2.1 (C.1.2.2.2.2 _ gw_555) dD_needTick_5 ?_
    refine lv_icmp_le (tgt := 20) C.1.1 C.1.2.1 dD_needTick_7 (by decide) (fun c2 => ?_) (fun c2 => ?_)
    · have hf := ts_t hf c2
      cases hf
    · have hf := ts_f hf c2
      cases hf
      exact t_throw (tx := "no such tick") hfl C hlk hno hl.1 hw (ex_atoms atoms_2 C.1.2.2.2.2 hE) (by decide) (hE.2.1 (164, "no such tick") (by decide)) gw_556 gw_557 gw_65 ⟨(Nat.le_of_ble_eq_true rfl), (Nat.le_of_ble_eq_true rfl)⟩ ⟨(Nat.le_of_ble_eq_true rfl), (Nat.le_of_ble_eq_true rfl)⟩ dD_needTick_10 dD_needTick_13 dD_needTick_14 dD_needTick_16 dD_needTick_19
abbrev tfrD_time : Nat := 7
abbrev tloD_time : Nat := 121
/-- which throw: 1 IllegalStateException, 2 IllegalArgumentException -/
def tD_time (h : cH) (z : cZ) (x1 : Int32) : Option Nat := if (tD_needList h z).isSome = true then tD_needList h z else ((fD_needList h z).bind fun _ => if (tD_needTick h z x1).isSome = true then tD_needTick h z x1 else ((fD_needTick h z x1).bind fun _ => none))
set_option maxHeartbeats 4000000 in
set_option maxRecDepth 100000 in
theorem tD_time_met {l : Launch} {g : gT} {qq ad ea : Nat → Nat} {h : cH} {X : va_W} {z : cZ} {x1 : Int32} {k' : Nat} (hfl : l.flags = flags0) (hf : tD_time h z x1 = some k') : tMet l yD_time cD_time 2 (some .long) tfrD_time tloD_time g qq ad ea h X z [.ref (qq 0), .int x1] (ecl k') := by
  refine t_entry (by decide) (Nat.le_of_ble_eq_true rfl) ?_
  intro p e s m args below meth c ls C hlk hno hl hw hE
  have C : mCx p m c cD_time 2 s args g "MidiDesk" := C
  have hl : lv_has ls 2 [(0, .ref (qq 0)), (1, .int x1)] := hl
  unfold tD_time at hf
  refine lv_aload_n C.1.1 C.1.2.1 dD_time_0 rfl (lv_at hl 0 rfl) ?_
  rcases Decidable.em ((tD_needList h z).isSome = true) with c1 | c1
  · have hf := ts_t hf c1
    exact t_pass (rest := []) (As := []) (b := (qq 0)) C hlk hno hl.1 hw hE (tD_needList_met hfl hf) (callW_of (rm := { frames := tfrD_needList, cells := 1, slots := 6, locals := tloD_needList }) (C := "MidiDesk") 0 C.1.2.2.2.2 gw_480 gw_482 gw_18 gw_52 gw_483 kD_needList ⟨(Nat.le_of_ble_eq_true rfl), (Nat.le_of_ble_eq_true rfl)⟩) (c_recv_desk C.2 hw) rfl rfl (Nat.le_of_ble_eq_true rfl) dD_time_1 ⟨(Nat.le_of_ble_eq_true rfl), (Nat.le_of_ble_eq_true rfl)⟩
  have hf := ts_f hf c1
  obtain ⟨z1, g1, hf⟩ := ts_b hf
  try dsimp only at hf
  refine x_same (rv := none) (rest := []) (va_runV (b := (qq 0)) (As := []) (rest := []) C.1 (pD_needList_met g1 s.heap.size) (callW_of (rm := rD_needList) (C := "MidiDesk") 0 C.1.2.2.2.2 gw_480 gw_482 gw_18 gw_52 gw_483 kD_needList ⟨(Nat.le_of_ble_eq_true rfl), (Nat.le_of_ble_eq_true rfl)⟩) ⟨cPc_blind, (c_recv_desk C.2 hw), c_pre C.2 hw⟩ rfl rfl hl.1 rfl (lv_room (Nat.le_of_ble_eq_true rfl)) dD_time_1 ⟨(Nat.le_of_ble_eq_true rfl), (Nat.le_of_ble_eq_true rfl)⟩) ?_
  refine W.eq (g2 := F0 m 4 ls []) rfl ?_
  refine lv_aload_n C.1.1 C.1.2.1 dD_time_4 rfl (lv_at hl 0 rfl) ?_
  refine lv_iload_n C.1.1 C.1.2.1 dD_time_5 rfl (lv_at hl 1 rfl) ?_
  rcases Decidable.em ((tD_needTick h z x1).isSome = true) with c2 | c2
  · have hf := ts_t hf c2
    exact t_pass (rest := []) (As := [.int x1]) (b := (qq 0)) C hlk hno hl.1 hw hE (tD_needTick_met hfl hf) (callW_of (rm := { frames := tfrD_needTick, cells := 1, slots := 6, locals := tloD_needTick }) (C := "MidiDesk") 1 C.1.2.2.2.2 gw_551 gw_553 gw_20 gw_52 gw_554 kD_needTick ⟨(Nat.le_of_ble_eq_true rfl), (Nat.le_of_ble_eq_true rfl)⟩) (c_recv_desk C.2 hw) rfl rfl (Nat.le_of_ble_eq_true rfl) dD_time_6 ⟨(Nat.le_of_ble_eq_true rfl), (Nat.le_of_ble_eq_true rfl)⟩
  have hf := ts_f hf c2
  obtain ⟨z2, g2, hf⟩ := ts_b hf
  try dsimp only at hf
  refine x_same (rv := none) (rest := []) (va_runV (b := (qq 0)) (As := [.int x1]) (rest := []) C.1 (pD_needTick_met g2 s.heap.size) (callW_of (rm := rD_needTick) (C := "MidiDesk") 1 C.1.2.2.2.2 gw_551 gw_553 gw_20 gw_52 gw_554 kD_needTick ⟨(Nat.le_of_ble_eq_true rfl), (Nat.le_of_ble_eq_true rfl)⟩) ⟨cPc_blind, (c_recv_desk C.2 hw), c_pre C.2 hw⟩ rfl rfl hl.1 rfl (lv_room (Nat.le_of_ble_eq_true rfl)) dD_time_6 ⟨(Nat.le_of_ble_eq_true rfl), (Nat.le_of_ble_eq_true rfl)⟩) ?_
  refine W.eq (g2 := F0 m 9 ls []) rfl ?_
  cases hf
abbrev tfrD_rest : Nat := 7
abbrev tloD_rest : Nat := 121
/-- which throw: 1 IllegalStateException, 2 IllegalArgumentException -/
def tD_rest (h : cH) (z : cZ) (x1 : Int32) : Option Nat := if (tD_needList h z).isSome = true then tD_needList h z else ((fD_needList h z).bind fun _ => if (tD_needTick h z x1).isSome = true then tD_needTick h z x1 else ((fD_needTick h z x1).bind fun _ => none))
set_option maxHeartbeats 4000000 in
set_option maxRecDepth 100000 in
theorem tD_rest_met {l : Launch} {g : gT} {qq ad ea : Nat → Nat} {h : cH} {X : va_W} {z : cZ} {x1 : Int32} {k' : Nat} (hfl : l.flags = flags0) (hf : tD_rest h z x1 = some k') : tMet l yD_rest cD_rest 2 (some .long) tfrD_rest tloD_rest g qq ad ea h X z [.ref (qq 0), .int x1] (ecl k') := by
  refine t_entry (by decide) (Nat.le_of_ble_eq_true rfl) ?_
  intro p e s m args below meth c ls C hlk hno hl hw hE
  have C : mCx p m c cD_rest 2 s args g "MidiDesk" := C
  have hl : lv_has ls 2 [(0, .ref (qq 0)), (1, .int x1)] := hl
  unfold tD_rest at hf
  refine lv_aload_n C.1.1 C.1.2.1 dD_rest_0 rfl (lv_at hl 0 rfl) ?_
  rcases Decidable.em ((tD_needList h z).isSome = true) with c1 | c1
  · have hf := ts_t hf c1
    exact t_pass (rest := []) (As := []) (b := (qq 0)) C hlk hno hl.1 hw hE (tD_needList_met hfl hf) (callW_of (rm := { frames := tfrD_needList, cells := 1, slots := 6, locals := tloD_needList }) (C := "MidiDesk") 0 C.1.2.2.2.2 gw_480 gw_482 gw_18 gw_52 gw_483 kD_needList ⟨(Nat.le_of_ble_eq_true rfl), (Nat.le_of_ble_eq_true rfl)⟩) (c_recv_desk C.2 hw) rfl rfl (Nat.le_of_ble_eq_true rfl) dD_rest_1 ⟨(Nat.le_of_ble_eq_true rfl), (Nat.le_of_ble_eq_true rfl)⟩
  have hf := ts_f hf c1
  obtain ⟨z1, g1, hf⟩ := ts_b hf
  try dsimp only at hf
  refine x_same (rv := none) (rest := []) (va_runV (b := (qq 0)) (As := []) (rest := []) C.1 (pD_needList_met g1 s.heap.size) (callW_of (rm := rD_needList) (C := "MidiDesk") 0 C.1.2.2.2.2 gw_480 gw_482 gw_18 gw_52 gw_483 kD_needList ⟨(Nat.le_of_ble_eq_true rfl), (Nat.le_of_ble_eq_true rfl)⟩) ⟨cPc_blind, (c_recv_desk C.2 hw), c_pre C.2 hw⟩ rfl rfl hl.1 rfl (lv_room (Nat.le_of_ble_eq_true rfl)) dD_rest_1 ⟨(Nat.le_of_ble_eq_true rfl), (Nat.le_of_ble_eq_true rfl)⟩) ?_
  refine W.eq (g2 := F0 m 4 ls []) rfl ?_
  refine lv_aload_n C.1.1 C.1.2.1 dD_rest_4 rfl (lv_at hl 0 rfl) ?_
  refine lv_iload_n C.1.1 C.1.2.1 dD_rest_5 rfl (lv_at hl 1 rfl) ?_
  rcases Decidable.em ((tD_needTick h z x1).isSome = true) with c2 | c2
  · have hf := ts_t hf c2
    exact t_pass (rest := []) (As := [.int x1]) (b := (qq 0)) C hlk hno hl.1 hw hE (tD_needTick_met hfl hf) (callW_of (rm := { frames := tfrD_needTick, cells := 1, slots := 6, locals := tloD_needTick }) (C := "MidiDesk") 1 C.1.2.2.2.2 gw_551 gw_553 gw_20 gw_52 gw_554 kD_needTick ⟨(Nat.le_of_ble_eq_true rfl), (Nat.le_of_ble_eq_true rfl)⟩) (c_recv_desk C.2 hw) rfl rfl (Nat.le_of_ble_eq_true rfl) dD_rest_6 ⟨(Nat.le_of_ble_eq_true rfl), (Nat.le_of_ble_eq_true rfl)⟩
  have hf := ts_f hf c2
  obtain ⟨z2, g2, hf⟩ := ts_b hf
  try dsimp only at hf
  refine x_same (rv := none) (rest := []) (va_runV (b := (qq 0)) (As := [.int x1]) (rest := []) C.1 (pD_needTick_met g2 s.heap.size) (callW_of (rm := rD_needTick) (C := "MidiDesk") 1 C.1.2.2.2.2 gw_551 gw_553 gw_20 gw_52 gw_554 kD_needTick ⟨(Nat.le_of_ble_eq_true rfl), (Nat.le_of_ble_eq_true rfl)⟩) ⟨cPc_blind, (c_recv_desk C.2 hw), c_pre C.2 hw⟩ rfl rfl hl.1 rfl (lv_room (Nat.le_of_ble_eq_true rfl)) dD_rest_6 ⟨(Nat.le_of_ble_eq_true rfl), (Nat.le_of_ble_eq_true rfl)⟩) ?_
  refine W.eq (g2 := F0 m 9 ls []) rfl ?_
  cases hf
abbrev tfrD_transpose : Nat := 7
abbrev tloD_transpose : Nat := 120
theorem dD_transpose_17 : decode cD_transpose 17 = .ok (.dup, 1) := by decide +kernel
theorem dD_transpose_18 : decode cD_transpose 18 = .ok (.ldc 97, 2) := by decide +kernel
theorem dD_transpose_20 : decode cD_transpose 20 = .ok (.invokespecial 99, 3) := by decide +kernel
theorem dD_transpose_23 : decode cD_transpose 23 = .ok (.athrow, 1) := by decide +kernel
/-- which throw: 1 IllegalStateException, 2 IllegalArgumentException -/
def tD_transpose (h : cH) (z : cZ) (x1 : Int32) (x2 : Int32) : Option Nat := if (tD_needList h z).isSome = true then tD_needList h z else ((fD_needList h z).bind fun _ => if x1 < 0 then (some 2) else (if x1 ≤ (16 : Int32) then none else (some 2)))
set_option maxHeartbeats 4000000 in
set_option maxRecDepth 100000 in
theorem tD_transpose_met {l : Launch} {g : gT} {qq ad ea : Nat → Nat} {h : cH} {X : va_W} {z : cZ} {x1 : Int32} {x2 : Int32} {k' : Nat} (hfl : l.flags = flags0) (hf : tD_transpose h z x1 x2 = some k') : tMet l yD_transpose cD_transpose 3 (some .int) tfrD_transpose tloD_transpose g qq ad ea h X z [.ref (qq 0), .int x1, .int x2] (ecl k') := by
  refine t_entry (by decide) (Nat.le_of_ble_eq_true rfl) ?_
  intro p e s m args below meth c ls C hlk hno hl hw hE
  have C : mCx p m c cD_transpose 3 s args g "MidiDesk" := C
  have hl : lv_has ls 3 [(0, .ref (qq 0)), (1, .int x1), (2, .int x2)] := hl
  unfold tD_transpose at hf
  refine lv_aload_n C.1.1 C.1.2.1 dD_transpose_0 rfl (lv_at hl 0 rfl) ?_
  rcases Decidable.em ((tD_needList h z).isSome = true) with c1 | c1
  · have hf := ts_t hf c1
    exact t_pass (rest := []) (As := []) (b := (qq 0)) C hlk hno hl.1 hw hE (tD_needList_met hfl hf) (callW_of (rm := { frames := tfrD_needList, cells := 1, slots := 6, locals := tloD_needList }) (C := "MidiDesk") 0 C.1.2.2.2.2 gw_480 gw_482 gw_18 gw_52 gw_483 kD_needList ⟨(Nat.le_of_ble_eq_true rfl), (Nat.le_of_ble_eq_true rfl)⟩) (c_recv_desk C.2 hw) rfl rfl (Nat.le_of_ble_eq_true rfl) dD_transpose_1 ⟨(Nat.le_of_ble_eq_true rfl), (Nat.le_of_ble_eq_true rfl)⟩
  have hf := ts_f hf c1
  obtain ⟨z1, g1, hf⟩ := ts_b hf
  try dsimp only at hf
  refine x_same (rv := none) (rest := []) (va_runV (b := (qq 0)) (As := []) (rest := []) C.1 (pD_needList_met g1 s.heap.size) (callW_of (rm := rD_needList) (C := "MidiDesk") 0 C.1.2.2.2.2 gw_480 gw_482 gw_18 gw_52 gw_483 kD_needList ⟨(Nat.le_of_ble_eq_true rfl), (Nat.le_of_ble_eq_true rfl)⟩) ⟨cPc_blind, (c_recv_desk C.2 hw), c_pre C.2 hw⟩ rfl rfl hl.1 rfl (lv_room (Nat.le_of_ble_eq_true rfl)) dD_transpose_1 ⟨(Nat.le_of_ble_eq_true rfl), (Nat.le_of_ble_eq_true rfl)⟩) ?_
  refine W.eq (g2 := F0 m 4 ls []) rfl ?_
  refine lv_iload_n C.1.1 C.1.2.1 dD_transpose_4 rfl (lv_at hl 1 rfl) ?_
  refine lv_if_lt (tgt := 14) C.1.1 C.1.2.1 dD_transpose_5 (by decide) (fun c2 => ?_) (fun c2 => ?_)
  · have hf := ts_t hf c2
    cases hf
    exact t_throw (tx := "no such channel") hfl C hlk hno hl.1 hw (ex_atoms atoms_2 C.1.2.2.2.2 hE) (by decide) (hE.2.1 (97, "no such channel") (by decide)) gw_556 gw_557 gw_65 ⟨(Nat.le_of_ble_eq_true rfl), (Nat.le_of_ble_eq_true rfl)⟩ ⟨(Nat.le_of_ble_eq_true rfl), (Nat.le_of_ble_eq_true rfl)⟩ dD_transpose_14 dD_transpose_17 dD_transpose_18 dD_transpose_20 dD_transpose_23
  · have hf := ts_f hf c2
    refine lv_iload_n C.1.1 C.1.2.1 dD_transpose_8 rfl (lv_at hl 1 rfl) ?_
    refine lv_bipush (v := (16 : Int32)) C.1.1 C.1.2.1 dD_transpose_9 (by decide) ?_
    refine lv_icmp_le (tgt := 24) C.1.1 C.1.2.1 dD_transpose_11 (by decide) (fun c3 => ?_) (fun c3 => ?_)
    · have hf := ts_t hf c3
      cases hf
    · have hf := ts_f hf c3
      cases hf
      exact t_throw (tx := "no such channel") hfl C hlk hno hl.1 hw (ex_atoms atoms_2 C.1.2.2.2.2 hE) (by decide) (hE.2.1 (97, "no such channel") (by decide)) gw_556 gw_557 gw_65 ⟨(Nat.le_of_ble_eq_true rfl), (Nat.le_of_ble_eq_true rfl)⟩ ⟨(Nat.le_of_ble_eq_true rfl), (Nat.le_of_ble_eq_true rfl)⟩ dD_transpose_14 dD_transpose_17 dD_transpose_18 dD_transpose_20 dD_transpose_23
abbrev tfrD_grid : Nat := 7
abbrev tloD_grid : Nat := 120
theorem dD_grid_18 : decode cD_grid 18 = .ok (.dup, 1) := by decide +kernel
theorem dD_grid_19 : decode cD_grid 19 = .ok (.ldc 107, 2) := by decide +kernel
theorem dD_grid_21 : decode cD_grid 21 = .ok (.invokespecial 99, 3) := by decide +kernel
theorem dD_grid_24 : decode cD_grid 24 = .ok (.athrow, 1) := by decide +kernel
theorem dD_grid_44 : decode cD_grid 44 = .ok (.dup, 1) := by decide +kernel
theorem dD_grid_45 : decode cD_grid 45 = .ok (.ldc 116, 2) := by decide +kernel
theorem dD_grid_47 : decode cD_grid 47 = .ok (.invokespecial 99, 3) := by decide +kernel
theorem dD_grid_50 : decode cD_grid 50 = .ok (.athrow, 1) := by decide +kernel
/-- which throw: 1 IllegalStateException, 2 IllegalArgumentException -/
def tD_grid (h : cH) (z : cZ) (x1 : Int32) : Option Nat := if (tD_needList h z).isSome = true then tD_needList h z else ((fD_needList h z).bind fun _ => if x1 < (1 : Int32) then (some 2) else (if x1 ≤ (100000 : Int32) then ((fS_greatestTick h z).bind fun (r4, _) => (fD_nearest h z r4 x1).bind fun (r5, _) => if r5 ≤ (268435455 : Int32) then none else (some 2)) else (some 2)))
set_option maxHeartbeats 4000000 in
set_option maxRecDepth 100000 in
theorem tD_grid_met {l : Launch} {g : gT} {qq ad ea : Nat → Nat} {h : cH} {X : va_W} {z : cZ} {x1 : Int32} {k' : Nat} (hfl : l.flags = flags0) (hf : tD_grid h z x1 = some k') : tMet l yD_grid cD_grid 2 (some .int) tfrD_grid tloD_grid g qq ad ea h X z [.ref (qq 0), .int x1] (ecl k') := by
  refine t_entry (by decide) (Nat.le_of_ble_eq_true rfl) ?_
  intro p e s m args below meth c ls C hlk hno hl hw hE
  have C : mCx p m c cD_grid 2 s args g "MidiDesk" := C
  have hl : lv_has ls 2 [(0, .ref (qq 0)), (1, .int x1)] := hl
  unfold tD_grid at hf
  refine lv_aload_n C.1.1 C.1.2.1 dD_grid_0 rfl (lv_at hl 0 rfl) ?_
  rcases Decidable.em ((tD_needList h z).isSome = true) with c1 | c1
  · have hf := ts_t hf c1
    exact t_pass (rest := []) (As := []) (b := (qq 0)) C hlk hno hl.1 hw hE (tD_needList_met hfl hf) (callW_of (rm := { frames := tfrD_needList, cells := 1, slots := 6, locals := tloD_needList }) (C := "MidiDesk") 0 C.1.2.2.2.2 gw_480 gw_482 gw_18 gw_52 gw_483 kD_needList ⟨(Nat.le_of_ble_eq_true rfl), (Nat.le_of_ble_eq_true rfl)⟩) (c_recv_desk C.2 hw) rfl rfl (Nat.le_of_ble_eq_true rfl) dD_grid_1 ⟨(Nat.le_of_ble_eq_true rfl), (Nat.le_of_ble_eq_true rfl)⟩
  have hf := ts_f hf c1
  obtain ⟨z1, g1, hf⟩ := ts_b hf
  try dsimp only at hf
  refine x_same (rv := none) (rest := []) (va_runV (b := (qq 0)) (As := []) (rest := []) C.1 (pD_needList_met g1 s.heap.size) (callW_of (rm := rD_needList) (C := "MidiDesk") 0 C.1.2.2.2.2 gw_480 gw_482 gw_18 gw_52 gw_483 kD_needList ⟨(Nat.le_of_ble_eq_true rfl), (Nat.le_of_ble_eq_true rfl)⟩) ⟨cPc_blind, (c_recv_desk C.2 hw), c_pre C.2 hw⟩ rfl rfl hl.1 rfl (lv_room (Nat.le_of_ble_eq_true rfl)) dD_grid_1 ⟨(Nat.le_of_ble_eq_true rfl), (Nat.le_of_ble_eq_true rfl)⟩) ?_
  refine W.eq (g2 := F0 m 4 ls []) rfl ?_
  refine lv_iload_n C.1.1 C.1.2.1 dD_grid_4 rfl (lv_at hl 1 rfl) ?_
  refine lv_iconst (v := (1 : Int32)) C.1.1 C.1.2.1 dD_grid_5 (by decide) ?_
  refine lv_icmp_lt (tgt := 15) C.1.1 C.1.2.1 dD_grid_6 (by decide) (fun c2 => ?_) (fun c2 => ?_)
  · have hf := ts_t hf c2
    cases hf
    exact t_throw (tx := "no such step") hfl C hlk hno hl.1 hw (ex_atoms atoms_2 C.1.2.2.2.2 hE) (by decide) (hE.2.1 (107, "no such step") (by decide)) gw_556 gw_557 gw_65 ⟨(Nat.le_of_ble_eq_true rfl), (Nat.le_of_ble_eq_true rfl)⟩ ⟨(Nat.le_of_ble_eq_true rfl), (Nat.le_of_ble_eq_true rfl)⟩ dD_grid_15 dD_grid_18 dD_grid_19 dD_grid_21 dD_grid_24
  · have hf := ts_f hf c2
    refine lv_iload_n C.1.1 C.1.2.1 dD_grid_9 rfl (lv_at hl 1 rfl) ?_
    refine lv_ldc C.1.1 C.1.2.1 C.1.2.2.2.1 (C.1.2.2.2.2 _ gw_619) dD_grid_10 ?_
    refine lv_icmp_le (tgt := 25) C.1.1 C.1.2.1 dD_grid_12 (by decide) (fun c3 => ?_) (fun c3 => ?_)
    · have hf := ts_t hf c3
      refine lv_aload_n C.1.1 C.1.2.1 dD_grid_25 rfl (lv_at hl 0 rfl) ?_
      refine cg_Desk_Desk_score C hw dD_grid_26 ?_
      obtain ⟨⟨r4, z4⟩, g4, hf⟩ := ts_b hf
      try dsimp only at hf
      refine x_same (rv := (some (.int r4))) (rest := []) (va_runV (b := (qq 4)) (As := []) (rest := []) C.1 (pS_greatestTick_met g4 s.heap.size) (callW_of (rm := rS_greatestTick) (C := "MidiDesk$Score") 0 C.1.2.2.2.2 gw_439 gw_440 gw_441 gw_54 gw_442 kS_greatestTick ⟨(Nat.le_of_ble_eq_true rfl), (Nat.le_of_ble_eq_true rfl)⟩) ⟨cPc_blind, (c_recv_score C.2 hw), c_pre C.2 hw⟩ rfl rfl hl.1 rfl (lv_room (Nat.le_of_ble_eq_true rfl)) dD_grid_29 ⟨(Nat.le_of_ble_eq_true rfl), (Nat.le_of_ble_eq_true rfl)⟩) ?_
      refine W.eq (g2 := F0 m 32 ls [.int r4]) rfl ?_
      refine lv_iload_n C.1.1 C.1.2.1 dD_grid_32 rfl (lv_at hl 1 rfl) ?_
      obtain ⟨⟨r5, z5⟩, g5, hf⟩ := ts_b hf
      try dsimp only at hf
      refine x_same (rv := (some (.int r5))) (rest := []) (va_runS (As := [.int r4, .int x1]) (rest := []) C.1 (pD_nearest_met g5 s.heap.size) (callS_of (rm := rD_nearest) 2 C.1.2.2.2.2 gw_621 gw_622 gw_52 gw_623 kD_nearest ⟨(Nat.le_of_ble_eq_true rfl), (Nat.le_of_ble_eq_true rfl)⟩) ⟨cPc_blind, c_pre C.2 hw⟩ rfl rfl hl.1 rfl (lv_room (Nat.le_of_ble_eq_true rfl)) dD_grid_33 ⟨(Nat.le_of_ble_eq_true rfl), (Nat.le_of_ble_eq_true rfl)⟩) ?_
      refine W.eq (g2 := F0 m 36 ls [.int r5]) rfl ?_
      refine lv_ldc C.1.1 C.1.2.1 C.1.2.2.2.1 (C.1.2.2.2.2 _ gw_555) dD_grid_36 ?_
      refine lv_icmp_le (tgt := 51) C.1.1 C.1.2.1 dD_grid_38 (by decide) (fun c6 => ?_) (fun c6 => ?_)
      · have hf := ts_t hf c6
        cases hf
      · have hf := ts_f hf c6
        cases hf
        exact t_throw (tx := "a tick would be too late") hfl C hlk hno hl.1 hw (ex_atoms atoms_2 C.1.2.2.2.2 hE) (by decide) (hE.2.1 (116, "a tick would be too late") (by decide)) gw_556 gw_557 gw_65 ⟨(Nat.le_of_ble_eq_true rfl), (Nat.le_of_ble_eq_true rfl)⟩ ⟨(Nat.le_of_ble_eq_true rfl), (Nat.le_of_ble_eq_true rfl)⟩ dD_grid_41 dD_grid_44 dD_grid_45 dD_grid_47 dD_grid_50
    · have hf := ts_f hf c3
      cases hf
      exact t_throw (tx := "no such step") hfl C hlk hno hl.1 hw (ex_atoms atoms_2 C.1.2.2.2.2 hE) (by decide) (hE.2.1 (107, "no such step") (by decide)) gw_556 gw_557 gw_65 ⟨(Nat.le_of_ble_eq_true rfl), (Nat.le_of_ble_eq_true rfl)⟩ ⟨(Nat.le_of_ble_eq_true rfl), (Nat.le_of_ble_eq_true rfl)⟩ dD_grid_15 dD_grid_18 dD_grid_19 dD_grid_21 dD_grid_24
abbrev tfrD_clear : Nat := 7
abbrev tloD_clear : Nat := 120
theorem dD_clear_22 : decode cD_clear 22 = .ok (.dup, 1) := by decide +kernel
theorem dD_clear_23 : decode cD_clear 23 = .ok (.ldc 124, 2) := by decide +kernel
theorem dD_clear_25 : decode cD_clear 25 = .ok (.invokespecial 99, 3) := by decide +kernel
theorem dD_clear_28 : decode cD_clear 28 = .ok (.athrow, 1) := by decide +kernel
/-- which throw: 1 IllegalStateException, 2 IllegalArgumentException -/
def tD_clear (h : cH) (z : cZ) (x1 : Int32) : Option Nat := if (tD_needList h z).isSome = true then tD_needList h z else ((fD_needList h z).bind fun _ => if x1 < 0 then (some 2) else (if x1 < (zi z 5) then none else (some 2)))
set_option maxHeartbeats 4000000 in
set_option maxRecDepth 100000 in
theorem tD_clear_met {l : Launch} {g : gT} {qq ad ea : Nat → Nat} {h : cH} {X : va_W} {z : cZ} {x1 : Int32} {k' : Nat} (hfl : l.flags = flags0) (hf : tD_clear h z x1 = some k') : tMet l yD_clear cD_clear 2 (some .int) tfrD_clear tloD_clear g qq ad ea h X z [.ref (qq 0), .int x1] (ecl k') := by
  refine t_entry (by decide) (Nat.le_of_ble_eq_true rfl) ?_
  intro p e s m args below meth c ls C hlk hno hl hw hE
  have C : mCx p m c cD_clear 2 s args g "MidiDesk" := C
  have hl : lv_has ls 2 [(0, .ref (qq 0)), (1, .int x1)] := hl
  unfold tD_clear at hf
  refine lv_aload_n C.1.1 C.1.2.1 dD_clear_0 rfl (lv_at hl 0 rfl) ?_
  rcases Decidable.em ((tD_needList h z).isSome = true) with c1 | c1
  · have hf := ts_t hf c1
    exact t_pass (rest := []) (As := []) (b := (qq 0)) C hlk hno hl.1 hw hE (tD_needList_met hfl hf) (callW_of (rm := { frames := tfrD_needList, cells := 1, slots := 6, locals := tloD_needList }) (C := "MidiDesk") 0 C.1.2.2.2.2 gw_480 gw_482 gw_18 gw_52 gw_483 kD_needList ⟨(Nat.le_of_ble_eq_true rfl), (Nat.le_of_ble_eq_true rfl)⟩) (c_recv_desk C.2 hw) rfl rfl (Nat.le_of_ble_eq_true rfl) dD_clear_1 ⟨(Nat.le_of_ble_eq_true rfl), (Nat.le_of_ble_eq_true rfl)⟩
  have hf := ts_f hf c1
  obtain ⟨z1, g1, hf⟩ := ts_b hf
  try dsimp only at hf
  refine x_same (rv := none) (rest := []) (va_runV (b := (qq 0)) (As := []) (rest := []) C.1 (pD_needList_met g1 s.heap.size) (callW_of (rm := rD_needList) (C := "MidiDesk") 0 C.1.2.2.2.2 gw_480 gw_482 gw_18 gw_52 gw_483 kD_needList ⟨(Nat.le_of_ble_eq_true rfl), (Nat.le_of_ble_eq_true rfl)⟩) ⟨cPc_blind, (c_recv_desk C.2 hw), c_pre C.2 hw⟩ rfl rfl hl.1 rfl (lv_room (Nat.le_of_ble_eq_true rfl)) dD_clear_1 ⟨(Nat.le_of_ble_eq_true rfl), (Nat.le_of_ble_eq_true rfl)⟩) ?_
  refine W.eq (g2 := F0 m 4 ls []) rfl ?_
  refine lv_iload_n C.1.1 C.1.2.1 dD_clear_4 rfl (lv_at hl 1 rfl) ?_
  refine lv_if_lt (tgt := 19) C.1.1 C.1.2.1 dD_clear_5 (by decide) (fun c2 => ?_) (fun c2 => ?_)
  · have hf := ts_t hf c2
    cases hf
    exact t_throw (tx := "no such track") hfl C hlk hno hl.1 hw (ex_atoms atoms_2 C.1.2.2.2.2 hE) (by decide) (hE.2.1 (124, "no such track") (by decide)) gw_556 gw_557 gw_65 ⟨(Nat.le_of_ble_eq_true rfl), (Nat.le_of_ble_eq_true rfl)⟩ ⟨(Nat.le_of_ble_eq_true rfl), (Nat.le_of_ble_eq_true rfl)⟩ dD_clear_19 dD_clear_22 dD_clear_23 dD_clear_25 dD_clear_28
  · have hf := ts_f hf c2
    refine lv_iload_n C.1.1 C.1.2.1 dD_clear_8 rfl (lv_at hl 1 rfl) ?_
    refine lv_aload_n C.1.1 C.1.2.1 dD_clear_9 rfl (lv_at hl 0 rfl) ?_
    refine cg_Desk_Desk_score C hw dD_clear_10 ?_
    refine cg_Desk_Score_tracks C hw dD_clear_13 ?_
    refine lv_icmp_lt (tgt := 29) C.1.1 C.1.2.1 dD_clear_16 (by decide) (fun c3 => ?_) (fun c3 => ?_)
    · have hf := ts_t hf c3
      cases hf
    · have hf := ts_f hf c3
      cases hf
      exact t_throw (tx := "no such track") hfl C hlk hno hl.1 hw (ex_atoms atoms_2 C.1.2.2.2.2 hE) (by decide) (hE.2.1 (124, "no such track") (by decide)) gw_556 gw_557 gw_65 ⟨(Nat.le_of_ble_eq_true rfl), (Nat.le_of_ble_eq_true rfl)⟩ ⟨(Nat.le_of_ble_eq_true rfl), (Nat.le_of_ble_eq_true rfl)⟩ dD_clear_19 dD_clear_22 dD_clear_23 dD_clear_25 dD_clear_28
abbrev tfrD_write : Nat := 7
abbrev tloD_write : Nat := 120
/-- which throw: 1 IllegalStateException, 2 IllegalArgumentException -/
def tD_write (h : cH) (z : cZ) (x1 : Int32) (x2 : Int32) : Option Nat := if (tD_needList h z).isSome = true then tD_needList h z else ((fD_needList h z).bind fun _ => if x1 < 0 then (some 2) else (if x1 ≤ (2 : Int32) then none else (some 2)))
set_option maxHeartbeats 4000000 in
set_option maxRecDepth 100000 in
theorem tD_write_met {l : Launch} {g : gT} {qq ad ea : Nat → Nat} {h : cH} {X : va_W} {z : cZ} {x1 : Int32} {x2 : Int32} {k' : Nat} (hfl : l.flags = flags0) (hf : tD_write h z x1 x2 = some k') : tMet l yD_write cD_write 4 (some .int) tfrD_write tloD_write g qq ad ea h X z [.ref (qq 0), .int x1, .int x2] (ecl k') := by
  refine t_entry (by decide) (Nat.le_of_ble_eq_true rfl) ?_
  intro p e s m args below meth c ls C hlk hno hl hw hE
  have C : mCx p m c cD_write 4 s args g "MidiDesk" := C
  have hl : lv_has ls 4 [(0, .ref (qq 0)), (1, .int x1), (2, .int x2)] := hl
  unfold tD_write at hf
  refine lv_aload_n C.1.1 C.1.2.1 dD_write_0 rfl (lv_at hl 0 rfl) ?_
  rcases Decidable.em ((tD_needList h z).isSome = true) with c1 | c1
  · have hf := ts_t hf c1
    exact t_pass (rest := []) (As := []) (b := (qq 0)) C hlk hno hl.1 hw hE (tD_needList_met hfl hf) (callW_of (rm := { frames := tfrD_needList, cells := 1, slots := 6, locals := tloD_needList }) (C := "MidiDesk") 0 C.1.2.2.2.2 gw_480 gw_482 gw_18 gw_52 gw_483 kD_needList ⟨(Nat.le_of_ble_eq_true rfl), (Nat.le_of_ble_eq_true rfl)⟩) (c_recv_desk C.2 hw) rfl rfl (Nat.le_of_ble_eq_true rfl) dD_write_1 ⟨(Nat.le_of_ble_eq_true rfl), (Nat.le_of_ble_eq_true rfl)⟩
  have hf := ts_f hf c1
  obtain ⟨z1, g1, hf⟩ := ts_b hf
  try dsimp only at hf
  refine x_same (rv := none) (rest := []) (va_runV (b := (qq 0)) (As := []) (rest := []) C.1 (pD_needList_met g1 s.heap.size) (callW_of (rm := rD_needList) (C := "MidiDesk") 0 C.1.2.2.2.2 gw_480 gw_482 gw_18 gw_52 gw_483 kD_needList ⟨(Nat.le_of_ble_eq_true rfl), (Nat.le_of_ble_eq_true rfl)⟩) ⟨cPc_blind, (c_recv_desk C.2 hw), c_pre C.2 hw⟩ rfl rfl hl.1 rfl (lv_room (Nat.le_of_ble_eq_true rfl)) dD_write_1 ⟨(Nat.le_of_ble_eq_true rfl), (Nat.le_of_ble_eq_true rfl)⟩) ?_
  refine W.eq (g2 := F0 m 4 ls []) rfl ?_
  refine lv_iload_n C.1.1 C.1.2.1 dD_write_4 rfl (lv_at hl 1 rfl) ?_
  refine lv_if_lt (tgt := 13) C.1.1 C.1.2.1 dD_write_5 (by decide) (fun c2 => ?_) (fun c2 => ?_)
  · have hf := ts_t hf c2
    cases hf
    exact t_throw (tx := "no such format") hfl C hlk hno hl.1 hw (ex_atoms atoms_2 C.1.2.2.2.2 hE) (by decide) (hE.2.1 (129, "no such format") (by decide)) gw_556 gw_557 gw_65 ⟨(Nat.le_of_ble_eq_true rfl), (Nat.le_of_ble_eq_true rfl)⟩ ⟨(Nat.le_of_ble_eq_true rfl), (Nat.le_of_ble_eq_true rfl)⟩ dD_write_13 dD_write_16 dD_write_17 dD_write_19 dD_write_22
  · have hf := ts_f hf c2
    refine lv_iload_n C.1.1 C.1.2.1 dD_write_8 rfl (lv_at hl 1 rfl) ?_
    refine lv_iconst (v := (2 : Int32)) C.1.1 C.1.2.1 dD_write_9 (by decide) ?_
    refine lv_icmp_le (tgt := 23) C.1.1 C.1.2.1 dD_write_10 (by decide) (fun c3 => ?_) (fun c3 => ?_)
    · have hf := ts_t hf c3
      cases hf
    · have hf := ts_f hf c3
      cases hf
      exact t_throw (tx := "no such format") hfl C hlk hno hl.1 hw (ex_atoms atoms_2 C.1.2.2.2.2 hE) (by decide) (hE.2.1 (129, "no such format") (by decide)) gw_556 gw_557 gw_65 ⟨(Nat.le_of_ble_eq_true rfl), (Nat.le_of_ble_eq_true rfl)⟩ ⟨(Nat.le_of_ble_eq_true rfl), (Nat.le_of_ble_eq_true rfl)⟩ dD_write_13 dD_write_16 dD_write_17 dD_write_19 dD_write_22

