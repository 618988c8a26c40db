theorem gw_67 : (Jvm.Cond.classLink "MidiDeskLaw" (8 : Nat) "MidiDesk") ∈ gw := gw_in 67 (by decide +kernel) (by decide +kernel)
theorem gw_68 : (Jvm.Cond.instantiable "MidiDesk" (3 : Nat)) ∈ gw := gw_in 68 (by decide +kernel) (by decide +kernel)
theorem gw_69 : (Jvm.Cond.methodLink "MidiDeskLaw" (35 : Nat) ({ cls := "MidiDesk", name := "<init>", desc := "()V" } : Jvm.MethodName)) ∈ gw := gw_in 69 (by decide +kernel) (by decide +kernel)
theorem gw_70 : (Jvm.Cond.instanceMethod ({ cls := "MidiDesk", name := "<init>", desc := "()V" } : Jvm.MethodName)) ∈ gw := gw_in 70 (by decide +kernel) (by decide +kernel)
theorem gw_71 : (Jvm.Cond.code ({ cls := "MidiDesk", name := "<init>", desc := "()V" } : Jvm.MethodName) prog_1_method_1_code (1 : Nat) (Option.none : Option Jvm.ClassFile.FieldType)) ∈ gw := gw_in 71 (by decide +kernel) (by decide +kernel)
theorem gw_708 : (Jvm.Cond.classLink "MidiDeskLaw" (36 : Nat) "MidiDeskModel") ∈ gw := gw_in 708 (by decide +kernel) (by decide +kernel)
theorem gw_709 : (Jvm.Cond.instantiable "MidiDeskModel" (25 : Nat)) ∈ gw := gw_in 709 (by decide +kernel) (by decide +kernel)
theorem gw_710 : (Jvm.Cond.methodLink "MidiDeskLaw" (38 : Nat) ({ cls := "MidiDeskModel", name := "<init>", desc := "()V" } : Jvm.MethodName)) ∈ gw := gw_in 710 (by decide +kernel) (by decide +kernel)
theorem gw_711 : (Jvm.Cond.instanceMethod ({ cls := "MidiDeskModel", name := "<init>", desc := "()V" } : Jvm.MethodName)) ∈ gw := gw_in 711 (by decide +kernel) (by decide +kernel)
theorem gw_712 : (Jvm.Cond.code ({ cls := "MidiDeskModel", name := "<init>", desc := "()V" } : Jvm.MethodName) prog_8_method_1_code (1 : Nat) (Option.none : Option Jvm.ClassFile.FieldType)) ∈ gw := gw_in 712 (by decide +kernel) (by decide +kernel)
set_option maxHeartbeats 4000000 in
set_option maxRecDepth 100000 in
/-- from the entry the law comes to its end with true -/
theorem whole_start {p : Program} {e : Env} {s : State} {m : MethodId} {below : List Frame} {meth : Method} {c : Code} (l : Launch) (hfl : l.flags = flags0) {b L : Nat} {xs : Nat → Int32} (hL : L ≤ 2048) (C0 : lw_At p s m meth c b L xs) : W p l e room_1 s m #[Value.ref b] below meth c s.heap [] 0 0 (lw_Z below #[Value.ref b] s) (entryFrame m ([Value.ref b] : List Value).toArray 8) := by
  obtain ⟨hx, hb, hr, hml, hown, hts, hX, hbl, hlocks, hgv⟩ := C0
  obtain ⟨g, hK⟩ := k_start hts
  have C : mCx p m c code 8 s #[Value.ref b] g "MidiDeskLaw" := ⟨⟨hx, hb, hml, hown, fun w hw => hts w (List.mem_filter.mp hw).1⟩, hK⟩
  have hE0 := kE_start hts hgv
  have hno := nC_start hgv
  have hA : ∀ q : Nat, s.heap.size ≤ q → (fun q : Nat => s.heap.size ≤ q) q := fun _ h => h
  have hl := lv_entry ([.ref b]) (n := 8) (Nat.le_of_ble_eq_true rfl)
  rw [lg_entry_eq]
  generalize (lg_sl ([.ref b]) ++ List.replicate (8 - (lg_sl ([.ref b])).length) Slot.unset).toArray = ls at hl ⊢
  have hl : lv_has ls 8 [(0, .ref b)] := hl
  have hP : va_P g.1 classes [] s.heap := fun k q h => by cases h
  have hD : va_D (fun q : Nat => s.heap.size ≤ q) [] := ⟨fun i j p q h => (by cases h), fun k q h => (by cases h)⟩
  refine va_new (ci := 5) (fs := [.null, .null, .null]) (C := R_Desk) (T := F_Desk) (N := 3) C.1.1 C.1.2.1 C.1.2.2.2.2 i_Desk t_Desk t_Desk_ok C.1.2.2.2.1 (C.1.2.2.2.2 _ gw_67) (C.1.2.2.2.2 _ gw_68) (C.1.2.2.2.2 _ gw_52) C.2.1 hP hD va_S.rf hA rfl (fun j hj => by rcases (show j = 0 ∨ j = 1 ∨ j = 2 by omega) with rfl | rfl | rfl <;> rfl) (Nat.le_of_ble_eq_true rfl) (Nat.le_of_ble_eq_true rfl) dW_0 (fun qd H hP hD hS => ?_)
  refine lv_dup C.1.1 C.1.2.1 dW_3 rfl ?_
  refine g_callI (rest := [.ref qd]) (As := []) (b := qd) C hl.1 hP hD hS hA (cD_init_met (ea := fun _ => 0) (n1 := 0) (n2 := 0)) gw_69 gw_70 gw_52 gw_71 rfl kD_init ⟨(Nat.le_of_ble_eq_true rfl), (Nat.le_of_ble_eq_true rfl)⟩ rfl rfl (Nat.le_of_ble_eq_true rfl) dW_4 ⟨(Nat.le_of_ble_eq_true rfl), (Nat.le_of_ble_eq_true rfl)⟩ (fun ws1 H1 locs1 hpost hP1 hD1 hS1 => ?_)
  obtain ⟨qq, ad, e0, e1⟩ := hpost
  rw [e1] at hP1 hD1
  subst e0
  refine lv_astore_n (lv' := [(1, .ref (qq 0)), (0, .ref b)]) C.1.1 C.1.2.1 dW_7 rfl hl (by decide) rfl (fun ls hl => ?_)
  refine va_new (ci := 6) (fs := [.int 0, .null, .int 0, .int 0, .int 0, .int 0, .int 0, .int 0, .int 0, .int 0, .int 0, .int 0, .int 0, .null, .null, .null, .null, .null, .null, .null, .null, .null, .null, .null, .int 0]) (C := R_Model) (T := F_Model) (N := 25) C.1.1 C.1.2.1 C.1.2.2.2.2 i_Model t_Model t_Model_ok C.1.2.2.2.1 (C.1.2.2.2.2 _ gw_708) (C.1.2.2.2.2 _ gw_709) (C.1.2.2.2.2 _ gw_55) C.2.1 hP1 hD1 hS1 hA rfl (fun j hj => by rcases (show j = 0 ∨ j = 1 ∨ j = 2 ∨ j = 3 ∨ j = 4 ∨ j = 5 ∨ j = 6 ∨ j = 7 ∨ j = 8 ∨ j = 9 ∨ j = 10 ∨ j = 11 ∨ j = 12 ∨ j = 13 ∨ j = 14 ∨ j = 15 ∨ j = 16 ∨ j = 17 ∨ j = 18 ∨ j = 19 ∨ j = 20 ∨ j = 21 ∨ j = 22 ∨ j = 23 ∨ j = 24 by omega) with rfl | rfl | rfl | rfl | rfl | rfl | rfl | rfl | rfl | rfl | rfl | rfl | rfl | rfl | rfl | rfl | rfl | rfl | rfl | rfl | rfl | rfl | rfl | rfl | rfl <;> rfl) (Nat.le_of_ble_eq_true rfl) (Nat.le_of_ble_eq_true rfl) dW_8 (fun q H2 hP2 hD2 hS2 => ?_)
  refine lv_dup C.1.1 C.1.2.1 dW_11 rfl ?_
  have hP3 := sw_P hP2
  have hD3 := sw_D hD2
  refine g_callI (rest := [.ref q]) (As := []) (b := q) C hl.1 hP3 hD3 hS2 hA cM_init_met gw_710 gw_711 gw_55 gw_712 rfl kM_init ⟨(Nat.le_of_ble_eq_true rfl), (Nat.le_of_ble_eq_true rfl)⟩ rfl rfl (Nat.le_of_ble_eq_true rfl) dW_12 ⟨(Nat.le_of_ble_eq_true rfl), (Nat.le_of_ble_eq_true rfl)⟩ (fun ws2 H4 locs4 hpost hP4 hD4 hS4 => ?_)
  obtain ⟨am, e2⟩ := hpost
  rw [e2] at hP4 hD4
  have hP5 : va_P g.1 classes (mw g q am (fun _ => 0) (fun _ _ => 0) (cw g qq ad (fun _ => 0) (hI 0 0) zI [])) H4 := hP4
  have hD5 : va_D (fun q : Nat => s.heap.size ≤ q) (mw g q am (fun _ => 0) (fun _ _ => 0) (cw g qq ad (fun _ => 0) (hI 0 0) zI [])) := hD4
  refine lv_astore_n (lv' := [(2, .ref q), (1, .ref (qq 0)), (0, .ref b)]) C.1.1 C.1.2.1 dW_15 rfl hl (by decide) rfl (fun ls hl => ?_)
  refine lv_iconst (v := 1) C.1.1 C.1.2.1 dW_16 (by decide) ?_
  refine va_newa (a0 := (1, .inr (.inl (fun _ => 0)))) C.1.1 C.1.2.1 (atype := .long) (hts _ (tb_in 976 (by decide +kernel))) rfl C.2.1 hP5 hD5 hS4 hA (fun cA => rfl) (by decide) rfl (Nat.le_of_ble_eq_true rfl) (Nat.le_of_ble_eq_true rfl) (Nat.le_of_ble_eq_true rfl) dW_17 (fun qo cA H6 hK1 hP6 hD6 hS6 => ?_)
  have ec : cA = g.2.2.1 := Option.some.inj ((hK1.2 3 (cA, .long) rfl).2.symm.trans (C.2.1.2 1 (g.2.2.1, .long) rfl).2)
  subst ec
  refine lv_astore_n (lv' := [(3, .ref qo), (2, .ref q), (1, .ref (qq 0)), (0, .ref b)]) C.1.1 C.1.2.1 dW_19 rfl hl (by decide) rfl (fun ls hl => ?_)
  refine lv_iconst (v := 0) C.1.1 C.1.2.1 dW_20 (by decide) ?_
  refine lv_istore (lv' := [(4, .int 0), (3, .ref qo), (2, .ref q), (1, .ref (qq 0)), (0, .ref b)]) C.1.1 C.1.2.1 dW_21 hl (by decide) rfl (fun ls hl => ?_)
  have ew : mw g q am (fun _ => 0) (fun _ _ => 0) (cw g qq ad (fun _ => 0) (hI 0 0) zI []) ++ [oc g qo (fun _ => 0)] = mw g q am (fun _ => 0) (fun _ _ => 0) (cw g qq ad (fun _ => 0) (hI 0 0) zI [oc g qo (fun _ => 0)]) := rfl
  have hP7 : va_P g.1 classes (mw g q am (fun _ => 0) (fun _ _ => 0) (cw g qq ad (fun _ => 0) (hI 0 0) zI [oc g qo (fun _ => 0)])) H6 := by rw [← ew]; exact hP6
  have hD7 : va_D (fun q : Nat => s.heap.size ≤ q) (mw g q am (fun _ => 0) (fun _ _ => 0) (cw g qq ad (fun _ => 0) (hI 0 0) zI [oc g qo (fun _ => 0)])) := by rw [← ew]; exact hD6
  exact law_loop C hX hbl hE0 hno hfl hL hr hlocks (L + 4) 0 0 rfl (by omega) (by omega) ad (fun _ => 0) (hI 0 0) zI (fun _ => 0) (fun _ => 0) (fun _ _ => 0) H6 _ _ _ ls (to_c ⟨hP7, hD7, hS6, hA⟩) rel_I (lv_sub hl [4, 3, 2, 1, 0] rfl) ⟨Nat.le_of_ble_eq_true rfl, Nat.le_of_ble_eq_true rfl⟩
