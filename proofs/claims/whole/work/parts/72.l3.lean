theorem gw_872 : (Jvm.Cond.methodLink "MidiDeskLaw" (64 : Nat) ({ cls := "MidiDeskModel", name := "time", desc := "(I)J" } : Jvm.MethodName)) ∈ gw := gw_in 872 (by decide +kernel) (by decide +kernel)
theorem gw_873 : (Jvm.Cond.instanceMethod ({ cls := "MidiDeskModel", name := "time", desc := "(I)J" } : Jvm.MethodName)) ∈ gw := gw_in 873 (by decide +kernel) (by decide +kernel)
theorem gw_874 : (Jvm.Cond.selects "MidiDeskModel" ({ cls := "MidiDeskModel", name := "time", desc := "(I)J" } : Jvm.MethodName) ({ cls := "MidiDeskModel", name := "time", desc := "(I)J" } : Jvm.MethodName)) ∈ gw := gw_in 874 (by decide +kernel) (by decide +kernel)
theorem gw_875 : (Jvm.Cond.code ({ cls := "MidiDeskModel", name := "time", desc := "(I)J" } : Jvm.MethodName) prog_8_method_25_code (2 : Nat) (Option.some Jvm.ClassFile.FieldType.long)) ∈ gw := gw_in 875 (by decide +kernel) (by decide +kernel)
theorem gw_791 : (Jvm.Cond.methodLink "MidiDeskLaw" (65 : Nat) ({ cls := "MidiDeskModel", name := "thrown", desc := "()I" } : Jvm.MethodName)) ∈ gw := gw_in 791 (by decide +kernel) (by decide +kernel)
theorem gw_792 : (Jvm.Cond.instanceMethod ({ cls := "MidiDeskModel", name := "thrown", desc := "()I" } : Jvm.MethodName)) ∈ gw := gw_in 792 (by decide +kernel) (by decide +kernel)
theorem gw_793 : (Jvm.Cond.selects "MidiDeskModel" ({ cls := "MidiDeskModel", name := "thrown", desc := "()I" } : Jvm.MethodName) ({ cls := "MidiDeskModel", name := "thrown", desc := "()I" } : Jvm.MethodName)) ∈ gw := gw_in 793 (by decide +kernel) (by decide +kernel)
theorem gw_794 : (Jvm.Cond.code ({ cls := "MidiDeskModel", name := "thrown", desc := "()I" } : Jvm.MethodName) prog_8_method_2_code (1 : Nat) (Option.some Jvm.ClassFile.FieldType.int)) ∈ gw := gw_in 794 (by decide +kernel) (by decide +kernel)
theorem gw_897 : (Jvm.Cond.methodLink "MidiDeskLaw" (70 : Nat) ({ cls := "MidiDeskModel", name := "rest", desc := "(I)J" } : Jvm.MethodName)) ∈ gw := gw_in 897 (by decide +kernel) (by decide +kernel)
theorem gw_898 : (Jvm.Cond.instanceMethod ({ cls := "MidiDeskModel", name := "rest", desc := "(I)J" } : Jvm.MethodName)) ∈ gw := gw_in 898 (by decide +kernel) (by decide +kernel)
theorem gw_899 : (Jvm.Cond.selects "MidiDeskModel" ({ cls := "MidiDeskModel", name := "rest", desc := "(I)J" } : Jvm.MethodName) ({ cls := "MidiDeskModel", name := "rest", desc := "(I)J" } : Jvm.MethodName)) ∈ gw := gw_in 899 (by decide +kernel) (by decide +kernel)
theorem gw_900 : (Jvm.Cond.code ({ cls := "MidiDeskModel", name := "rest", desc := "(I)J" } : Jvm.MethodName) prog_8_method_26_code (2 : Nat) (Option.some Jvm.ClassFile.FieldType.long)) ∈ gw := gw_in 900 (by decide +kernel) (by decide +kernel)
theorem gw_913 : (Jvm.Cond.methodLink "MidiDeskLaw" (78 : Nat) ({ cls := "MidiDeskModel", name := "transpose", desc := "(II)I" } : Jvm.MethodName)) ∈ gw := gw_in 913 (by decide +kernel) (by decide +kernel)
theorem gw_914 : (Jvm.Cond.instanceMethod ({ cls := "MidiDeskModel", name := "transpose", desc := "(II)I" } : Jvm.MethodName)) ∈ gw := gw_in 914 (by decide +kernel) (by decide +kernel)
theorem gw_915 : (Jvm.Cond.selects "MidiDeskModel" ({ cls := "MidiDeskModel", name := "transpose", desc := "(II)I" } : Jvm.MethodName) ({ cls := "MidiDeskModel", name := "transpose", desc := "(II)I" } : Jvm.MethodName)) ∈ gw := gw_in 915 (by decide +kernel) (by decide +kernel)
theorem gw_916 : (Jvm.Cond.code ({ cls := "MidiDeskModel", name := "transpose", desc := "(II)I" } : Jvm.MethodName) prog_8_method_30_code (6 : Nat) (Option.some Jvm.ClassFile.FieldType.int)) ∈ gw := gw_in 916 (by decide +kernel) (by decide +kernel)
theorem gw_922 : (Jvm.Cond.methodLink "MidiDeskLaw" (81 : Nat) ({ cls := "MidiDeskModel", name := "grid", desc := "(I)I" } : Jvm.MethodName)) ∈ gw := gw_in 922 (by decide +kernel) (by decide +kernel)
theorem gw_923 : (Jvm.Cond.instanceMethod ({ cls := "MidiDeskModel", name := "grid", desc := "(I)I" } : Jvm.MethodName)) ∈ gw := gw_in 923 (by decide +kernel) (by decide +kernel)
theorem gw_924 : (Jvm.Cond.selects "MidiDeskModel" ({ cls := "MidiDeskModel", name := "grid", desc := "(I)I" } : Jvm.MethodName) ({ cls := "MidiDeskModel", name := "grid", desc := "(I)I" } : Jvm.MethodName)) ∈ gw := gw_in 924 (by decide +kernel) (by decide +kernel)
theorem gw_925 : (Jvm.Cond.code ({ cls := "MidiDeskModel", name := "grid", desc := "(I)I" } : Jvm.MethodName) prog_8_method_33_code (6 : Nat) (Option.some Jvm.ClassFile.FieldType.int)) ∈ gw := gw_in 925 (by decide +kernel) (by decide +kernel)
theorem gw_931 : (Jvm.Cond.methodLink "MidiDeskLaw" (84 : Nat) ({ cls := "MidiDeskModel", name := "clear", desc := "(I)I" } : Jvm.MethodName)) ∈ gw := gw_in 931 (by decide +kernel) (by decide +kernel)
theorem gw_932 : (Jvm.Cond.instanceMethod ({ cls := "MidiDeskModel", name := "clear", desc := "(I)I" } : Jvm.MethodName)) ∈ gw := gw_in 932 (by decide +kernel) (by decide +kernel)
theorem gw_933 : (Jvm.Cond.selects "MidiDeskModel" ({ cls := "MidiDeskModel", name := "clear", desc := "(I)I" } : Jvm.MethodName) ({ cls := "MidiDeskModel", name := "clear", desc := "(I)I" } : Jvm.MethodName)) ∈ gw := gw_in 933 (by decide +kernel) (by decide +kernel)
theorem gw_934 : (Jvm.Cond.code ({ cls := "MidiDeskModel", name := "clear", desc := "(I)I" } : Jvm.MethodName) prog_8_method_34_code (7 : Nat) (Option.some Jvm.ClassFile.FieldType.int)) ∈ gw := gw_in 934 (by decide +kernel) (by decide +kernel)
theorem gw_935 : (Jvm.Cond.methodLink "MidiDeskLaw" (88 : Nat) ({ cls := "MidiDeskModel", name := "write", desc := "(IZ)I" } : Jvm.MethodName)) ∈ gw := gw_in 935 (by decide +kernel) (by decide +kernel)
theorem gw_936 : (Jvm.Cond.instanceMethod ({ cls := "MidiDeskModel", name := "write", desc := "(IZ)I" } : Jvm.MethodName)) ∈ gw := gw_in 936 (by decide +kernel) (by decide +kernel)
theorem gw_937 : (Jvm.Cond.selects "MidiDeskModel" ({ cls := "MidiDeskModel", name := "write", desc := "(IZ)I" } : Jvm.MethodName) ({ cls := "MidiDeskModel", name := "write", desc := "(IZ)I" } : Jvm.MethodName)) ∈ gw := gw_in 937 (by decide +kernel) (by decide +kernel)
theorem gw_938 : (Jvm.Cond.code ({ cls := "MidiDeskModel", name := "write", desc := "(IZ)I" } : Jvm.MethodName) prog_8_method_39_code (4 : Nat) (Option.some Jvm.ClassFile.FieldType.int)) ∈ gw := gw_in 938 (by decide +kernel) (by decide +kernel)
set_option maxHeartbeats 4000000 in
set_option maxRecDepth 100000 in
theorem case_time {p : Program} {l : Launch} {e : Env} {s : State} {m : MethodId} {below : List Frame} {meth : Method} {c : Code} {g : gT} {b L : Nat} {xs : Nat → Int32} {Q : State → Prop} {qq am : Nat → Nat} {qo q : Nat} {i j : Nat} (C : mCx p m c code 8 s #[Value.ref b] g "MidiDeskLaw") (hX : va_X b L xs s s.heap) (hbl : b < s.heap.size) (hE0 : kE (fun q : Nat => s.heap.size ≤ q) s s.heap) (hno : nC s) (hfl : l.flags = flags0) (hi : i + 4 ≤ L) (hL : L ≤ 2048) (hj : j < 512) {ad ea : Nat → Nat} {h : cH} {z : cZ} {f : Nat → Int64} {iv : Nat → Int32} {av : Nat → Nat → Int32} {H : Heap} {locs : List Loc} {cells slots : Nat} {ls : Array Slot} (hw : cWd g (fun q : Nat => s.heap.size ≤ q) s.heap qq ad ea h (lX g qo f q am iv av) z H locs) (r : Rel h z iv av) (hl : lv_has ls 8 [(0, .ref b), (1, .ref (qq 0)), (2, .ref q), (3, .ref qo), (4, .int (nt i))]) (B : Bud h cells slots j) (kk : ∀ (ad ea : Nat → Nat) (h : cH) (z : cZ) (f : Nat → Int64) (iv : Nat → Int32) (av : Nat → Nat → Int32) (H : Heap) (locs : List Loc) (cells slots : Nat) (ls : Array Slot), cWd g (fun q : Nat => s.heap.size ≤ q) s.heap qq ad ea h (lX g qo f q am iv av) z H locs → Rel h z iv av → lv_has ls 8 [(0, .ref b), (1, .ref (qq 0)), (2, .ref q), (3, .ref qo), (4, .int (nt i))] → Bud h cells slots (j + 1) → W p l e room_1 s m #[Value.ref b] below meth c H locs cells slots Q (F0 m 726 ls [])) : W p l e room_1 s m #[Value.ref b] below meth c H locs cells slots Q (F0 m 264 ls []) := by
  have hbA : ¬ (fun q : Nat => s.heap.size ≤ q) b := Nat.not_le.mpr hbl
  have in1 : vp_in (nt i + 1) L := in_k (k := 1) (by omega) (by omega)
  have in2 : vp_in (nt i + 2) L := in_k (k := 2) (by omega) (by omega)
  have in3 : vp_in (nt i + 3) L := in_k (k := 3) (by omega) (by omega)
  have hE : kE (fun q : Nat => s.heap.size ≤ q) s H := hE0.kept (fun a ha hA => hw.2.2.1.2.1 a ha hA)
  rcases r_time r (xs (nt i + 1).toNatClampNeg) with ⟨k, v, hk, eT, eM⟩ | ⟨v, eC, eM⟩
  · refine lv_aload_n C.1.1 C.1.2.1 dW_264 rfl (lv_at hl 1 rfl) ?_
    refine lv_aload_n C.1.1 C.1.2.1 dW_265 rfl (lv_at hl 0 rfl) ?_
    refine lv_iload C.1.1 C.1.2.1 dW_266 (lv_at hl 4 rfl) ?_
    refine lv_iconst (v := 1) C.1.1 C.1.2.1 dW_268 (by decide) ?_
    refine lv_iadd C.1.1 C.1.2.1 dW_269 ?_
    refine va_sld C.1.1 C.1.2.1 hX hbl hbA hw.2.2.1 in1 dW_270 ?_
    refine lv_aload_n C.1.1 C.1.2.1 dW_271 rfl (lv_at hl 3 rfl) ?_
    refine h_call (rest := []) (As := [.ref (qq 0), .int (xs (nt i + 1).toNatClampNeg), .ref qo]) C hl.1 hw hE hno (cL_time_thr hfl hk eT) rfl gw_473 gw_471 gw_472 gw_51 kL_time ⟨(Nat.le_of_ble_eq_true rfl), (Nat.le_of_ble_eq_true rfl)⟩ rfl rfl (Nat.le_of_ble_eq_true rfl) dW_272 (B.room (a := 1) (b := 6) r.ci (by omega) (by omega) (by omega)) (fun H1 locs1 hw => ?_)
    refine W.eq (g2 := F0 m 275 ls [.int (if k = 1 then 1 else 2)]) rfl ?_
    refine lv_istore (lv' := [(5, .int (if k = 1 then 1 else 2)), (0, .ref b), (1, .ref (qq 0)), (2, .ref q), (3, .ref qo), (4, .int (nt i))]) C.1.1 C.1.2.1 dW_275 hl (by decide) rfl (fun ls hl => ?_)
    refine lv_aload_n C.1.1 C.1.2.1 dW_277 rfl (lv_at hl 3 rfl) ?_
    refine lv_aload_n C.1.1 C.1.2.1 dW_278 rfl (lv_at hl 1 rfl) ?_
    refine lv_iload C.1.1 C.1.2.1 dW_279 (lv_at hl 5 rfl) ?_
    refine lv_iconst (v := 1) C.1.1 C.1.2.1 dW_281 (by decide) ?_
    refine lv_iadd C.1.1 C.1.2.1 dW_282 ?_
    refine va_sld C.1.1 C.1.2.1 hX hbl hbA hw.2.2.1 in1 dW_283 ?_
    refine mL_call (rest := []) (As := [.int (xs (nt i + 1).toNatClampNeg)]) C hl.1 hw (cM_time_met eM) (callW_of (rm := rM_time) (C := "MidiDeskModel") 1 C.1.2.2.2.2 gw_872 gw_873 gw_874 gw_55 gw_875 kM_time ⟨(Nat.le_of_ble_eq_true rfl), (Nat.le_of_ble_eq_true rfl)⟩) rfl rfl (Nat.le_of_ble_eq_true rfl) dW_284 (B.room (a := 1) (b := 6) r.ci (by omega) (by omega) (by omega)) (fun H2 locs2 hw => ?_)
    refine W.eq (g2 := F0 m 287 ls [.long v]) rfl ?_
    refine lv_lstore (lv' := [(6, .long v), (5, .int (if k = 1 then 1 else 2)), (0, .ref b), (1, .ref (qq 0)), (2, .ref q), (3, .ref qo), (4, .int (nt i))]) C.1.1 C.1.2.1 dW_287 hl (by decide) rfl (fun ls hl => ?_)
    refine lv_aload_n C.1.1 C.1.2.1 dW_289 rfl (lv_at hl 4 rfl) ?_
    refine mL_call (rest := []) (As := []) C hl.1 hw (cM_thrown_met (iv := (upd iv 0 (nt k))) rfl) (callW_of (rm := rM_thrown) (C := "MidiDeskModel") 0 C.1.2.2.2.2 gw_791 gw_792 gw_793 gw_55 gw_794 kM_thrown ⟨(Nat.le_of_ble_eq_true rfl), (Nat.le_of_ble_eq_true rfl)⟩) rfl rfl (Nat.le_of_ble_eq_true rfl) dW_290 (B.room (a := 1) (b := 6) r.ci (by omega) (by omega) (by omega)) (fun H3 locs3 hw => ?_)
    refine W.eq (g2 := F0 m 293 ls [.int ((upd iv 0 (nt k)) 0)]) rfl ?_
    refine lv_iload C.1.1 C.1.2.1 dW_293 (lv_at hl 1 rfl) ?_
    refine lv_icmp_eq (tgt := 300) C.1.1 C.1.2.1 dW_295 (by decide) (fun _ => ?_) (fun w => absurd (by rw [upd_s]; rcases hk with w | w <;> rw [w] <;> rfl) w)
    refine lv_iload C.1.1 C.1.2.1 dW_300 (lv_at hl 1 rfl) ?_
    refine lv_if_ne (tgt := 316) C.1.1 C.1.2.1 dW_302 (by decide) (fun _ => ?_) (fun w => absurd w (by rcases hk with w | w <;> rw [w] <;> decide))
    refine lv_goto (tgt := 726) C.1.1 C.1.2.1 dW_316 (by decide) ?_
    exact kk _ _ _ _ _ _ _ _ _ _ _ _ hw r.thr (lv_sub hl [2, 3, 4, 5, 6] rfl) (B.up (a := 1) (b := 6) (by omega) (by omega))
  · refine lv_aload_n C.1.1 C.1.2.1 dW_264 rfl (lv_at hl 1 rfl) ?_
    refine lv_aload_n C.1.1 C.1.2.1 dW_265 rfl (lv_at hl 0 rfl) ?_
    refine lv_iload C.1.1 C.1.2.1 dW_266 (lv_at hl 4 rfl) ?_
    refine lv_iconst (v := 1) C.1.1 C.1.2.1 dW_268 (by decide) ?_
    refine lv_iadd C.1.1 C.1.2.1 dW_269 ?_
    refine va_sld C.1.1 C.1.2.1 hX hbl hbA hw.2.2.1 in1 dW_270 ?_
    refine lv_aload_n C.1.1 C.1.2.1 dW_271 rfl (lv_at hl 3 rfl) ?_
    refine h_call (rest := []) (As := [.ref (qq 0), .int (xs (nt i + 1).toNatClampNeg), .ref qo]) C hl.1 hw hE hno (cL_time_ret eC) rfl gw_473 gw_471 gw_472 gw_51 kL_time ⟨(Nat.le_of_ble_eq_true rfl), (Nat.le_of_ble_eq_true rfl)⟩ rfl rfl (Nat.le_of_ble_eq_true rfl) dW_272 (B.room (a := 0) (b := 0) r.ci (by omega) (by omega) (by omega)) (fun H1 locs1 hw => ?_)
    refine W.eq (g2 := F0 m 275 ls [.int 0]) rfl ?_
    refine lv_istore (lv' := [(5, .int 0), (0, .ref b), (1, .ref (qq 0)), (2, .ref q), (3, .ref qo), (4, .int (nt i))]) C.1.1 C.1.2.1 dW_275 hl (by decide) rfl (fun ls hl => ?_)
    refine lv_aload_n C.1.1 C.1.2.1 dW_277 rfl (lv_at hl 3 rfl) ?_
    refine lv_aload_n C.1.1 C.1.2.1 dW_278 rfl (lv_at hl 1 rfl) ?_
    refine lv_iload C.1.1 C.1.2.1 dW_279 (lv_at hl 5 rfl) ?_
    refine lv_iconst (v := 1) C.1.1 C.1.2.1 dW_281 (by decide) ?_
    refine lv_iadd C.1.1 C.1.2.1 dW_282 ?_
    refine va_sld C.1.1 C.1.2.1 hX hbl hbA hw.2.2.1 in1 dW_283 ?_
    refine mL_call (rest := []) (As := [.int (xs (nt i + 1).toNatClampNeg)]) C hl.1 hw (cM_time_met eM) (callW_of (rm := rM_time) (C := "MidiDeskModel") 1 C.1.2.2.2.2 gw_872 gw_873 gw_874 gw_55 gw_875 kM_time ⟨(Nat.le_of_ble_eq_true rfl), (Nat.le_of_ble_eq_true rfl)⟩) rfl rfl (Nat.le_of_ble_eq_true rfl) dW_284 (B.room (a := 0) (b := 0) r.ci (by omega) (by omega) (by omega)) (fun H2 locs2 hw => ?_)
    refine W.eq (g2 := F0 m 287 ls [.long v]) rfl ?_
    refine lv_lstore (lv' := [(6, .long v), (5, .int 0), (0, .ref b), (1, .ref (qq 0)), (2, .ref q), (3, .ref qo), (4, .int (nt i))]) C.1.1 C.1.2.1 dW_287 hl (by decide) rfl (fun ls hl => ?_)
    refine lv_aload_n C.1.1 C.1.2.1 dW_289 rfl (lv_at hl 4 rfl) ?_
    refine mL_call (rest := []) (As := []) C hl.1 hw (cM_thrown_met (iv := (upd iv 0 (nt 0))) rfl) (callW_of (rm := rM_thrown) (C := "MidiDeskModel") 0 C.1.2.2.2.2 gw_791 gw_792 gw_793 gw_55 gw_794 kM_thrown ⟨(Nat.le_of_ble_eq_true rfl), (Nat.le_of_ble_eq_true rfl)⟩) rfl rfl (Nat.le_of_ble_eq_true rfl) dW_290 (B.room (a := 0) (b := 0) r.ci (by omega) (by omega) (by omega)) (fun H3 locs3 hw => ?_)
    refine W.eq (g2 := F0 m 293 ls [.int ((upd iv 0 (nt 0)) 0)]) rfl ?_
    refine lv_iload C.1.1 C.1.2.1 dW_293 (lv_at hl 1 rfl) ?_
    refine lv_icmp_eq (tgt := 300) C.1.1 C.1.2.1 dW_295 (by decide) (fun _ => ?_) (fun w => absurd (by rw [upd_s]; rfl) w)
    refine lv_iload C.1.1 C.1.2.1 dW_300 (lv_at hl 1 rfl) ?_
    refine lv_if_ne (tgt := 316) C.1.1 C.1.2.1 dW_302 (by decide) (fun w => absurd rfl w) (fun _ => ?_)
    refine lv_aload_n C.1.1 C.1.2.1 dW_305 rfl (lv_at hl 5 rfl) ?_
    refine lv_iconst (v := 0) C.1.1 C.1.2.1 dW_306 (by decide) ?_
    refine va_lald (D := g.1) C.1.1 C.1.2.1 C.2.1 hw.1 (h.2.1 + 10) 1 cw_x rfl vi01 dW_307 ?_
    refine lv_lload C.1.1 C.1.2.1 dW_308 (lv_at hl 0 rfl) ?_
    refine W.lcmp C.1.1 C.1.2.1 dW_310 ?_
    refine lv_if_eq (tgt := 316) C.1.1 C.1.2.1 dW_311 (by decide) (fun _ => ?_) (fun w => absurd (lg_self _) w)
    refine lv_goto (tgt := 726) C.1.1 C.1.2.1 dW_316 (by decide) ?_
    exact kk _ _ _ _ _ _ _ _ _ _ _ _ hw r.thr (lv_sub hl [2, 3, 4, 5, 6] rfl) (B.up (a := 0) (b := 0) (by omega) (by omega))
set_option maxHeartbeats 4000000 in
set_option maxRecDepth 100000 in
theorem case_rest {p : Program} {l : Launch} {e : Env} {s : State} {m : MethodId} {below : List Frame} {meth : Method} {c : Code} {g : gT} {b L : Nat} {xs : Nat → Int32} {Q : State → Prop} {qq am : Nat → Nat} {qo q : Nat} {i j : Nat} (C : mCx p m c code 8 s #[Value.ref b] g "MidiDeskLaw") (hX : va_X b L xs s s.heap) (hbl : b < s.heap.size) (hE0 : kE (fun q : Nat => s.heap.size ≤ q) s s.heap) (hno : nC s) (hfl : l.flags = flags0) (hi : i + 4 ≤ L) (hL : L ≤ 2048) (hj : j < 512) {ad ea : Nat → Nat} {h : cH} {z : cZ} {f : Nat → Int64} {iv : Nat → Int32} {av : Nat → Nat → Int32} {H : Heap} {locs : List Loc} {cells slots : Nat} {ls : Array Slot} (hw : cWd g (fun q : Nat => s.heap.size ≤ q) s.heap qq ad ea h (lX g qo f q am iv av) z H locs) (r : Rel h z iv av) (hl : lv_has ls 8 [(0, .ref b), (1, .ref (qq 0)), (2, .ref q), (3, .ref qo), (4, .int (nt i))]) (B : Bud h cells slots j) (kk : ∀ (ad ea : Nat → Nat) (h : cH) (z : cZ) (f : Nat → Int64) (iv : Nat → Int32) (av : Nat → Nat → Int32) (H : Heap) (locs : List Loc) (cells slots : Nat) (ls : Array Slot), cWd g (fun q : Nat => s.heap.size ≤ q) s.heap qq ad ea h (lX g qo f q am iv av) z H locs → Rel h z iv av → lv_has ls 8 [(0, .ref b), (1, .ref (qq 0)), (2, .ref q), (3, .ref qo), (4, .int (nt i))] → Bud h cells slots (j + 1) → W p l e room_1 s m #[Value.ref b] below meth c H locs cells slots Q (F0 m 726 ls [])) : W p l e room_1 s m #[Value.ref b] below meth c H locs cells slots Q (F0 m 319 ls []) := by
  have hbA : ¬ (fun q : Nat => s.heap.size ≤ q) b := Nat.not_le.mpr hbl
  have in1 : vp_in (nt i + 1) L := in_k (k := 1) (by omega) (by omega)
  have in2 : vp_in (nt i + 2) L := in_k (k := 2) (by omega) (by omega)
  have in3 : vp_in (nt i + 3) L := in_k (k := 3) (by omega) (by omega)
  have hE : kE (fun q : Nat => s.heap.size ≤ q) s H := hE0.kept (fun a ha hA => hw.2.2.1.2.1 a ha hA)
  rcases r_rest r (xs (nt i + 1).toNatClampNeg) with ⟨k, v, hk, eT, eM⟩ | ⟨v, eC, eM⟩
  · refine lv_aload_n C.1.1 C.1.2.1 dW_319 rfl (lv_at hl 1 rfl) ?_
    refine lv_aload_n C.1.1 C.1.2.1 dW_320 rfl (lv_at hl 0 rfl) ?_
    refine lv_iload C.1.1 C.1.2.1 dW_321 (lv_at hl 4 rfl) ?_
    refine lv_iconst (v := 1) C.1.1 C.1.2.1 dW_323 (by decide) ?_
    refine lv_iadd C.1.1 C.1.2.1 dW_324 ?_
    refine va_sld C.1.1 C.1.2.1 hX hbl hbA hw.2.2.1 in1 dW_325 ?_
    refine lv_aload_n C.1.1 C.1.2.1 dW_326 rfl (lv_at hl 3 rfl) ?_
    refine h_call (rest := []) (As := [.ref (qq 0), .int (xs (nt i + 1).toNatClampNeg), .ref qo]) C hl.1 hw hE hno (cL_rest_thr hfl hk eT) rfl gw_586 gw_584 gw_585 gw_51 kL_rest ⟨(Nat.le_of_ble_eq_true rfl), (Nat.le_of_ble_eq_true rfl)⟩ rfl rfl (Nat.le_of_ble_eq_true rfl) dW_327 (B.room (a := 1) (b := 6) r.ci (by omega) (by omega) (by omega)) (fun H1 locs1 hw => ?_)
    refine W.eq (g2 := F0 m 330 ls [.int (if k = 1 then 1 else 2)]) rfl ?_
    refine lv_istore (lv' := [(5, .int (if k = 1 then 1 else 2)), (0, .ref b), (1, .ref (qq 0)), (2, .ref q), (3, .ref qo), (4, .int (nt i))]) C.1.1 C.1.2.1 dW_330 hl (by decide) rfl (fun ls hl => ?_)
    refine lv_aload_n C.1.1 C.1.2.1 dW_332 rfl (lv_at hl 3 rfl) ?_
    refine lv_aload_n C.1.1 C.1.2.1 dW_333 rfl (lv_at hl 1 rfl) ?_
    refine lv_iload C.1.1 C.1.2.1 dW_334 (lv_at hl 5 rfl) ?_
    refine lv_iconst (v := 1) C.1.1 C.1.2.1 dW_336 (by decide) ?_
    refine lv_iadd C.1.1 C.1.2.1 dW_337 ?_
    refine va_sld C.1.1 C.1.2.1 hX hbl hbA hw.2.2.1 in1 dW_338 ?_
    refine mL_call (rest := []) (As := [.int (xs (nt i + 1).toNatClampNeg)]) C hl.1 hw (cM_rest_met eM) (callW_of (rm := rM_rest) (C := "MidiDeskModel") 1 C.1.2.2.2.2 gw_897 gw_898 gw_899 gw_55 gw_900 kM_rest ⟨(Nat.le_of_ble_eq_true rfl), (Nat.le_of_ble_eq_true rfl)⟩) rfl rfl (Nat.le_of_ble_eq_true rfl) dW_339 (B.room (a := 1) (b := 6) r.ci (by omega) (by omega) (by omega)) (fun H2 locs2 hw => ?_)
    refine W.eq (g2 := F0 m 342 ls [.long v]) rfl ?_
    refine lv_lstore (lv' := [(6, .long v), (5, .int (if k = 1 then 1 else 2)), (0, .ref b), (1, .ref (qq 0)), (2, .ref q), (3, .ref qo), (4, .int (nt i))]) C.1.1 C.1.2.1 dW_342 hl (by decide) rfl (fun ls hl => ?_)
    refine lv_aload_n C.1.1 C.1.2.1 dW_344 rfl (lv_at hl 4 rfl) ?_
    refine mL_call (rest := []) (As := []) C hl.1 hw (cM_thrown_met (iv := (upd iv 0 (nt k))) rfl) (callW_of (rm := rM_thrown) (C := "MidiDeskModel") 0 C.1.2.2.2.2 gw_791 gw_792 gw_793 gw_55 gw_794 kM_thrown ⟨(Nat.le_of_ble_eq_true rfl), (Nat.le_of_ble_eq_true rfl)⟩) rfl rfl (Nat.le_of_ble_eq_true rfl) dW_345 (B.room (a := 1) (b := 6) r.ci (by omega) (by omega) (by omega)) (fun H3 locs3 hw => ?_)
    refine W.eq (g2 := F0 m 348 ls [.int ((upd iv 0 (nt k)) 0)]) rfl ?_
    refine lv_iload C.1.1 C.1.2.1 dW_348 (lv_at hl 1 rfl) ?_
    refine lv_icmp_eq (tgt := 355) C.1.1 C.1.2.1 dW_350 (by decide) (fun _ => ?_) (fun w => absurd (by rw [upd_s]; rcases hk with w | w <;> rw [w] <;> rfl) w)
    refine lv_iload C.1.1 C.1.2.1 dW_355 (lv_at hl 1 rfl) ?_
    refine lv_if_ne (tgt := 371) C.1.1 C.1.2.1 dW_357 (by decide) (fun _ => ?_) (fun w => absurd w (by rcases hk with w | w <;> rw [w] <;> decide))
    refine lv_goto (tgt := 726) C.1.1 C.1.2.1 dW_371 (by decide) ?_
    exact kk _ _ _ _ _ _ _ _ _ _ _ _ hw r.thr (lv_sub hl [2, 3, 4, 5, 6] rfl) (B.up (a := 1) (b := 6) (by omega) (by omega))
  · refine lv_aload_n C.1.1 C.1.2.1 dW_319 rfl (lv_at hl 1 rfl) ?_
    refine lv_aload_n C.1.1 C.1.2.1 dW_320 rfl (lv_at hl 0 rfl) ?_
    refine lv_iload C.1.1 C.1.2.1 dW_321 (lv_at hl 4 rfl) ?_
    refine lv_iconst (v := 1) C.1.1 C.1.2.1 dW_323 (by decide) ?_
    refine lv_iadd C.1.1 C.1.2.1 dW_324 ?_
    refine va_sld C.1.1 C.1.2.1 hX hbl hbA hw.2.2.1 in1 dW_325 ?_
    refine lv_aload_n C.1.1 C.1.2.1 dW_326 rfl (lv_at hl 3 rfl) ?_
    refine h_call (rest := []) (As := [.ref (qq 0), .int (xs (nt i + 1).toNatClampNeg), .ref qo]) C hl.1 hw hE hno (cL_rest_ret eC) rfl gw_586 gw_584 gw_585 gw_51 kL_rest ⟨(Nat.le_of_ble_eq_true rfl), (Nat.le_of_ble_eq_true rfl)⟩ rfl rfl (Nat.le_of_ble_eq_true rfl) dW_327 (B.room (a := 0) (b := 0) r.ci (by omega) (by omega) (by omega)) (fun H1 locs1 hw => ?_)
    refine W.eq (g2 := F0 m 330 ls [.int 0]) rfl ?_
    refine lv_istore (lv' := [(5, .int 0), (0, .ref b), (1, .ref (qq 0)), (2, .ref q), (3, .ref qo), (4, .int (nt i))]) C.1.1 C.1.2.1 dW_330 hl (by decide) rfl (fun ls hl => ?_)
    refine lv_aload_n C.1.1 C.1.2.1 dW_332 rfl (lv_at hl 3 rfl) ?_
    refine lv_aload_n C.1.1 C.1.2.1 dW_333 rfl (lv_at hl 1 rfl) ?_
    refine lv_iload C.1.1 C.1.2.1 dW_334 (lv_at hl 5 rfl) ?_
    refine lv_iconst (v := 1) C.1.1 C.1.2.1 dW_336 (by decide) ?_
    refine lv_iadd C.1.1 C.1.2.1 dW_337 ?_
    refine va_sld C.1.1 C.1.2.1 hX hbl hbA hw.2.2.1 in1 dW_338 ?_
    refine mL_call (rest := []) (As := [.int (xs (nt i + 1).toNatClampNeg)]) C hl.1 hw (cM_rest_met eM) (callW_of (rm := rM_rest) (C := "MidiDeskModel") 1 C.1.2.2.2.2 gw_897 gw_898 gw_899 gw_55 gw_900 kM_rest ⟨(Nat.le_of_ble_eq_true rfl), (Nat.le_of_ble_eq_true rfl)⟩) rfl rfl (Nat.le_of_ble_eq_true rfl) dW_339 (B.room (a := 0) (b := 0) r.ci (by omega) (by omega) (by omega)) (fun H2 locs2 hw => ?_)
    refine W.eq (g2 := F0 m 342 ls [.long v]) rfl ?_
    refine lv_lstore (lv' := [(6, .long v), (5, .int 0), (0, .ref b), (1, .ref (qq 0)), (2, .ref q), (3, .ref qo), (4, .int (nt i))]) C.1.1 C.1.2.1 dW_342 hl (by decide) rfl (fun ls hl => ?_)
    refine lv_aload_n C.1.1 C.1.2.1 dW_344 rfl (lv_at hl 4 rfl) ?_
    refine mL_call (rest := []) (As := []) C hl.1 hw (cM_thrown_met (iv := (upd iv 0 (nt 0))) rfl) (callW_of (rm := rM_thrown) (C := "MidiDeskModel") 0 C.1.2.2.2.2 gw_791 gw_792 gw_793 gw_55 gw_794 kM_thrown ⟨(Nat.le_of_ble_eq_true rfl), (Nat.le_of_ble_eq_true rfl)⟩) rfl rfl (Nat.le_of_ble_eq_true rfl) dW_345 (B.room (a := 0) (b := 0) r.ci (by omega) (by omega) (by omega)) (fun H3 locs3 hw => ?_)
    refine W.eq (g2 := F0 m 348 ls [.int ((upd iv 0 (nt 0)) 0)]) rfl ?_
    refine lv_iload C.1.1 C.1.2.1 dW_348 (lv_at hl 1 rfl) ?_
    refine lv_icmp_eq (tgt := 355) C.1.1 C.1.2.1 dW_350 (by decide) (fun _ => ?_) (fun w => absurd (by rw [upd_s]; rfl) w)
    refine lv_iload C.1.1 C.1.2.1 dW_355 (lv_at hl 1 rfl) ?_
    refine lv_if_ne (tgt := 371) C.1.1 C.1.2.1 dW_357 (by decide) (fun w => absurd rfl w) (fun _ => ?_)
    refine lv_aload_n C.1.1 C.1.2.1 dW_360 rfl (lv_at hl 5 rfl) ?_
    refine lv_iconst (v := 0) C.1.1 C.1.2.1 dW_361 (by decide) ?_
    refine va_lald (D := g.1) C.1.1 C.1.2.1 C.2.1 hw.1 (h.2.1 + 10) 1 cw_x rfl vi01 dW_362 ?_
    refine lv_lload C.1.1 C.1.2.1 dW_363 (lv_at hl 0 rfl) ?_
    refine W.lcmp C.1.1 C.1.2.1 dW_365 ?_
    refine lv_if_eq (tgt := 371) C.1.1 C.1.2.1 dW_366 (by decide) (fun _ => ?_) (fun w => absurd (lg_self _) w)
    refine lv_goto (tgt := 726) C.1.1 C.1.2.1 dW_371 (by decide) ?_
    exact kk _ _ _ _ _ _ _ _ _ _ _ _ hw r.thr (lv_sub hl [2, 3, 4, 5, 6] rfl) (B.up (a := 0) (b := 0) (by omega) (by omega))
set_option maxHeartbeats 4000000 in
set_option maxRecDepth 100000 in
theorem case_transpose {p : Program} {l : Launch} {e : Env} {s : State} {m : MethodId} {below : List Frame} {meth : Method} {c : Code} {g : gT} {b L : Nat} {xs : Nat → Int32} {Q : State → Prop} {qq am : Nat → Nat} {qo q : Nat} {i j : Nat} (C : mCx p m c code 8 s #[Value.ref b] g "MidiDeskLaw") (hX : va_X b L xs s s.heap) (hbl : b < s.heap.size) (hE0 : kE (fun q : Nat => s.heap.size ≤ q) s s.heap) (hno : nC s) (hfl : l.flags = flags0) (hi : i + 4 ≤ L) (hL : L ≤ 2048) (hj : j < 512) {ad ea : Nat → Nat} {h : cH} {z : cZ} {f : Nat → Int64} {iv : Nat → Int32} {av : Nat → Nat → Int32} {H : Heap} {locs : List Loc} {cells slots : Nat} {ls : Array Slot} (hw : cWd g (fun q : Nat => s.heap.size ≤ q) s.heap qq ad ea h (lX g qo f q am iv av) z H locs) (r : Rel h z iv av) (hl : lv_has ls 8 [(0, .ref b), (1, .ref (qq 0)), (2, .ref q), (3, .ref qo), (4, .int (nt i))]) (B : Bud h cells slots j) (kk : ∀ (ad ea : Nat → Nat) (h : cH) (z : cZ) (f : Nat → Int64) (iv : Nat → Int32) (av : Nat → Nat → Int32) (H : Heap) (locs : List Loc) (cells slots : Nat) (ls : Array Slot), cWd g (fun q : Nat => s.heap.size ≤ q) s.heap qq ad ea h (lX g qo f q am iv av) z H locs → Rel h z iv av → lv_has ls 8 [(0, .ref b), (1, .ref (qq 0)), (2, .ref q), (3, .ref qo), (4, .int (nt i))] → Bud h cells slots (j + 1) → W p l e room_1 s m #[Value.ref b] below meth c H locs cells slots Q (F0 m 726 ls [])) : W p l e room_1 s m #[Value.ref b] below meth c H locs cells slots Q (F0 m 399 ls []) := by
  have hbA : ¬ (fun q : Nat => s.heap.size ≤ q) b := Nat.not_le.mpr hbl
  have in1 : vp_in (nt i + 1) L := in_k (k := 1) (by omega) (by omega)
  have in2 : vp_in (nt i + 2) L := in_k (k := 2) (by omega) (by omega)
  have in3 : vp_in (nt i + 3) L := in_k (k := 3) (by omega) (by omega)
  have hE : kE (fun q : Nat => s.heap.size ≤ q) s H := hE0.kept (fun a ha hA => hw.2.2.1.2.1 a ha hA)
  rcases r_transpose r (xs (nt i + 1).toNatClampNeg) (xs (nt i + 2).toNatClampNeg) with ⟨k, v, hk, eT, eM⟩ | ⟨v, z', iv', av', eC, eM, e0, r'⟩
  · refine lv_aload_n C.1.1 C.1.2.1 dW_399 rfl (lv_at hl 1 rfl) ?_
    refine lv_aload_n C.1.1 C.1.2.1 dW_400 rfl (lv_at hl 0 rfl) ?_
    refine lv_iload C.1.1 C.1.2.1 dW_401 (lv_at hl 4 rfl) ?_
    refine lv_iconst (v := 1) C.1.1 C.1.2.1 dW_403 (by decide) ?_
    refine lv_iadd C.1.1 C.1.2.1 dW_404 ?_
    refine va_sld C.1.1 C.1.2.1 hX hbl hbA hw.2.2.1 in1 dW_405 ?_
    refine lv_aload_n C.1.1 C.1.2.1 dW_406 rfl (lv_at hl 0 rfl) ?_
    refine lv_iload C.1.1 C.1.2.1 dW_407 (lv_at hl 4 rfl) ?_
    refine lv_iconst (v := 2) C.1.1 C.1.2.1 dW_409 (by decide) ?_
    refine lv_iadd C.1.1 C.1.2.1 dW_410 ?_
    refine va_sld C.1.1 C.1.2.1 hX hbl hbA hw.2.2.1 in2 dW_411 ?_
    refine lv_aload_n C.1.1 C.1.2.1 dW_412 rfl (lv_at hl 3 rfl) ?_
    refine h_call (rest := []) (As := [.ref (qq 0), .int (xs (nt i + 1).toNatClampNeg), .int (xs (nt i + 2).toNatClampNeg), .ref qo]) C hl.1 hw hE hno (cL_transpose_thr hfl hk eT) rfl gw_593 gw_591 gw_592 gw_51 kL_transpose ⟨(Nat.le_of_ble_eq_true rfl), (Nat.le_of_ble_eq_true rfl)⟩ rfl rfl (Nat.le_of_ble_eq_true rfl) dW_413 (B.room (a := 1) (b := 6) r.ci (by omega) (by omega) (by omega)) (fun H1 locs1 hw => ?_)
    refine W.eq (g2 := F0 m 416 ls [.int (if k = 1 then 1 else 2)]) rfl ?_
    refine lv_istore (lv' := [(5, .int (if k = 1 then 1 else 2)), (0, .ref b), (1, .ref (qq 0)), (2, .ref q), (3, .ref qo), (4, .int (nt i))]) C.1.1 C.1.2.1 dW_416 hl (by decide) rfl (fun ls hl => ?_)
    refine lv_aload_n C.1.1 C.1.2.1 dW_418 rfl (lv_at hl 3 rfl) ?_
    refine lv_aload_n C.1.1 C.1.2.1 dW_419 rfl (lv_at hl 1 rfl) ?_
    refine lv_iload C.1.1 C.1.2.1 dW_420 (lv_at hl 5 rfl) ?_
    refine lv_iconst (v := 1) C.1.1 C.1.2.1 dW_422 (by decide) ?_
    refine lv_iadd C.1.1 C.1.2.1 dW_423 ?_
    refine va_sld C.1.1 C.1.2.1 hX hbl hbA hw.2.2.1 in1 dW_424 ?_
    refine lv_aload_n C.1.1 C.1.2.1 dW_425 rfl (lv_at hl 1 rfl) ?_
    refine lv_iload C.1.1 C.1.2.1 dW_426 (lv_at hl 5 rfl) ?_
    refine lv_iconst (v := 2) C.1.1 C.1.2.1 dW_428 (by decide) ?_
    refine lv_iadd C.1.1 C.1.2.1 dW_429 ?_
    refine va_sld C.1.1 C.1.2.1 hX hbl hbA hw.2.2.1 in2 dW_430 ?_
    refine mL_call (rest := []) (As := [.int (xs (nt i + 1).toNatClampNeg), .int (xs (nt i + 2).toNatClampNeg)]) C hl.1 hw (cM_transpose_met eM) (callW_of (rm := rM_transpose) (C := "MidiDeskModel") 2 C.1.2.2.2.2 gw_913 gw_914 gw_915 gw_55 gw_916 kM_transpose ⟨(Nat.le_of_ble_eq_true rfl), (Nat.le_of_ble_eq_true rfl)⟩) rfl rfl (Nat.le_of_ble_eq_true rfl) dW_431 (B.room (a := 1) (b := 6) r.ci (by omega) (by omega) (by omega)) (fun H2 locs2 hw => ?_)
    refine W.eq (g2 := F0 m 434 ls [.int v]) rfl ?_
    refine lv_istore (lv' := [(6, .int v), (5, .int (if k = 1 then 1 else 2)), (0, .ref b), (1, .ref (qq 0)), (2, .ref q), (3, .ref qo), (4, .int (nt i))]) C.1.1 C.1.2.1 dW_434 hl (by decide) rfl (fun ls hl => ?_)
    refine lv_aload_n C.1.1 C.1.2.1 dW_436 rfl (lv_at hl 4 rfl) ?_
    refine mL_call (rest := []) (As := []) C hl.1 hw (cM_thrown_met (iv := (upd iv 0 (nt k))) rfl) (callW_of (rm := rM_thrown) (C := "MidiDeskModel") 0 C.1.2.2.2.2 gw_791 gw_792 gw_793 gw_55 gw_794 kM_thrown ⟨(Nat.le_of_ble_eq_true rfl), (Nat.le_of_ble_eq_true rfl)⟩) rfl rfl (Nat.le_of_ble_eq_true rfl) dW_437 (B.room (a := 1) (b := 6) r.ci (by omega) (by omega) (by omega)) (fun H3 locs3 hw => ?_)
    refine W.eq (g2 := F0 m 440 ls [.int ((upd iv 0 (nt k)) 0)]) rfl ?_
    refine lv_iload C.1.1 C.1.2.1 dW_440 (lv_at hl 1 rfl) ?_
    refine lv_icmp_eq (tgt := 447) C.1.1 C.1.2.1 dW_442 (by decide) (fun _ => ?_) (fun w => absurd (by rw [upd_s]; rcases hk with w | w <;> rw [w] <;> rfl) w)
    refine lv_iload C.1.1 C.1.2.1 dW_447 (lv_at hl 1 rfl) ?_
    refine lv_if_ne (tgt := 464) C.1.1 C.1.2.1 dW_449 (by decide) (fun _ => ?_) (fun w => absurd w (by rcases hk with w | w <;> rw [w] <;> decide))
    refine lv_goto (tgt := 726) C.1.1 C.1.2.1 dW_464 (by decide) ?_
    exact kk _ _ _ _ _ _ _ _ _ _ _ _ hw r.thr (lv_sub hl [2, 3, 4, 5, 6] rfl) (B.up (a := 1) (b := 6) (by omega) (by omega))
  · refine lv_aload_n C.1.1 C.1.2.1 dW_399 rfl (lv_at hl 1 rfl) ?_
    refine lv_aload_n C.1.1 C.1.2.1 dW_400 rfl (lv_at hl 0 rfl) ?_
    refine lv_iload C.1.1 C.1.2.1 dW_401 (lv_at hl 4 rfl) ?_
    refine lv_iconst (v := 1) C.1.1 C.1.2.1 dW_403 (by decide) ?_
    refine lv_iadd C.1.1 C.1.2.1 dW_404 ?_
    refine va_sld C.1.1 C.1.2.1 hX hbl hbA hw.2.2.1 in1 dW_405 ?_
    refine lv_aload_n C.1.1 C.1.2.1 dW_406 rfl (lv_at hl 0 rfl) ?_
    refine lv_iload C.1.1 C.1.2.1 dW_407 (lv_at hl 4 rfl) ?_
    refine lv_iconst (v := 2) C.1.1 C.1.2.1 dW_409 (by decide) ?_
    refine lv_iadd C.1.1 C.1.2.1 dW_410 ?_
    refine va_sld C.1.1 C.1.2.1 hX hbl hbA hw.2.2.1 in2 dW_411 ?_
    refine lv_aload_n C.1.1 C.1.2.1 dW_412 rfl (lv_at hl 3 rfl) ?_
    refine h_call (rest := []) (As := [.ref (qq 0), .int (xs (nt i + 1).toNatClampNeg), .int (xs (nt i + 2).toNatClampNeg), .ref qo]) C hl.1 hw hE hno (cL_transpose_ret eC) rfl gw_593 gw_591 gw_592 gw_51 kL_transpose ⟨(Nat.le_of_ble_eq_true rfl), (Nat.le_of_ble_eq_true rfl)⟩ rfl rfl (Nat.le_of_ble_eq_true rfl) dW_413 (B.room (a := 0) (b := 0) r.ci (by omega) (by omega) (by omega)) (fun H1 locs1 hw => ?_)
    refine W.eq (g2 := F0 m 416 ls [.int 0]) rfl ?_
    refine lv_istore (lv' := [(5, .int 0), (0, .ref b), (1, .ref (qq 0)), (2, .ref q), (3, .ref qo), (4, .int (nt i))]) C.1.1 C.1.2.1 dW_416 hl (by decide) rfl (fun ls hl => ?_)
    refine lv_aload_n C.1.1 C.1.2.1 dW_418 rfl (lv_at hl 3 rfl) ?_
    refine lv_aload_n C.1.1 C.1.2.1 dW_419 rfl (lv_at hl 1 rfl) ?_
    refine lv_iload C.1.1 C.1.2.1 dW_420 (lv_at hl 5 rfl) ?_
    refine lv_iconst (v := 1) C.1.1 C.1.2.1 dW_422 (by decide) ?_
    refine lv_iadd C.1.1 C.1.2.1 dW_423 ?_
    refine va_sld C.1.1 C.1.2.1 hX hbl hbA hw.2.2.1 in1 dW_424 ?_
    refine lv_aload_n C.1.1 C.1.2.1 dW_425 rfl (lv_at hl 1 rfl) ?_
    refine lv_iload C.1.1 C.1.2.1 dW_426 (lv_at hl 5 rfl) ?_
    refine lv_iconst (v := 2) C.1.1 C.1.2.1 dW_428 (by decide) ?_
    refine lv_iadd C.1.1 C.1.2.1 dW_429 ?_
    refine va_sld C.1.1 C.1.2.1 hX hbl hbA hw.2.2.1 in2 dW_430 ?_
    refine mL_call (rest := []) (As := [.int (xs (nt i + 1).toNatClampNeg), .int (xs (nt i + 2).toNatClampNeg)]) C hl.1 hw (cM_transpose_met eM) (callW_of (rm := rM_transpose) (C := "MidiDeskModel") 2 C.1.2.2.2.2 gw_913 gw_914 gw_915 gw_55 gw_916 kM_transpose ⟨(Nat.le_of_ble_eq_true rfl), (Nat.le_of_ble_eq_true rfl)⟩) rfl rfl (Nat.le_of_ble_eq_true rfl) dW_431 (B.room (a := 0) (b := 0) r.ci (by omega) (by omega) (by omega)) (fun H2 locs2 hw => ?_)
    refine W.eq (g2 := F0 m 434 ls [.int v]) rfl ?_
    refine lv_istore (lv' := [(6, .int v), (5, .int 0), (0, .ref b), (1, .ref (qq 0)), (2, .ref q), (3, .ref qo), (4, .int (nt i))]) C.1.1 C.1.2.1 dW_434 hl (by decide) rfl (fun ls hl => ?_)
    refine lv_aload_n C.1.1 C.1.2.1 dW_436 rfl (lv_at hl 4 rfl) ?_
    refine mL_call (rest := []) (As := []) C hl.1 hw (cM_thrown_met (iv := iv') rfl) (callW_of (rm := rM_thrown) (C := "MidiDeskModel") 0 C.1.2.2.2.2 gw_791 gw_792 gw_793 gw_55 gw_794 kM_thrown ⟨(Nat.le_of_ble_eq_true rfl), (Nat.le_of_ble_eq_true rfl)⟩) rfl rfl (Nat.le_of_ble_eq_true rfl) dW_437 (B.room (a := 0) (b := 0) r.ci (by omega) (by omega) (by omega)) (fun H3 locs3 hw => ?_)
    refine W.eq (g2 := F0 m 440 ls [.int (iv' 0)]) rfl ?_
    refine lv_iload C.1.1 C.1.2.1 dW_440 (lv_at hl 1 rfl) ?_
    refine lv_icmp_eq (tgt := 447) C.1.1 C.1.2.1 dW_442 (by decide) (fun _ => ?_) (fun w => absurd (by rw [e0]; rfl) w)
    refine lv_iload C.1.1 C.1.2.1 dW_447 (lv_at hl 1 rfl) ?_
    refine lv_if_ne (tgt := 464) C.1.1 C.1.2.1 dW_449 (by decide) (fun w => absurd rfl w) (fun _ => ?_)
    refine lv_aload_n C.1.1 C.1.2.1 dW_452 rfl (lv_at hl 5 rfl) ?_
    refine lv_iconst (v := 0) C.1.1 C.1.2.1 dW_453 (by decide) ?_
    refine va_lald (D := g.1) C.1.1 C.1.2.1 C.2.1 hw.1 (h.2.1 + 10) 1 cw_x rfl vi01 dW_454 ?_
    refine lv_iload C.1.1 C.1.2.1 dW_455 (lv_at hl 0 rfl) ?_
    refine lv_i2l (v := Int32.toInt64 v) C.1.1 C.1.2.1 dW_457 rfl ?_
    refine W.lcmp C.1.1 C.1.2.1 dW_458 ?_
    refine lv_if_eq (tgt := 464) C.1.1 C.1.2.1 dW_459 (by decide) (fun _ => ?_) (fun w => absurd (lg_self _) w)
    refine lv_goto (tgt := 726) C.1.1 C.1.2.1 dW_464 (by decide) ?_
    exact kk _ _ _ _ _ _ _ _ _ _ _ _ hw r' (lv_sub hl [2, 3, 4, 5, 6] rfl) (B.up (a := 0) (b := 0) (by omega) (by omega))
set_option maxHeartbeats 4000000 in
set_option maxRecDepth 100000 in
theorem case_grid {p : Program} {l : Launch} {e : Env} {s : State} {m : MethodId} {below : List Frame} {meth : Method} {c : Code} {g : gT} {b L : Nat} {xs : Nat → Int32} {Q : State → Prop} {qq am : Nat → Nat} {qo q : Nat} {i j : Nat} (C : mCx p m c code 8 s #[Value.ref b] g "MidiDeskLaw") (hX : va_X b L xs s s.heap) (hbl : b < s.heap.size) (hE0 : kE (fun q : Nat => s.heap.size ≤ q) s s.heap) (hno : nC s) (hfl : l.flags = flags0) (hi : i + 4 ≤ L) (hL : L ≤ 2048) (hj : j < 512) {ad ea : Nat → Nat} {h : cH} {z : cZ} {f : Nat → Int64} {iv : Nat → Int32} {av : Nat → Nat → Int32} {H : Heap} {locs : List Loc} {cells slots : Nat} {ls : Array Slot} (hw : cWd g (fun q : Nat => s.heap.size ≤ q) s.heap qq ad ea h (lX g qo f q am iv av) z H locs) (r : Rel h z iv av) (hl : lv_has ls 8 [(0, .ref b), (1, .ref (qq 0)), (2, .ref q), (3, .ref qo), (4, .int (nt i))]) (B : Bud h cells slots j) (kk : ∀ (ad ea : Nat → Nat) (h : cH) (z : cZ) (f : Nat → Int64) (iv : Nat → Int32) (av : Nat → Nat → Int32) (H : Heap) (locs : List Loc) (cells slots : Nat) (ls : Array Slot), cWd g (fun q : Nat => s.heap.size ≤ q) s.heap qq ad ea h (lX g qo f q am iv av) z H locs → Rel h z iv av → lv_has ls 8 [(0, .ref b), (1, .ref (qq 0)), (2, .ref q), (3, .ref qo), (4, .int (nt i))] → Bud h cells slots (j + 1) → W p l e room_1 s m #[Value.ref b] below meth c H locs cells slots Q (F0 m 726 ls [])) : W p l e room_1 s m #[Value.ref b] below meth c H locs cells slots Q (F0 m 467 ls []) := by
  have hbA : ¬ (fun q : Nat => s.heap.size ≤ q) b := Nat.not_le.mpr hbl
  have in1 : vp_in (nt i + 1) L := in_k (k := 1) (by omega) (by omega)
  have in2 : vp_in (nt i + 2) L := in_k (k := 2) (by omega) (by omega)
  have in3 : vp_in (nt i + 3) L := in_k (k := 3) (by omega) (by omega)
  have hE : kE (fun q : Nat => s.heap.size ≤ q) s H := hE0.kept (fun a ha hA => hw.2.2.1.2.1 a ha hA)
  rcases r_grid r (xs (nt i + 1).toNatClampNeg) with ⟨k, v, hk, eT, eM⟩ | ⟨v, z', iv', av', eC, eM, e0, r'⟩
  · refine lv_aload_n C.1.1 C.1.2.1 dW_467 rfl (lv_at hl 1 rfl) ?_
    refine lv_aload_n C.1.1 C.1.2.1 dW_468 rfl (lv_at hl 0 rfl) ?_
    refine lv_iload C.1.1 C.1.2.1 dW_469 (lv_at hl 4 rfl) ?_
    refine lv_iconst (v := 1) C.1.1 C.1.2.1 dW_471 (by decide) ?_
    refine lv_iadd C.1.1 C.1.2.1 dW_472 ?_
    refine va_sld C.1.1 C.1.2.1 hX hbl hbA hw.2.2.1 in1 dW_473 ?_
    refine lv_aload_n C.1.1 C.1.2.1 dW_474 rfl (lv_at hl 3 rfl) ?_
    refine h_call (rest := []) (As := [.ref (qq 0), .int (xs (nt i + 1).toNatClampNeg), .ref qo]) C hl.1 hw hE hno (cL_grid_thr hfl hk eT) rfl gw_614 gw_612 gw_613 gw_51 kL_grid ⟨(Nat.le_of_ble_eq_true rfl), (Nat.le_of_ble_eq_true rfl)⟩ rfl rfl (Nat.le_of_ble_eq_true rfl) dW_475 (B.room (a := 1) (b := 6) r.ci (by omega) (by omega) (by omega)) (fun H1 locs1 hw => ?_)
    refine W.eq (g2 := F0 m 478 ls [.int (if k = 1 then 1 else 2)]) rfl ?_
    refine lv_istore (lv' := [(5, .int (if k = 1 then 1 else 2)), (0, .ref b), (1, .ref (qq 0)), (2, .ref q), (3, .ref qo), (4, .int (nt i))]) C.1.1 C.1.2.1 dW_478 hl (by decide) rfl (fun ls hl => ?_)
    refine lv_aload_n C.1.1 C.1.2.1 dW_480 rfl (lv_at hl 3 rfl) ?_
    refine lv_aload_n C.1.1 C.1.2.1 dW_481 rfl (lv_at hl 1 rfl) ?_
    refine lv_iload C.1.1 C.1.2.1 dW_482 (lv_at hl 5 rfl) ?_
    refine lv_iconst (v := 1) C.1.1 C.1.2.1 dW_484 (by decide) ?_
    refine lv_iadd C.1.1 C.1.2.1 dW_485 ?_
    refine va_sld C.1.1 C.1.2.1 hX hbl hbA hw.2.2.1 in1 dW_486 ?_
    refine mL_call (rest := []) (As := [.int (xs (nt i + 1).toNatClampNeg)]) C hl.1 hw (cM_grid_met eM) (callW_of (rm := rM_grid) (C := "MidiDeskModel") 1 C.1.2.2.2.2 gw_922 gw_923 gw_924 gw_55 gw_925 kM_grid ⟨(Nat.le_of_ble_eq_true rfl), (Nat.le_of_ble_eq_true rfl)⟩) rfl rfl (Nat.le_of_ble_eq_true rfl) dW_487 (B.room (a := 1) (b := 6) r.ci (by omega) (by omega) (by omega)) (fun H2 locs2 hw => ?_)
    refine W.eq (g2 := F0 m 490 ls [.int v]) rfl ?_
    refine lv_istore (lv' := [(6, .int v), (5, .int (if k = 1 then 1 else 2)), (0, .ref b), (1, .ref (qq 0)), (2, .ref q), (3, .ref qo), (4, .int (nt i))]) C.1.1 C.1.2.1 dW_490 hl (by decide) rfl (fun ls hl => ?_)
    refine lv_aload_n C.1.1 C.1.2.1 dW_492 rfl (lv_at hl 4 rfl) ?_
    refine mL_call (rest := []) (As := []) C hl.1 hw (cM_thrown_met (iv := (upd iv 0 (nt k))) rfl) (callW_of (rm := rM_thrown) (C := "MidiDeskModel") 0 C.1.2.2.2.2 gw_791 gw_792 gw_793 gw_55 gw_794 kM_thrown ⟨(Nat.le_of_ble_eq_true rfl), (Nat.le_of_ble_eq_true rfl)⟩) rfl rfl (Nat.le_of_ble_eq_true rfl) dW_493 (B.room (a := 1) (b := 6) r.ci (by omega) (by omega) (by omega)) (fun H3 locs3 hw => ?_)
    refine W.eq (g2 := F0 m 496 ls [.int ((upd iv 0 (nt k)) 0)]) rfl ?_
    refine lv_iload C.1.1 C.1.2.1 dW_496 (lv_at hl 1 rfl) ?_
    refine lv_icmp_eq (tgt := 503) C.1.1 C.1.2.1 dW_498 (by decide) (fun _ => ?_) (fun w => absurd (by rw [upd_s]; rcases hk with w | w <;> rw [w] <;> rfl) w)
    refine lv_iload C.1.1 C.1.2.1 dW_503 (lv_at hl 1 rfl) ?_
    refine lv_if_ne (tgt := 520) C.1.1 C.1.2.1 dW_505 (by decide) (fun _ => ?_) (fun w => absurd w (by rcases hk with w | w <;> rw [w] <;> decide))
    refine lv_goto (tgt := 726) C.1.1 C.1.2.1 dW_520 (by decide) ?_
    exact kk _ _ _ _ _ _ _ _ _ _ _ _ hw r.thr (lv_sub hl [2, 3, 4, 5, 6] rfl) (B.up (a := 1) (b := 6) (by omega) (by omega))
  · refine lv_aload_n C.1.1 C.1.2.1 dW_467 rfl (lv_at hl 1 rfl) ?_
    refine lv_aload_n C.1.1 C.1.2.1 dW_468 rfl (lv_at hl 0 rfl) ?_
    refine lv_iload C.1.1 C.1.2.1 dW_469 (lv_at hl 4 rfl) ?_
    refine lv_iconst (v := 1) C.1.1 C.1.2.1 dW_471 (by decide) ?_
    refine lv_iadd C.1.1 C.1.2.1 dW_472 ?_
    refine va_sld C.1.1 C.1.2.1 hX hbl hbA hw.2.2.1 in1 dW_473 ?_
    refine lv_aload_n C.1.1 C.1.2.1 dW_474 rfl (lv_at hl 3 rfl) ?_
    refine h_call (rest := []) (As := [.ref (qq 0), .int (xs (nt i + 1).toNatClampNeg), .ref qo]) C hl.1 hw hE hno (cL_grid_ret eC) rfl gw_614 gw_612 gw_613 gw_51 kL_grid ⟨(Nat.le_of_ble_eq_true rfl), (Nat.le_of_ble_eq_true rfl)⟩ rfl rfl (Nat.le_of_ble_eq_true rfl) dW_475 (B.room (a := 0) (b := 0) r.ci (by omega) (by omega) (by omega)) (fun H1 locs1 hw => ?_)
    refine W.eq (g2 := F0 m 478 ls [.int 0]) rfl ?_
    refine lv_istore (lv' := [(5, .int 0), (0, .ref b), (1, .ref (qq 0)), (2, .ref q), (3, .ref qo), (4, .int (nt i))]) C.1.1 C.1.2.1 dW_478 hl (by decide) rfl (fun ls hl => ?_)
    refine lv_aload_n C.1.1 C.1.2.1 dW_480 rfl (lv_at hl 3 rfl) ?_
    refine lv_aload_n C.1.1 C.1.2.1 dW_481 rfl (lv_at hl 1 rfl) ?_
    refine lv_iload C.1.1 C.1.2.1 dW_482 (lv_at hl 5 rfl) ?_
    refine lv_iconst (v := 1) C.1.1 C.1.2.1 dW_484 (by decide) ?_
    refine lv_iadd C.1.1 C.1.2.1 dW_485 ?_
    refine va_sld C.1.1 C.1.2.1 hX hbl hbA hw.2.2.1 in1 dW_486 ?_
    refine mL_call (rest := []) (As := [.int (xs (nt i + 1).toNatClampNeg)]) C hl.1 hw (cM_grid_met eM) (callW_of (rm := rM_grid) (C := "MidiDeskModel") 1 C.1.2.2.2.2 gw_922 gw_923 gw_924 gw_55 gw_925 kM_grid ⟨(Nat.le_of_ble_eq_true rfl), (Nat.le_of_ble_eq_true rfl)⟩) rfl rfl (Nat.le_of_ble_eq_true rfl) dW_487 (B.room (a := 0) (b := 0) r.ci (by omega) (by omega) (by omega)) (fun H2 locs2 hw => ?_)
    refine W.eq (g2 := F0 m 490 ls [.int v]) rfl ?_
    refine lv_istore (lv' := [(6, .int v), (5, .int 0), (0, .ref b), (1, .ref (qq 0)), (2, .ref q), (3, .ref qo), (4, .int (nt i))]) C.1.1 C.1.2.1 dW_490 hl (by decide) rfl (fun ls hl => ?_)
    refine lv_aload_n C.1.1 C.1.2.1 dW_492 rfl (lv_at hl 4 rfl) ?_
    refine mL_call (rest := []) (As := []) C hl.1 hw (cM_thrown_met (iv := iv') rfl) (callW_of (rm := rM_thrown) (C := "MidiDeskModel") 0 C.1.2.2.2.2 gw_791 gw_792 gw_793 gw_55 gw_794 kM_thrown ⟨(Nat.le_of_ble_eq_true rfl), (Nat.le_of_ble_eq_true rfl)⟩) rfl rfl (Nat.le_of_ble_eq_true rfl) dW_493 (B.room (a := 0) (b := 0) r.ci (by omega) (by omega) (by omega)) (fun H3 locs3 hw => ?_)
    refine W.eq (g2 := F0 m 496 ls [.int (iv' 0)]) rfl ?_
    refine lv_iload C.1.1 C.1.2.1 dW_496 (lv_at hl 1 rfl) ?_
    refine lv_icmp_eq (tgt := 503) C.1.1 C.1.2.1 dW_498 (by decide) (fun _ => ?_) (fun w => absurd (by rw [e0]; rfl) w)
    refine lv_iload C.1.1 C.1.2.1 dW_503 (lv_at hl 1 rfl) ?_
    refine lv_if_ne (tgt := 520) C.1.1 C.1.2.1 dW_505 (by decide) (fun w => absurd rfl w) (fun _ => ?_)
    refine lv_aload_n C.1.1 C.1.2.1 dW_508 rfl (lv_at hl 5 rfl) ?_
    refine lv_iconst (v := 0) C.1.1 C.1.2.1 dW_509 (by decide) ?_
    refine va_lald (D := g.1) C.1.1 C.1.2.1 C.2.1 hw.1 (h.2.1 + 10) 1 cw_x rfl vi01 dW_510 ?_
    refine lv_iload C.1.1 C.1.2.1 dW_511 (lv_at hl 0 rfl) ?_
    refine lv_i2l (v := Int32.toInt64 v) C.1.1 C.1.2.1 dW_513 rfl ?_
    refine W.lcmp C.1.1 C.1.2.1 dW_514 ?_
    refine lv_if_eq (tgt := 520) C.1.1 C.1.2.1 dW_515 (by decide) (fun _ => ?_) (fun w => absurd (lg_self _) w)
    refine lv_goto (tgt := 726) C.1.1 C.1.2.1 dW_520 (by decide) ?_
    exact kk _ _ _ _ _ _ _ _ _ _ _ _ hw r' (lv_sub hl [2, 3, 4, 5, 6] rfl) (B.up (a := 0) (b := 0) (by omega) (by omega))
set_option maxHeartbeats 4000000 in
set_option maxRecDepth 100000 in
theorem case_clear {p : Program} {l : Launch} {e : Env} {s : State} {m : MethodId} {below : List Frame} {meth : Method} {c : Code} {g : gT} {b L : Nat} {xs : Nat → Int32} {Q : State → Prop} {qq am : Nat → Nat} {qo q : Nat} {i j : Nat} (C : mCx p m c code 8 s #[Value.ref b] g "MidiDeskLaw") (hX : va_X b L xs s s.heap) (hbl : b < s.heap.size) (hE0 : kE (fun q : Nat => s.heap.size ≤ q) s s.heap) (hno : nC s) (hfl : l.flags = flags0) (hi : i + 4 ≤ L) (hL : L ≤ 2048) (hj : j < 512) {ad ea : Nat → Nat} {h : cH} {z : cZ} {f : Nat → Int64} {iv : Nat → Int32} {av : Nat → Nat → Int32} {H : Heap} {locs : List Loc} {cells slots : Nat} {ls : Array Slot} (hw : cWd g (fun q : Nat => s.heap.size ≤ q) s.heap qq ad ea h (lX g qo f q am iv av) z H locs) (r : Rel h z iv av) (hl : lv_has ls 8 [(0, .ref b), (1, .ref (qq 0)), (2, .ref q), (3, .ref qo), (4, .int (nt i))]) (B : Bud h cells slots j) (kk : ∀ (ad ea : Nat → Nat) (h : cH) (z : cZ) (f : Nat → Int64) (iv : Nat → Int32) (av : Nat → Nat → Int32) (H : Heap) (locs : List Loc) (cells slots : Nat) (ls : Array Slot), cWd g (fun q : Nat => s.heap.size ≤ q) s.heap qq ad ea h (lX g qo f q am iv av) z H locs → Rel h z iv av → lv_has ls 8 [(0, .ref b), (1, .ref (qq 0)), (2, .ref q), (3, .ref qo), (4, .int (nt i))] → Bud h cells slots (j + 1) → W p l e room_1 s m #[Value.ref b] below meth c H locs cells slots Q (F0 m 726 ls [])) : W p l e room_1 s m #[Value.ref b] below meth c H locs cells slots Q (F0 m 523 ls []) := by
  have hbA : ¬ (fun q : Nat => s.heap.size ≤ q) b := Nat.not_le.mpr hbl
  have in1 : vp_in (nt i + 1) L := in_k (k := 1) (by omega) (by omega)
  have in2 : vp_in (nt i + 2) L := in_k (k := 2) (by omega) (by omega)
  have in3 : vp_in (nt i + 3) L := in_k (k := 3) (by omega) (by omega)
  have hE : kE (fun q : Nat => s.heap.size ≤ q) s H := hE0.kept (fun a ha hA => hw.2.2.1.2.1 a ha hA)
  rcases r_clear r (xs (nt i + 1).toNatClampNeg) with ⟨k, v, hk, eT, eM⟩ | ⟨v, z', iv', av', eC, eM, e0, r'⟩
  · refine lv_aload_n C.1.1 C.1.2.1 dW_523 rfl (lv_at hl 1 rfl) ?_
    refine lv_aload_n C.1.1 C.1.2.1 dW_524 rfl (lv_at hl 0 rfl) ?_
    refine lv_iload C.1.1 C.1.2.1 dW_525 (lv_at hl 4 rfl) ?_
    refine lv_iconst (v := 1) C.1.1 C.1.2.1 dW_527 (by decide) ?_
    refine lv_iadd C.1.1 C.1.2.1 dW_528 ?_
    refine va_sld C.1.1 C.1.2.1 hX hbl hbA hw.2.2.1 in1 dW_529 ?_
    refine lv_aload_n C.1.1 C.1.2.1 dW_530 rfl (lv_at hl 3 rfl) ?_
    refine h_call (rest := []) (As := [.ref (qq 0), .int (xs (nt i + 1).toNatClampNeg), .ref qo]) C hl.1 hw hE hno (cL_clear_thr hfl hk eT) rfl gw_633 gw_631 gw_632 gw_51 kL_clear ⟨(Nat.le_of_ble_eq_true rfl), (Nat.le_of_ble_eq_true rfl)⟩ rfl rfl (Nat.le_of_ble_eq_true rfl) dW_531 (B.room (a := 1) (b := 6) r.ci (by omega) (by omega) (by omega)) (fun H1 locs1 hw => ?_)
    refine W.eq (g2 := F0 m 534 ls [.int (if k = 1 then 1 else 2)]) rfl ?_
    refine lv_istore (lv' := [(5, .int (if k = 1 then 1 else 2)), (0, .ref b), (1, .ref (qq 0)), (2, .ref q), (3, .ref qo), (4, .int (nt i))]) C.1.1 C.1.2.1 dW_534 hl (by decide) rfl (fun ls hl => ?_)
    refine lv_aload_n C.1.1 C.1.2.1 dW_536 rfl (lv_at hl 3 rfl) ?_
    refine lv_aload_n C.1.1 C.1.2.1 dW_537 rfl (lv_at hl 1 rfl) ?_
    refine lv_iload C.1.1 C.1.2.1 dW_538 (lv_at hl 5 rfl) ?_
    refine lv_iconst (v := 1) C.1.1 C.1.2.1 dW_540 (by decide) ?_
    refine lv_iadd C.1.1 C.1.2.1 dW_541 ?_
    refine va_sld C.1.1 C.1.2.1 hX hbl hbA hw.2.2.1 in1 dW_542 ?_
    refine mL_call (rest := []) (As := [.int (xs (nt i + 1).toNatClampNeg)]) C hl.1 hw (cM_clear_met eM) (callW_of (rm := rM_clear) (C := "MidiDeskModel") 1 C.1.2.2.2.2 gw_931 gw_932 gw_933 gw_55 gw_934 kM_clear ⟨(Nat.le_of_ble_eq_true rfl), (Nat.le_of_ble_eq_true rfl)⟩) rfl rfl (Nat.le_of_ble_eq_true rfl) dW_543 (B.room (a := 2) (b := 7013) r.ci (by omega) (by omega) (by omega)) (fun H2 locs2 hw => ?_)
    refine W.eq (g2 := F0 m 546 ls [.int v]) rfl ?_
    refine lv_istore (lv' := [(6, .int v), (5, .int (if k = 1 then 1 else 2)), (0, .ref b), (1, .ref (qq 0)), (2, .ref q), (3, .ref qo), (4, .int (nt i))]) C.1.1 C.1.2.1 dW_546 hl (by decide) rfl (fun ls hl => ?_)
    refine lv_aload_n C.1.1 C.1.2.1 dW_548 rfl (lv_at hl 4 rfl) ?_
    refine mL_call (rest := []) (As := []) C hl.1 hw (cM_thrown_met (iv := (upd iv 0 (nt k))) rfl) (callW_of (rm := rM_thrown) (C := "MidiDeskModel") 0 C.1.2.2.2.2 gw_791 gw_792 gw_793 gw_55 gw_794 kM_thrown ⟨(Nat.le_of_ble_eq_true rfl), (Nat.le_of_ble_eq_true rfl)⟩) rfl rfl (Nat.le_of_ble_eq_true rfl) dW_549 (B.room (a := 2) (b := 7013) r.ci (by omega) (by omega) (by omega)) (fun H3 locs3 hw => ?_)
    refine W.eq (g2 := F0 m 552 ls [.int ((upd iv 0 (nt k)) 0)]) rfl ?_
    refine lv_iload C.1.1 C.1.2.1 dW_552 (lv_at hl 1 rfl) ?_
    refine lv_icmp_eq (tgt := 559) C.1.1 C.1.2.1 dW_554 (by decide) (fun _ => ?_) (fun w => absurd (by rw [upd_s]; rcases hk with w | w <;> rw [w] <;> rfl) w)
    refine lv_iload C.1.1 C.1.2.1 dW_559 (lv_at hl 1 rfl) ?_
    refine lv_if_ne (tgt := 576) C.1.1 C.1.2.1 dW_561 (by decide) (fun _ => ?_) (fun w => absurd w (by rcases hk with w | w <;> rw [w] <;> decide))
    refine lv_goto (tgt := 726) C.1.1 C.1.2.1 dW_576 (by decide) ?_
    exact kk _ _ _ _ _ _ _ _ _ _ _ _ hw r.thr (lv_sub hl [2, 3, 4, 5, 6] rfl) (B.up (a := 2) (b := 7013) (by omega) (by omega))
  · refine lv_aload_n C.1.1 C.1.2.1 dW_523 rfl (lv_at hl 1 rfl) ?_
    refine lv_aload_n C.1.1 C.1.2.1 dW_524 rfl (lv_at hl 0 rfl) ?_
    refine lv_iload C.1.1 C.1.2.1 dW_525 (lv_at hl 4 rfl) ?_
    refine lv_iconst (v := 1) C.1.1 C.1.2.1 dW_527 (by decide) ?_
    refine lv_iadd C.1.1 C.1.2.1 dW_528 ?_
    refine va_sld C.1.1 C.1.2.1 hX hbl hbA hw.2.2.1 in1 dW_529 ?_
    refine lv_aload_n C.1.1 C.1.2.1 dW_530 rfl (lv_at hl 3 rfl) ?_
    refine h_call (rest := []) (As := [.ref (qq 0), .int (xs (nt i + 1).toNatClampNeg), .ref qo]) C hl.1 hw hE hno (cL_clear_ret eC) rfl gw_633 gw_631 gw_632 gw_51 kL_clear ⟨(Nat.le_of_ble_eq_true rfl), (Nat.le_of_ble_eq_true rfl)⟩ rfl rfl (Nat.le_of_ble_eq_true rfl) dW_531 (B.room (a := 0) (b := 0) r.ci (by omega) (by omega) (by omega)) (fun H1 locs1 hw => ?_)
    refine W.eq (g2 := F0 m 534 ls [.int 0]) rfl ?_
    refine lv_istore (lv' := [(5, .int 0), (0, .ref b), (1, .ref (qq 0)), (2, .ref q), (3, .ref qo), (4, .int (nt i))]) C.1.1 C.1.2.1 dW_534 hl (by decide) rfl (fun ls hl => ?_)
    refine lv_aload_n C.1.1 C.1.2.1 dW_536 rfl (lv_at hl 3 rfl) ?_
    refine lv_aload_n C.1.1 C.1.2.1 dW_537 rfl (lv_at hl 1 rfl) ?_
    refine lv_iload C.1.1 C.1.2.1 dW_538 (lv_at hl 5 rfl) ?_
    refine lv_iconst (v := 1) C.1.1 C.1.2.1 dW_540 (by decide) ?_
    refine lv_iadd C.1.1 C.1.2.1 dW_541 ?_
    refine va_sld C.1.1 C.1.2.1 hX hbl hbA hw.2.2.1 in1 dW_542 ?_
    refine mL_call (rest := []) (As := [.int (xs (nt i + 1).toNatClampNeg)]) C hl.1 hw (cM_clear_met eM) (callW_of (rm := rM_clear) (C := "MidiDeskModel") 1 C.1.2.2.2.2 gw_931 gw_932 gw_933 gw_55 gw_934 kM_clear ⟨(Nat.le_of_ble_eq_true rfl), (Nat.le_of_ble_eq_true rfl)⟩) rfl rfl (Nat.le_of_ble_eq_true rfl) dW_543 (B.room (a := 1) (b := 7007) r.ci (by omega) (by omega) (by omega)) (fun H2 locs2 hw => ?_)
    refine W.eq (g2 := F0 m 546 ls [.int v]) rfl ?_
    refine lv_istore (lv' := [(6, .int v), (5, .int 0), (0, .ref b), (1, .ref (qq 0)), (2, .ref q), (3, .ref qo), (4, .int (nt i))]) C.1.1 C.1.2.1 dW_546 hl (by decide) rfl (fun ls hl => ?_)
    refine lv_aload_n C.1.1 C.1.2.1 dW_548 rfl (lv_at hl 4 rfl) ?_
    refine mL_call (rest := []) (As := []) C hl.1 hw (cM_thrown_met (iv := iv') rfl) (callW_of (rm := rM_thrown) (C := "MidiDeskModel") 0 C.1.2.2.2.2 gw_791 gw_792 gw_793 gw_55 gw_794 kM_thrown ⟨(Nat.le_of_ble_eq_true rfl), (Nat.le_of_ble_eq_true rfl)⟩) rfl rfl (Nat.le_of_ble_eq_true rfl) dW_549 (B.room (a := 1) (b := 7007) r.ci (by omega) (by omega) (by omega)) (fun H3 locs3 hw => ?_)
    refine W.eq (g2 := F0 m 552 ls [.int (iv' 0)]) rfl ?_
    refine lv_iload C.1.1 C.1.2.1 dW_552 (lv_at hl 1 rfl) ?_
    refine lv_icmp_eq (tgt := 559) C.1.1 C.1.2.1 dW_554 (by decide) (fun _ => ?_) (fun w => absurd (by rw [e0]; rfl) w)
    refine lv_iload C.1.1 C.1.2.1 dW_559 (lv_at hl 1 rfl) ?_
    refine lv_if_ne (tgt := 576) C.1.1 C.1.2.1 dW_561 (by decide) (fun w => absurd rfl w) (fun _ => ?_)
    refine lv_aload_n C.1.1 C.1.2.1 dW_564 rfl (lv_at hl 5 rfl) ?_
    refine lv_iconst (v := 0) C.1.1 C.1.2.1 dW_565 (by decide) ?_
    refine va_lald (D := g.1) C.1.1 C.1.2.1 C.2.1 hw.1 (h.2.1 + 10) 1 cw_x rfl vi01 dW_566 ?_
    refine lv_iload C.1.1 C.1.2.1 dW_567 (lv_at hl 0 rfl) ?_
    refine lv_i2l (v := Int32.toInt64 v) C.1.1 C.1.2.1 dW_569 rfl ?_
    refine W.lcmp C.1.1 C.1.2.1 dW_570 ?_
    refine lv_if_eq (tgt := 576) C.1.1 C.1.2.1 dW_571 (by decide) (fun _ => ?_) (fun w => absurd (lg_self _) w)
    refine lv_goto (tgt := 726) C.1.1 C.1.2.1 dW_576 (by decide) ?_
    exact kk _ _ _ _ _ _ _ _ _ _ _ _ hw r' (lv_sub hl [2, 3, 4, 5, 6] rfl) (B.up (a := 1) (b := 7007) (by omega) (by omega))
set_option maxHeartbeats 4000000 in
set_option maxRecDepth 100000 in
theorem case_write {p : Program} {l : Launch} {e : Env} {s : State} {m : MethodId} {below : List Frame} {meth : Method} {c : Code} {g : gT} {b L : Nat} {xs : Nat → Int32} {Q : State → Prop} {qq am : Nat → Nat} {qo q : Nat} {i j : Nat} (C : mCx p m c code 8 s #[Value.ref b] g "MidiDeskLaw") (hX : va_X b L xs s s.heap) (hbl : b < s.heap.size) (hE0 : kE (fun q : Nat => s.heap.size ≤ q) s s.heap) (hno : nC s) (hfl : l.flags = flags0) (hi : i + 4 ≤ L) (hL : L ≤ 2048) (hj : j < 512) {ad ea : Nat → Nat} {h : cH} {z : cZ} {f : Nat → Int64} {iv : Nat → Int32} {av : Nat → Nat → Int32} {H : Heap} {locs : List Loc} {cells slots : Nat} {ls : Array Slot} (hw : cWd g (fun q : Nat => s.heap.size ≤ q) s.heap qq ad ea h (lX g qo f q am iv av) z H locs) (r : Rel h z iv av) (hl : lv_has ls 8 [(0, .ref b), (1, .ref (qq 0)), (2, .ref q), (3, .ref qo), (4, .int (nt i))]) (B : Bud h cells slots j) {x2 : Int32} (hx2 : x2 = 0 ∨ x2 = 1) (hxe : x2 = if xs (nt i + 2).toNatClampNeg = 0 then 0 else 1) (kk : ∀ (ad ea : Nat → Nat) (h : cH) (z : cZ) (f : Nat → Int64) (iv : Nat → Int32) (av : Nat → Nat → Int32) (H : Heap) (locs : List Loc) (cells slots : Nat) (ls : Array Slot), cWd g (fun q : Nat => s.heap.size ≤ q) s.heap qq ad ea h (lX g qo f q am iv av) z H locs → Rel h z iv av → lv_has ls 8 [(0, .ref b), (1, .ref (qq 0)), (2, .ref q), (3, .ref qo), (4, .int (nt i))] → Bud h cells slots (j + 1) → W p l e room_1 s m #[Value.ref b] below meth c H locs cells slots Q (F0 m 726 ls [])) : W p l e room_1 s m #[Value.ref b] below meth c H locs cells slots Q (F0 m 600 ls [.int x2, .int (xs (nt i + 1).toNatClampNeg), .ref (qq 0)]) := by
  have hbA : ¬ (fun q : Nat => s.heap.size ≤ q) b := Nat.not_le.mpr hbl
  have in1 : vp_in (nt i + 1) L := in_k (k := 1) (by omega) (by omega)
  have in2 : vp_in (nt i + 2) L := in_k (k := 2) (by omega) (by omega)
  have in3 : vp_in (nt i + 3) L := in_k (k := 3) (by omega) (by omega)
  have hE : kE (fun q : Nat => s.heap.size ≤ q) s H := hE0.kept (fun a ha hA => hw.2.2.1.2.1 a ha hA)
  rcases r_write r (xs (nt i + 1).toNatClampNeg) x2 hx2 with ⟨k, v, hk, eT, eM⟩ | ⟨v, h', z', iv', av', eC, eM, e0, r', gg⟩
  · refine lv_aload_n C.1.1 C.1.2.1 dW_600 rfl (lv_at hl 3 rfl) ?_
    refine h_call (rest := []) (As := [.ref (qq 0), .int (xs (nt i + 1).toNatClampNeg), .int x2, .ref qo]) C hl.1 hw hE hno (cL_write_thr hfl hk eT) rfl gw_645 gw_643 gw_644 gw_51 kL_write ⟨(Nat.le_of_ble_eq_true rfl), (Nat.le_of_ble_eq_true rfl)⟩ rfl rfl (Nat.le_of_ble_eq_true rfl) dW_601 (B.room (a := 1) (b := 6) r.ci (by omega) (by omega) (by omega)) (fun H1 locs1 hw => ?_)
    refine W.eq (g2 := F0 m 604 ls [.int (if k = 1 then 1 else 2)]) rfl ?_
    refine lv_istore (lv' := [(5, .int (if k = 1 then 1 else 2)), (0, .ref b), (1, .ref (qq 0)), (2, .ref q), (3, .ref qo), (4, .int (nt i))]) C.1.1 C.1.2.1 dW_604 hl (by decide) rfl (fun ls hl => ?_)
    refine lv_aload_n C.1.1 C.1.2.1 dW_606 rfl (lv_at hl 3 rfl) ?_
    refine lv_aload_n C.1.1 C.1.2.1 dW_607 rfl (lv_at hl 1 rfl) ?_
    refine lv_iload C.1.1 C.1.2.1 dW_608 (lv_at hl 5 rfl) ?_
    refine lv_iconst (v := 1) C.1.1 C.1.2.1 dW_610 (by decide) ?_
    refine lv_iadd C.1.1 C.1.2.1 dW_611 ?_
    refine va_sld C.1.1 C.1.2.1 hX hbl hbA hw.2.2.1 in1 dW_612 ?_
    refine lv_aload_n C.1.1 C.1.2.1 dW_613 rfl (lv_at hl 1 rfl) ?_
    refine lv_iload C.1.1 C.1.2.1 dW_614 (lv_at hl 5 rfl) ?_
    refine lv_iconst (v := 2) C.1.1 C.1.2.1 dW_616 (by decide) ?_
    refine lv_iadd C.1.1 C.1.2.1 dW_617 ?_
    refine va_sld C.1.1 C.1.2.1 hX hbl hbA hw.2.2.1 in2 dW_618 ?_
    refine lv_bool2 C hxe dW_619 dW_622 dW_623 dW_626 ?_
    refine mL_call (rest := []) (As := [.int (xs (nt i + 1).toNatClampNeg), .int x2]) C hl.1 hw (cM_write_met eM) (callW_of (rm := rM_write) (C := "MidiDeskModel") 2 C.1.2.2.2.2 gw_935 gw_936 gw_937 gw_55 gw_938 kM_write ⟨(Nat.le_of_ble_eq_true rfl), (Nat.le_of_ble_eq_true rfl)⟩) rfl rfl (Nat.le_of_ble_eq_true rfl) dW_627 (B.room (a := 1) (b := 6) r.ci (by omega) (by omega) (by omega)) (fun H2 locs2 hw => ?_)
    refine W.eq (g2 := F0 m 630 ls [.int v]) rfl ?_
    refine lv_istore (lv' := [(6, .int v), (5, .int (if k = 1 then 1 else 2)), (0, .ref b), (1, .ref (qq 0)), (2, .ref q), (3, .ref qo), (4, .int (nt i))]) C.1.1 C.1.2.1 dW_630 hl (by decide) rfl (fun ls hl => ?_)
    refine lv_aload_n C.1.1 C.1.2.1 dW_632 rfl (lv_at hl 4 rfl) ?_
    refine mL_call (rest := []) (As := []) C hl.1 hw (cM_thrown_met (iv := (upd iv 0 (nt k))) rfl) (callW_of (rm := rM_thrown) (C := "MidiDeskModel") 0 C.1.2.2.2.2 gw_791 gw_792 gw_793 gw_55 gw_794 kM_thrown ⟨(Nat.le_of_ble_eq_true rfl), (Nat.le_of_ble_eq_true rfl)⟩) rfl rfl (Nat.le_of_ble_eq_true rfl) dW_633 (B.room (a := 1) (b := 6) r.ci (by omega) (by omega) (by omega)) (fun H3 locs3 hw => ?_)
    refine W.eq (g2 := F0 m 636 ls [.int ((upd iv 0 (nt k)) 0)]) rfl ?_
    refine lv_iload C.1.1 C.1.2.1 dW_636 (lv_at hl 1 rfl) ?_
    refine lv_icmp_eq (tgt := 643) C.1.1 C.1.2.1 dW_638 (by decide) (fun _ => ?_) (fun w => absurd (by rw [upd_s]; rcases hk with w | w <;> rw [w] <;> rfl) w)
    refine lv_iload C.1.1 C.1.2.1 dW_643 (lv_at hl 1 rfl) ?_
    refine lv_if_ne (tgt := 660) C.1.1 C.1.2.1 dW_645 (by decide) (fun _ => ?_) (fun w => absurd w (by rcases hk with w | w <;> rw [w] <;> decide))
    refine lv_goto (tgt := 726) C.1.1 C.1.2.1 dW_660 (by decide) ?_
    exact kk _ _ _ _ _ _ _ _ _ _ _ _ hw r.thr (lv_sub hl [2, 3, 4, 5, 6] rfl) (B.up (a := 1) (b := 6) (by omega) (by omega))
  · refine lv_aload_n C.1.1 C.1.2.1 dW_600 rfl (lv_at hl 3 rfl) ?_
    obtain ⟨rm1, rm2, rm3⟩ := Bud.gr r.ci r'.ci (by omega) B gg (oD_write eC) (by omega) (by omega)
    refine h_callA (rest := []) (As := [.ref (qq 0), .int (xs (nt i + 1).toNatClampNeg), .int x2, .ref qo]) C hl.1 hw hE hno (cL_write_ret eC) gw_645 gw_643 gw_644 gw_51 kL_write ⟨(Nat.le_of_ble_eq_true rfl), (Nat.le_of_ble_eq_true rfl)⟩ rfl rfl (Nat.le_of_ble_eq_true rfl) dW_601 rm1 (fun ad' H1 locs1 hw => ?_)
    refine W.eq (g2 := F0 m 604 ls [.int 0]) rfl ?_
    refine lv_istore (lv' := [(5, .int 0), (0, .ref b), (1, .ref (qq 0)), (2, .ref q), (3, .ref qo), (4, .int (nt i))]) C.1.1 C.1.2.1 dW_604 hl (by decide) rfl (fun ls hl => ?_)
    refine lv_aload_n C.1.1 C.1.2.1 dW_606 rfl (lv_at hl 3 rfl) ?_
    refine lv_aload_n C.1.1 C.1.2.1 dW_607 rfl (lv_at hl 1 rfl) ?_
    refine lv_iload C.1.1 C.1.2.1 dW_608 (lv_at hl 5 rfl) ?_
    refine lv_iconst (v := 1) C.1.1 C.1.2.1 dW_610 (by decide) ?_
    refine lv_iadd C.1.1 C.1.2.1 dW_611 ?_
    refine va_sld C.1.1 C.1.2.1 hX hbl hbA hw.2.2.1 in1 dW_612 ?_
    refine lv_aload_n C.1.1 C.1.2.1 dW_613 rfl (lv_at hl 1 rfl) ?_
    refine lv_iload C.1.1 C.1.2.1 dW_614 (lv_at hl 5 rfl) ?_
    refine lv_iconst (v := 2) C.1.1 C.1.2.1 dW_616 (by decide) ?_
    refine lv_iadd C.1.1 C.1.2.1 dW_617 ?_
    refine va_sld C.1.1 C.1.2.1 hX hbl hbA hw.2.2.1 in2 dW_618 ?_
    refine lv_bool2 C hxe dW_619 dW_622 dW_623 dW_626 ?_
    refine mL_call (rest := []) (As := [.int (xs (nt i + 1).toNatClampNeg), .int x2]) C hl.1 hw (cM_write_met eM) (callW_of (rm := rM_write) (C := "MidiDeskModel") 2 C.1.2.2.2.2 gw_935 gw_936 gw_937 gw_55 gw_938 kM_write ⟨(Nat.le_of_ble_eq_true rfl), (Nat.le_of_ble_eq_true rfl)⟩) rfl rfl (Nat.le_of_ble_eq_true rfl) dW_627 rm1 (fun H2 locs2 hw => ?_)
    refine W.eq (g2 := F0 m 630 ls [.int v]) rfl ?_
    refine lv_istore (lv' := [(6, .int v), (5, .int 0), (0, .ref b), (1, .ref (qq 0)), (2, .ref q), (3, .ref qo), (4, .int (nt i))]) C.1.1 C.1.2.1 dW_630 hl (by decide) rfl (fun ls hl => ?_)
    refine lv_aload_n C.1.1 C.1.2.1 dW_632 rfl (lv_at hl 4 rfl) ?_
    refine mL_call (rest := []) (As := []) C hl.1 hw (cM_thrown_met (iv := iv') rfl) (callW_of (rm := rM_thrown) (C := "MidiDeskModel") 0 C.1.2.2.2.2 gw_791 gw_792 gw_793 gw_55 gw_794 kM_thrown ⟨(Nat.le_of_ble_eq_true rfl), (Nat.le_of_ble_eq_true rfl)⟩) rfl rfl (Nat.le_of_ble_eq_true rfl) dW_633 rm1 (fun H3 locs3 hw => ?_)
    refine W.eq (g2 := F0 m 636 ls [.int (iv' 0)]) rfl ?_
    refine lv_iload C.1.1 C.1.2.1 dW_636 (lv_at hl 1 rfl) ?_
    refine lv_icmp_eq (tgt := 643) C.1.1 C.1.2.1 dW_638 (by decide) (fun _ => ?_) (fun w => absurd (by rw [e0]; rfl) w)
    refine lv_iload C.1.1 C.1.2.1 dW_643 (lv_at hl 1 rfl) ?_
    refine lv_if_ne (tgt := 660) C.1.1 C.1.2.1 dW_645 (by decide) (fun w => absurd rfl w) (fun _ => ?_)
    refine lv_aload_n C.1.1 C.1.2.1 dW_648 rfl (lv_at hl 5 rfl) ?_
    refine lv_iconst (v := 0) C.1.1 C.1.2.1 dW_649 (by decide) ?_
    refine va_lald (D := g.1) C.1.1 C.1.2.1 C.2.1 hw.1 (h'.2.1 + 10) 1 cw_x rfl vi01 dW_650 ?_
    refine lv_iload C.1.1 C.1.2.1 dW_651 (lv_at hl 0 rfl) ?_
    refine lv_i2l (v := Int32.toInt64 v) C.1.1 C.1.2.1 dW_653 rfl ?_
    refine W.lcmp C.1.1 C.1.2.1 dW_654 ?_
    refine lv_if_eq (tgt := 660) C.1.1 C.1.2.1 dW_655 (by decide) (fun _ => ?_) (fun w => absurd (lg_self _) w)
    refine lv_goto (tgt := 726) C.1.1 C.1.2.1 dW_660 (by decide) ?_
    exact kk _ _ _ _ _ _ _ _ _ _ _ _ hw r' (lv_sub hl [2, 3, 4, 5, 6] rfl) ⟨show _ ≤ _ from Nat.le_trans rm2 (by omega), show _ ≤ _ from Nat.le_trans rm3 (by omega)⟩
