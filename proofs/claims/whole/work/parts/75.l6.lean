theorem and15 (x : Int32) : ∃ k, k < 16 ∧ x &&& 15 = nt k := by
  refine ⟨(x &&& 15).toBitVec.toNat, ?_, ?_⟩
  · rw [Int32.toBitVec_and, BitVec.toNat_and]
    exact Nat.lt_of_le_of_lt Nat.and_le_right (by decide)
  · apply Int32.toBitVec.inj; rw [nt_bv]; simp
theorem lim_gt {L i : Nat} (hL : L ≤ 2048) (hi : i ≤ 2048) : (Int32.ofNat L - 4 < nt i) = (L < i + 4) := by
  rw [show Int32.ofNat L = nt L from rfl, show (4 : Int32) = nt 4 from rfl]
  by_cases q : 4 ≤ L
  · rw [nt_sub q, nt_lt (by omega) (by omega)]; exact propext ⟨by omega, by omega⟩
  · rw [Int32.lt_iff_toInt_lt, nt_toInt (by omega)]
    have : (nt L - nt 4).toInt < 0 := by
      rcases (show L = 0 ∨ L = 1 ∨ L = 2 ∨ L = 3 by omega) with w | w | w | w <;> subst w <;> decide
    exact propext ⟨fun _ => by omega, fun _ => by omega⟩
set_option maxHeartbeats 4000000 in
set_option maxRecDepth 100000 in
theorem law_loop {p : Program} {l : Launch} {e : Env} {s : State} {m : MethodId} {below : List Frame} {meth : Method} {c : Code} {g : gT} {b L : Nat} {xs : Nat → Int32} {qq am : Nat → Nat} {qo q : Nat} (C : mCx p m c code 8 s #[Value.ref b] g "MidiDeskLaw") (hX : va_X b L xs s s.heap) (hbl : b < s.heap.size) (hE0 : kE (fun q : Nat => s.heap.size ≤ q) s s.heap) (hno : nC s) (hfl : l.flags = flags0) (hL : L ≤ 2048) (hr : meth.sig.returnType = ret) (hlk : meth.locks = false) :
    ∀ (n i j : Nat), i = 4 * j → i ≤ L → L + 4 ≤ i + 4 * n → ∀ (ad ea : Nat → Nat) (h : cH) (z : cZ) (f : Nat → Int64) (iv : Nat → Int32) (av : Nat → Nat → Int32) (H : Heap) (locs : List Loc) (cells slots : Nat) (ls : Array Slot), cWd g (fun q : Nat => s.heap.size ≤ q) s.heap qq ad ea h (lX g qo f q am iv av) z H locs → Rel h z iv av → lv_has ls 8 [(0, .ref b), (1, .ref (qq 0)), (2, .ref q), (3, .ref qo), (4, .int (nt i))] → Bud h cells slots j →
      W p l e room_1 s m #[Value.ref b] below meth c H locs cells slots (lw_Z below #[Value.ref b] s) (F0 m 23 ls []) := by
  have hbA : ¬ (fun q : Nat => s.heap.size ≤ q) b := Nat.not_le.mpr hbl
  intro n
  induction n with
  | zero => intro i j hij hiL hn; exact absurd hn (by omega)
  | succ n ih =>
    intro i j hij hiL hn ad ea h z f iv av H locs cells slots ls hw r hl B
    refine lv_iload C.1.1 C.1.2.1 dW_23 (lv_at hl 4 rfl) ?_
    refine lv_aload_n C.1.1 C.1.2.1 dW_25 rfl (lv_at hl 0 rfl) ?_
    refine va_slen C.1.1 C.1.2.1 hX hbl hbA hw.2.2.1 dW_26 ?_
    refine lv_iconst (v := 4) C.1.1 C.1.2.1 dW_27 (by decide) ?_
    refine lv_isub C.1.1 C.1.2.1 dW_28 ?_
    refine lv_icmp_gt (tgt := 732) C.1.1 C.1.2.1 dW_29 (by decide) (fun c1 => ?_) (fun c1 => ?_)
    · refine lv_iconst (v := 1) C.1.1 C.1.2.1 dW_732 (by decide) ?_
      refine va_forget (fun q hq => hw.2.2.1.2.2 q hq) ?_
      have rm := B.room (a := 0) (b := 0) r.ci (by omega) (by omega) (by omega)
      refine W.widen (k := 601024) (n := 7293034) rm.1 rm.2 ?_
      exact lw_ret C.1.1 C.1.2.1 hr hlk dW_733
    · rw [lim_gt hL (by omega)] at c1
      have hi : i + 4 ≤ L := by omega
      have hj : j < 512 := by omega
      have in0 : vp_in (nt i) L := ixN (by omega) (by omega)
      have in1 : vp_in (nt i + 1) L := in_k (k := 1) (by omega) (by omega)
      have in2 : vp_in (nt i + 2) L := in_k (k := 2) (by omega) (by omega)
      -- behind a call
      have kk : ∀ (ad ea : Nat → Nat) (h : cH) (z : cZ) (f : Nat → Int64) (iv : Nat → Int32) (av : Nat → Nat → Int32) (H : Heap) (locs : List Loc) (cells slots : Nat) (ls : Array Slot), cWd g (fun q : Nat => s.heap.size ≤ q) s.heap qq ad ea h (lX g qo f q am iv av) z H locs → Rel h z iv av → lv_has ls 8 [(0, .ref b), (1, .ref (qq 0)), (2, .ref q), (3, .ref qo), (4, .int (nt i))] → Bud h cells slots (j + 1) → W p l e room_1 s m #[Value.ref b] below meth c H locs cells slots (lw_Z below #[Value.ref b] s) (F0 m 726 ls []) := by
        intro ad ea h z f iv av H locs cells slots ls hw r hl B
        refine lv_iinc (v := nt (i + 4)) (lv' := [(4, .int (nt (i + 4))), (0, .ref b), (1, .ref (qq 0)), (2, .ref q), (3, .ref qo)]) C.1.1 C.1.2.1 dW_726 hl (k := 4) rfl (by show nt i + nt 4 = _; rw [nt_add]) (by decide) rfl (fun ls hl => ?_)
        refine lv_goto (tgt := 23) C.1.1 C.1.2.1 dW_729 (by decide) ?_
        exact ih (i + 4) (j + 1) (by omega) (by omega) (by omega) ad ea h z f iv av H locs cells slots ls hw r (lv_sub hl [1, 2, 3, 4, 0] rfl) B
      refine lv_aload_n C.1.1 C.1.2.1 dW_32 rfl (lv_at hl 0 rfl) ?_
      refine lv_iload C.1.1 C.1.2.1 dW_33 (lv_at hl 4 rfl) ?_
      refine va_sld C.1.1 C.1.2.1 hX hbl hbA hw.2.2.1 in0 dW_35 ?_
      refine lv_bipush (v := 15) C.1.1 C.1.2.1 dW_36 (by decide) ?_
      refine lv_iand C.1.1 C.1.2.1 dW_38 ?_
      obtain ⟨k, hk, ek⟩ := and15 (xs (nt i).toNatClampNeg)
      rw [ek]
      rcases (show k = 0 ∨ k = 1 ∨ k = 2 ∨ k = 3 ∨ k = 4 ∨ k = 5 ∨ k = 6 ∨ k = 7 ∨ k = 8 ∨ k = 9 ∨ k = 10 ∨ k = 11 ∨ k = 12 ∨ k = 13 ∨ k = 14 ∨ k = 15 by omega) with w | w | w | w | w | w | w | w | w | w | w | w | w | w | w | w <;> subst w
      · refine lv_tableIn (tgt := 108) (off := 69) C.1.1 C.1.2.1 dW_39 (by decide) (by decide) (by decide) (by decide) ?_
        exact case_feed C hX hbl hE0 hno hfl hi hL hj hw r hl B kk
      · refine lv_tableIn (tgt := 177) (off := 138) C.1.1 C.1.2.1 dW_39 (by decide) (by decide) (by decide) (by decide) ?_
        exact case_read C hX hbl hE0 hno hfl hi hL hj hw r hl B kk
      · refine lv_tableIn (tgt := 190) (off := 151) C.1.1 C.1.2.1 dW_39 (by decide) (by decide) (by decide) (by decide) ?_
        exact case_event C hX hbl hE0 hno hfl hi hL hj hw r hl B kk
      · refine lv_tableIn (tgt := 227) (off := 188) C.1.1 C.1.2.1 dW_39 (by decide) (by decide) (by decide) (by decide) ?_
        exact case_byteOf C hX hbl hE0 hno hfl hi hL hj hw r hl B kk
      · refine lv_tableIn (tgt := 264) (off := 225) C.1.1 C.1.2.1 dW_39 (by decide) (by decide) (by decide) (by decide) ?_
        exact case_time C hX hbl hE0 hno hfl hi hL hj hw r hl B kk
      · refine lv_tableIn (tgt := 319) (off := 280) C.1.1 C.1.2.1 dW_39 (by decide) (by decide) (by decide) (by decide) ?_
        exact case_rest C hX hbl hE0 hno hfl hi hL hj hw r hl B kk
      · refine lv_tableIn (tgt := 374) (off := 335) C.1.1 C.1.2.1 dW_39 (by decide) (by decide) (by decide) (by decide) ?_
        exact case_length C hX hbl hE0 hno hfl hi hL hj hw r hl B kk
      · refine lv_tableIn (tgt := 399) (off := 360) C.1.1 C.1.2.1 dW_39 (by decide) (by decide) (by decide) (by decide) ?_
        exact case_transpose C hX hbl hE0 hno hfl hi hL hj hw r hl B kk
      · refine lv_tableIn (tgt := 467) (off := 428) C.1.1 C.1.2.1 dW_39 (by decide) (by decide) (by decide) (by decide) ?_
        exact case_grid C hX hbl hE0 hno hfl hi hL hj hw r hl B kk
      · refine lv_tableIn (tgt := 523) (off := 484) C.1.1 C.1.2.1 dW_39 (by decide) (by decide) (by decide) (by decide) ?_
        exact case_clear C hX hbl hE0 hno hfl hi hL hj hw r hl B kk
      · refine lv_tableIn (tgt := 579) (off := 540) C.1.1 C.1.2.1 dW_39 (by decide) (by decide) (by decide) (by decide) ?_
        refine lv_aload_n C.1.1 C.1.2.1 dW_579 rfl (lv_at hl 1 rfl) ?_
        refine lv_aload_n C.1.1 C.1.2.1 dW_580 rfl (lv_at hl 0 rfl) ?_
        refine lv_iload C.1.1 C.1.2.1 dW_581 (lv_at hl 4 rfl) ?_
        refine lv_iconst (v := 1) C.1.1 C.1.2.1 dW_583 (by decide) ?_
        refine lv_iadd C.1.1 C.1.2.1 dW_584 ?_
        refine va_sld C.1.1 C.1.2.1 hX hbl hbA hw.2.2.1 in1 dW_585 ?_
        refine lv_aload_n C.1.1 C.1.2.1 dW_586 rfl (lv_at hl 0 rfl) ?_
        refine lv_iload C.1.1 C.1.2.1 dW_587 (lv_at hl 4 rfl) ?_
        refine lv_iconst (v := 2) C.1.1 C.1.2.1 dW_589 (by decide) ?_
        refine lv_iadd C.1.1 C.1.2.1 dW_590 ?_
        refine va_sld C.1.1 C.1.2.1 hX hbl hbA hw.2.2.1 in2 dW_591 ?_
        refine lv_if_eq (tgt := 599) C.1.1 C.1.2.1 dW_592 (by decide) (fun w => ?_) (fun w => ?_)
        · refine lv_iconst (v := 0) C.1.1 C.1.2.1 dW_599 (by decide) ?_
          exact case_write C hX hbl hE0 hno hfl hi hL hj hw r hl B (.inl rfl) (by rw [if_pos w]) kk
        · refine lv_iconst (v := 1) C.1.1 C.1.2.1 dW_595 (by decide) ?_
          refine lv_goto (tgt := 600) C.1.1 C.1.2.1 dW_596 (by decide) ?_
          exact case_write C hX hbl hE0 hno hfl hi hL hj hw r hl B (.inr rfl) (by rw [if_neg w]) kk
      · refine lv_tableIn (tgt := 663) (off := 624) C.1.1 C.1.2.1 dW_39 (by decide) (by decide) (by decide) (by decide) ?_
        exact case_written C hX hbl hE0 hno hfl hi hL hj hw r hl B kk
      · refine lv_tableIn (tgt := 688) (off := 649) C.1.1 C.1.2.1 dW_39 (by decide) (by decide) (by decide) (by decide) ?_
        exact case_back C hX hbl hE0 hno hfl hi hL hj hw r hl B kk
      · refine lv_tableIn (tgt := 701) (off := 662) C.1.1 C.1.2.1 dW_39 (by decide) (by decide) (by decide) (by decide) ?_
        exact case_count C hX hbl hE0 hno hfl hi hL hj hw r hl B kk
      · refine lv_tableOut (tgt := 726) C.1.1 C.1.2.1 dW_39 (by decide) (by decide) ?_
        exact kk ad ea h z f iv av H locs cells slots ls hw r hl B.up0
      · refine lv_tableOut (tgt := 726) C.1.1 C.1.2.1 dW_39 (by decide) (by decide) ?_
        exact kk ad ea h z f iv av H locs cells slots ls hw r hl B.up0
