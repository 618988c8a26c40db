section KS
variable {s : State} {b : Nat}
theorem tb_in {w : Cond} (i : Nat) (h : lw_tbl[i]? = some w) : w ∈ lw_tbl := List.mem_of_getElem? h
/-- the classes, and the array classes, are known at the law's entry -/
theorem k_start (hts : ∀ w ∈ lw_tbl, w.before #[Value.ref b] s = true) : ∃ g : gT, kK g s := by
  have hgw : ∀ w ∈ gw, w.before #[Value.ref b] s = true := fun w hw => hts w (List.mem_filter.mp hw).1
  obtain ⟨c0, j0, k0⟩ := u_known (n := 3) hgw i_Bytes (hts _ (tb_in 76 (by decide +kernel)))
  obtain ⟨c1, j1, k1⟩ := u_known (n := 7) hgw i_Event (hts _ (tb_in 328 (by decide +kernel)))
  obtain ⟨c2, j2, k2⟩ := u_known (n := 13) hgw i_Parser (hts _ (tb_in 184 (by decide +kernel)))
  obtain ⟨c3, j3, k3⟩ := u_known (n := 5) hgw i_Printer (hts _ (tb_in 652 (by decide +kernel)))
  obtain ⟨c4, j4, k4⟩ := u_known (n := 8) hgw i_Score (hts _ (tb_in 93 (by decide +kernel)))
  obtain ⟨c5, j5, k5⟩ := u_known (n := 3) hgw i_Desk (hts _ (tb_in 68 (by decide +kernel)))
  obtain ⟨c6, j6, k6⟩ := u_known (n := 25) hgw i_Model (hts _ (tb_in 709 (by decide +kernel)))
  obtain ⟨a1, x1, m1, f1, g1, h1⟩ := Cond.arrayClass_spec (type := .int) (hts _ (tb_in 91 (by decide +kernel)))
  obtain ⟨a2, x2, m2, f2, g2, h2⟩ := Cond.arrayClass_spec (type := .long) (hts _ (tb_in 976 (by decide +kernel)))
  obtain ⟨m3, a3, x3, e3, -, g3, h3, f3⟩ := Cond.arrayOver_spec (n := "MidiDesk$Event") (hts _ (tb_in 101 (by decide +kernel)))
  refine ⟨((fun k => match k with | 0 => c0 | 1 => c1 | 2 => c2 | 3 => c3 | 4 => c4 | 5 => c5 | _ => c6, fun k => match k with | 0 => j0 | 1 => j1 | 2 => j2 | 3 => j3 | 4 => j4 | 5 => j5 | _ => j6), a1, a2, a3), ⟨fun k q hq => ?_, fun k q hq => ?_⟩, fun w hw => ?_, va_AO.of (hts _ (tb_in 101 (by decide +kernel)))⟩
  · match k, hq with
    | 0, hq => cases hq; exact k0
    | 1, hq => cases hq; exact k1
    | 2, hq => cases hq; exact k2
    | 3, hq => cases hq; exact k3
    | 4, hq => cases hq; exact k4
    | 5, hq => cases hq; exact k5
    | 6, hq => cases hq; exact k6
    | n + 7, hq => cases hq
  · match k, hq with
    | 0, hq => cases hq; exact ⟨fun N z => ⟨fun k h => (by cases h), x1, g1, m1, h1⟩, f1⟩
    | 1, hq => cases hq; exact ⟨fun N z => ⟨fun k h => (by cases h), x2, g2, m2, h2⟩, f2⟩
    | 2, hq => cases hq; exact ⟨fun N z => ⟨fun k h => (by cases h), x3, g3, m3, h3⟩, x3, m3, g3, h3, e3, f3⟩
    | n + 3, hq => cases hq
  · obtain ⟨q1, q2⟩ := List.mem_filter.mp hw
    exact va_Nw.of (nest_onT q2) (hts w (List.mem_append_right _ q1))
theorem z_start {n d : String} (hl : (Cond.laysStatic nT n d).before #[Value.ref b] s = true) (hr : (Cond.isRef (.static nT n d)).before #[Value.ref b] s = true) : sZ n d (fun q : Nat => s.heap.size ≤ q) s s.heap := by
  obtain ⟨c, k, i, fd, a, cell, hc, hf, hst, hsta, hcell, hiss, hcls, hlt, hty⟩ := Cond.laysStatic_spec hl
  obtain ⟨v, hv, href⟩ := Cond.isRef_spec hr
  have e1 : cell.slots[fd.slot]? = some cell.slots[fd.slot] := Array.getElem?_eq_getElem hlt
  have e2 := Term.static_eval (args := #[Value.ref b]) (first := s) (o := none) (idx := []) hf hst hsta hcell hiss e1
  cases hv.symm.trans e2
  exact ⟨c, k, i, fd, a, cell, _, href, hc, hf, hst, hsta, hcell, hiss, hcls, hlt, hty, e1, Nat.not_le.mpr (Array.getElem?_eq_some_iff.mp hcell).1⟩
theorem r_start {k : Nat} {tx : String} (h1 : (Cond.stringRef "MidiDesk" k tx).before #[Value.ref b] s = true) (h2 : (Cond.exactly (.string "MidiDesk" k) "java/lang/String").before #[Value.ref b] s = true) : ∃ a, vk_R "MidiDesk" k tx a s := by
  obtain ⟨a, c, cA, kA, q1, q2, q3, q4, q5, q6, -⟩ := Cond.exactly_spec (args := #[Value.ref b]) (first := s) (o := none) (s := s) (idx := []) h2
  exact ⟨a, vk_R.of h1 q1⟩
/-- .. and what the throws ask -/
theorem kE_start (hts : ∀ w ∈ lw_tbl, w.before #[Value.ref b] s = true) (hgv : (Jvm.Cond.and given_1 narrow_1).before #[Value.ref b] s = true) : kE (fun q : Nat => s.heap.size ≤ q) s s.heap := by
  have hs := flat_of_before _ hgv
  have hin : ∀ w ∈ exw, w ∈ lw_tbl := by
    have e1 : (Cond.castable nE1 nE1) ∈ lw_tbl := tb_in 486 (by decide +kernel)
    have e2 : (Cond.castable nE2 nE2) ∈ lw_tbl := tb_in 558 (by decide +kernel)
    have e3 : (Cond.declares ⟨"java/lang/RuntimeException", "<init>", "(Ljava/lang/String;)V"⟩) ∈ lw_tbl := tb_in 488 (by decide +kernel)
    have e4 : (Cond.declares ⟨"java/lang/Exception", "<init>", "(Ljava/lang/String;)V"⟩) ∈ lw_tbl := tb_in 490 (by decide +kernel)
    have e5 : (Cond.declares ⟨nT, "<init>", "(Ljava/lang/String;)V"⟩) ∈ lw_tbl := tb_in 492 (by decide +kernel)
    exact List.forall_mem_cons.mpr ⟨e1, List.forall_mem_cons.mpr ⟨e2, List.forall_mem_cons.mpr ⟨e3, List.forall_mem_cons.mpr ⟨e4, List.forall_mem_cons.mpr ⟨e5, fun _ h => absurd h List.not_mem_nil⟩⟩⟩⟩⟩
  refine ⟨fun w hw => va_Nw.of (ex_onT (exw_is w hw)) (hts w (hin w hw)), ?_, z_start (hts _ (tb_in 511 (by decide +kernel))) (hs _ (by decide +kernel)), z_start (hts _ (tb_in 513 (by decide +kernel))) (hs _ (by decide +kernel))⟩
  exact List.forall_mem_cons.mpr ⟨r_start (hts _ (tb_in 524 (by decide +kernel))) (hs _ (by decide +kernel)), List.forall_mem_cons.mpr ⟨r_start (hts _ (tb_in 565 (by decide +kernel))) (hs _ (by decide +kernel)), List.forall_mem_cons.mpr ⟨r_start (hts _ (tb_in 598 (by decide +kernel))) (hs _ (by decide +kernel)), List.forall_mem_cons.mpr ⟨r_start (hts _ (tb_in 620 (by decide +kernel))) (hs _ (by decide +kernel)), List.forall_mem_cons.mpr ⟨r_start (hts _ (tb_in 624 (by decide +kernel))) (hs _ (by decide +kernel)), List.forall_mem_cons.mpr ⟨r_start (hts _ (tb_in 638 (by decide +kernel))) (hs _ (by decide +kernel)), List.forall_mem_cons.mpr ⟨r_start (hts _ (tb_in 650 (by decide +kernel))) (hs _ (by decide +kernel)), fun _ h => absurd h List.not_mem_nil⟩⟩⟩⟩⟩⟩⟩
theorem nC_start (hgv : (Jvm.Cond.and given_1 narrow_1).before #[Value.ref b] s = true) : nC s := by
  have hs := flat_of_before _ hgv
  have h : (Cond.not (.castable nE2 nE1)).before #[Value.ref b] s = true := hs _ (by decide +kernel)
  intro x y h1 h2
  simp only [Cond.before, Cond.holds, Cond.value, h1, h2] at h
  cases q : s.vm.assignable x y with
  | false => rfl
  | true => simp [q] at h
end KS
