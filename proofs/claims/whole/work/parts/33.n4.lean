theorem LST.ix {h z iv av n o nd fm tr dv} (w : LST h z iv av n o nd fm tr dv) {k : Nat} (hk : k < n) : o k < 1001 := by
  have := w.ev.ol k hk; have := w.ev.mx; omega
theorem r_event {h z iv av} (r : Rel h z iv av) (x1 x2 : Int32) : ∃ v, fD_event h z x1 x2 = some (v, z) ∧ fM_event iv av x1 x2 = some (v, upd iv 0 0, av) := by
  unfold fD_event fM_event
  rcases sAt (r.thr (x := 0)) x1 with ⟨a, b⟩ | ⟨i, n, o, nd, fm, tr, dv, hi, rfl, p, w, a, b⟩
  · rw [a, b]; exact ⟨-1, rfl, rfl⟩
  · rw [a, b]
    have hc := r.ci.ev (t := i) (by have := w.ev.ne; omega)
    have ho := w.ix hi
    have hn := w.ev.mx
    have e := w.ev.eq i hi
    simp only [bind_s, Option.bind_some]
    rw [if_neg (by simp), if_neg (show ¬ (1 : Int32) = 0 by decide), if_neg (ixN (by omega) (by omega)), nt_cl (by omega)]
    rw [e 0 (by omega), e 1 (by omega), e 2 (by omega), e 3 (by omega), e 4 (by omega), e 6 (by omega)]
    simp only [lit]
    by_cases q0 : x2 = nt 0
    · refine ⟨av 1 (o i), ?_, ?_⟩ <;> simp (disch := omega) only [lit, ixF, nt_le, nt_lt, nt_eq, nt_cl, nt_add, nt_sub, bind_s, if_true, if_false, if_pos, if_neg, upd_s, k8, k16, k7, k4, s_r8, s_l7, s_l8, s_l16, a255, a127, q0, w.om i hi]
    by_cases q1 : x2 = nt 1
    · refine ⟨av 2 (o i), ?_, ?_⟩ <;> simp (disch := omega) only [lit, ixF, nt_le, nt_lt, nt_eq, nt_cl, nt_add, nt_sub, bind_s, if_true, if_false, if_pos, if_neg, upd_s, k8, k16, k7, k4, s_r8, s_l7, s_l8, s_l16, a255, a127, q1, w.om i hi]
    by_cases q2 : x2 = nt 2
    · refine ⟨av 3 (o i), ?_, ?_⟩ <;> simp (disch := omega) only [lit, ixF, nt_le, nt_lt, nt_eq, nt_cl, nt_add, nt_sub, bind_s, if_true, if_false, if_pos, if_neg, upd_s, k8, k16, k7, k4, s_r8, s_l7, s_l8, s_l16, a255, a127, q2, w.om i hi]
    by_cases q3 : x2 = nt 3
    · refine ⟨av 4 (o i), ?_, ?_⟩ <;> simp (disch := omega) only [lit, ixF, nt_le, nt_lt, nt_eq, nt_cl, nt_add, nt_sub, bind_s, if_true, if_false, if_pos, if_neg, upd_s, k8, k16, k7, k4, s_r8, s_l7, s_l8, s_l16, a255, a127, q3, w.om i hi]
    by_cases q4 : x2 = nt 4
    · refine ⟨av 5 (o i), ?_, ?_⟩ <;> simp (disch := omega) only [lit, ixF, nt_le, nt_lt, nt_eq, nt_cl, nt_add, nt_sub, bind_s, if_true, if_false, if_pos, if_neg, upd_s, k8, k16, k7, k4, s_r8, s_l7, s_l8, s_l16, a255, a127, q4, w.om i hi]
    by_cases q5 : x2 = nt 5
    · refine ⟨av 7 (o i), ?_, ?_⟩ <;> simp (disch := omega) only [lit, ixF, nt_le, nt_lt, nt_eq, nt_cl, nt_add, nt_sub, bind_s, if_true, if_false, if_pos, if_neg, upd_s, k8, k16, k7, k4, s_r8, s_l7, s_l8, s_l16, a255, a127, q5, w.om i hi]
    exact ⟨-nt 1, by simp only [q0, q1, q2, q3, q4, q5, if_false], by simp only [q0, q1, q2, q3, q4, q5, if_false]⟩
theorem r_written {h z iv av} (r : Rel h z iv av) (x : Int32) : ∃ v, fD_written h z x = some (v, z) ∧ fM_written iv av x = some (v, upd iv 0 0, av) := by
  obtain ⟨n, w⟩ := r.out
  have := w.mx; have := w.cap
  unfold fD_written fM_written fB1_at
  rw [w.c, upd_n (by decide), w.m]
  by_cases hx : x < 0
  · exact ⟨-1, by rw [if_pos hx]; rfl, by rw [if_pos hx]⟩
  obtain ⟨i, hi, rfl⟩ := lt_nt hx
  by_cases hni : n ≤ i
  · exact ⟨-1, by simp (disch := omega) only [lit, ixF, nt_le, nt_lt, nt_eq, nt_cl, nt_add, nt_sub, bind_s, if_true, if_false, if_pos, if_neg, upd_s, k8, k16, k7, k4, s_r8, s_l7, s_l8, s_l16, a255, a127], by simp (disch := omega) only [lit, ixF, nt_le, nt_lt, nt_eq, nt_cl, nt_add, nt_sub, bind_s, if_true, if_false, if_pos, if_neg, upd_s, k8, k16, k7, k4, s_r8, s_l7, s_l8, s_l16, a255, a127]⟩
  · exact ⟨za z 1 i, by simp (disch := omega) only [lit, ixF, nt_le, nt_lt, nt_eq, nt_cl, nt_add, nt_sub, bind_s, if_true, if_false, if_pos, if_neg, upd_s, k8, k16, k7, k4, s_r8, s_l7, s_l8, s_l16, a255, a127], by simp (disch := omega) only [lit, ixF, nt_le, nt_lt, nt_eq, nt_cl, nt_add, nt_sub, bind_s, if_true, if_false, if_pos, if_neg, upd_s, k8, k16, k7, k4, s_r8, s_l7, s_l8, s_l16, a255, a127, w.eq i (by omega)]⟩
/-- the size of an event's bytes -/
theorem EvOK.sz {a : Nat → Int32} {nd tr : Nat} (k : EvOK a nd tr) : a 6 = -1 ∨ ∃ st c, a 5 = nt st ∧ a 6 = nt c ∧ st + c ≤ nd := by
  obtain ⟨s, e, q | q | q⟩ := k.kind
  · exact .inl q.2.2.2.2
  · exact .inr q.2.2.2
  · obtain ⟨_, _, f, st, c, _, _, e1, e2, e3, _⟩ := q; exact .inr ⟨st, c, e1, e2, e3⟩
theorem r_byteOf {h z iv av} (r : Rel h z iv av) (x1 x2 : Int32) : ∃ v, fD_byteOf h z x1 x2 = some (v, z) ∧ fM_byteOf iv av x1 x2 = some (v, upd iv 0 0, av) := by
  unfold fD_byteOf fM_byteOf
  rcases sAt (r.thr (x := 0)) x1 with ⟨a, b⟩ | ⟨i, n, o, nd, fm, tr, dv, hi, rfl, p, w, a, b⟩
  · rw [a, b]; exact ⟨-1, rfl, rfl⟩
  · rw [a, b]
    have hc := r.ci.ev (t := i) (by have := w.ev.ne; omega)
    have ho := w.ix hi
    have hn := w.ev.mx
    have e := w.ev.eq i hi
    have ds := w.da.mx
    have ok := w.ok (o i) (w.ev.ol i hi)
    simp only [bind_s, Option.bind_some]
    rw [if_neg (by simp), if_neg (show ¬ (1 : Int32) = 0 by decide)]
    by_cases hx : x2 < 0
    · rw [if_pos hx, if_pos hx]; exact ⟨_, rfl, rfl⟩
    rw [if_neg hx, if_neg hx, if_neg (by omega)]
    obtain ⟨j, hj, rfl⟩ := lt_nt hx
    rw [e 6 (by omega), e 5 (by omega)]
    simp (disch := omega) only [lit, ixF, nt_le, nt_lt, nt_eq, nt_cl, nt_add, nt_sub, bind_s, if_true, if_false, if_pos, if_neg, upd_s, k8, k16, k7, k4, s_r8, s_l7, s_l8, s_l16, a255, a127, w.om i hi]
    rcases ok.sz with q | ⟨st, c, q1, q2, q3⟩
    · simp only [Nat.reduceAdd] at q
      rw [q, if_neg, if_pos]
      · exact ⟨_, rfl, rfl⟩
      · rw [Int32.le_iff_toInt_le, nt_toInt hj, show (-1 : Int32).toInt = -1 from rfl]; omega
      · rw [Int32.lt_iff_toInt_lt, nt_toInt hj, show (-1 : Int32).toInt = -1 from rfl]; omega
    · simp only [Nat.reduceAdd] at q1 q2
      rw [q1, q2]
      by_cases hjc : j < c
      · have := at2 (h := h) (i := st + j) w.da.c (by omega) w.da.cap (by omega)
        simp (disch := omega) only [lit, ixF, nt_le, nt_lt, nt_eq, nt_cl, nt_add, nt_sub, bind_s, if_true, if_false, if_pos, if_neg, upd_s, k8, k16, k7, k4, s_r8, s_l7, s_l8, s_l16, a255, a127, this]
        exact ⟨_, rfl, by rw [w.da.eq _ (by omega)]⟩
      · simp (disch := omega) only [lit, ixF, nt_le, nt_lt, nt_eq, nt_cl, nt_add, nt_sub, bind_s, if_true, if_false, if_pos, if_neg, upd_s, k8, k16, k7, k4, s_r8, s_l7, s_l8, s_l16, a255, a127]; exact ⟨_, rfl, rfl⟩
