def bOf (a b : Nat → Int32) : Bool := bEnd a && decide (a 1 = b 1 ∧ a 3 = b 3 ∧ (a 2 &&& 15) = (b 2 &&& 15))
theorem c_endsOf {h z j i} (hj : j < h.2.1) (hi : i < h.2.1) : fE_endsNoteOf h z j (some i) = some (b2 (bOf (ze z j) (ze z i)), z) := by
  unfold fE_endsNoteOf bOf
  rw [if_neg (by omega), c_ends hj]
  simp only [bind_s, Option.bind_some]
  rw [if_neg (show ¬ h.2.1 ≤ i by omega)]
  cases q : bEnd (ze z j)
  · simp [b2]
  · rw [if_neg (by decide)]
    by_cases q1 : ze z j 1 = ze z i 1 <;> by_cases q2 : ze z j 3 = ze z i 3 <;> by_cases q3 : (ze z j 2 &&& 15) = (ze z i 2 &&& 15) <;> simp [q1, q2, q3, b2]
theorem bOf_eq {a b a' b' : Nat → Int32} (e : ∀ f, f < 7 → a f = a' f) (e' : ∀ f, f < 7 → b f = b' f) : bOf a b = bOf a' b' := by
  unfold bOf bEnd
  rw [e 1 (by omega), e 2 (by omega), e 3 (by omega), e 4 (by omega), e' 1 (by omega), e' 2 (by omega), e' 3 (by omega)]
theorem bBegin_eq {a a' : Nat → Int32} (e : ∀ f, f < 7 → a f = a' f) : bBegin a = bBegin a' := by
  unfold bBegin; rw [e 2 (by omega), e 4 (by omega)]
theorem bTempo_eq {a a' : Nat → Int32} (e : ∀ f, f < 7 → a f = a' f) : bTempo a = bTempo a' := by
  unfold bTempo; rw [e 2 (by omega), e 3 (by omega)]
theorem l_length {h z iv av n o nd fm tr dv} (ci : CI h z) (w : LST h z iv av n o nd fm tr dv) {b : Nat} (hb : b < n) : ∀ m fuel i, i + m = n → m < fuel →
    ∃ v, lS_noteTicks_23 h fuel z (some (rr z b)) (nt i) = some (v, z) ∧ lM_length_39 fuel iv av (nt (o b)) (nt i) = some (v, iv, av) := by
  have h1 := ci.ne; have h2 := ci.u3; have hn := w.ev.mx; have hne := w.ev.ne; have hbb := ci.ev (t := b) (by omega); have ob := w.ix hb
  intro m
  induction m with
  | zero => intro fuel i hi hf; obtain ⟨k, rfl⟩ : ∃ k, fuel = k + 1 := ⟨fuel - 1, by omega⟩
            have : i = n := by omega
            subst this; unfold lS_noteTicks_23 lM_length_39; exact ⟨-nt 1, by simp (disch := omega) only [lit, ixF, nt_le, nt_lt, nt_eq, nt_cl, nt_add, nt_sub, bind_s, if_true, if_false, if_pos, if_neg, upd_s, k8, k16, k7, k4, s_r8, s_l7, s_l8, s_l16, a255, a127, w.ev.c], by simp (disch := omega) only [lit, ixF, nt_le, nt_lt, nt_eq, nt_cl, nt_add, nt_sub, bind_s, if_true, if_false, if_pos, if_neg, upd_s, k8, k16, k7, k4, s_r8, s_l7, s_l8, s_l16, a255, a127, w.ev.m]⟩
  | succ m ih =>
    intro fuel i hi hf; obtain ⟨k, rfl⟩ : ∃ k, fuel = k + 1 := ⟨fuel - 1, by omega⟩
    have hj := ci.ev (t := i) (by omega)
    obtain ⟨v, a, c⟩ := ih k (i + 1) (by omega) (by omega)
    unfold lS_noteTicks_23 lM_length_39 jM_length_133
    have oi := w.ix (show i < n by omega)
    have ei := w.ev.eq i (by omega)
    have eb := w.ev.eq b hb
    simp (disch := omega) only [lit, ixF, nt_le, nt_lt, nt_eq, nt_cl, nt_add, nt_sub, bind_s, if_true, if_false, if_pos, if_neg, upd_s, k8, k16, k7, k4, s_r8, s_l7, s_l8, s_l16, a255, a127, w.ev.c, w.ev.m, ci.ro i (by omega), Option.bind_some, c_endsOf hj hbb, b2_0, w.om i (by omega), m_ends (iv := iv) oi (w.ok _ (w.ev.ol i (by omega)))]
    rw [bOf_eq (a' := fe av (o i)) (b' := fe av (o b)) ei eb, ei 0 (by omega), eb 0 (by omega)]
    unfold bOf fe
    simp only [Nat.reduceAdd, lit]
    cases q0 : bEnd (fe av (o i))
    · refine ⟨v, ?_, ?_⟩
      · have q0' : bEnd (fun f => av (f + 1) (o i)) = false := q0
        simp [q0', a]
      · have q0' : bEnd (fun f => av (f + 1) (o i)) = false := q0
        simp [q0', c]
    · have q0' : bEnd (fun f => av (f + 1) (o i)) = true := q0
      by_cases q1 : av 2 (o i) = av 2 (o b) <;> by_cases q2 : av 4 (o i) = av 4 (o b) <;> by_cases q3 : (av 3 (o i) &&& nt 15) = (av 3 (o b) &&& nt 15)
      case pos => exact ⟨av 1 (o i) - av 1 (o b), by simp [q0', q1, q2, q3], by simp [q0', q1, q2, q3]⟩
      all_goals exact ⟨v, by simp [q0', q1, q2, q3, a], by simp [q0', q1, q2, q3, c]⟩
theorem r_length {h z iv av} (r : Rel h z iv av) (x : Int32) : ∃ v, fD_length h z x = some (v, z) ∧ fM_length iv av x = some (v, upd iv 0 0, av) := by
  unfold fD_length fM_length fS_noteTicks
  rcases sAt (r.thr (x := 0)) x with ⟨a, b⟩ | ⟨i, n, o, nd, fm, tr, dv, hi, rfl, p, w, a, b⟩
  · rw [a, b]; exact ⟨-1, rfl, rfl⟩
  · rw [a, b]
    have hne := w.ev.ne
    have hc := r.ci.ev (t := i) (by omega)
    have ho := w.ix hi
    have hn := w.ev.mx
    have e := w.ev.eq i hi
    obtain ⟨v, a, c⟩ := l_length r.ci w hi (n - (i + 1)) FU (i + 1) (by omega) (FUn (by omega))
    simp (disch := omega) only [lit, ixF, nt_le, nt_lt, nt_eq, nt_cl, nt_add, nt_sub, bind_s, if_true, if_false, if_pos, if_neg, upd_s, k8, k16, k7, k4, s_r8, s_l7, s_l8, s_l16, a255, a127, Option.bind_some, c_begins hc, b2_0, w.om i hi, m_begins ho (w.ok _ (w.ev.ol i hi)), bBegin_eq (a' := fe av (o i)) e, nt_64]
    rw [if_neg (by simp)]
    cases q : bBegin (fe av (o i))
    · exact ⟨-nt 1, by simp, by simp⟩
    · refine ⟨v, ?_, ?_⟩
      · simp only [if_false, Bool.true_eq_false]; rw [a]; rfl
      · simp only [if_false, Bool.true_eq_false]; exact c
theorem r_parts {h z iv av n o nd fm tr dv} (w : LST h z iv av n o nd fm tr dv) : ∃ P, 0 < P ∧ P < 40000 ∧ fS_partsOfMicrosecond h z = some (nt P, z) ∧ fM_parts iv av = some (mt P, iv, av) := by
  unfold fS_partsOfMicrosecond fM_parts fS_hasFrames fS_frames
  have hd := w.dmx
  rcases hd with d | d
  · refine ⟨dv, by omega, by omega, ?_, ?_⟩
    · by_cases q : 1 < dv
      · simp (disch := omega) only [lit, ixF, nt_le, nt_lt, nt_eq, nt_cl, nt_add, nt_sub, bind_s, if_true, if_false, if_pos, if_neg, upd_s, k8, k16, k7, k4, s_r8, s_l7, s_l8, s_l16, a255, a127, w.dc]
      · have : dv = 1 := by omega
        subst this; simp (disch := omega) only [lit, ixF, nt_le, nt_lt, nt_eq, nt_cl, nt_add, nt_sub, bind_s, if_true, if_false, if_pos, if_neg, upd_s, k8, k16, k7, k4, s_r8, s_l7, s_l8, s_l16, a255, a127, w.dc]
    · simp (disch := omega) only [lit, ixF, nt_le, nt_lt, nt_eq, nt_cl, nt_add, nt_sub, bind_s, if_true, if_false, if_pos, if_neg, upd_s, k8, k16, k7, k4, s_r8, s_l7, s_l8, s_l16, a255, a127, nt_64, w.di]
  · have hx : dv < 2147483648 := by omega
    by_cases q : dv / 256 = 227
    · refine ⟨dv % 256 * 3, by omega, by omega, ?_, ?_⟩
      · by_cases q1 : 1 < dv % 256
        · simp (disch := omega) only [lit, ixF, nt_le, nt_lt, nt_eq, nt_cl, nt_add, nt_sub, bind_s, if_true, if_false, if_pos, if_neg, upd_s, k8, k16, k7, k4, s_r8, s_l7, s_l8, s_l16, a255, a127, nt_mul, w.dc]
        · have : dv % 256 = 1 := by omega
          simp (disch := omega) only [lit, ixF, nt_le, nt_lt, nt_eq, nt_cl, nt_add, nt_sub, bind_s, if_true, if_false, if_pos, if_neg, upd_s, k8, k16, k7, k4, s_r8, s_l7, s_l8, s_l16, a255, a127, nt_mul, w.dc, this, Nat.one_mul]
      · simp (disch := omega) only [lit, ixF, nt_le, nt_lt, nt_eq, nt_cl, nt_add, nt_sub, bind_s, if_true, if_false, if_pos, if_neg, upd_s, k8, k16, k7, k4, s_r8, s_l7, s_l8, s_l16, a255, a127, nt_64, w.di]
        rw [lit6, mt_mul, Nat.mul_comm]
    · have hq : dv / 256 = 232 ∨ dv / 256 = 231 ∨ dv / 256 = 226 := by omega
      refine ⟨dv % 256 * (256 - dv / 256), ?_, ?_, ?_, ?_⟩
      · rcases hq with e | e | e <;> rw [e] <;> omega
      · rcases hq with e | e | e <;> rw [e] <;> omega
      · by_cases q1 : 1 < dv % 256
        · simp (disch := omega) only [lit, ixF, nt_le, nt_lt, nt_eq, nt_cl, nt_add, nt_sub, bind_s, if_true, if_false, if_pos, if_neg, upd_s, k8, k16, k7, k4, s_r8, s_l7, s_l8, s_l16, a255, a127, nt_mul, w.dc]
        · have : dv % 256 = 1 := by omega
          simp (disch := omega) only [lit, ixF, nt_le, nt_lt, nt_eq, nt_cl, nt_add, nt_sub, bind_s, if_true, if_false, if_pos, if_neg, upd_s, k8, k16, k7, k4, s_r8, s_l7, s_l8, s_l16, a255, a127, nt_mul, w.dc, this]
      · simp (disch := omega) only [lit, ixF, nt_le, nt_lt, nt_eq, nt_cl, nt_add, nt_sub, bind_s, if_true, if_false, if_pos, if_neg, upd_s, k8, k16, k7, k4, s_r8, s_l7, s_l8, s_l16, a255, a127, nt_64, w.di]
        rw [mt_mul, Nat.mul_comm]
theorem r_greatest {h z iv av n o nd fm tr dv} (ci : CI h z) (w : LST h z iv av n o nd fm tr dv) : (n = 0 ∧ fS_greatestTick h z = some (0, z)) ∨ (0 < n ∧ fS_greatestTick h z = some (av 1 (o (n - 1)), z)) := by
  have h1 := ci.ne; have h2 := ci.u3; have hn := w.ev.mx; have hne := w.ev.ne
  unfold fS_greatestTick
  rw [w.ev.c]
  by_cases q : n = 0
  · left; subst q; exact ⟨rfl, rfl⟩
  · right
    have hj := ci.ev (t := n - 1) (by omega)
    refine ⟨by omega, ?_⟩
    simp (disch := omega) only [lit, ixF, nt_le, nt_lt, nt_eq, nt_cl, nt_add, nt_sub, bind_s, if_true, if_false, if_pos, if_neg, upd_s, k8, k16, k7, k4, s_r8, s_l7, s_l8, s_l16, a255, a127, ci.ro (n - 1) (by omega), Option.bind_some, w.ev.eq (n - 1) (by omega) 0 (by omega)]
theorem r_count {h z iv av} (r : Rel h z iv av) (x : Int32) : ∃ v, fD_count h z x = some (v, z) ∧ fM_count iv av x = some (v, upd iv 0 0, av) := by
  have r' := r.thr (x := 0)
  have e6 : (upd iv 0 0) 6 = iv 6 := upd_n (by decide)
  obtain ⟨ni, wi⟩ := r'.inp
  obtain ⟨no, wo⟩ := r'.out
  obtain ⟨n, hn, e1, e2, e3⟩ := r'.cnt
  rw [e6] at e3
  unfold fD_count fM_count jM_count_15 jM_count_21 fD_headValue
  generalize upd iv 0 0 = iw at *
  have hh : ¬ iv 6 = 0 → ∃ n o nd fm tr dv, LST h z iw av n o nd fm tr dv := fun q => r'.lst (by rw [e6]; exact r.p01.resolve_left q)
  simp only [e6, r.pr, lit] at hh ⊢
  by_cases p0 : x = nt 0
  · subst p0; exact ⟨nt ni, by simp (disch := omega) only [lit, ixF, nt_le, nt_lt, nt_eq, nt_cl, nt_add, nt_sub, bind_s, if_true, if_false, if_pos, if_neg, upd_s, k8, k16, k7, k4, s_r8, s_l7, s_l8, s_l16, a255, a127, fB0_size, wi.c], by simp (disch := omega) only [lit, ixF, nt_le, nt_lt, nt_eq, nt_cl, nt_add, nt_sub, bind_s, if_true, if_false, if_pos, if_neg, upd_s, k8, k16, k7, k4, s_r8, s_l7, s_l8, s_l16, a255, a127, wi.m]⟩
  by_cases p1 : x = nt 1
  · subst p1
    refine ⟨nt n, by simp (disch := omega) only [lit, ixF, nt_le, nt_lt, nt_eq, nt_cl, nt_add, nt_sub, bind_s, if_true, if_false, if_pos, if_neg, upd_s, k8, k16, k7, k4, s_r8, s_l7, s_l8, s_l16, a255, a127, e1], ?_⟩
    by_cases q : iv 6 = nt 0
    · have : n = 0 := e3.resolve_right (by rw [q]; decide)
      subst this; simp (disch := omega) only [lit, ixF, nt_le, nt_lt, nt_eq, nt_cl, nt_add, nt_sub, bind_s, if_true, if_false, if_pos, if_neg, upd_s, k8, k16, k7, k4, s_r8, s_l7, s_l8, s_l16, a255, a127, q]
    · simp (disch := omega) only [lit, ixF, nt_le, nt_lt, nt_eq, nt_cl, nt_add, nt_sub, bind_s, if_true, if_false, if_pos, if_neg, upd_s, k8, k16, k7, k4, s_r8, s_l7, s_l8, s_l16, a255, a127, q, e2]
  by_cases p2 : x = nt 2
  · subst p2
    by_cases q : iv 6 = nt 0
    · exact ⟨-nt 1, by simp (disch := omega) only [lit, ixF, nt_le, nt_lt, nt_eq, nt_cl, nt_add, nt_sub, bind_s, if_true, if_false, if_pos, if_neg, upd_s, k8, k16, k7, k4, s_r8, s_l7, s_l8, s_l16, a255, a127, q], by simp (disch := omega) only [lit, ixF, nt_le, nt_lt, nt_eq, nt_cl, nt_add, nt_sub, bind_s, if_true, if_false, if_pos, if_neg, upd_s, k8, k16, k7, k4, s_r8, s_l7, s_l8, s_l16, a255, a127, q]⟩
    · obtain ⟨n, o, nd, fm, tr, dv, w⟩ := hh q
      exact ⟨nt fm, by simp (disch := omega) only [lit, ixF, nt_le, nt_lt, nt_eq, nt_cl, nt_add, nt_sub, bind_s, if_true, if_false, if_pos, if_neg, upd_s, k8, k16, k7, k4, s_r8, s_l7, s_l8, s_l16, a255, a127, q, w.fc], by simp (disch := omega) only [lit, ixF, nt_le, nt_lt, nt_eq, nt_cl, nt_add, nt_sub, bind_s, if_true, if_false, if_pos, if_neg, upd_s, k8, k16, k7, k4, s_r8, s_l7, s_l8, s_l16, a255, a127, q, w.fi]⟩
  by_cases p3 : x = nt 3
  · subst p3
    by_cases q : iv 6 = nt 0
    · exact ⟨-nt 1, by simp (disch := omega) only [lit, ixF, nt_le, nt_lt, nt_eq, nt_cl, nt_add, nt_sub, bind_s, if_true, if_false, if_pos, if_neg, upd_s, k8, k16, k7, k4, s_r8, s_l7, s_l8, s_l16, a255, a127, q], by simp (disch := omega) only [lit, ixF, nt_le, nt_lt, nt_eq, nt_cl, nt_add, nt_sub, bind_s, if_true, if_false, if_pos, if_neg, upd_s, k8, k16, k7, k4, s_r8, s_l7, s_l8, s_l16, a255, a127, q]⟩
    · obtain ⟨n, o, nd, fm, tr, dv, w⟩ := hh q
      exact ⟨nt tr, by simp (disch := omega) only [lit, ixF, nt_le, nt_lt, nt_eq, nt_cl, nt_add, nt_sub, bind_s, if_true, if_false, if_pos, if_neg, upd_s, k8, k16, k7, k4, s_r8, s_l7, s_l8, s_l16, a255, a127, q, w.tc], by simp (disch := omega) only [lit, ixF, nt_le, nt_lt, nt_eq, nt_cl, nt_add, nt_sub, bind_s, if_true, if_false, if_pos, if_neg, upd_s, k8, k16, k7, k4, s_r8, s_l7, s_l8, s_l16, a255, a127, q, w.ti]⟩
  by_cases p4 : x = nt 4
  · subst p4
    by_cases q : iv 6 = nt 0
    · exact ⟨-nt 1, by simp (disch := omega) only [lit, ixF, nt_le, nt_lt, nt_eq, nt_cl, nt_add, nt_sub, bind_s, if_true, if_false, if_pos, if_neg, upd_s, k8, k16, k7, k4, s_r8, s_l7, s_l8, s_l16, a255, a127, q], by simp (disch := omega) only [lit, ixF, nt_le, nt_lt, nt_eq, nt_cl, nt_add, nt_sub, bind_s, if_true, if_false, if_pos, if_neg, upd_s, k8, k16, k7, k4, s_r8, s_l7, s_l8, s_l16, a255, a127, q]⟩
    · obtain ⟨n, o, nd, fm, tr, dv, w⟩ := hh q
      exact ⟨nt dv, by simp (disch := omega) only [lit, ixF, nt_le, nt_lt, nt_eq, nt_cl, nt_add, nt_sub, bind_s, if_true, if_false, if_pos, if_neg, upd_s, k8, k16, k7, k4, s_r8, s_l7, s_l8, s_l16, a255, a127, q, w.dc], by simp (disch := omega) only [lit, ixF, nt_le, nt_lt, nt_eq, nt_cl, nt_add, nt_sub, bind_s, if_true, if_false, if_pos, if_neg, upd_s, k8, k16, k7, k4, s_r8, s_l7, s_l8, s_l16, a255, a127, q, w.di]⟩
  by_cases p5 : x = nt 5
  · subst p5
    by_cases q : iv 6 = nt 0
    · have : n = 0 := e3.resolve_right (by rw [q]; decide)
      subst this
      exact ⟨nt 0, by simp (disch := omega) only [lit, ixF, nt_le, nt_lt, nt_eq, nt_cl, nt_add, nt_sub, bind_s, if_true, if_false, if_pos, if_neg, upd_s, k8, k16, k7, k4, s_r8, s_l7, s_l8, s_l16, a255, a127, q, fS_greatestTick, e1], by simp (disch := omega) only [lit, ixF, nt_le, nt_lt, nt_eq, nt_cl, nt_add, nt_sub, bind_s, if_true, if_false, if_pos, if_neg, upd_s, k8, k16, k7, k4, s_r8, s_l7, s_l8, s_l16, a255, a127, q]⟩
    · obtain ⟨n', o, nd, fm, tr, dv, w⟩ := hh q
      have hn := w.ev.mx
      rcases r_greatest r.ci w with ⟨rfl, g⟩ | ⟨hn0, g⟩
      · exact ⟨nt 0, by simp (disch := omega) only [lit, ixF, nt_le, nt_lt, nt_eq, nt_cl, nt_add, nt_sub, bind_s, if_true, if_false, if_pos, if_neg, upd_s, k8, k16, k7, k4, s_r8, s_l7, s_l8, s_l16, a255, a127, g], by simp (disch := omega) only [lit, ixF, nt_le, nt_lt, nt_eq, nt_cl, nt_add, nt_sub, bind_s, if_true, if_false, if_pos, if_neg, upd_s, k8, k16, k7, k4, s_r8, s_l7, s_l8, s_l16, a255, a127, q, w.ev.m]⟩
      · have ol := w.ix (show n' - 1 < n' by omega)
        exact ⟨av 1 (o (n' - 1)), by simp (disch := omega) only [lit, ixF, nt_le, nt_lt, nt_eq, nt_cl, nt_add, nt_sub, bind_s, if_true, if_false, if_pos, if_neg, upd_s, k8, k16, k7, k4, s_r8, s_l7, s_l8, s_l16, a255, a127, g], by simp (disch := omega) only [lit, ixF, nt_le, nt_lt, nt_eq, nt_cl, nt_add, nt_sub, bind_s, if_true, if_false, if_pos, if_neg, upd_s, k8, k16, k7, k4, s_r8, s_l7, s_l8, s_l16, a255, a127, q, w.ev.m, w.om (n' - 1) (by omega)]⟩
  by_cases p6 : x = nt 6
  · subst p6
    by_cases q : iv 6 = nt 0
    · have : n = 0 := e3.resolve_right (by rw [q]; decide)
      subst this
      refine ⟨nt 0, ?_, by simp (disch := omega) only [lit, ixF, nt_le, nt_lt, nt_eq, nt_cl, nt_add, nt_sub, bind_s, if_true, if_false, if_pos, if_neg, upd_s, k8, k16, k7, k4, s_r8, s_l7, s_l8, s_l16, a255, a127, q]⟩
      have := l_tempoEvents r.ci e1 (by omega) 0 FU 0 rfl (FUn (by omega))
      simp (disch := omega) only [lit, ixF, nt_le, nt_lt, nt_eq, nt_cl, nt_add, nt_sub, bind_s, if_true, if_false, if_pos, if_neg, upd_s, k8, k16, k7, k4, s_r8, s_l7, s_l8, s_l16, a255, a127, fS_tempoEvents, cnt_0] at this ⊢
      rw [this]; rfl
    · obtain ⟨n', o, nd, fm, tr, dv, w⟩ := hh q
      have hn := w.ev.mx
      refine ⟨nt (cnt (fun e => bTempo (fe av e)) n'), ?_, ?_⟩
      · have := l_tempoEvents r.ci w.ev.c w.ev.ne n' FU 0 (by omega) (FUn (by omega))
        rw [show cnt (fun k => bTempo (ze z (rr z k))) n' = cnt (fun e => bTempo (fe av e)) n' from (cnt_eq' (g' := fun k => bTempo (fe av (o k))) fun k hk => bTempo_eq (w.ev.eq k hk)).trans (cnt_o w.ev.ol w.oi (fun e => bTempo (fe av e)))] at this
        simp (disch := omega) only [lit, ixF, nt_le, nt_lt, nt_eq, nt_cl, nt_add, nt_sub, bind_s, if_true, if_false, if_pos, if_neg, upd_s, k8, k16, k7, k4, s_r8, s_l7, s_l8, s_l16, a255, a127, fS_tempoEvents, cnt_0] at this ⊢
        rw [this]; rfl
      · have := l_counted (iv := iw) (av := av) (nt 1) (fun e => bTempo (fe av e)) w.ev.m hn (fun e he => .inr ⟨by decide, m_isTempo (by omega)⟩) n' FU 0 (by omega) (FUn (by omega))
        simp (disch := omega) only [lit, ixF, nt_le, nt_lt, nt_eq, nt_cl, nt_add, nt_sub, bind_s, if_true, if_false, if_pos, if_neg, upd_s, k8, k16, k7, k4, s_r8, s_l7, s_l8, s_l16, a255, a127, q, fM_counted, cnt_0] at this ⊢
        rw [this]; rfl
  by_cases p7 : x = nt 7
  · subst p7
    by_cases q : iv 6 = nt 0
    · have : n = 0 := e3.resolve_right (by rw [q]; decide)
      subst this
      refine ⟨nt 0, ?_, by simp (disch := omega) only [lit, ixF, nt_le, nt_lt, nt_eq, nt_cl, nt_add, nt_sub, bind_s, if_true, if_false, if_pos, if_neg, upd_s, k8, k16, k7, k4, s_r8, s_l7, s_l8, s_l16, a255, a127, q]⟩
      have := l_notesBegun r.ci e1 (by omega) 0 FU 0 rfl (FUn (by omega))
      simp (disch := omega) only [lit, ixF, nt_le, nt_lt, nt_eq, nt_cl, nt_add, nt_sub, bind_s, if_true, if_false, if_pos, if_neg, upd_s, k8, k16, k7, k4, s_r8, s_l7, s_l8, s_l16, a255, a127, fS_notesBegun, cnt_0] at this ⊢
      rw [this]; rfl
    · obtain ⟨n', o, nd, fm, tr, dv, w⟩ := hh q
      have hn := w.ev.mx
      refine ⟨nt (cnt (fun e => bBegin (fe av e)) n'), ?_, ?_⟩
      · have := l_notesBegun r.ci w.ev.c w.ev.ne n' FU 0 (by omega) (FUn (by omega))
        rw [show cnt (fun k => bBegin (ze z (rr z k))) n' = cnt (fun e => bBegin (fe av e)) n' from (cnt_eq' (g' := fun k => bBegin (fe av (o k))) fun k hk => bBegin_eq (w.ev.eq k hk)).trans (cnt_o w.ev.ol w.oi (fun e => bBegin (fe av e)))] at this
        simp (disch := omega) only [lit, ixF, nt_le, nt_lt, nt_eq, nt_cl, nt_add, nt_sub, bind_s, if_true, if_false, if_pos, if_neg, upd_s, k8, k16, k7, k4, s_r8, s_l7, s_l8, s_l16, a255, a127, fS_notesBegun, cnt_0] at this ⊢
        rw [this]; rfl
      · have := l_counted (iv := iw) (av := av) (nt 0) (fun e => bBegin (fe av e)) w.ev.m hn (fun e he => .inl ⟨rfl, m_begins (by omega) (w.ok e he)⟩) n' FU 0 (by omega) (FUn (by omega))
        simp (disch := omega) only [lit, ixF, nt_le, nt_lt, nt_eq, nt_cl, nt_add, nt_sub, bind_s, if_true, if_false, if_pos, if_neg, upd_s, k8, k16, k7, k4, s_r8, s_l7, s_l8, s_l16, a255, a127, q, fM_counted, cnt_0] at this ⊢
        rw [this]; rfl
  by_cases p8 : x = nt 8
  · subst p8; exact ⟨nt no, by simp (disch := omega) only [lit, ixF, nt_le, nt_lt, nt_eq, nt_cl, nt_add, nt_sub, bind_s, if_true, if_false, if_pos, if_neg, upd_s, k8, k16, k7, k4, s_r8, s_l7, s_l8, s_l16, a255, a127, fB1_size, wo.c], by simp (disch := omega) only [lit, ixF, nt_le, nt_lt, nt_eq, nt_cl, nt_add, nt_sub, bind_s, if_true, if_false, if_pos, if_neg, upd_s, k8, k16, k7, k4, s_r8, s_l7, s_l8, s_l16, a255, a127, wo.m]⟩
  by_cases p9 : x = nt 9
  · subst p9
    by_cases q : iv 6 = nt 0
    · exact ⟨-nt 1, by simp (disch := omega) only [lit, ixF, nt_le, nt_lt, nt_eq, nt_cl, nt_add, nt_sub, bind_s, if_true, if_false, if_pos, if_neg, upd_s, k8, k16, k7, k4, s_r8, s_l7, s_l8, s_l16, a255, a127, q], by simp (disch := omega) only [lit, ixF, nt_le, nt_lt, nt_eq, nt_cl, nt_add, nt_sub, bind_s, if_true, if_false, if_pos, if_neg, upd_s, k8, k16, k7, k4, s_r8, s_l7, s_l8, s_l16, a255, a127, q]⟩
    · obtain ⟨n, o, nd, fm, tr, dv, w⟩ := hh q
      obtain ⟨P, hP, hP2, a, b⟩ := r_parts w
      exact ⟨nt P, by simp (disch := omega) only [lit, ixF, nt_le, nt_lt, nt_eq, nt_cl, nt_add, nt_sub, bind_s, if_true, if_false, if_pos, if_neg, upd_s, k8, k16, k7, k4, s_r8, s_l7, s_l8, s_l16, a255, a127, q, a], by simp (disch := omega) only [lit, ixF, nt_le, nt_lt, nt_eq, nt_cl, nt_add, nt_sub, bind_s, if_true, if_false, if_pos, if_neg, upd_s, k8, k16, k7, k4, s_r8, s_l7, s_l8, s_l16, a255, a127, q, b, mt_32]⟩
  refine ⟨-nt 1, ?_, ?_⟩
  · simp only [p0, p1, p2, p3, p4, p5, p6, p7, p8, p9, if_false]
    split <;> rfl
  · by_cases hx : x < 0
    · have : x ≤ nt 1 := by
        rw [Int32.le_iff_toInt_le]; rw [Int32.lt_iff_toInt_lt] at hx
        have a : (0 : Int32).toInt = 0 := rfl
        have b : (nt 1).toInt = 1 := rfl
        omega
      simp only [this, p0, p1, p2, p3, p4, p5, p6, p7, p8, p9, if_false, if_true]
    · obtain ⟨i, hi, rfl⟩ := lt_nt hx
      simp (disch := omega) only [lit, ixF, nt_le, nt_lt, nt_eq, nt_cl, nt_add, nt_sub, bind_s, if_true, if_false, if_pos, if_neg, upd_s, k8, k16, k7, k4, s_r8, s_l7, s_l8, s_l16, a255, a127] at p0 p1 p2 p3 p4 p5 p6 p7 p8 p9
      by_cases hi1 : i ≤ 1
      · omega
      · simp (disch := omega) only [lit, ixF, nt_le, nt_lt, nt_eq, nt_cl, nt_add, nt_sub, bind_s, if_true, if_false, if_pos, if_neg, upd_s, k8, k16, k7, k4, s_r8, s_l7, s_l8, s_l16, a255, a127]
