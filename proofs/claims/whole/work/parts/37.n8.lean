theorem bTempo_ok {a : Nat → Int32} {nd tr : Nat} (k : EvOK a nd tr) (h : bTempo a = true) : ∃ st, st + 3 ≤ nd ∧ a 5 = nt st := by
  unfold bTempo at h
  have h := of_decide_eq_true h
  obtain ⟨s, e, q | q | q⟩ := k.kind
  · rw [h.1, lit] at e; have := nt_inj e.symm (by omega) (by omega); omega
  · rw [h.1, lit] at e; have := nt_inj e.symm (by omega) (by omega); omega
  · obtain ⟨_, _, f, st, c, hf, e1, e2, e3, e4, e5⟩ := q
    rw [h.2, lit] at e1
    have := nt_inj e1.symm (by omega) (by omega)
    have := e5 this
    exact ⟨st, by omega, e2⟩
theorem r_tempo {h z iv av n o nd fm tr dv} (ci : CI h z) (w : LST h z iv av n o nd fm tr dv) {k : Nat} (hk : k < n) (ht : bTempo (fe av (o k)) = true) :
    ∃ v, fS_tempoOf h z (some (rr z k)) = some (v, z) ∧ fM_tempo iv av (nt (o k)) = some (v, iv, av) := by
  have hne := w.ev.ne
  have hj := ci.ev (t := k) (by omega)
  have ho := w.ix hk
  have e5 := w.ev.eq k hk 5 (by omega)
  have hd := w.da.mx
  obtain ⟨st, h3, q⟩ := bTempo_ok (w.ok (o k) (w.ev.ol k hk)) ht
  have q : av 6 (o k) = nt st := q
  rw [q] at e5
  have a0 := at2 (h := h) (i := st) w.da.c (by omega) w.da.cap (by omega)
  have a1 := at2 (h := h) (i := st + 1) w.da.c (by omega) w.da.cap (by omega)
  have a2 := at2 (h := h) (i := st + 2) w.da.c (by omega) w.da.cap (by omega)
  unfold fS_tempoOf fM_tempo
  refine ⟨((av 10 st) <<< nt 16 ||| (av 10 (st + 1)) <<< nt 8) ||| av 10 (st + 2), ?_, ?_⟩
  · simp (disch := omega) only [lit, ixF, nt_le, nt_lt, nt_eq, nt_cl, nt_add, nt_sub, bind_s, if_true, if_false, if_pos, if_neg, upd_s, k8, k16, k7, k4, s_r8, s_l7, s_l8, s_l16, a255, a127, Option.bind_some, e5, a0, a1, a2, w.da.eq st (by omega), w.da.eq (st + 1) (by omega), w.da.eq (st + 2) (by omega)]
  · simp (disch := omega) only [lit, ixF, nt_le, nt_lt, nt_eq, nt_cl, nt_add, nt_sub, bind_s, if_true, if_false, if_pos, if_neg, upd_s, k8, k16, k7, k4, s_r8, s_l7, s_l8, s_l16, a255, a127, q]
theorem l_timed2 {h z iv av n o nd fm tr dv} (ci : CI h z) (w : LST h z iv av n o nd fm tr dv) {T : Nat} (hT : T ≤ 268435455) : ∀ m fuel i y2 x4 x5, i + m = n → m < fuel → (∀ k, i ≤ k → k < n → nt T ≤ av 1 (o k)) →
    lM_timed_54 fuel iv av (nt T) y2 x4 x5 (nt i) = some (y2 + (x5.toInt64 * ((nt T - x4).toInt64)), iv, av) := by
  have hn := w.ev.mx
  intro m
  induction m with
  | zero => intro fuel i y2 x4 x5 hi hf _; obtain ⟨k, rfl⟩ : ∃ k, fuel = k + 1 := ⟨fuel - 1, by omega⟩
            have : i = n := by omega
            subst this; unfold lM_timed_54; simp (disch := omega) only [lit, ixF, nt_le, nt_lt, nt_eq, nt_cl, nt_add, nt_sub, bind_s, if_true, if_false, if_pos, if_neg, upd_s, k8, k16, k7, k4, s_r8, s_l7, s_l8, s_l16, a255, a127, w.ev.m]
  | succ m ih =>
    intro fuel i y2 x4 x5 hi hf hs; obtain ⟨k, rfl⟩ : ∃ k, fuel = k + 1 := ⟨fuel - 1, by omega⟩
    have hin : i < n := by omega
    have ho := w.ix hin
    have ih1 := fun y2 x4 x5 => ih k (i + 1) y2 x4 x5 (by omega) (by omega) (fun k h1 h2 => hs k (by omega) h2)
    obtain ⟨t, ht, et⟩ := (w.ok (o i) (w.ev.ol i hin)).tick
    have et : av 1 (o i) = nt t := et
    have hst := hs i (by omega) hin
    rw [et, nt_le (by omega) (by omega)] at hst
    have last : lM_timed_54 k iv av (nt T) y2 x4 x5 (nt (i + 1)) = some (y2 + (x5.toInt64 * ((nt T - x4).toInt64)), iv, av) := ih1 y2 x4 x5
    have go : bTempo (fe av (o i)) = true → jM_timed_99 (lM_timed_54 k) iv av (nt T) y2 x4 x5 (nt i) (nt (o i)) = some (y2 + (x5.toInt64 * ((nt T - x4).toInt64)), iv, av) := by
      intro hb
      obtain ⟨v, _, vm⟩ := r_tempo ci w hin hb
      unfold jM_timed_99 jM_timed_148
      by_cases hc : t ≤ T
      · have : t = T := by omega
        subst this
        simp (disch := omega) only [lit, ixF, nt_le, nt_lt, nt_eq, nt_cl, nt_add, nt_sub, bind_s, if_true, if_false, if_pos, if_neg, upd_s, k8, k16, k7, k4, s_r8, s_l7, s_l8, s_l16, a255, a127, et, vm, ih1]
        have : nt (t - t) = 0 := by rw [Nat.sub_self]; rfl
        rw [this]; simp
      · simp (disch := omega) only [lit, ixF, nt_le, nt_lt, nt_eq, nt_cl, nt_add, nt_sub, bind_s, if_true, if_false, if_pos, if_neg, upd_s, k8, k16, k7, k4, s_r8, s_l7, s_l8, s_l16, a255, a127, et, last]
    unfold lM_timed_54
    simp (disch := omega) only [lit, ixF, nt_le, nt_lt, nt_eq, nt_cl, nt_add, nt_sub, bind_s, if_true, if_false, if_pos, if_neg, upd_s, k8, k16, k7, k4, s_r8, s_l7, s_l8, s_l16, a255, a127, w.ev.m, w.om i hin, m_isTempo ho, b2_0]
    cases hb : bTempo (fe av (o i))
    · unfold jM_timed_148; simp (disch := omega) only [lit, ixF, nt_le, nt_lt, nt_eq, nt_cl, nt_add, nt_sub, bind_s, if_true, if_false, if_pos, if_neg, upd_s, k8, k16, k7, k4, s_r8, s_l7, s_l8, s_l16, a255, a127, last]
    · simp only [Bool.true_eq_false, if_false]
      rw [go hb]
      unfold jM_timed_148; simp (disch := omega) only [lit, ixF, nt_le, nt_lt, nt_eq, nt_cl, nt_add, nt_sub, bind_s, if_true, if_false, if_pos, if_neg, upd_s, k8, k16, k7, k4, s_r8, s_l7, s_l8, s_l16, a255, a127, last]
      split
      · split <;> rfl
      · rfl
theorem l_timed {h z iv av n o nd fm tr dv} (ci : CI h z) (w : LST h z iv av n o nd fm tr dv) {T : Nat} (hT : T ≤ 268435455) : ∀ m fuel i y2 x4 x5, i + m = n → m < fuel →
    ∃ v, lS_partsBefore_41 h fuel z (nt T) y2 x5.toInt64 x4 (nt i) = some (v, z) ∧ lM_timed_54 fuel iv av (nt T) y2 x4 x5 (nt i) = some (v, iv, av) := by
  have hn := w.ev.mx; have hne := w.ev.ne; have hcn := ci.ne; have hu := ci.u3
  intro m
  induction m with
  | zero => intro fuel i y2 x4 x5 hi hf; obtain ⟨k, rfl⟩ : ∃ k, fuel = k + 1 := ⟨fuel - 1, by omega⟩
            have : i = n := by omega
            subst this; refine ⟨y2 + (x5.toInt64 * ((nt T - x4).toInt64)), ?_, ?_⟩
            · unfold lS_partsBefore_41 jS_partsBefore_134; simp (disch := omega) only [lit, ixF, nt_le, nt_lt, nt_eq, nt_cl, nt_add, nt_sub, bind_s, if_true, if_false, if_pos, if_neg, upd_s, k8, k16, k7, k4, s_r8, s_l7, s_l8, s_l16, a255, a127, w.ev.c]
            · unfold lM_timed_54; simp (disch := omega) only [lit, ixF, nt_le, nt_lt, nt_eq, nt_cl, nt_add, nt_sub, bind_s, if_true, if_false, if_pos, if_neg, upd_s, k8, k16, k7, k4, s_r8, s_l7, s_l8, s_l16, a255, a127, w.ev.m]
  | succ m ih =>
    intro fuel i y2 x4 x5 hi hf; obtain ⟨k, rfl⟩ : ∃ k, fuel = k + 1 := ⟨fuel - 1, by omega⟩
    have hin : i < n := by omega
    have ho := w.ix hin
    have hj := ci.ev (t := i) (by omega)
    have ei := w.ev.eq i hin
    obtain ⟨t, ht, et⟩ := (w.ok (o i) (w.ev.ol i hin)).tick
    have et : av 1 (o i) = nt t := et
    have e0 : ze z (rr z i) 0 = nt t := (ei 0 (by omega)).trans et
    by_cases hst : T ≤ t
    · refine ⟨y2 + (x5.toInt64 * ((nt T - x4).toInt64)), ?_, ?_⟩
      · unfold lS_partsBefore_41 jS_partsBefore_134
        simp (disch := omega) only [lit, ixF, nt_le, nt_lt, nt_eq, nt_cl, nt_add, nt_sub, bind_s, if_true, if_false, if_pos, if_neg, upd_s, k8, k16, k7, k4, s_r8, s_l7, s_l8, s_l16, a255, a127, w.ev.c, ci.ro i (by omega), Option.bind_some, e0]
      · refine l_timed2 ci w hT (m + 1) (k + 1) i y2 x4 x5 (by omega) (by omega) fun j hij hjn => ?_
        by_cases hij2 : i = j
        · subst hij2; rw [et, nt_le (by omega) (by omega)]; exact hst
        · have := w.so i j (by omega) hjn
          rw [et] at this
          obtain ⟨t', ht', et'⟩ := (w.ok (o j) (w.ev.ol j hjn)).tick
          have et' : av 1 (o j) = nt t' := et'
          rw [et', nt_le (by omega) (by omega)] at this ⊢
          omega
    · obtain ⟨K, hK, eK⟩ := (w.ok (o i) (w.ev.ol i hin)).track
      have eK : av 2 (o i) = nt K := eK
      have htr := w.tmx
      have e1 : ze z (rr z i) 1 = nt K := (ei 1 (by omega)).trans eK
      unfold lS_partsBefore_41 lM_timed_54
      simp (disch := omega) only [lit, ixF, nt_le, nt_lt, nt_eq, nt_cl, nt_add, nt_sub, bind_s, if_true, if_false, if_pos, if_neg, upd_s, k8, k16, k7, k4, s_r8, s_l7, s_l8, s_l16, a255, a127, w.ev.c, ci.ro i (by omega), Option.bind_some, e0, w.ev.m, w.om i hin, m_isTempo ho, b2_0, c_isTempo hj, w.fc, w.fi, eK, e1]
      rw [bTempo_eq (a' := fe av (o i)) ei]
      have skip : ∃ v, jS_partsBefore_128 h (lS_partsBefore_41 h k) z (nt T) y2 x5.toInt64 x4 (nt i) = some (v, z) ∧ jM_timed_148 (lM_timed_54 k) iv av (nt T) y2 x4 x5 (nt i) = some (v, iv, av) := by
        obtain ⟨v, a, b⟩ := ih k (i + 1) y2 x4 x5 (by omega) (by omega)
        exact ⟨v, by unfold jS_partsBefore_128; simp (disch := omega) only [lit, ixF, nt_le, nt_lt, nt_eq, nt_cl, nt_add, nt_sub, bind_s, if_true, if_false, if_pos, if_neg, upd_s, k8, k16, k7, k4, s_r8, s_l7, s_l8, s_l16, a255, a127, a], by unfold jM_timed_148; simp (disch := omega) only [lit, ixF, nt_le, nt_lt, nt_eq, nt_cl, nt_add, nt_sub, bind_s, if_true, if_false, if_pos, if_neg, upd_s, k8, k16, k7, k4, s_r8, s_l7, s_l8, s_l16, a255, a127, b]⟩
      cases hb : bTempo (fe av (o i))
      · simpa using skip
      · have take : ∃ v, jS_partsBefore_97 h (lS_partsBefore_41 h k) z (nt T) y2 x5.toInt64 x4 (nt i) (some (rr z i)) = some (v, z) ∧ jM_timed_99 (lM_timed_54 k) iv av (nt T) y2 x4 x5 (nt i) (nt (o i)) = some (v, iv, av) := by
          obtain ⟨p, pc, pm⟩ := r_tempo ci w hin hb
          obtain ⟨v, a, b⟩ := ih k (i + 1) (y2 + x5.toInt64 * (nt t - x4).toInt64) (nt t) p (by omega) (by omega)
          refine ⟨v, ?_, ?_⟩
          · unfold jS_partsBefore_97 jS_partsBefore_128; simp (disch := omega) only [lit, ixF, nt_le, nt_lt, nt_eq, nt_cl, nt_add, nt_sub, bind_s, if_true, if_false, if_pos, if_neg, upd_s, k8, k16, k7, k4, s_r8, s_l7, s_l8, s_l16, a255, a127, Option.bind_some, pc, e0, a]
          · unfold jM_timed_99 jM_timed_148; simp (disch := omega) only [lit, ixF, nt_le, nt_lt, nt_eq, nt_cl, nt_add, nt_sub, bind_s, if_true, if_false, if_pos, if_neg, upd_s, k8, k16, k7, k4, s_r8, s_l7, s_l8, s_l16, a255, a127, et, pm, b]
        simp only [Bool.true_eq_false, if_false]
        have hfm := w.fmx
        by_cases hf2 : fm = 2
        · by_cases hK0 : K = 0
          · simp (disch := omega) only [lit, ixF, nt_le, nt_lt, nt_eq, nt_cl, nt_add, nt_sub, bind_s, if_true, if_false, if_pos, if_neg, upd_s, k8, k16, k7, k4, s_r8, s_l7, s_l8, s_l16, a255, a127]; exact take
          · simp (disch := omega) only [lit, ixF, nt_le, nt_lt, nt_eq, nt_cl, nt_add, nt_sub, bind_s, if_true, if_false, if_pos, if_neg, upd_s, k8, k16, k7, k4, s_r8, s_l7, s_l8, s_l16, a255, a127]; exact skip
        · simp (disch := omega) only [lit, ixF, nt_le, nt_lt, nt_eq, nt_cl, nt_add, nt_sub, bind_s, if_true, if_false, if_pos, if_neg, upd_s, k8, k16, k7, k4, s_r8, s_l7, s_l8, s_l16, a255, a127]; exact take
theorem r_timed {h z iv av n o nd fm tr dv} (ci : CI h z) (w : LST h z iv av n o nd fm tr dv) {T : Nat} (hT : T ≤ 268435455) :
    ∃ v, fS_partsBefore h z (nt T) = some (v, z) ∧ fM_timed iv av (nt T) = some (v, iv, av) := by
  have hn := w.ev.mx
  unfold fS_partsBefore fM_timed fS_hasFrames fS_frames
  rcases w.dmx with d | d
  · obtain ⟨v, a, b⟩ := l_timed ci w hT n FU 0 0 0 (nt 500000) (by omega) (FUn (by omega))
    refine ⟨v, ?_, ?_⟩
    · simp (disch := omega) only [lit, ixF, nt_le, nt_lt, nt_eq, nt_cl, nt_add, nt_sub, bind_s, if_true, if_false, if_pos, if_neg, upd_s, k8, k16, k7, k4, s_r8, s_l7, s_l8, s_l16, a255, a127, w.dc]; exact a
    · simp (disch := omega) only [lit, ixF, nt_le, nt_lt, nt_eq, nt_cl, nt_add, nt_sub, bind_s, if_true, if_false, if_pos, if_neg, upd_s, k8, k16, k7, k4, s_r8, s_l7, s_l8, s_l16, a255, a127, w.di]; exact b
  · by_cases q : dv / 256 = 227
    · exact ⟨(nt T).toInt64 * (100100 : Int32).toInt64, by simp (disch := omega) only [lit, ixF, nt_le, nt_lt, nt_eq, nt_cl, nt_add, nt_sub, bind_s, if_true, if_false, if_pos, if_neg, upd_s, k8, k16, k7, k4, s_r8, s_l7, s_l8, s_l16, a255, a127, w.dc], by simp (disch := omega) only [lit, ixF, nt_le, nt_lt, nt_eq, nt_cl, nt_add, nt_sub, bind_s, if_true, if_false, if_pos, if_neg, upd_s, k8, k16, k7, k4, s_r8, s_l7, s_l8, s_l16, a255, a127, w.di]; rw [Int64.mul_comm]; rfl⟩
    · exact ⟨(nt T).toInt64 * (1000000 : Int32).toInt64, by simp (disch := omega) only [lit, ixF, nt_le, nt_lt, nt_eq, nt_cl, nt_add, nt_sub, bind_s, if_true, if_false, if_pos, if_neg, upd_s, k8, k16, k7, k4, s_r8, s_l7, s_l8, s_l16, a255, a127, w.dc], by simp (disch := omega) only [lit, ixF, nt_le, nt_lt, nt_eq, nt_cl, nt_add, nt_sub, bind_s, if_true, if_false, if_pos, if_neg, upd_s, k8, k16, k7, k4, s_r8, s_l7, s_l8, s_l16, a255, a127, w.di]; rw [Int64.mul_comm]; rfl⟩
theorem m_fails {iv av} {a b : Nat} (ha : a < 2) (hb : b < 2) : fM_fails iv av (nt a) (nt b) = some (nt (if a = 1 then 1 else b), upd iv 0 (nt (if a = 1 then 1 else if b = 1 then 2 else 0)), av) := by
  unfold fM_fails jM_fails_18
  have ha : a = 0 ∨ a = 1 := by omega
  have hb : b = 0 ∨ b = 1 := by omega
  rcases ha with rfl | rfl <;> rcases hb with rfl | rfl <;> simp (disch := omega) only [lit, ixF, nt_le, nt_lt, nt_eq, nt_cl, nt_add, nt_sub, bind_s, if_true, if_false, if_pos, if_neg, upd_s, k8, k16, k7, k4, s_r8, s_l7, s_l8, s_l16, a255, a127] <;> simp
theorem mt_ne {P : Nat} (h : 0 < P) (h2 : P < 40000) : ¬ mt P = 0 := by
  rw [lit6, mt_eq (by omega) (by omega)]; omega
theorem pres {h z iv av} (r : Rel h z iv av) : (iv 6 = 0 ∧ zi z 3 = 0) ∨ (iv 6 = 1 ∧ zi z 3 = 1 ∧ ∃ n o nd fm tr dv, LST h z iv av n o nd fm tr dv) := by
  rcases r.p01 with p | p
  · exact .inl ⟨p, r.pr.trans p⟩
  · exact .inr ⟨p, r.pr.trans p, r.lst p⟩
theorem LST.thr {h z iv av n o nd fm tr dv} {x : Int32} (w : LST h z iv av n o nd fm tr dv) : LST h z (upd iv 0 x) av n o nd fm tr dv := w.iv (upd_n (by decide)) (upd_n (by decide)) (upd_n (by decide)) (upd_n (by decide))
/-- what a call that may throw does: it throws k, or both answer the same -/
theorem r_time {h z iv av} (r : Rel h z iv av) (x : Int32) :
    (∃ k v, (k = 1 ∨ k = 2) ∧ tD_time h z x = some k ∧ fM_time iv av x = some (v, upd iv 0 (nt k), av)) ∨
    ∃ v, fD_time h z x = some (v, z) ∧ fM_time iv av x = some (v, upd iv 0 (nt 0), av) := by
  unfold tD_time fD_time fM_time jM_time_13 jM_time_23 jM_time_28 tD_needList tD_needTick fD_needList fD_needTick
  rcases pres r with ⟨p, p'⟩ | ⟨p, p', n, o, nd, fm, tr, dv, w⟩
  · left
    refine ⟨1, mt 0, .inl rfl, by simp [p'], ?_⟩
    by_cases hx : x < nt 0
    · simp (disch := omega) only [lit, ixF, nt_le, nt_lt, nt_eq, nt_cl, nt_add, nt_sub, bind_s, if_true, if_false, if_pos, if_neg, upd_s, k8, k16, k7, k4, s_r8, s_l7, s_l8, s_l16, a255, a127, p, hx, m_fails]; rfl
    · by_cases hx2 : x ≤ nt 268435455
      · simp (disch := omega) only [lit, ixF, nt_le, nt_lt, nt_eq, nt_cl, nt_add, nt_sub, bind_s, if_true, if_false, if_pos, if_neg, upd_s, k8, k16, k7, k4, s_r8, s_l7, s_l8, s_l16, a255, a127, p, hx, hx2, m_fails]; rfl
      · simp (disch := omega) only [lit, ixF, nt_le, nt_lt, nt_eq, nt_cl, nt_add, nt_sub, bind_s, if_true, if_false, if_pos, if_neg, upd_s, k8, k16, k7, k4, s_r8, s_l7, s_l8, s_l16, a255, a127, p, hx, hx2, m_fails]; rfl
  · by_cases hx : x < nt 0
    · left; refine ⟨2, mt 0, .inr rfl, ?_, ?_⟩
      · simp (disch := omega) only [lit, ixF, nt_le, nt_lt, nt_eq, nt_cl, nt_add, nt_sub, bind_s, if_true, if_false, if_pos, if_neg, upd_s, k8, k16, k7, k4, s_r8, s_l7, s_l8, s_l16, a255, a127, p', hx]; simp
      · simp (disch := omega) only [lit, ixF, nt_le, nt_lt, nt_eq, nt_cl, nt_add, nt_sub, bind_s, if_true, if_false, if_pos, if_neg, upd_s, k8, k16, k7, k4, s_r8, s_l7, s_l8, s_l16, a255, a127, p, hx, m_fails]; rfl
    · obtain ⟨T, hT, rfl⟩ := lt_nt hx
      by_cases hT2 : T ≤ 268435455
      · right
        obtain ⟨v, a, b⟩ := r_timed r.ci (w.thr (x := nt 0)) hT2
        obtain ⟨P, hP, hP2, pc, pm⟩ := r_parts (w.thr (x := nt 0))
        refine ⟨v / mt P, ?_, ?_⟩
        · simp (disch := omega) only [lit, ixF, nt_le, nt_lt, nt_eq, nt_cl, nt_add, nt_sub, bind_s, if_true, if_false, if_pos, if_neg, upd_s, k8, k16, k7, k4, s_r8, s_l7, s_l8, s_l16, a255, a127, p', a, pc, nt_64, mt_ne hP hP2]
        · simp (disch := omega) only [lit, ixF, nt_le, nt_lt, nt_eq, nt_cl, nt_add, nt_sub, bind_s, if_true, if_false, if_pos, if_neg, upd_s, k8, k16, k7, k4, s_r8, s_l7, s_l8, s_l16, a255, a127, p, m_fails, b, pm, mt_ne hP hP2]
      · left; refine ⟨2, mt 0, .inr rfl, ?_, ?_⟩
        · simp (disch := omega) only [lit, ixF, nt_le, nt_lt, nt_eq, nt_cl, nt_add, nt_sub, bind_s, if_true, if_false, if_pos, if_neg, upd_s, k8, k16, k7, k4, s_r8, s_l7, s_l8, s_l16, a255, a127, p']; simp
        · simp (disch := omega) only [lit, ixF, nt_le, nt_lt, nt_eq, nt_cl, nt_add, nt_sub, bind_s, if_true, if_false, if_pos, if_neg, upd_s, k8, k16, k7, k4, s_r8, s_l7, s_l8, s_l16, a255, a127, p, m_fails]; rfl
theorem r_rest {h z iv av} (r : Rel h z iv av) (x : Int32) :
    (∃ k v, (k = 1 ∨ k = 2) ∧ tD_rest h z x = some k ∧ fM_rest iv av x = some (v, upd iv 0 (nt k), av)) ∨
    ∃ v, fD_rest h z x = some (v, z) ∧ fM_rest iv av x = some (v, upd iv 0 (nt 0), av) := by
  unfold tD_rest fD_rest fM_rest jM_rest_13 jM_rest_23 jM_rest_28 tD_needList tD_needTick fD_needList fD_needTick
  rcases pres r with ⟨p, p'⟩ | ⟨p, p', n, o, nd, fm, tr, dv, w⟩
  · left
    refine ⟨1, mt 0, .inl rfl, by simp [p'], ?_⟩
    by_cases hx : x < nt 0
    · simp (disch := omega) only [lit, ixF, nt_le, nt_lt, nt_eq, nt_cl, nt_add, nt_sub, bind_s, if_true, if_false, if_pos, if_neg, upd_s, k8, k16, k7, k4, s_r8, s_l7, s_l8, s_l16, a255, a127, p, hx, m_fails]; rfl
    · by_cases hx2 : x ≤ nt 268435455
      · simp (disch := omega) only [lit, ixF, nt_le, nt_lt, nt_eq, nt_cl, nt_add, nt_sub, bind_s, if_true, if_false, if_pos, if_neg, upd_s, k8, k16, k7, k4, s_r8, s_l7, s_l8, s_l16, a255, a127, p, hx, hx2, m_fails]; rfl
      · simp (disch := omega) only [lit, ixF, nt_le, nt_lt, nt_eq, nt_cl, nt_add, nt_sub, bind_s, if_true, if_false, if_pos, if_neg, upd_s, k8, k16, k7, k4, s_r8, s_l7, s_l8, s_l16, a255, a127, p, hx, hx2, m_fails]; rfl
  · by_cases hx : x < nt 0
    · left; refine ⟨2, mt 0, .inr rfl, ?_, ?_⟩
      · simp (disch := omega) only [lit, ixF, nt_le, nt_lt, nt_eq, nt_cl, nt_add, nt_sub, bind_s, if_true, if_false, if_pos, if_neg, upd_s, k8, k16, k7, k4, s_r8, s_l7, s_l8, s_l16, a255, a127, p', hx]; simp
      · simp (disch := omega) only [lit, ixF, nt_le, nt_lt, nt_eq, nt_cl, nt_add, nt_sub, bind_s, if_true, if_false, if_pos, if_neg, upd_s, k8, k16, k7, k4, s_r8, s_l7, s_l8, s_l16, a255, a127, p, hx, m_fails]; rfl
    · obtain ⟨T, hT, rfl⟩ := lt_nt hx
      by_cases hT2 : T ≤ 268435455
      · right
        obtain ⟨v, a, b⟩ := r_timed r.ci (w.thr (x := nt 0)) hT2
        obtain ⟨P, hP, hP2, pc, pm⟩ := r_parts (w.thr (x := nt 0))
        refine ⟨v - v / mt P * mt P, ?_, ?_⟩
        · simp (disch := omega) only [lit, ixF, nt_le, nt_lt, nt_eq, nt_cl, nt_add, nt_sub, bind_s, if_true, if_false, if_pos, if_neg, upd_s, k8, k16, k7, k4, s_r8, s_l7, s_l8, s_l16, a255, a127, p', a, pc, nt_64, mt_ne hP hP2]
        · simp (disch := omega) only [lit, ixF, nt_le, nt_lt, nt_eq, nt_cl, nt_add, nt_sub, bind_s, if_true, if_false, if_pos, if_neg, upd_s, k8, k16, k7, k4, s_r8, s_l7, s_l8, s_l16, a255, a127, p, m_fails, b, pm, mt_ne hP hP2]
      · left; refine ⟨2, mt 0, .inr rfl, ?_, ?_⟩
        · simp (disch := omega) only [lit, ixF, nt_le, nt_lt, nt_eq, nt_cl, nt_add, nt_sub, bind_s, if_true, if_false, if_pos, if_neg, upd_s, k8, k16, k7, k4, s_r8, s_l7, s_l8, s_l16, a255, a127, p']; simp
        · simp (disch := omega) only [lit, ixF, nt_le, nt_lt, nt_eq, nt_cl, nt_add, nt_sub, bind_s, if_true, if_false, if_pos, if_neg, upd_s, k8, k16, k7, k4, s_r8, s_l7, s_l8, s_l16, a255, a127, p, m_fails]; rfl
