theorem rr_eq {z z' : cZ} (e : zr z' = zr z) : rr z' = rr z := by unfold rr; rw [e]
theorem CI.put {h z h' z' n v} {k M : Nat} (hk : (k = 0 ∧ M = 12000) ∨ (k = 1 ∧ M = 16384) ∨ (k = 2 ∧ M = 8000)) (ci : CI h z) (p : PutR k M h z h' z' n v) : CI h' z' := by
  have e := p.er
  have er := rr_eq p.er
  rcases hk with ⟨rfl, rfl⟩ | ⟨rfl, rfl⟩ | ⟨rfl, rfl⟩
  all_goals
    refine ⟨?_, ?_, ?_, ?_, ?_, ?_, ?_, ?_, ?_, ?_, ?_, ?_, ?_, ?_⟩
    · first | exact p.lo | (rw [p.el 0 (by decide)]; exact ci.l0)
    · first | exact p.up | (rw [p.el 0 (by decide)]; exact ci.u0)
    · first | exact p.lo | (rw [p.el 1 (by decide)]; exact ci.l1)
    · first | exact p.up | (rw [p.el 1 (by decide)]; exact ci.u1)
    · first | exact p.lo | (rw [p.el 2 (by decide)]; exact ci.l2)
    · first | exact p.up | (rw [p.el 2 (by decide)]; exact ci.u2)
    · rw [p.el 3 (by decide)]; exact ci.l3
    · rw [p.el 3 (by decide)]; exact ci.u3
    · rw [p.el 3 (by decide), p.el 4 (by decide)]; exact ci.l4
    · rw [p.el 3 (by decide), p.en]; exact ci.ne
    · rw [p.en, e, er]; exact ci.ro
    · rw [p.en, e]; exact ci.rn
    · unfold wfz; rw [p.en, e]; exact ci.wf
    · rw [p.en, er]; exact ci.ij
theorem EvOK.eq {a a' : Nat → Int32} {nd tr : Nat} (k : EvOK a nd tr) (q : ∀ f, f < 7 → a' f = a f) : EvOK a' nd tr := by
  refine ⟨?_, ?_, ?_⟩
  · rw [q 0 (by omega)]; exact k.tick
  · rw [q 1 (by omega)]; exact k.track
  · rw [q 2 (by omega), q 3 (by omega), q 4 (by omega), q 5 (by omega), q 6 (by omega)]; exact k.kind
theorem EvOK.mono {a : Nat → Int32} {nd nd' tr : Nat} (k : EvOK a nd tr) (h : nd ≤ nd') : EvOK a nd' tr := by
  refine ⟨k.tick, k.track, ?_⟩
  obtain ⟨s, e, q | q | q⟩ := k.kind
  · exact ⟨s, e, .inl q⟩
  · obtain ⟨q1, q2, q3, st, c, q4, q5, q6⟩ := q
    exact ⟨s, e, .inr (.inl ⟨q1, q2, q3, st, c, q4, q5, by omega⟩)⟩
  · obtain ⟨q1, q2, f, st, c, q3, q4, q5, q6, q7, q8⟩ := q
    exact ⟨s, e, .inr (.inr ⟨q1, q2, f, st, c, q3, q4, q5, q6, by omega, q8⟩)⟩
/-- what the list rests on is the same -/
abbrev Fr (h : cH) (z : cZ) (iv : Nat → Int32) (av : Nat → Nat → Int32) (h' : cH) (z' : cZ) (iv' : Nat → Int32) (av' : Nat → Nat → Int32) : Prop := (zi z' 2 = zi z 2) ∧ (zi z' 4 = zi z 4) ∧ (zi z' 5 = zi z 5) ∧ (zi z' 6 = zi z 6) ∧ (zi z' 7 = zi z 7) ∧ (za z' 2 = za z 2) ∧ (h'.1 2 = h.1 2) ∧ (h'.2.1 = h.2.1) ∧ (zr z' = zr z) ∧ (ze z' = ze z) ∧ (∀ k, 7 ≤ k → k ≤ 10 → iv' k = iv k) ∧ (∀ k, 1 ≤ k → (k ≤ 8 ∨ k = 10) → av' k = av k)
theorem Fr.i2 {h : cH} {z : cZ} {iv : Nat → Int32} {av : Nat → Nat → Int32} {h' : cH} {z' : cZ} {iv' : Nat → Int32} {av' : Nat → Nat → Int32} (s : Fr h z iv av h' z' iv' av') : zi z' 2 = zi z 2 := s.1
theorem Fr.i4 {h : cH} {z : cZ} {iv : Nat → Int32} {av : Nat → Nat → Int32} {h' : cH} {z' : cZ} {iv' : Nat → Int32} {av' : Nat → Nat → Int32} (s : Fr h z iv av h' z' iv' av') : zi z' 4 = zi z 4 := s.2.1
theorem Fr.i5 {h : cH} {z : cZ} {iv : Nat → Int32} {av : Nat → Nat → Int32} {h' : cH} {z' : cZ} {iv' : Nat → Int32} {av' : Nat → Nat → Int32} (s : Fr h z iv av h' z' iv' av') : zi z' 5 = zi z 5 := s.2.2.1
theorem Fr.i6 {h : cH} {z : cZ} {iv : Nat → Int32} {av : Nat → Nat → Int32} {h' : cH} {z' : cZ} {iv' : Nat → Int32} {av' : Nat → Nat → Int32} (s : Fr h z iv av h' z' iv' av') : zi z' 6 = zi z 6 := s.2.2.2.1
theorem Fr.i7 {h : cH} {z : cZ} {iv : Nat → Int32} {av : Nat → Nat → Int32} {h' : cH} {z' : cZ} {iv' : Nat → Int32} {av' : Nat → Nat → Int32} (s : Fr h z iv av h' z' iv' av') : zi z' 7 = zi z 7 := s.2.2.2.2.1
theorem Fr.a2 {h : cH} {z : cZ} {iv : Nat → Int32} {av : Nat → Nat → Int32} {h' : cH} {z' : cZ} {iv' : Nat → Int32} {av' : Nat → Nat → Int32} (s : Fr h z iv av h' z' iv' av') : za z' 2 = za z 2 := s.2.2.2.2.2.1
theorem Fr.l2 {h : cH} {z : cZ} {iv : Nat → Int32} {av : Nat → Nat → Int32} {h' : cH} {z' : cZ} {iv' : Nat → Int32} {av' : Nat → Nat → Int32} (s : Fr h z iv av h' z' iv' av') : h'.1 2 = h.1 2 := s.2.2.2.2.2.2.1
theorem Fr.en {h : cH} {z : cZ} {iv : Nat → Int32} {av : Nat → Nat → Int32} {h' : cH} {z' : cZ} {iv' : Nat → Int32} {av' : Nat → Nat → Int32} (s : Fr h z iv av h' z' iv' av') : h'.2.1 = h.2.1 := s.2.2.2.2.2.2.2.1
theorem Fr.er {h : cH} {z : cZ} {iv : Nat → Int32} {av : Nat → Nat → Int32} {h' : cH} {z' : cZ} {iv' : Nat → Int32} {av' : Nat → Nat → Int32} (s : Fr h z iv av h' z' iv' av') : zr z' = zr z := s.2.2.2.2.2.2.2.2.1
theorem Fr.ee {h : cH} {z : cZ} {iv : Nat → Int32} {av : Nat → Nat → Int32} {h' : cH} {z' : cZ} {iv' : Nat → Int32} {av' : Nat → Nat → Int32} (s : Fr h z iv av h' z' iv' av') : ze z' = ze z := s.2.2.2.2.2.2.2.2.2.1
theorem Fr.v {h : cH} {z : cZ} {iv : Nat → Int32} {av : Nat → Nat → Int32} {h' : cH} {z' : cZ} {iv' : Nat → Int32} {av' : Nat → Nat → Int32} (s : Fr h z iv av h' z' iv' av') : ∀ k, 7 ≤ k → k ≤ 10 → iv' k = iv k := s.2.2.2.2.2.2.2.2.2.2.1
theorem Fr.w {h : cH} {z : cZ} {iv : Nat → Int32} {av : Nat → Nat → Int32} {h' : cH} {z' : cZ} {iv' : Nat → Int32} {av' : Nat → Nat → Int32} (s : Fr h z iv av h' z' iv' av') : ∀ k, 1 ≤ k → (k ≤ 8 ∨ k = 10) → av' k = av k := s.2.2.2.2.2.2.2.2.2.2.2
theorem LST.fr {h z iv av h' z' iv' av' n o nd fm tr dv} (r : LST h z iv av n o nd fm tr dv) (f : Fr h z iv av h' z' iv' av') : LST h' z' iv' av' n o nd fm tr dv := by
  have er := rr_eq f.er
  refine ⟨⟨r.ev.mx, by rw [f.en]; exact r.ev.ne, f.i7.trans r.ev.c, (f.v 10 (by omega) (by omega)).trans r.ev.m, ?_, r.ev.ol⟩, ⟨by rw [f.l2]; exact r.da.cap, r.da.mx, f.i2.trans r.da.c, ?_, ?_⟩, ?_, r.oi, r.fmx, f.i4.trans r.fc, (f.v 7 (by omega) (by omega)).trans r.fi, r.t1, r.tmx, f.i5.trans r.tc, (f.v 8 (by omega) (by omega)).trans r.ti, r.dmx, f.i6.trans r.dc, (f.v 9 (by omega) (by omega)).trans r.di, ?_, ?_, ?_⟩
  · intro k hk q hq; rw [f.ee, er, f.w (q + 1) (by omega) (by omega)]; exact r.ev.eq k hk q hq
  · rw [f.a2, f.w 10 (by omega) (by omega)]; exact r.da.eq
  · rw [f.w 10 (by omega) (by omega)]; exact r.da.by'
  · rw [f.w 8 (by omega) (by omega)]; exact r.om
  · intro e he
    have := r.ok e he
    exact this.eq fun f' hf' => by rw [f.w (f' + 1) (by omega) (by omega)]
  · rw [f.w 1 (by omega) (by omega)]; exact r.so
  · rw [f.w 7 (by omega) (by omega)]; exact r.su
/-- all but the input -/
abbrev RI (h : cH) (z : cZ) (iv : Nat → Int32) (av : Nat → Nat → Int32) : Prop := (CI h z) ∧ (∃ n, OUT h z iv av n) ∧ (zi z 3 = iv 6) ∧ (iv 6 = 0 ∨ iv 6 = 1) ∧ (iv 6 = 1 → ∃ n o nd fm tr dv, LST h z iv av n o nd fm tr dv) ∧ (iv 6 = 0 → zi z 7 = 0 ∧ iv 10 = 0)
theorem RI.ci {h : cH} {z : cZ} {iv : Nat → Int32} {av : Nat → Nat → Int32} (s : RI h z iv av) : CI h z := s.1
theorem RI.out {h : cH} {z : cZ} {iv : Nat → Int32} {av : Nat → Nat → Int32} (s : RI h z iv av) : ∃ n, OUT h z iv av n := s.2.1
theorem RI.pr {h : cH} {z : cZ} {iv : Nat → Int32} {av : Nat → Nat → Int32} (s : RI h z iv av) : zi z 3 = iv 6 := s.2.2.1
theorem RI.p01 {h : cH} {z : cZ} {iv : Nat → Int32} {av : Nat → Nat → Int32} (s : RI h z iv av) : iv 6 = 0 ∨ iv 6 = 1 := s.2.2.2.1
theorem RI.lst {h : cH} {z : cZ} {iv : Nat → Int32} {av : Nat → Nat → Int32} (s : RI h z iv av) : iv 6 = 1 → ∃ n o nd fm tr dv, LST h z iv av n o nd fm tr dv := s.2.2.2.2.1
theorem RI.non {h : cH} {z : cZ} {iv : Nat → Int32} {av : Nat → Nat → Int32} (s : RI h z iv av) : iv 6 = 0 → zi z 7 = 0 ∧ iv 10 = 0 := s.2.2.2.2.2
theorem Rel.toI {h z iv av} (r : Rel h z iv av) : RI h z iv av := ⟨r.ci, r.out, r.pr, r.p01, r.lst, r.non⟩
theorem RI.rel {h z iv av n} (r : RI h z iv av) (i : IN h z iv av n) : Rel h z iv av := ⟨r.ci, ⟨n, i⟩, r.out, r.pr, r.p01, r.lst, r.non⟩
theorem RI.fr {h z iv av h' z' iv' av'} (r : RI h z iv av) (ci : CI h' z') (f : Fr h z iv av h' z' iv' av') (e1 : zi z' 1 = zi z 1) (e3 : zi z' 3 = zi z 3) (a1 : za z' 1 = za z 1) (l1 : h'.1 1 = h.1 1) (v6 : iv' 6 = iv 6) (v12 : iv' 12 = iv 12) (w11 : av' 11 = av 11) : RI h' z' iv' av' := by
  refine ⟨ci, ?_, by rw [e3, v6]; exact r.pr, by rw [v6]; exact r.p01, ?_, ?_⟩
  · obtain ⟨n, o⟩ := r.out
    exact ⟨n, by rw [l1]; exact o.cap, o.mx, e1.trans o.c, v12.trans o.m, by rw [a1, w11]; exact o.eq, by rw [w11]; exact o.by'⟩
  · intro q; rw [v6] at q
    obtain ⟨n, o, nd, fm, tr, dv, w⟩ := r.lst q
    exact ⟨n, o, nd, fm, tr, dv, w.fr f⟩
  · intro q; rw [v6] at q; rw [f.i7, f.v 10 (by omega) (by omega)]; exact r.non q
theorem up2_o {av : Nat → Nat → Int32} {k i a : Nat} {x : Int32} (h : a ≠ k) : up2 av k i x a = av a := by simp [up2, h]
theorem up2_s {av : Nat → Nat → Int32} {k i : Nat} {x : Int32} : up2 av k i x k i = x := by simp [up2, upd]
theorem up2_n {av : Nat → Nat → Int32} {k i j : Nat} {x : Int32} (h : j ≠ i) : up2 av k i x k j = av k j := by simp [up2, upd, h]
theorem RI.put0 {h z iv av h' z' n v i x} (r : RI h z iv av) (p : PutR 0 12000 h z h' z' n v) : RI h' z' iv (up2 av 0 i x) := by
  have e : ∀ k, k ≠ 0 → zi z' k = zi z k := fun k hk => by rw [p.ei, upd_n hk]
  refine r.fr (r.ci.put (.inl ⟨rfl, rfl⟩) p) ⟨e 2 (by decide), e 4 (by decide), e 5 (by decide), e 6 (by decide), e 7 (by decide), p.ea 2 (by decide), p.el 2 (by decide), p.en, p.er, p.ee, fun _ _ _ => rfl, fun k hk _ => up2_o (by omega)⟩ (e 1 (by decide)) (e 3 (by decide)) (p.ea 1 (by decide)) (p.el 1 (by decide)) rfl rfl (up2_o (by decide))
theorem RI.iv {h z iv av} {iv' : Nat → Int32} (r : RI h z iv av) (e : ∀ k, 6 ≤ k → iv' k = iv k) : RI h z iv' av :=
  r.fr r.ci ⟨rfl, rfl, rfl, rfl, rfl, rfl, rfl, rfl, rfl, rfl, fun k h1 h2 => e k (by omega), fun _ _ _ => rfl⟩ rfl rfl rfl rfl (e 6 (by omega)) (e 12 (by omega)) rfl
/-- the input, where the reference's size lags behind -/
abbrev INx (h : cH) (z : cZ) (av : Nat → Nat → Int32) (n : Nat) : Prop := (n ≤ h.1 0) ∧ (zi z 0 = nt n) ∧ (∀ i, i < n → za z 0 i = av 0 i) ∧ (∀ i, i < n → isB (av 0 i))
theorem INx.cap {h : cH} {z : cZ} {av : Nat → Nat → Int32} {n : Nat} (s : INx h z av n) : n ≤ h.1 0 := s.1
theorem INx.c {h : cH} {z : cZ} {av : Nat → Nat → Int32} {n : Nat} (s : INx h z av n) : zi z 0 = nt n := s.2.1
theorem INx.eq {h : cH} {z : cZ} {av : Nat → Nat → Int32} {n : Nat} (s : INx h z av n) : ∀ i, i < n → za z 0 i = av 0 i := s.2.2.1
theorem INx.by' {h : cH} {z : cZ} {av : Nat → Nat → Int32} {n : Nat} (s : INx h z av n) : ∀ i, i < n → isB (av 0 i) := s.2.2.2
theorem INx.put {h z av h' z' n v} (r : INx h z av n) (p : PutR 0 12000 h z h' z' n v) (hv : isB v) : INx h' z' (up2 av 0 n v) (n + 1) := by
  refine ⟨p.le, by rw [p.ei, upd_s], fun i hi => ?_, fun i hi => ?_⟩
  · by_cases q : i = n
    · subst q; rw [p.ev, up2_s]
    · rw [p.eo i (by omega), up2_n q]; exact r.eq i (by omega)
  · by_cases q : i = n
    · subst q; rw [up2_s]; exact hv
    · rw [up2_n q]; exact r.by' i (by omega)
theorem l_feed {iv : Nat → Int32} {y : Int64} {N s : Nat} (hN : N ≤ 8) (hs : s + N ≤ 12000) (m1 : iv 1 = nt s) : ∀ m fuel k h z av, k + m = N → m < fuel → RI h z iv av → INx h z av (s + k) →
    ∃ h' z' av', lD_feed_33 fuel h z y (nt m - nt 1) = some (nt (s + N), h', z') ∧ lM_feed_33 fuel iv av y (nt N) (nt k) = some (nt (s + N), upd iv 1 (nt (s + N)), av') ∧ RI h' z' iv av' ∧ INx h' z' av' (s + N) ∧ gr h h' := by
  intro m
  induction m with
  | zero =>
    intro fuel k h z av hk hf r i
    obtain ⟨f, rfl⟩ : ∃ k, fuel = k + 1 := ⟨fuel - 1, by omega⟩
    have : k = N := by omega
    subst this
    refine ⟨h, z, av, ?_, ?_, r, i, gr.refl h⟩
    · unfold lD_feed_33 fB0_size
      rw [if_pos (by decide), i.c]; rfl
    · unfold lM_feed_33; simp (disch := omega) only [lit, ixF, nt_le, nt_lt, nt_eq, nt_cl, nt_add, nt_sub, bind_s, if_true, if_false, if_pos, if_neg, upd_s, k8, k16, k7, k4, s_r8, s_l7, s_l8, s_l16, a255, a127, m1]
  | succ m ih =>
    intro fuel k h z av hk hf r i
    obtain ⟨f, rfl⟩ : ∃ k, fuel = k + 1 := ⟨fuel - 1, by omega⟩
    obtain ⟨h1, z1, pe, p⟩ := put0 (x := (((y.toUInt64 >>> (((8 : Int32) * nt m).toInt64.toUInt64 &&& Int64.toUInt64 63)).toInt64).toInt32)) i.c (by omega) i.cap r.ci.l0 r.ci.u0
    have hv : isB (((y.toUInt64 >>> (((8 : Int32) * nt m).toInt64.toUInt64 &&& Int64.toUInt64 63)).toInt64).toInt32 &&& 255) := isB_and _
    have i' := i.put p hv
    have r' : RI h1 z1 iv (up2 av 0 (s + k) (((y.toUInt64 >>> (((8 : Int32) * nt m).toInt64.toUInt64 &&& Int64.toUInt64 63)).toInt64).toInt32 &&& 255)) := r.put0 p
    obtain ⟨h', z', av', a, b, r2, i2, g⟩ := ih f (k + 1) h1 z1 _ (by omega) (by omega) r' i'
    refine ⟨h', z', av', ?_, ?_, r2, i2, p.gr.trans g⟩
    · unfold lD_feed_33 jD_feed_53
      rw [nt_sub (by omega), if_neg (by rw [lit, nt_lt (by omega) (by omega)]; omega)]
      rw [show m + 1 - 1 = m from rfl, pe]
      simp only [bind_s]
      rw [← Int32.sub_eq_add_neg]
      exact a
    · rw [f_val y m (by omega)] at b
      unfold lM_feed_33
      simp (disch := omega) only [lit, ixF, nt_le, nt_lt, nt_eq, nt_cl, nt_add, nt_sub, bind_s, if_true, if_false, if_pos, if_neg, upd_s, k8, k16, k7, k4, s_r8, s_l7, s_l8, s_l16, a255, a127, m1]
      have e : N - 1 - k = m := by omega
      have e1 : nt (N - 1) - nt k = nt m := by rw [nt_sub (by omega), e]
      rw [e]
      exact b
theorem r_feed {h z iv av} (r : Rel h z iv av) (y : Int64) (x : Int32) : ∃ v h' z' iv' av', fD_feed h z y x = some (v, h', z') ∧ fM_feed iv av y x = some (v, iv', av') ∧ Rel h' z' iv' av' ∧ gr h h' := by
  obtain ⟨s, i⟩ := r.inp
  have hs := i.mx
  unfold fD_feed fM_feed fB0_size
  simp only [lit]
  have bad : ∃ v h' z' iv' av', some ((-nt 1 : Int32), h, z) = some (v, h', z') ∧ some ((-nt 1 : Int32), upd iv 0 (nt 0), av) = some (v, iv', av') ∧ Rel h' z' iv' av' ∧ gr h h' := ⟨_, _, _, _, _, rfl, rfl, r.thr, gr.refl h⟩
  by_cases hx : x < nt 1
  · simp only [hx, if_true]; exact bad
  obtain ⟨N, hN, rfl⟩ : ∃ i, i < 2147483648 ∧ x = nt i := lt_nt (fun q => hx (by
    rw [Int32.lt_iff_toInt_lt] at q ⊢
    have a : (0 : Int32).toInt = 0 := rfl
    have b : (nt 1).toInt = 1 := rfl
    omega))
  simp (disch := omega) only [lit, ixF, nt_le, nt_lt, nt_eq, nt_cl, nt_add, nt_sub, bind_s, if_true, if_false, if_pos, if_neg, upd_s, k8, k16, k7, k4, s_r8, s_l7, s_l8, s_l16, a255, a127] at hx
  by_cases h8 : 8 < N
  · simp (disch := omega) only [lit, ixF, nt_le, nt_lt, nt_eq, nt_cl, nt_add, nt_sub, bind_s, if_true, if_false, if_pos, if_neg, upd_s, k8, k16, k7, k4, s_r8, s_l7, s_l8, s_l16, a255, a127]; exact bad
  by_cases hc : s + N ≤ 12000
  · have i0 : INx h z av (s + 0) := ⟨i.cap, i.c, i.eq, i.by'⟩
    obtain ⟨h', z', av', a, b, r2, i2, g⟩ := l_feed (iv := upd iv 0 (nt 0)) (y := y) (N := N) (s := s) (by omega) hc (by rw [upd_n (by decide)]; exact i.m) N FU 0 h z av (by omega) (FUn (by omega)) (r.thr (x := nt 0)).toI i0
    refine ⟨nt (s + N), h', z', upd (upd iv 0 (nt 0)) 1 (nt (s + N)), av', ?_, ?_, ?_, g⟩
    · rw [nt_sub (by omega)] at a
      simp (disch := omega) only [lit, ixF, nt_le, nt_lt, nt_eq, nt_cl, nt_add, nt_sub, bind_s, if_true, if_false, if_pos, if_neg, upd_s, k8, k16, k7, k4, s_r8, s_l7, s_l8, s_l16, a255, a127, i.c]; exact a
    · simp (disch := omega) only [lit, ixF, nt_le, nt_lt, nt_eq, nt_cl, nt_add, nt_sub, bind_s, if_true, if_false, if_pos, if_neg, upd_s, k8, k16, k7, k4, s_r8, s_l7, s_l8, s_l16, a255, a127, upd_n (show 1 ≠ 0 by decide), i.m]; exact b
    · refine RI.rel (n := s + N) (r2.iv fun k hk => upd_n (by omega)) ⟨i2.cap, hc, i2.c, upd_s, i2.eq, i2.by'⟩
  · simp (disch := omega) only [lit, ixF, nt_le, nt_lt, nt_eq, nt_cl, nt_add, nt_sub, bind_s, if_true, if_false, if_pos, if_neg, upd_s, k8, k16, k7, k4, s_r8, s_l7, s_l8, s_l16, a255, a127, i.c, upd_n (show 1 ≠ 0 by decide), i.m]; exact bad
theorem l_back {iv : Nat → Int32} {N : Nat} (hN : N ≤ 12000) (m12 : iv 12 = nt N) : ∀ m fuel k h z av, k + m = N → m < fuel → RI h z iv av → INx h z av k →
    ∃ h' z' av', lD_back_30 fuel h z (nt N) (nt k) = some (nt N, h', z') ∧ lM_back_26 fuel iv av (nt k) = some (nt N, upd iv 1 (nt N), av') ∧ RI h' z' iv av' ∧ INx h' z' av' N ∧ gr h h' := by
  intro m
  induction m with
  | zero =>
    intro fuel k h z av hk hf r i
    obtain ⟨f, rfl⟩ : ∃ k, fuel = k + 1 := ⟨fuel - 1, by omega⟩
    have : k = N := by omega
    subst this
    refine ⟨h, z, av, ?_, ?_, r, i, gr.refl h⟩
    · unfold lD_back_30; simp (disch := omega) only [lit, ixF, nt_le, nt_lt, nt_eq, nt_cl, nt_add, nt_sub, bind_s, if_true, if_false, if_pos, if_neg, upd_s, k8, k16, k7, k4, s_r8, s_l7, s_l8, s_l16, a255, a127]
    · unfold lM_back_26; simp (disch := omega) only [lit, ixF, nt_le, nt_lt, nt_eq, nt_cl, nt_add, nt_sub, bind_s, if_true, if_false, if_pos, if_neg, upd_s, k8, k16, k7, k4, s_r8, s_l7, s_l8, s_l16, a255, a127, m12]
  | succ m ih =>
    intro fuel k h z av hk hf r i
    obtain ⟨f, rfl⟩ : ∃ k, fuel = k + 1 := ⟨fuel - 1, by omega⟩
    obtain ⟨n1, o⟩ := r.out
    have e1 : n1 = N := nt_inj (o.m.symm.trans m12) (by have := o.mx; omega) (by omega)
    subst e1
    have ha := at1 (h := h) (i := k) o.c (by omega) o.cap (by omega)
    obtain ⟨h1, z1, pe, p⟩ := put0 (x := za z 1 k) i.c (by omega) i.cap r.ci.l0 r.ci.u0
    have hb := o.by' k (by omega)
    have e2 : za z 1 k &&& 255 = av 11 k := by rw [o.eq k (by omega)]; exact isB_255 hb
    rw [e2] at p
    obtain ⟨h', z', av', a, b, r2, i2, g⟩ := ih f (k + 1) h1 z1 _ (by omega) (by omega) (r.put0 (i := k) (x := av 11 k) p) (i.put p hb)
    refine ⟨h', z', av', ?_, ?_, r2, i2, p.gr.trans g⟩
    · unfold lD_back_30 jD_back_50
      simp (disch := omega) only [lit, ixF, nt_le, nt_lt, nt_eq, nt_cl, nt_add, nt_sub, bind_s, if_true, if_false, if_pos, if_neg, upd_s, k8, k16, k7, k4, s_r8, s_l7, s_l8, s_l16, a255, a127, ha, pe]; exact a
    · unfold lM_back_26
      simp (disch := omega) only [lit, ixF, nt_le, nt_lt, nt_eq, nt_cl, nt_add, nt_sub, bind_s, if_true, if_false, if_pos, if_neg, upd_s, k8, k16, k7, k4, s_r8, s_l7, s_l8, s_l16, a255, a127, m12]; exact b
theorem r_back {h z iv av} (r : Rel h z iv av) : ∃ v h' z' iv' av', fD_back h z = some (v, h', z') ∧ fM_back iv av = some (v, iv', av') ∧ Rel h' z' iv' av' ∧ gr h h' := by
  obtain ⟨N, o⟩ := r.out
  have hs := o.mx
  unfold fD_back fM_back fB1_size fB0_empty
  simp only [lit]
  have bad : ∃ v h' z' iv' av', some ((-nt 1 : Int32), h, z) = some (v, h', z') ∧ some ((-nt 1 : Int32), upd iv 0 (nt 0), av) = some (v, iv', av') ∧ Rel h' z' iv' av' ∧ gr h h' := ⟨_, _, _, _, _, rfl, rfl, r.thr, gr.refl h⟩
  by_cases h0 : N = 0
  · simp (disch := omega) only [lit, ixF, nt_le, nt_lt, nt_eq, nt_cl, nt_add, nt_sub, bind_s, if_true, if_false, if_pos, if_neg, upd_s, k8, k16, k7, k4, s_r8, s_l7, s_l8, s_l16, a255, a127, o.c, upd_n (show 12 ≠ 0 by decide), o.m]; exact bad
  by_cases h1 : N ≤ 12000
  · have r0 : RI h (zU z 0 (nt 0)) (upd iv 0 (nt 0)) av := by
      have q := (r.thr (x := nt 0)).toI
      have e : ∀ k, k ≠ 0 → zi (zU z 0 (nt 0)) k = zi z k := fun k hk => by rw [zi_U, upd_n hk]
      refine q.fr ?_ ⟨e 2 (by decide), e 4 (by decide), e 5 (by decide), e 6 (by decide), e 7 (by decide), rfl, rfl, rfl, rfl, rfl, fun _ _ _ => rfl, fun _ _ _ => rfl⟩ (e 1 (by decide)) (e 3 (by decide)) rfl rfl rfl rfl rfl
      have c := r.ci
      exact ⟨c.l0, c.u0, c.l1, c.u1, c.l2, c.u2, c.l3, c.u3, c.l4, c.ne, c.ro, c.rn, c.wf, c.ij⟩
    have i0 : INx h (zU z 0 (nt 0)) av 0 := ⟨Nat.zero_le _, by rw [zi_U, upd_s], fun i hi => absurd hi (by omega), fun i hi => absurd hi (by omega)⟩
    obtain ⟨h', z', av', a, b, r2, i2, g⟩ := l_back (iv := upd iv 0 (nt 0)) h1 (by rw [upd_n (by decide)]; exact o.m) N FU 0 h _ av (by omega) (FUn (by omega)) r0 i0
    refine ⟨nt N, h', z', upd (upd iv 0 (nt 0)) 1 (nt N), av', ?_, ?_, ?_, g⟩
    · simp (disch := omega) only [lit, ixF, nt_le, nt_lt, nt_eq, nt_cl, nt_add, nt_sub, bind_s, if_true, if_false, if_pos, if_neg, upd_s, k8, k16, k7, k4, s_r8, s_l7, s_l8, s_l16, a255, a127, o.c]; exact a
    · simp (disch := omega) only [lit, ixF, nt_le, nt_lt, nt_eq, nt_cl, nt_add, nt_sub, bind_s, if_true, if_false, if_pos, if_neg, upd_s, k8, k16, k7, k4, s_r8, s_l7, s_l8, s_l16, a255, a127, upd_n (show 12 ≠ 0 by decide), o.m]; exact b
    · refine RI.rel (n := N) (r2.iv fun k hk => upd_n (by omega)) ⟨i2.cap, h1, i2.c, upd_s, i2.eq, i2.by'⟩
  · simp (disch := omega) only [lit, ixF, nt_le, nt_lt, nt_eq, nt_cl, nt_add, nt_sub, bind_s, if_true, if_false, if_pos, if_neg, upd_s, k8, k16, k7, k4, s_r8, s_l7, s_l8, s_l16, a255, a127, o.c, upd_n (show 12 ≠ 0 by decide), o.m]; exact bad
