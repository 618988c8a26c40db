theorem mo_toInt : (-nt 1).toInt = -1 := rfl
theorem ntm1 {a : Nat} (h : a < 2147483648) : (nt a = -nt 1) = False := by
  refine propext ⟨fun q => ?_, False.elim⟩
  have := congrArg Int32.toInt q; rw [nt_toInt h, mo_toInt] at this; omega
theorem mo_le {a : Nat} (h : a < 2147483648) : (-nt 1 ≤ nt a) = True := by
  rw [Int32.le_iff_toInt_le, nt_toInt h, mo_toInt]; exact propext ⟨fun _ => trivial, fun _ => by omega⟩
theorem mo_lt : (-nt 1 < nt 0) = True := by decide
theorem mo_ge : (nt 0 ≤ -nt 1) = False := by decide
theorem mo_cl : (-nt 1).toNatClampNeg = 0 := by decide
def s6 (x : Int32) : Nat := if x = -nt 1 then 0 else 2 + x.toNatClampNeg
def s1 (x : Int32) : Nat := if x = -nt 1 then 0 else 1
theorem l_data {h0 z0 iv0 av0 e j st c nd} (he : e < 1001) (hj : j < h0.2.1) (da : DAT h0 z0 av0 nd) (e5 : ze z0 j 5 = nt st) (e6 : ze z0 j 6 = nt c) (f5 : av0 6 e = nt st) (f6 : av0 7 e = nt c) (hc : st + c ≤ nd) (pv : Nat → Int32) (K28 : (Nat → Int32) → (Nat → Nat → Int32) → Int32 → Int32 → Int32 → Int32 → Int32 → Int32 → Int32 → Option ((Nat → Int32) × (Nat → Nat → Int32))) (x1 x2 x3 x4 x5 x6 x7 : Int32) :
    ∀ m fuel fuel' i h z iv av N, i + m = c → m < fuel → m < fuel' → WS h0 z0 iv0 av0 h z iv av N → N + m ≤ 16384 →
    ∃ h' z' iv' av', lT_putEvent_125 fuel h z pv (some j) (nt i) = some (h', z', pv) ∧ lM_putTrack_209 K28 fuel' iv av x1 x2 x3 x4 x5 x6 x7 (nt e) (nt i) = K28 iv' av' x1 x2 x3 x4 x5 x6 (x7 + 1) ∧ WN h0 z0 iv0 av0 h z N h' z' iv' av' (N + m) := by
  have hd := da.mx
  intro m
  induction m with
  | zero =>
    intro fuel fuel' i h z iv av N hi hf hf' r hN
    obtain ⟨f, rfl⟩ : ∃ f, fuel = f + 1 := ⟨fuel - 1, by omega⟩
    obtain ⟨f', rfl⟩ : ∃ f, fuel' = f + 1 := ⟨fuel' - 1, by omega⟩
    rw [lT_putEvent_125, lM_putTrack_209]
    have := r.en
    refine ⟨h, z, iv, av, ?_, ?_, r.refl⟩
    · simp (disch := omega) only [lit, ixF, nt_le, nt_lt, nt_eq, nt_cl, nt_add, nt_sub, bind_s, if_true, if_false, if_pos, if_neg, upd_s, k8, k16, k7, k4, s_r8, s_l7, s_l8, s_l16, a255, a127, r.ze, e6]
    · simp (disch := omega) only [lit, ixF, nt_le, nt_lt, nt_eq, nt_cl, nt_add, nt_sub, bind_s, if_true, if_false, if_pos, if_neg, upd_s, k8, k16, k7, k4, s_r8, s_l7, s_l8, s_l16, a255, a127, r.av 7 (by decide), f6, jM_putTrack_246]
  | succ m ih =>
    intro fuel fuel' i h z iv av N hi hf hf' r hN
    obtain ⟨f, rfl⟩ : ∃ f, fuel = f + 1 := ⟨fuel - 1, by omega⟩
    obtain ⟨f', rfl⟩ : ∃ f, fuel' = f + 1 := ⟨fuel' - 1, by omega⟩
    rw [lT_putEvent_125, lM_putTrack_209]
    have := r.en
    have ed : za z 2 (st + i) = av0 10 (st + i) := by rw [r.za 2 (by decide), da.eq _ (by omega)]
    have a0 := at2 (h := h) (z := z) (i := st + i) ((r.zi 2 (by decide)).trans da.c) (by omega) (by rw [r.hl 2 (by decide)]; exact da.cap) (by omega)
    obtain ⟨h1, z1, iv1, av1, a, b, c⟩ := j_put r (by omega) (isB_255 (da.by' (st + i) (by omega)))
    obtain ⟨h2, z2, iv2, av2, a2, b2, c2⟩ := ih f f' (i + 1) h1 z1 iv1 av1 (N + 1) (by omega) (by omega) (by omega) c.w (by omega)
    refine ⟨h2, z2, iv2, av2, ?_, ?_, ?_⟩
    · simp (disch := omega) only [lit, ixF, nt_le, nt_lt, nt_eq, nt_cl, nt_add, nt_sub, bind_s, if_true, if_false, if_pos, if_neg, upd_s, k8, k16, k7, k4, s_r8, s_l7, s_l8, s_l16, a255, a127, r.ze, e5, e6, a0, ed, a, jT_putEvent_156]; exact a2
    · simp (disch := omega) only [lit, ixF, nt_le, nt_lt, nt_eq, nt_cl, nt_add, nt_sub, bind_s, if_true, if_false, if_pos, if_neg, upd_s, k8, k16, k7, k4, s_r8, s_l7, s_l8, s_l16, a255, a127, r.av 7 (by decide), r.av 6 (by decide), r.av 10 (by decide), f5, f6, b]; exact b2
    · have := c.trans c2; rw [show N + (m + 1) = N + 1 + m by omega]; exact this
theorem t_size {h0 : cH} {z0 : cZ} {iv0 : Nat → Int32} {av0 : Nat → Nat → Int32} {e j nd : Nat} (he : e < 1001) (hj : j < h0.2.1) (da : DAT h0 z0 av0 nd) (ez : ∀ f, f < 7 → ze z0 j f = av0 (f + 1) e) (K28 : (Nat → Int32) → (Nat → Nat → Int32) → Int32 → Int32 → Int32 → Int32 → Int32 → Int32 → Int32 → Option ((Nat → Int32) × (Nat → Nat → Int32)))  (x1 x2 x3 x4 x5 x7 : Int32) {h z iv av N} (r : WS h0 z0 iv0 av0 h z iv av N) (x6 : Int32) (pv : Nat → Int32) (q : av0 7 e = -nt 1 ∨ ∃ st c, av0 6 e = nt st ∧ av0 7 e = nt c ∧ st + c ≤ nd) (hN : N + 4 + s6 (av0 7 e) ≤ 16384) :
    ∃ h' z' iv' av' N', jT_putEvent_107 h z pv (some j) = some (h', z', pv) ∧ jM_putTrack_182 K28 iv av x1 x2 x3 x4 x5 x6 x7 (nt e) = K28 iv' av' x1 x2 x3 x4 x5 x6 (x7 + 1) ∧ WN h0 z0 iv0 av0 h z N h' z' iv' av' N' ∧ N' ≤ N + s6 (av0 7 e) := by
  have hd := da.mx
  have := r.en
  have z6 := ez 6 (by omega)
  have z5 := ez 5 (by omega)
  simp only [Nat.reduceAdd] at z6 z5
  rcases q with q | ⟨st, c, q1, q2, q3⟩
  · refine ⟨h, z, iv, av, N, ?_, ?_, r.refl, by omega⟩
    · unfold jT_putEvent_107 jT_putEvent_123
      obtain ⟨f, hf⟩ : ∃ f, FU = f + 1 := ⟨FU - 1, by have := FUn (n := 10) (by omega); omega⟩
      simp (disch := omega) only [lit, ixF, nt_le, nt_lt, nt_eq, nt_cl, nt_add, nt_sub, bind_s, if_true, if_false, if_pos, if_neg, upd_s, k8, k16, k7, k4, s_r8, s_l7, s_l8, s_l16, a255, a127, r.ze, z6, q, hf, lT_putEvent_125, mo_le]
    · unfold jM_putTrack_182
      simp (disch := omega) only [lit, ixF, nt_le, nt_lt, nt_eq, nt_cl, nt_add, nt_sub, bind_s, if_true, if_false, if_pos, if_neg, upd_s, k8, k16, k7, k4, s_r8, s_l7, s_l8, s_l16, a255, a127, r.av 7 (by decide), q, mo_ge, jM_putTrack_246]
  · have es : s6 (av0 7 e) = 2 + c := by unfold s6; rw [q2, if_neg (by rw [ntm1 (by omega)]; simp), nt_cl (by omega)]
    rw [es] at hN ⊢
    obtain ⟨h1, z1, iv1, av1, N1, a, b, cc, u1, u2, _⟩ := j_number r pv (v := c) (by omega) (by omega)
    have u2 := u2 (by omega)
    obtain ⟨h2, z2, iv2, av2, a2, b2, c2⟩ := l_data he hj da (z5.trans q1) (z6.trans q2) q1 q2 q3 pv K28 x1 x2 x3 x4 x5 x6 x7 c FU FU 0 h1 z1 iv1 av1 N1 (by omega) (FUn (by omega)) (FUn (by omega)) cc.w (by omega)
    refine ⟨h2, z2, iv2, av2, _, ?_, ?_, cc.trans c2, by omega⟩
    · unfold jT_putEvent_107 jT_putEvent_123
      simp (disch := omega) only [lit, ixF, nt_le, nt_lt, nt_eq, nt_cl, nt_add, nt_sub, bind_s, if_true, if_false, if_pos, if_neg, upd_s, k8, k16, k7, k4, s_r8, s_l7, s_l8, s_l16, a255, a127, r.ze, z6, q2, ntm1, a]; exact a2
    · unfold jM_putTrack_182
      simp (disch := omega) only [lit, ixF, nt_le, nt_lt, nt_eq, nt_cl, nt_add, nt_sub, bind_s, if_true, if_false, if_pos, if_neg, upd_s, k8, k16, k7, k4, s_r8, s_l7, s_l8, s_l16, a255, a127, r.av 7 (by decide), q2, b]; exact b2
theorem t_second {h0 : cH} {z0 : cZ} {iv0 : Nat → Int32} {av0 : Nat → Nat → Int32} {e j nd : Nat} (he : e < 1001) (hj : j < h0.2.1) (da : DAT h0 z0 av0 nd) (ez : ∀ f, f < 7 → ze z0 j f = av0 (f + 1) e) (K28 : (Nat → Int32) → (Nat → Nat → Int32) → Int32 → Int32 → Int32 → Int32 → Int32 → Int32 → Int32 → Option ((Nat → Int32) × (Nat → Nat → Int32)))  (x1 x2 x3 x4 x5 x7 : Int32) {h z iv av N} (r : WS h0 z0 iv0 av0 h z iv av N) (x6 : Int32) (pv : Nat → Int32) (q : av0 7 e = -nt 1 ∨ ∃ st c, av0 6 e = nt st ∧ av0 7 e = nt c ∧ st + c ≤ nd) (p : av0 5 e = -nt 1 ∨ ∃ g, g < 128 ∧ av0 5 e = nt g) (hN : N + 5 + s6 (av0 7 e) ≤ 16384) :
    ∃ h' z' iv' av' N', jT_putEvent_88 h z pv (some j) = some (h', z', pv) ∧ jM_putTrack_161 K28 iv av x1 x2 x3 x4 x5 x6 x7 (nt e) = K28 iv' av' x1 x2 x3 x4 x5 x6 (x7 + 1) ∧ WN h0 z0 iv0 av0 h z N h' z' iv' av' N' ∧ N' ≤ N + s1 (av0 5 e) + s6 (av0 7 e) := by
  have := r.en
  have z4 := ez 4 (by omega)
  simp only [Nat.reduceAdd] at z4
  rcases p with p | ⟨g, hg, p⟩
  · obtain ⟨h1, z1, iv1, av1, N1, a, b, c, d⟩ := t_size he hj da ez K28 x1 x2 x3 x4 x5 x7 r x6 pv q (by omega)
    refine ⟨h1, z1, iv1, av1, N1, ?_, ?_, c, by omega⟩
    · unfold jT_putEvent_88
      simp (disch := omega) only [lit, ixF, nt_le, nt_lt, nt_eq, nt_cl, nt_add, nt_sub, bind_s, if_true, if_false, if_pos, if_neg, upd_s, k8, k16, k7, k4, s_r8, s_l7, s_l8, s_l16, a255, a127, r.ze, z4, p]; exact a
    · unfold jM_putTrack_161
      simp (disch := omega) only [lit, ixF, nt_le, nt_lt, nt_eq, nt_cl, nt_add, nt_sub, bind_s, if_true, if_false, if_pos, if_neg, upd_s, k8, k16, k7, k4, s_r8, s_l7, s_l8, s_l16, a255, a127, r.av 5 (by decide), p, mo_lt]; exact b
  · have es : s1 (av0 5 e) = 1 := by unfold s1; rw [p, if_neg (by rw [ntm1 (by omega)]; simp)]
    obtain ⟨h2, z2, iv2, av2, a2, b2, c2⟩ := j_put r (by omega) (x := nt g) (v := nt g) (by rw [lit, a255]; congr 1; omega)
    obtain ⟨h1, z1, iv1, av1, N1, a, b, c, d⟩ := t_size he hj da ez K28 x1 x2 x3 x4 x5 x7 c2.w x6 pv q (by omega)
    refine ⟨h1, z1, iv1, av1, N1, ?_, ?_, c2.trans c, by omega⟩
    · unfold jT_putEvent_88
      simp (disch := omega) only [lit, ixF, nt_le, nt_lt, nt_eq, nt_cl, nt_add, nt_sub, bind_s, if_true, if_false, if_pos, if_neg, upd_s, k8, k16, k7, k4, s_r8, s_l7, s_l8, s_l16, a255, a127, r.ze, z4, p, ntm1, a2]; exact a
    · unfold jM_putTrack_161
      simp (disch := omega) only [lit, ixF, nt_le, nt_lt, nt_eq, nt_cl, nt_add, nt_sub, bind_s, if_true, if_false, if_pos, if_neg, upd_s, k8, k16, k7, k4, s_r8, s_l7, s_l8, s_l16, a255, a127, r.av 5 (by decide), p, b2]; exact b
theorem t_first {h0 : cH} {z0 : cZ} {iv0 : Nat → Int32} {av0 : Nat → Nat → Int32} {e j nd : Nat} (he : e < 1001) (hj : j < h0.2.1) (da : DAT h0 z0 av0 nd) (ez : ∀ f, f < 7 → ze z0 j f = av0 (f + 1) e) (K28 : (Nat → Int32) → (Nat → Nat → Int32) → Int32 → Int32 → Int32 → Int32 → Int32 → Int32 → Int32 → Option ((Nat → Int32) × (Nat → Nat → Int32)))  (x1 x2 x3 x4 x5 x7 : Int32) {h z iv av N} (r : WS h0 z0 iv0 av0 h z iv av N) (y0 y1 : Int32) (pv : Nat → Int32) (q : av0 7 e = -nt 1 ∨ ∃ st c, av0 6 e = nt st ∧ av0 7 e = nt c ∧ st + c ≤ nd) (p : av0 5 e = -nt 1 ∨ ∃ g, g < 128 ∧ av0 5 e = nt g) (p' : av0 4 e = -nt 1 ∨ ∃ g, g < 128 ∧ av0 4 e = nt g) (hN : N + 6 + s6 (av0 7 e) ≤ 16384) :
    ∃ h' z' iv' av' N', jT_putEvent_66 h z pv (some j) y1 = some (h', z', upd pv 2 y1) ∧ jM_putTrack_138 K28 iv av x1 x2 x3 x4 x5 x7 (nt e) y0 = K28 iv' av' x1 x2 x3 x4 x5 y0 (x7 + 1) ∧ WN h0 z0 iv0 av0 h z N h' z' iv' av' N' ∧ N' ≤ N + s1 (av0 4 e) + s1 (av0 5 e) + s6 (av0 7 e) := by
  have := r.en
  have z3 := ez 3 (by omega)
  simp only [Nat.reduceAdd] at z3
  rcases p' with p' | ⟨g, hg, p'⟩
  · obtain ⟨h1, z1, iv1, av1, N1, a, b, c, d⟩ := t_second he hj da ez K28 x1 x2 x3 x4 x5 x7 r y0 (upd pv 2 y1) q p (by omega)
    refine ⟨h1, z1, iv1, av1, N1, ?_, ?_, c, by omega⟩
    · unfold jT_putEvent_66
      simp (disch := omega) only [lit, ixF, nt_le, nt_lt, nt_eq, nt_cl, nt_add, nt_sub, bind_s, if_true, if_false, if_pos, if_neg, upd_s, k8, k16, k7, k4, s_r8, s_l7, s_l8, s_l16, a255, a127, r.ze, z3, p']; exact a
    · unfold jM_putTrack_138
      simp (disch := omega) only [lit, ixF, nt_le, nt_lt, nt_eq, nt_cl, nt_add, nt_sub, bind_s, if_true, if_false, if_pos, if_neg, upd_s, k8, k16, k7, k4, s_r8, s_l7, s_l8, s_l16, a255, a127, r.av 4 (by decide), p', mo_lt]; exact b
  · have es : s1 (av0 4 e) = 1 := by unfold s1; rw [p', if_neg (by rw [ntm1 (by omega)]; simp)]
    obtain ⟨h2, z2, iv2, av2, a2, b2, c2⟩ := j_put r (by omega) (x := nt g) (v := nt g) (by rw [lit, a255]; congr 1; omega)
    obtain ⟨h1, z1, iv1, av1, N1, a, b, c, d⟩ := t_second he hj da ez K28 x1 x2 x3 x4 x5 x7 c2.w y0 (upd pv 2 y1) q p (by omega)
    refine ⟨h1, z1, iv1, av1, N1, ?_, ?_, c2.trans c, by omega⟩
    · unfold jT_putEvent_66
      simp (disch := omega) only [lit, ixF, nt_le, nt_lt, nt_eq, nt_cl, nt_add, nt_sub, bind_s, if_true, if_false, if_pos, if_neg, upd_s, k8, k16, k7, k4, s_r8, s_l7, s_l8, s_l16, a255, a127, r.ze, z3, p', ntm1, a2]; exact a
    · unfold jM_putTrack_138
      simp (disch := omega) only [lit, ixF, nt_le, nt_lt, nt_eq, nt_cl, nt_add, nt_sub, bind_s, if_true, if_false, if_pos, if_neg, upd_s, k8, k16, k7, k4, s_r8, s_l7, s_l8, s_l16, a255, a127, r.av 4 (by decide), p', b2]; exact b
theorem s1_le (x : Int32) : s1 x ≤ 1 := by unfold s1; split <;> omega
theorem s6_le (x : Int32) : s6 x ≤ 2 + x.toNatClampNeg := by unfold s6; split <;> omega
theorem ev_cost {a : Nat → Int32} {nd tr : Nat} (ok : EvOK a nd tr) : s1 (a 3) + s1 (a 4) + s6 (a 6) ≤ 3 + (a 6).toNatClampNeg := by
  have b4 := s1_le (a 3)
  have b5 := s1_le (a 4)
  have b6 := s6_le (a 6)
  obtain ⟨s, es, q⟩ := ok.kind
  clear ok
  rcases q with ⟨_, _, _, _, w7⟩ | ⟨_, _, w5, _⟩ | ⟨_, w5, _⟩
  · have : s6 (a 6) = 0 := by rw [w7]; rfl
    omega
  · have : s1 (a 4) = 0 := by rw [w5]; rfl
    omega
  · have : s1 (a 4) = 0 := by rw [w5]; rfl
    omega
/-- the running status -/
def Run (a b : Int32) : Prop := (a = -nt 1 ∧ b = nt 0) ∨ (a = b ∧ ∃ s, 128 ≤ s ∧ s < 240 ∧ b = nt s)
theorem t_chan {h0 : cH} {z0 : cZ} {iv0 : Nat → Int32} {av0 : Nat → Nat → Int32} {e j nd tr : Nat} (he : e < 1001) (hj : j < h0.2.1) (da : DAT h0 z0 av0 nd) (ez : ∀ f, f < 7 → ze z0 j f = av0 (f + 1) e) (K28 : (Nat → Int32) → (Nat → Nat → Int32) → Int32 → Int32 → Int32 → Int32 → Int32 → Int32 → Int32 → Option ((Nat → Int32) × (Nat → Nat → Int32)))  (x1 x2 x3 x4 x5 x7 : Int32) {h z iv av N} (r : WS h0 z0 iv0 av0 h z iv av N) (pv : Nat → Int32) (ok : EvOK (fun f => av0 (f + 1) e) nd tr) (hN : N + 6 + s6 (av0 7 e) ≤ 16384) :
    ∃ h' z' iv' av' N' y1 y0, jT_putEvent_50 h z pv (some j) = some (h', z', upd pv 2 y1) ∧ jM_putTrack_114 K28 iv av x1 x2 x3 x4 x5 x7 (nt e) = K28 iv' av' x1 x2 x3 x4 x5 y0 (x7 + 1) ∧ Run y1 y0 ∧ WN h0 z0 iv0 av0 h z N h' z' iv' av' N' ∧ N' ≤ N + 3 + (av0 7 e).toNatClampNeg := by
  have := r.en
  have z2' := ez 2 (by omega)
  simp only [Nat.reduceAdd] at z2'
  have hd := da.mx
  obtain ⟨s, es, q⟩ := ok.kind
  simp only [Nat.reduceAdd] at es q
  have G : ∀ y0 y1, ∃ h' z' iv' av' N', jT_putEvent_66 h z pv (some j) y1 = some (h', z', upd pv 2 y1) ∧ jM_putTrack_138 K28 iv av x1 x2 x3 x4 x5 x7 (nt e) y0 = K28 iv' av' x1 x2 x3 x4 x5 y0 (x7 + 1) ∧ WN h0 z0 iv0 av0 h z N h' z' iv' av' N' ∧ N' ≤ N + s1 (av0 4 e) + s1 (av0 5 e) + s6 (av0 7 e) := by
    intro y0 y1
    refine t_first he hj da ez K28 x1 x2 x3 x4 x5 x7 r y0 y1 pv ?_ ?_ ?_ hN
    · rcases ok.sz with w | w
      · exact .inl w
      · exact .inr w
    · rcases q with ⟨_, _, _, w, _⟩ | ⟨_, _, w, _⟩ | ⟨_, w, _⟩
      · rcases w with ⟨_, _, w⟩ | ⟨_, w⟩
        · exact .inl w
        · exact .inr w
      · exact .inl w
      · exact .inl w
    · rcases q with ⟨_, _, w, _⟩ | ⟨_, w, _⟩ | ⟨_, _, f, _, _, w1, w2, _⟩
      · exact .inr w
      · exact .inl w
      · exact .inr ⟨f, w1, w2⟩
  have B := ev_cost ok
  simp only [Nat.reduceAdd] at B
  obtain ⟨s', hs1, hs2, es'⟩ := ok.st
  simp only [Nat.reduceAdd] at es'
  clear q ok es
  clear s
  obtain ⟨s, hs1, hs2, es⟩ : ∃ s, 128 ≤ s ∧ s < 256 ∧ av0 3 e = nt s := ⟨s', hs1, hs2, es'⟩
  by_cases q2 : 240 ≤ s
  · obtain ⟨h1, z1, iv1, av1, N1, a, b, c, d⟩ := G (nt 0) (-nt 1)
    refine ⟨h1, z1, iv1, av1, N1, -nt 1, nt 0, ?_, ?_, .inl ⟨rfl, rfl⟩, c, by omega⟩
    · unfold jT_putEvent_50 fE_isChannelEvent
      simp (disch := omega) only [lit, ixF, nt_le, nt_lt, nt_eq, nt_cl, nt_add, nt_sub, bind_s, if_true, if_false, if_pos, if_neg, upd_s, k8, k16, k7, k4, s_r8, s_l7, s_l8, s_l16, a255, a127, r.ze, z2', es]; exact a
    · unfold jM_putTrack_114
      simp (disch := omega) only [lit, ixF, nt_le, nt_lt, nt_eq, nt_cl, nt_add, nt_sub, bind_s, if_true, if_false, if_pos, if_neg, upd_s, k8, k16, k7, k4, s_r8, s_l7, s_l8, s_l16, a255, a127, r.av 3 (by decide), es]; exact b
  · obtain ⟨h1, z1, iv1, av1, N1, a, b, c, d⟩ := G (nt s) (nt s)
    refine ⟨h1, z1, iv1, av1, N1, nt s, nt s, ?_, ?_, .inr ⟨rfl, s, by omega, by omega, rfl⟩, c, by omega⟩
    · unfold jT_putEvent_50 fE_isChannelEvent
      simp (disch := omega) only [lit, ixF, nt_le, nt_lt, nt_eq, nt_cl, nt_add, nt_sub, bind_s, if_true, if_false, if_pos, if_neg, upd_s, k8, k16, k7, k4, s_r8, s_l7, s_l8, s_l16, a255, a127, r.ze, z2', es]; exact a
    · unfold jM_putTrack_114
      simp (disch := omega) only [lit, ixF, nt_le, nt_lt, nt_eq, nt_cl, nt_add, nt_sub, bind_s, if_true, if_false, if_pos, if_neg, upd_s, k8, k16, k7, k4, s_r8, s_l7, s_l8, s_l16, a255, a127, r.av 3 (by decide), es]; exact b
theorem t_event {h0 : cH} {z0 : cZ} {iv0 : Nat → Int32} {av0 : Nat → Nat → Int32} {e j nd tr : Nat} (he : e < 1001) (hj : j < h0.2.1) (da : DAT h0 z0 av0 nd) (ez : ∀ f, f < 7 → ze z0 j f = av0 (f + 1) e) (K28 : (Nat → Int32) → (Nat → Nat → Int32) → Int32 → Int32 → Int32 → Int32 → Int32 → Int32 → Int32 → Option ((Nat → Int32) × (Nat → Nat → Int32)))  (x1 x2 x3 x4 x7 : Int32) {h z iv av N} (r : WS h0 z0 iv0 av0 h z iv av N) (pv : Nat → Int32) (ok : EvOK (fun f => av0 (f + 1) e) nd tr) {T0 : Nat} (hx6 : Int32) (p1 : pv 1 = nt T0) (p0 : pv 0 = x3) (hT : nt T0 ≤ av0 1 e) (hT0 : T0 ≤ 268435455) (ru : Run (pv 2) hx6) (hN : N + 20 + (av0 7 e).toNatClampNeg ≤ 16384) :
    ∃ h' z' iv' av' N' pv' y0, fT_putEvent h z pv (some j) = some (h', z', pv') ∧ jM_putTrack_64 K28 iv av x1 x2 x3 x4 (nt T0) hx6 x7 (nt e) = K28 iv' av' x1 x2 x3 x4 (av0 1 e) y0 (x7 + 1) ∧ Run (pv' 2) y0 ∧ pv' 0 = x3 ∧ pv' 1 = av0 1 e ∧ WN h0 z0 iv0 av0 h z N h' z' iv' av' N' ∧ N' ≤ N + 8 + (av0 7 e).toNatClampNeg := by
  have := r.en
  have z00 := ez 0 (by omega)
  have z2' := ez 2 (by omega)
  simp only [Nat.reduceAdd] at z00 z2'
  have hd := da.mx
  obtain ⟨T, hT1, eT⟩ := ok.tick
  simp only [Nat.reduceAdd, Nat.zero_add] at eT z00
  rw [eT, nt_le (by omega) (by omega)] at hT
  have h6 : s6 (av0 7 e) ≤ 2 + (av0 7 e).toNatClampNeg := by unfold s6; split <;> omega
  obtain ⟨h1, z1, iv1, av1, N1, a, b, c, u1, _⟩ := j_number r pv (v := T - T0) (by omega) (by omega)
  obtain ⟨s, hs1, hs2, es⟩ := ok.st
  simp only [Nat.reduceAdd] at es
  have en1 := c.w.en
  -- without the status
  have C := t_chan he hj da ez K28 x1 x2 x3 x4 (nt T) x7 c.w (upd pv 1 (nt T)) ok (by omega)
  -- with it
  obtain ⟨h2, z2, iv2, av2, a2, b2, c2⟩ := j_put c.w (by omega) (x := nt s) (v := nt s) (by rw [lit, a255]; congr 1; omega)
  have D := t_chan he hj da ez K28 x1 x2 x3 x4 (nt T) x7 c2.w (upd pv 1 (nt T)) ok (by omega)
  have P0 : upd pv 1 (nt T) 0 = x3 := by rw [upd_n (by decide), p0]
  have P2 : upd pv 1 (nt T) 2 = pv 2 := upd_n (by decide)
  by_cases w : x3 = nt 0 ∨ ¬ nt s = pv 2
  · obtain ⟨h3, z3, iv3, av3, N3, y1, y0, a3, b3, ru3, c3, d3⟩ := D
    refine ⟨h3, z3, iv3, av3, N3, upd (upd pv 1 (nt T)) 2 y1, y0, ?_, ?_, by rw [upd_s]; exact ru3, by rw [upd_n (by decide), P0], by rw [upd_n (by decide), upd_s, eT], c.trans (c2.trans c3), by omega⟩
    · unfold fT_putEvent jT_putEvent_13 jT_putEvent_39
      simp (disch := omega) only [lit, ixF, nt_le, nt_lt, nt_eq, nt_cl, nt_add, nt_sub, bind_s, if_true, if_false, if_pos, if_neg, upd_s, k8, k16, k7, k4, s_r8, s_l7, s_l8, s_l16, a255, a127, r.ze, z00, eT, p1, a, c.w.ze, P0, P2, z2', es, a2]
      rcases w with w | w
      · rw [if_pos w]; exact a3
      · by_cases w2 : x3 = nt 0
        · rw [if_pos w2]; exact a3
        · rw [if_neg w2, if_neg w]; exact a3
    · unfold jM_putTrack_64 jM_putTrack_103
      simp (disch := omega) only [lit, ixF, nt_le, nt_lt, nt_eq, nt_cl, nt_add, nt_sub, bind_s, if_true, if_false, if_pos, if_neg, upd_s, k8, k16, k7, k4, s_r8, s_l7, s_l8, s_l16, a255, a127, r.av 1 (by decide), eT, b, c.w.av 3 (by decide), c.w.av 1 (by decide), es, b2]
      by_cases w2 : x3 = nt 0
      · rw [if_pos w2]; exact b3
      · have w3 := w.resolve_left w2
        rw [if_neg w2, if_neg]
        · exact b3
        · rcases ru with ⟨_, q⟩ | ⟨q, _⟩
          · rw [q, nt_eq (by omega) (by omega)]; omega
          · rw [← q]; exact w3
  · have w1 : ¬ x3 = nt 0 := fun q => w (.inl q)
    have w2 : nt s = pv 2 := Classical.byContradiction fun q => w (.inr q)
    obtain ⟨h3, z3, iv3, av3, N3, y1, y0, a3, b3, ru3, c3, d3⟩ := C
    refine ⟨h3, z3, iv3, av3, N3, upd (upd pv 1 (nt T)) 2 y1, y0, ?_, ?_, by rw [upd_s]; exact ru3, by rw [upd_n (by decide), P0], by rw [upd_n (by decide), upd_s, eT], c.trans c3, by omega⟩
    · unfold fT_putEvent jT_putEvent_13
      simp (disch := omega) only [lit, ixF, nt_le, nt_lt, nt_eq, nt_cl, nt_add, nt_sub, bind_s, if_true, if_false, if_pos, if_neg, upd_s, k8, k16, k7, k4, s_r8, s_l7, s_l8, s_l16, a255, a127, r.ze, z00, eT, p1, a, c.w.ze, P0, P2, z2', es]
      exact a3
    · unfold jM_putTrack_64
      simp (disch := omega) only [lit, ixF, nt_le, nt_lt, nt_eq, nt_cl, nt_add, nt_sub, bind_s, if_true, if_false, if_pos, if_neg, upd_s, k8, k16, k7, k4, s_r8, s_l7, s_l8, s_l16, a255, a127, r.av 1 (by decide), eT, b, c.w.av 3 (by decide), c.w.av 1 (by decide), es]
      rw [if_pos]
      · exact b3
      · rcases ru with ⟨q, _⟩ | ⟨q, _⟩
        · rw [q, ntm1 (by omega)] at w2; exact w2.elim
        · rw [w2, q]
