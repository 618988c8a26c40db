theorem nt_div {a b : Nat} (ha : a < 2147483648) (hb : b < 2147483648) : nt a / nt b = nt (a / b) := by
  have hq : a / b ≤ a := Nat.div_le_self a b
  apply Int32.toInt.inj
  rw [Int32.toInt_div, nt_toInt ha, nt_toInt hb, nt_toInt (by omega), ← Int.ofNat_tdiv]
  generalize a / b = q at *
  exact Int.bmod_eq_of_le (by omega) (by omega)
/-- the nearest multiple -/
def nr (t s : Nat) : Nat := (t + s / 2) / s * s
theorem nr_eq {t s : Nat} (hs : 0 < s) : nr t s = if 2 * (t % s) < s then t / s * s else (t / s + 1) * s := by
  have hm := Nat.mod_lt t hs
  have hd := Nat.div_add_mod t s
  unfold nr
  by_cases q : 2 * (t % s) < s
  · rw [if_pos q]
    have : (t + s / 2) / s = t / s := by
      apply Nat.div_eq_of_lt_le
      · rw [Nat.mul_comm]; omega
      · rw [Nat.add_mul, Nat.one_mul, Nat.mul_comm (t / s) s]; omega
    rw [this]
  · rw [if_neg q]
    have : (t + s / 2) / s = t / s + 1 := by
      apply Nat.div_eq_of_lt_le
      · rw [Nat.add_mul, Nat.one_mul, Nat.mul_comm (t / s) s]; omega
      · rw [Nat.add_mul, Nat.add_mul, Nat.one_mul, Nat.mul_comm (t / s) s]; omega
    rw [this]
theorem nr_le {t s : Nat} : nr t s ≤ t + s / 2 := by unfold nr; exact Nat.div_mul_le_self _ _
theorem nr_mono {t t' s : Nat} (h : t ≤ t') : nr t s ≤ nr t' s := by
  unfold nr; exact Nat.mul_le_mul_right s (Nat.div_le_div_right (by omega))
theorem c_nearest {h z} {t s : Nat} (ht : t ≤ 268435455) (hs : 0 < s) (hs2 : s ≤ 100000) : fD_nearest h z (nt t) (nt s) = some (nt (nr t s), z) := by
  unfold fD_nearest nr
  rw [lit, nt_div (by omega) (by omega)]
  rw [if_neg (by decide), if_neg (by rw [lit, nt_eq (by omega) (by omega)]; omega), nt_add, nt_div (by omega) (by omega), nt_mul]
theorem cmp_lt {a b : Nat} (ha : a < 9223372036854775808) (hb : b < 9223372036854775808) : (lg_cmp (mt a) (mt b) < 0) = (a < b) := by
  unfold lg_cmp
  have e : (mt a > mt b) = (b < a) := mt_lt hb ha
  simp only [e, mt_eq ha hb]
  by_cases q : b < a
  · rw [if_pos q]; exact propext ⟨fun x => absurd x (by decide), fun x => by omega⟩
  · rw [if_neg q]
    by_cases q2 : a = b
    · rw [if_pos q2]; exact propext ⟨fun x => absurd x (by decide), fun x => by omega⟩
    · rw [if_neg q2]; exact propext ⟨fun x => by omega, fun x => by decide⟩
theorem cmp_le {a b : Nat} (ha : a < 9223372036854775808) (hb : b < 9223372036854775808) : (lg_cmp (mt a) (mt b) ≤ 0) = (a ≤ b) := by
  unfold lg_cmp
  have e : (mt a > mt b) = (b < a) := mt_lt hb ha
  simp only [e, mt_eq ha hb]
  by_cases q : b < a
  · rw [if_pos q]; exact propext ⟨fun x => absurd x (by decide), fun x => by omega⟩
  · rw [if_neg q]
    by_cases q2 : a = b
    · rw [if_pos q2]; exact propext ⟨fun x => by omega, fun x => by decide⟩
    · rw [if_neg q2]; exact propext ⟨fun x => by omega, fun x => by decide⟩
theorem m_nearest {iv av} {t s : Nat} (ht : t ≤ 268435455) (hs : 0 < s) (hs2 : s ≤ 100000) : fM_nearest iv av (nt t) (nt s) = some (mt (nr t s), iv, av) := by
  have hm := Nat.mod_lt t hs
  have hd := Nat.div_add_mod t s
  have hq : t / s ≤ t := Nat.div_le_self t s
  have e : t / s * s = t - t % s := by rw [Nat.mul_comm]; omega
  unfold fM_nearest
  rw [nt_div (by omega) (by omega), nt_mul, nt_sub (by omega), e, show t - (t - t % s) = t % s by omega, nt_64 (by omega), nt_64 (by omega), nt_64 (by omega), lit6, mt_mul]
  rw [if_neg (by rw [lit, nt_eq (by omega) (by omega)]; omega), if_neg (by rw [lit, nt_eq (by omega) (by omega)]; omega), nr_eq hs]
  simp only [cmp_lt (show 2 * (t % s) < 9223372036854775808 by omega) (show s < 9223372036854775808 by omega)]
  by_cases q : 2 * (t % s) < s
  · rw [if_pos q, if_pos q, mt_mul]
  · rw [if_neg q, if_neg q, lit6, mt_add, mt_mul]
/-- the list before it is put in order -/
abbrev LSU (h : cH) (z : cZ) (iv : Nat → Int32) (av : Nat → Nat → Int32) (n : Nat) (o : Nat → Nat) (nd fm tr dv : Nat) : Prop := (EVS h z iv av n o) ∧ (DAT h z av nd) ∧ (∀ k, k < n → av 8 k = nt (o k)) ∧ (∀ k k', k < n → k' < n → o k = o k' → k = k') ∧ (fm ≤ 2) ∧ (zi z 4 = nt fm) ∧ (iv 7 = nt fm) ∧ (1 ≤ tr) ∧ (tr ≤ 16) ∧ (zi z 5 = nt tr) ∧ (iv 8 = nt tr) ∧ (DV dv) ∧ (zi z 6 = nt dv) ∧ (iv 9 = nt dv) ∧ (∀ e, e < n → EvOK (fun f => av (f + 1) e) nd tr) ∧ (((List.range n).map (fun e => (av 7 e).toNatClampNeg)).sum ≤ nd)
theorem LSU.ev {h : cH} {z : cZ} {iv : Nat → Int32} {av : Nat → Nat → Int32} {n : Nat} {o : Nat → Nat} {nd fm tr dv : Nat} (s : LSU h z iv av n o nd fm tr dv) : EVS h z iv av n o := s.1
theorem LSU.da {h : cH} {z : cZ} {iv : Nat → Int32} {av : Nat → Nat → Int32} {n : Nat} {o : Nat → Nat} {nd fm tr dv : Nat} (s : LSU h z iv av n o nd fm tr dv) : DAT h z av nd := s.2.1
theorem LSU.om {h : cH} {z : cZ} {iv : Nat → Int32} {av : Nat → Nat → Int32} {n : Nat} {o : Nat → Nat} {nd fm tr dv : Nat} (s : LSU h z iv av n o nd fm tr dv) : ∀ k, k < n → av 8 k = nt (o k) := s.2.2.1
theorem LSU.oi {h : cH} {z : cZ} {iv : Nat → Int32} {av : Nat → Nat → Int32} {n : Nat} {o : Nat → Nat} {nd fm tr dv : Nat} (s : LSU h z iv av n o nd fm tr dv) : ∀ k k', k < n → k' < n → o k = o k' → k = k' := s.2.2.2.1
theorem LSU.fmx {h : cH} {z : cZ} {iv : Nat → Int32} {av : Nat → Nat → Int32} {n : Nat} {o : Nat → Nat} {nd fm tr dv : Nat} (s : LSU h z iv av n o nd fm tr dv) : fm ≤ 2 := s.2.2.2.2.1
theorem LSU.fc {h : cH} {z : cZ} {iv : Nat → Int32} {av : Nat → Nat → Int32} {n : Nat} {o : Nat → Nat} {nd fm tr dv : Nat} (s : LSU h z iv av n o nd fm tr dv) : zi z 4 = nt fm := s.2.2.2.2.2.1
theorem LSU.fi {h : cH} {z : cZ} {iv : Nat → Int32} {av : Nat → Nat → Int32} {n : Nat} {o : Nat → Nat} {nd fm tr dv : Nat} (s : LSU h z iv av n o nd fm tr dv) : iv 7 = nt fm := s.2.2.2.2.2.2.1
theorem LSU.t1 {h : cH} {z : cZ} {iv : Nat → Int32} {av : Nat → Nat → Int32} {n : Nat} {o : Nat → Nat} {nd fm tr dv : Nat} (s : LSU h z iv av n o nd fm tr dv) : 1 ≤ tr := s.2.2.2.2.2.2.2.1
theorem LSU.tmx {h : cH} {z : cZ} {iv : Nat → Int32} {av : Nat → Nat → Int32} {n : Nat} {o : Nat → Nat} {nd fm tr dv : Nat} (s : LSU h z iv av n o nd fm tr dv) : tr ≤ 16 := s.2.2.2.2.2.2.2.2.1
theorem LSU.tc {h : cH} {z : cZ} {iv : Nat → Int32} {av : Nat → Nat → Int32} {n : Nat} {o : Nat → Nat} {nd fm tr dv : Nat} (s : LSU h z iv av n o nd fm tr dv) : zi z 5 = nt tr := s.2.2.2.2.2.2.2.2.2.1
theorem LSU.ti {h : cH} {z : cZ} {iv : Nat → Int32} {av : Nat → Nat → Int32} {n : Nat} {o : Nat → Nat} {nd fm tr dv : Nat} (s : LSU h z iv av n o nd fm tr dv) : iv 8 = nt tr := s.2.2.2.2.2.2.2.2.2.2.1
theorem LSU.dmx {h : cH} {z : cZ} {iv : Nat → Int32} {av : Nat → Nat → Int32} {n : Nat} {o : Nat → Nat} {nd fm tr dv : Nat} (s : LSU h z iv av n o nd fm tr dv) : DV dv := s.2.2.2.2.2.2.2.2.2.2.2.1
theorem LSU.dc {h : cH} {z : cZ} {iv : Nat → Int32} {av : Nat → Nat → Int32} {n : Nat} {o : Nat → Nat} {nd fm tr dv : Nat} (s : LSU h z iv av n o nd fm tr dv) : zi z 6 = nt dv := s.2.2.2.2.2.2.2.2.2.2.2.2.1
theorem LSU.di {h : cH} {z : cZ} {iv : Nat → Int32} {av : Nat → Nat → Int32} {n : Nat} {o : Nat → Nat} {nd fm tr dv : Nat} (s : LSU h z iv av n o nd fm tr dv) : iv 9 = nt dv := s.2.2.2.2.2.2.2.2.2.2.2.2.2.1
theorem LSU.ok {h : cH} {z : cZ} {iv : Nat → Int32} {av : Nat → Nat → Int32} {n : Nat} {o : Nat → Nat} {nd fm tr dv : Nat} (s : LSU h z iv av n o nd fm tr dv) : ∀ e, e < n → EvOK (fun f => av (f + 1) e) nd tr := s.2.2.2.2.2.2.2.2.2.2.2.2.2.2.1
theorem LSU.su {h : cH} {z : cZ} {iv : Nat → Int32} {av : Nat → Nat → Int32} {n : Nat} {o : Nat → Nat} {nd fm tr dv : Nat} (s : LSU h z iv av n o nd fm tr dv) : ((List.range n).map (fun e => (av 7 e).toNatClampNeg)).sum ≤ nd := s.2.2.2.2.2.2.2.2.2.2.2.2.2.2.2
theorem r_sort {h z iv av n o nd fm tr dv} (ci : CI h z) (w : LSU h z iv av n o nd fm tr dv) :
    ∃ (z' : cZ) (av' : Nat → Nat → Int32) (o' : Nat → Nat), fS_putInOrder h z = some z' ∧ fM_again iv av = some (iv, av') ∧ Sm z z' ∧ CI h z' ∧ (∀ a, a ≠ 8 → av' a = av a) ∧ LST h z' iv av' n o' nd fm tr dv := by
  obtain ⟨z', s, A, B, C, D, E, F⟩ := c_sort ci w.ev.c w.ev.ne
  obtain ⟨av', s', A', B', C', D', E'⟩ := m_again (iv := iv) (av := av) (o := o) (T := fun p => (av 1 (o p)).toInt) (U := fun p => (av 2 (o p)).toInt) w.ev.mx w.ev.m w.ev.ol w.om (fun _ _ => rfl) (fun _ _ => rfl)
  have F2 : ∀ a b, a < b → b < n → ltk (fun p => (av 1 (o p)).toInt) (fun p => (av 2 (o p)).toInt) (s a) (s b) := fun a b x1 x2 =>
    ltk_eq (n := n) (fun p hp => by rw [w.ev.eq p hp 0 (by omega)]) (fun p hp => by rw [w.ev.eq p hp 1 (by omega)]) (E a (by omega)) (E b x2) (F a b x1 x2)
  have es := srt_uniq E D' F2 E'
  refine ⟨z', av', fun t => o (s t), A, A', B, C, B', ⟨w.ev.mx, w.ev.ne, by rw [B.i]; exact w.ev.c, w.ev.m, ?_, fun k hk => w.ev.ol _ (E k hk)⟩, ⟨w.da.cap, w.da.mx, by rw [B.i]; exact w.da.c, ?_, ?_⟩, ?_, ?_, w.fmx, by rw [B.i]; exact w.fc, w.fi, w.t1, w.tmx, by rw [B.i]; exact w.tc, w.ti, w.dmx, by rw [B.i]; exact w.dc, w.di, ?_, ?_, ?_⟩
  · intro k hk f hf; rw [B.e, D k hk, B' (f + 1) (by omega)]; exact w.ev.eq (s k) (E k hk) f hf
  · rw [B.a, B' 10 (by decide)]; exact w.da.eq
  · rw [B' 10 (by decide)]; exact w.da.by'
  · intro k hk; show av' 8 k = nt (o (s k)); rw [C' k hk, es k hk]
  · intro k k' hk hk' e; exact srt_inj F2 k k' hk hk' (w.oi _ _ (E k hk) (E k' hk') e)
  · intro e he; exact (w.ok e he).eq fun f hf => by rw [B' (f + 1) (by omega)]
  · intro i j hij hj
    rw [B' 1 (by decide), Int32.le_iff_toInt_le]
    have := F2 i j hij hj
    unfold ltk at this
    show (av 1 (o (s i))).toInt ≤ (av 1 (o (s j))).toInt
    dsimp only at this
    generalize (av 1 (o (s i))).toInt = x at *
    generalize (av 1 (o (s j))).toInt = y at *
    omega
  · rw [B' 7 (by decide)]; exact w.su
theorem LST.toU {h z iv av n o nd fm tr dv} (w : LST h z iv av n o nd fm tr dv) : LSU h z iv av n o nd fm tr dv := ⟨w.ev, w.da, w.om, w.oi, w.fmx, w.fc, w.fi, w.t1, w.tmx, w.tc, w.ti, w.dmx, w.dc, w.di, w.ok, w.su⟩
theorem upe_s {f : Nat → Nat → Int32} {j k : Nat} {x : Int32} : upe f j k x j k = x := by simp [upe]
theorem upe_n {f : Nat → Nat → Int32} {j k a b : Nat} {x : Int32} (h : a ≠ j ∨ b ≠ k) : upe f j k x a b = f a b := by
  unfold upe
  by_cases q : a = j
  · rw [if_pos q, if_neg (by omega)]
  · rw [if_neg q]
theorem l_round {h : cH} {z0 : cZ} {n s : Nat} {tk : Nat → Nat} (ci : CI h z0) (c : zi z0 7 = nt n) (hn : n ≤ h.2.1) (hs : 0 < s) (hs2 : s ≤ 100000) (et : ∀ k, k < n → ze z0 (rr z0 k) 0 = nt (tk k)) (ht : ∀ k, k < n → tk k ≤ 268435455) :
    ∀ m fuel i (z : cZ), i + m = n → m < fuel → zi z = zi z0 → za z = za z0 → zr z = zr z0 → (∀ k f, k < n → ze z (rr z0 k) f = if f = 0 ∧ k < i then nt (nr (tk k) s) else ze z0 (rr z0 k) f) →
    ∃ z', lS_roundTicks_4 h fuel z (nt s) (nt (cnt (fun k => decide (nr (tk k) s ≠ tk k)) i)) (nt i) = (fS_putInOrder h z').bind (fun z2 => some (nt (cnt (fun k => decide (nr (tk k) s ≠ tk k)) n), z2)) ∧ zi z' = zi z0 ∧ za z' = za z0 ∧ zr z' = zr z0 ∧ (∀ k f, k < n → ze z' (rr z0 k) f = if f = 0 then nt (nr (tk k) s) else ze z0 (rr z0 k) f) := by
  have h1 := ci.ne; have h2 := ci.u3
  intro m
  induction m with
  | zero =>
    intro fuel i z hi hf e1 e2 e3 e4
    obtain ⟨f, rfl⟩ : ∃ k, fuel = k + 1 := ⟨fuel - 1, by omega⟩
    have : i = n := by omega
    subst this
    refine ⟨z, ?_, e1, e2, e3, fun k f hk => ?_⟩
    · unfold lS_roundTicks_4; rw [e1, c, if_pos (by rw [nt_le (by omega) (by omega)]; omega)]
    · rw [e4 k f hk]; by_cases q : f = 0 <;> simp [q, hk]
  | succ m ih =>
    intro fuel i z hi hf e1 e2 e3 e4
    obtain ⟨f, rfl⟩ : ∃ k, fuel = k + 1 := ⟨fuel - 1, by omega⟩
    have hin : i < n := by omega
    have hj := ci.ev (t := i) (by omega)
    have tki := ht i hin
    have er : zr z 0 i = some (rr z0 i) := by rw [e3]; exact ci.ro i (by omega)
    have ez : ze z (rr z0 i) 0 = nt (tk i) := by rw [e4 i 0 hin, if_neg (by omega)]; exact et i hin
    have nl := nr_le (t := tk i) (s := s)
    obtain ⟨z', A, B⟩ := ih f (i + 1) (zE z (rr z0 i) 0 (nt (nr (tk i) s))) (by omega) (by omega) e1 e2 e3 (fun k f' hk => by
      rw [ze_E]
      by_cases q : k = i ∧ f' = 0
      · obtain ⟨rfl, rfl⟩ := q; rw [upe_s, if_pos (by omega)]
      · rw [upe_n, e4 k f' hk]
        · by_cases q2 : f' = 0 ∧ k < i
          · rw [if_pos q2, if_pos (by omega)]
          · rw [if_neg q2, if_neg (by omega)]
        · by_cases q3 : k = i
          · right; omega
          · left; intro e; exact q3 (ci.ij k i (by omega) (by omega) e))
    refine ⟨z', ?_, B⟩
    unfold lS_roundTicks_4 jS_roundTicks_44
    rw [cnt_s] at A
    by_cases q : nr (tk i) s = tk i
    · simp (disch := omega) only [lit, ixF, nt_le, nt_lt, nt_eq, nt_cl, nt_add, nt_sub, bind_s, if_true, if_false, if_pos, if_neg, upd_s, k8, k16, k7, k4, s_r8, s_l7, s_l8, s_l16, a255, a127, e1, c, er, Option.bind_some, ez, c_nearest tki hs hs2]
      simpa [q] using A
    · simp (disch := omega) only [lit, ixF, nt_le, nt_lt, nt_eq, nt_cl, nt_add, nt_sub, bind_s, if_true, if_false, if_pos, if_neg, upd_s, k8, k16, k7, k4, s_r8, s_l7, s_l8, s_l16, a255, a127, e1, c, er, Option.bind_some, ez, c_nearest tki hs hs2]
      simpa [q, nt_add] using A
theorem l_grid94 {iv : Nat → Int32} {av0 : Nat → Nat → Int32} {n s : Nat} {tk : Nat → Nat} (hn : n ≤ 1000) (c : iv 10 = nt n) (hs : 0 < s) (hs2 : s ≤ 100000) (et : ∀ k, k < n → av0 1 k = nt (tk k)) (ht : ∀ k, k < n → tk k ≤ 268435455) :
    ∀ m fuel i (av : Nat → Nat → Int32), i + m = n → m < fuel → (∀ a, a ≠ 1 → av a = av0 a) → (∀ k, k < n → av 1 k = if k < i then nt (nr (tk k) s) else av0 1 k) →
    ∃ av' : Nat → Nat → Int32, lM_grid_94 fuel iv av (nt s) (nt (cnt (fun k => decide (nr (tk k) s ≠ tk k)) i)) (nt i) = (fM_again iv av').bind (fun (iv2, av2) => some (nt (cnt (fun k => decide (nr (tk k) s ≠ tk k)) n), iv2, av2)) ∧ (∀ a, a ≠ 1 → av' a = av0 a) ∧ (∀ k, k < n → av' 1 k = nt (nr (tk k) s)) := by
  intro m
  induction m with
  | zero =>
    intro fuel i av hi hf e1 e2
    obtain ⟨f, rfl⟩ : ∃ k, fuel = k + 1 := ⟨fuel - 1, by omega⟩
    have : i = n := by omega
    subst this
    refine ⟨av, ?_, e1, fun k hk => ?_⟩
    · unfold lM_grid_94; rw [c, if_pos (by rw [nt_le (by omega) (by omega)]; omega)]
    · rw [e2 k hk, if_pos hk]
  | succ m ih =>
    intro fuel i av hi hf e1 e2
    obtain ⟨f, rfl⟩ : ∃ k, fuel = k + 1 := ⟨fuel - 1, by omega⟩
    have hin : i < n := by omega
    have tki := ht i hin
    have ez : av 1 i = nt (tk i) := by rw [e2 i hin, if_neg (by omega)]; exact et i hin
    have nl := nr_le (t := tk i) (s := s)
    obtain ⟨av', A, B⟩ := ih f (i + 1) (up2 av 1 i (nt (nr (tk i) s))) (by omega) (by omega) (fun a ha => by rw [up2_o ha]; exact e1 a ha) (fun k hk => by
      by_cases q : k = i
      · subst q; rw [up2_s, if_pos (by omega)]
      · rw [up2_n q, e2 k hk]
        by_cases q2 : k < i
        · rw [if_pos q2, if_pos (by omega)]
        · rw [if_neg q2, if_neg (by omega)])
    refine ⟨av', ?_, B⟩
    unfold lM_grid_94 jM_grid_135
    rw [cnt_s] at A
    by_cases q : nr (tk i) s = tk i
    · simp (disch := omega) only [lit, ixF, nt_le, nt_lt, nt_eq, nt_cl, nt_add, nt_sub, bind_s, if_true, if_false, if_pos, if_neg, upd_s, k8, k16, k7, k4, s_r8, s_l7, s_l8, s_l16, a255, a127, c, ez, m_nearest tki hs hs2, mt_32]
      simpa [q] using A
    · simp (disch := omega) only [lit, ixF, nt_le, nt_lt, nt_eq, nt_cl, nt_add, nt_sub, bind_s, if_true, if_false, if_pos, if_neg, upd_s, k8, k16, k7, k4, s_r8, s_l7, s_l8, s_l16, a255, a127, c, ez, m_nearest tki hs hs2, mt_32]
      simpa [q, nt_add] using A
theorem l_grid19 {iv : Nat → Int32} {av : Nat → Nat → Int32} {n s : Nat} {tk : Nat → Nat} (hn : n ≤ 1000) (c : iv 10 = nt n) (p : iv 6 = 1) (hs : 0 < s) (hs2 : s ≤ 100000) (et : ∀ k, k < n → av 1 k = nt (tk k)) (ht : ∀ k, k < n → tk k ≤ 268435455) :
    ∀ m fuel i, i + m = n → m + 1 < fuel →
    (∃ k, i ≤ k ∧ k < n ∧ 268435455 < nr (tk k) s ∧ lM_grid_19 fuel iv av (nt s) (nt 0) (nt i) = jM_grid_67 iv av (nt s) (nt 1)) ∨ ((∀ k, i ≤ k → k < n → nr (tk k) s ≤ 268435455) ∧ lM_grid_19 fuel iv av (nt s) (nt 0) (nt i) = jM_grid_67 iv av (nt s) (nt 0)) := by
  intro m
  induction m with
  | zero =>
    intro fuel i hi hf
    obtain ⟨f, rfl⟩ : ∃ k, fuel = k + 1 := ⟨fuel - 1, by omega⟩
    right
    refine ⟨fun k h1 h2 => absurd h2 (by omega), ?_⟩
    unfold lM_grid_19; rw [c, if_pos (by rw [nt_le (by omega) (by omega)]; omega)]
  | succ m ih =>
    intro fuel i hi hf
    obtain ⟨f, rfl⟩ : ∃ k, fuel = k + 1 := ⟨fuel - 1, by omega⟩
    have hin : i < n := by omega
    have tki := ht i hin
    have nl := nr_le (t := tk i) (s := s)
    by_cases q : nr (tk i) s ≤ 268435455
    · rcases ih f (i + 1) (by omega) (by omega) with ⟨k, a, b, d, e⟩ | ⟨a, b⟩
      · left
        refine ⟨k, by omega, b, d, ?_⟩
        unfold lM_grid_19 jM_grid_60
        simp (disch := omega) only [lit, ixF, nt_le, nt_lt, nt_eq, nt_cl, nt_add, nt_sub, bind_s, if_true, if_false, if_pos, if_neg, upd_s, k8, k16, k7, k4, s_r8, s_l7, s_l8, s_l16, a255, a127, c, p, et i hin, m_nearest tki hs hs2, lit6]
        rw [← e]
        have := cmp_le (a := nr (tk i) s) (b := 268435455) (by omega) (by omega)
        simp only [lit] at this
        rw [if_pos (by rw [this]; exact q)]
      · right
        refine ⟨fun k h1 h2 => ?_, ?_⟩
        · by_cases qk : k = i
          · subst qk; exact q
          · exact a k (by omega) h2
        unfold lM_grid_19 jM_grid_60
        simp (disch := omega) only [lit, ixF, nt_le, nt_lt, nt_eq, nt_cl, nt_add, nt_sub, bind_s, if_true, if_false, if_pos, if_neg, upd_s, k8, k16, k7, k4, s_r8, s_l7, s_l8, s_l16, a255, a127, c, p, et i hin, m_nearest tki hs hs2, lit6]
        rw [← b]
        have := cmp_le (a := nr (tk i) s) (b := 268435455) (by omega) (by omega)
        simp only [lit] at this
        rw [if_pos (by rw [this]; exact q)]
    · left
      refine ⟨i, by omega, hin, by omega, ?_⟩
      obtain ⟨f', rfl⟩ : ∃ k, f = k + 1 := ⟨f - 1, by omega⟩
      have next : lM_grid_19 (f' + 1) iv av (nt s) (nt 1) (nt (i + 1)) = jM_grid_67 iv av (nt s) (nt 1) := by
        unfold lM_grid_19
        simp (disch := omega) only [lit, ixF, nt_le, nt_lt, nt_eq, nt_cl, nt_add, nt_sub, bind_s, if_true, if_false, if_pos, if_neg, upd_s, k8, k16, k7, k4, s_r8, s_l7, s_l8, s_l16, a255, a127, c, p]
        split <;> rfl
      unfold lM_grid_19 jM_grid_60
      simp (disch := omega) only [lit, ixF, nt_le, nt_lt, nt_eq, nt_cl, nt_add, nt_sub, bind_s, if_true, if_false, if_pos, if_neg, upd_s, k8, k16, k7, k4, s_r8, s_l7, s_l8, s_l16, a255, a127, c, p, et i hin, m_nearest tki hs hs2, lit6]
      have := cmp_le (a := nr (tk i) s) (b := 268435455) (by omega) (by omega)
      simp only [lit] at this
      rw [if_neg (by rw [this]; exact q)]
      exact next
