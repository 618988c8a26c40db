abbrev WS (h0 : cH) (z0 : cZ) (iv0 : Nat → Int32) (av0 : Nat → Nat → Int32) (h : cH) (z : cZ) (iv : Nat → Int32) (av : Nat → Nat → Int32) (N : Nat) : Prop := (CI h z) ∧ (zr z = zr z0) ∧ (ze z = ze z0) ∧ (∀ k, k ≠ 1 → zi z k = zi z0 k) ∧ (∀ k, k ≠ 1 → za z k = za z0 k) ∧ (h.2.1 = h0.2.1) ∧ (∀ k, k ≠ 1 → h.1 k = h0.1 k) ∧ (∀ k, k ≠ 12 → iv k = iv0 k) ∧ (∀ k, k ≠ 11 → av k = av0 k) ∧ (OUT h z iv av N)
theorem WS.ci {h0 : cH} {z0 : cZ} {iv0 : Nat → Int32} {av0 : Nat → Nat → Int32} {h : cH} {z : cZ} {iv : Nat → Int32} {av : Nat → Nat → Int32} {N : Nat} (s : WS h0 z0 iv0 av0 h z iv av N) : CI h z := s.1
theorem WS.zr {h0 : cH} {z0 : cZ} {iv0 : Nat → Int32} {av0 : Nat → Nat → Int32} {h : cH} {z : cZ} {iv : Nat → Int32} {av : Nat → Nat → Int32} {N : Nat} (s : WS h0 z0 iv0 av0 h z iv av N) : zr z = zr z0 := s.2.1
theorem WS.ze {h0 : cH} {z0 : cZ} {iv0 : Nat → Int32} {av0 : Nat → Nat → Int32} {h : cH} {z : cZ} {iv : Nat → Int32} {av : Nat → Nat → Int32} {N : Nat} (s : WS h0 z0 iv0 av0 h z iv av N) : ze z = ze z0 := s.2.2.1
theorem WS.zi {h0 : cH} {z0 : cZ} {iv0 : Nat → Int32} {av0 : Nat → Nat → Int32} {h : cH} {z : cZ} {iv : Nat → Int32} {av : Nat → Nat → Int32} {N : Nat} (s : WS h0 z0 iv0 av0 h z iv av N) : ∀ k, k ≠ 1 → zi z k = zi z0 k := s.2.2.2.1
theorem WS.za {h0 : cH} {z0 : cZ} {iv0 : Nat → Int32} {av0 : Nat → Nat → Int32} {h : cH} {z : cZ} {iv : Nat → Int32} {av : Nat → Nat → Int32} {N : Nat} (s : WS h0 z0 iv0 av0 h z iv av N) : ∀ k, k ≠ 1 → za z k = za z0 k := s.2.2.2.2.1
theorem WS.en {h0 : cH} {z0 : cZ} {iv0 : Nat → Int32} {av0 : Nat → Nat → Int32} {h : cH} {z : cZ} {iv : Nat → Int32} {av : Nat → Nat → Int32} {N : Nat} (s : WS h0 z0 iv0 av0 h z iv av N) : h.2.1 = h0.2.1 := s.2.2.2.2.2.1
theorem WS.hl {h0 : cH} {z0 : cZ} {iv0 : Nat → Int32} {av0 : Nat → Nat → Int32} {h : cH} {z : cZ} {iv : Nat → Int32} {av : Nat → Nat → Int32} {N : Nat} (s : WS h0 z0 iv0 av0 h z iv av N) : ∀ k, k ≠ 1 → h.1 k = h0.1 k := s.2.2.2.2.2.2.1
theorem WS.iv {h0 : cH} {z0 : cZ} {iv0 : Nat → Int32} {av0 : Nat → Nat → Int32} {h : cH} {z : cZ} {iv : Nat → Int32} {av : Nat → Nat → Int32} {N : Nat} (s : WS h0 z0 iv0 av0 h z iv av N) : ∀ k, k ≠ 12 → iv k = iv0 k := s.2.2.2.2.2.2.2.1
theorem WS.av {h0 : cH} {z0 : cZ} {iv0 : Nat → Int32} {av0 : Nat → Nat → Int32} {h : cH} {z : cZ} {iv : Nat → Int32} {av : Nat → Nat → Int32} {N : Nat} (s : WS h0 z0 iv0 av0 h z iv av N) : ∀ k, k ≠ 11 → av k = av0 k := s.2.2.2.2.2.2.2.2.1
theorem WS.out {h0 : cH} {z0 : cZ} {iv0 : Nat → Int32} {av0 : Nat → Nat → Int32} {h : cH} {z : cZ} {iv : Nat → Int32} {av : Nat → Nat → Int32} {N : Nat} (s : WS h0 z0 iv0 av0 h z iv av N) : OUT h z iv av N := s.2.2.2.2.2.2.2.2.2
abbrev WN (h0 : cH) (z0 : cZ) (iv0 : Nat → Int32) (av0 : Nat → Nat → Int32) (h : cH) (z : cZ) (N : Nat) (h' : cH) (z' : cZ) (iv' : Nat → Int32) (av' : Nat → Nat → Int32) (N' : Nat) : Prop := (WS h0 z0 iv0 av0 h' z' iv' av' N') ∧ (gr h h') ∧ (∀ i, i < N → za z' 1 i = za z 1 i) ∧ (N ≤ N')
theorem WN.w {h0 : cH} {z0 : cZ} {iv0 : Nat → Int32} {av0 : Nat → Nat → Int32} {h : cH} {z : cZ} {N : Nat} {h' : cH} {z' : cZ} {iv' : Nat → Int32} {av' : Nat → Nat → Int32} {N' : Nat} (s : WN h0 z0 iv0 av0 h z N h' z' iv' av' N') : WS h0 z0 iv0 av0 h' z' iv' av' N' := s.1
theorem WN.g {h0 : cH} {z0 : cZ} {iv0 : Nat → Int32} {av0 : Nat → Nat → Int32} {h : cH} {z : cZ} {N : Nat} {h' : cH} {z' : cZ} {iv' : Nat → Int32} {av' : Nat → Nat → Int32} {N' : Nat} (s : WN h0 z0 iv0 av0 h z N h' z' iv' av' N') : gr h h' := s.2.1
theorem WN.o {h0 : cH} {z0 : cZ} {iv0 : Nat → Int32} {av0 : Nat → Nat → Int32} {h : cH} {z : cZ} {N : Nat} {h' : cH} {z' : cZ} {iv' : Nat → Int32} {av' : Nat → Nat → Int32} {N' : Nat} (s : WN h0 z0 iv0 av0 h z N h' z' iv' av' N') : ∀ i, i < N → za z' 1 i = za z 1 i := s.2.2.1
theorem WN.le {h0 : cH} {z0 : cZ} {iv0 : Nat → Int32} {av0 : Nat → Nat → Int32} {h : cH} {z : cZ} {N : Nat} {h' : cH} {z' : cZ} {iv' : Nat → Int32} {av' : Nat → Nat → Int32} {N' : Nat} (s : WN h0 z0 iv0 av0 h z N h' z' iv' av' N') : N ≤ N' := s.2.2.2
theorem WN.trans {h0 z0 iv0 av0 h z N h1 z1 iv1 av1 N1 h2 z2 iv2 av2 N2} (a : WN h0 z0 iv0 av0 h z N h1 z1 iv1 av1 N1) (b : WN h0 z0 iv0 av0 h1 z1 N1 h2 z2 iv2 av2 N2) : WN h0 z0 iv0 av0 h z N h2 z2 iv2 av2 N2 :=
  ⟨b.w, a.g.trans b.g, fun i hi => (b.o i (by have := a.le; omega)).trans (a.o i hi), Nat.le_trans a.le b.le⟩
theorem WS.refl {h0 z0 iv0 av0 h z iv av N} (a : WS h0 z0 iv0 av0 h z iv av N) : WN h0 z0 iv0 av0 h z N h z iv av N := ⟨a, gr.refl _, fun _ _ => rfl, Nat.le_refl _⟩
theorem j_put' {h0 z0 iv0 av0 h z iv av N} (r : WS h0 z0 iv0 av0 h z iv av N) (hN : N < 16384) {x v : Int32} (hx : x &&& 255 = v) :
    ∃ h' z' iv' av', fB1_put h z x = some (h', z') ∧ fM_put iv av v = some (iv', av') ∧ WN h0 z0 iv0 av0 h z N h' z' iv' av' (N + 1) ∧ za z' 1 N = v := by
  obtain ⟨h', z', e, p⟩ := put1 (x := x) r.out.c hN r.out.cap r.ci.l1 r.ci.u1
  refine ⟨h', z', upd iv 12 (nt (N + 1)), up2 av 11 N v, e, ?_, ⟨⟨r.ci.put (.inr (.inl ⟨rfl, rfl⟩)) p, p.er.trans r.zr, p.ee.trans r.ze, fun k hk => ?_, fun k hk => (p.ea k hk).trans (r.za k hk), p.en.trans r.en, fun k hk => (p.el k hk).trans (r.hl k hk), fun k hk => ?_, fun k hk => ?_, ⟨p.le, by omega, ?_, upd_s, fun i hi => ?_, fun i hi => ?_⟩⟩, p.gr, p.eo, by omega⟩, p.ev.trans hx⟩
  · unfold fM_put; rw [r.out.m]; simp (disch := omega) only [lit, ixF, nt_le, nt_lt, nt_eq, nt_cl, nt_add, nt_sub, bind_s, if_true, if_false, if_pos, if_neg, upd_s, k8, k16, k7, k4, s_r8, s_l7, s_l8, s_l16, a255, a127]
  · rw [p.ei, upd_n hk, r.zi k hk]
  · rw [upd_n hk, r.iv k hk]
  · rw [up2_o hk, r.av k hk]
  · rw [p.ei, upd_s]
  · by_cases q : i = N
    · subst q; rw [up2_s, p.ev, hx]
    · rw [up2_n q, p.eo i (by omega), r.out.eq i (by omega)]
  · by_cases q : i = N
    · subst q; rw [up2_s, ← hx]; exact isB_and x
    · rw [up2_n q]; exact r.out.by' i (by omega)
theorem j_put {h0 z0 iv0 av0 h z iv av N} (r : WS h0 z0 iv0 av0 h z iv av N) (hN : N < 16384) {x v : Int32} (hx : x &&& 255 = v) :
    ∃ h' z' iv' av', fB1_put h z x = some (h', z') ∧ fM_put iv av v = some (iv', av') ∧ WN h0 z0 iv0 av0 h z N h' z' iv' av' (N + 1) := by
  obtain ⟨h', z', iv', av', a, b, c, _⟩ := j_put' r hN hx
  exact ⟨h', z', iv', av', a, b, c⟩
theorem nm1' (m : Nat) : nt m + (-1) = nt m - 1 := (Int32.sub_eq_add_neg _ _).symm
theorem neg1 : ((-1 : Int32) < 0) = True := by decide
theorem l_fixed {h0 z0 iv0 av0} (x : Int32) (pv : Nat → Int32) : ∀ m fuel fuel' h z iv av N, WS h0 z0 iv0 av0 h z iv av N → m < 5 → N + m ≤ 16384 → m < fuel → m < fuel' →
    ∃ h' z' iv' av', lT_putFixed_4 fuel h z pv x (nt m - 1) = some (h', z', pv) ∧ lM_puts_4 fuel' iv av x (nt m - 1) = some (iv', av') ∧ WN h0 z0 iv0 av0 h z N h' z' iv' av' (N + m) ∧ ∀ i, N ≤ i → i < N + m → ∃ k, za z' 1 i = (x >>> k) &&& 255 := by
  intro m
  induction m with
  | zero =>
    intro fuel fuel' h z iv av N r h5 hN hf hf'
    obtain ⟨f, rfl⟩ : ∃ f, fuel = f + 1 := ⟨fuel - 1, by omega⟩
    obtain ⟨f', rfl⟩ : ∃ f, fuel' = f + 1 := ⟨fuel' - 1, by omega⟩
    rw [show nt 0 - 1 = (-1 : Int32) from rfl, lT_putFixed_4, lM_puts_4]
    dsimp only
    rw [if_pos (by decide), if_pos (by decide)]
    exact ⟨h, z, iv, av, rfl, rfl, r.refl, fun i h1 h2 => absurd h2 (by omega)⟩
  | succ m ih =>
    intro fuel fuel' h z iv av N r h5 hN hf hf'
    obtain ⟨f, rfl⟩ : ∃ f, fuel = f + 1 := ⟨fuel - 1, by omega⟩
    obtain ⟨f', rfl⟩ : ∃ f, fuel' = f + 1 := ⟨fuel' - 1, by omega⟩
    have e : nt (m + 1) - 1 = nt m := by rw [lit, nt_sub (by omega)]; rfl
    rw [e, lT_putFixed_4, lM_puts_4]
    dsimp only
    have q : ¬ nt m < 0 := by rw [nt_neg (by omega)]; simp
    rw [if_neg q, if_neg q]
    obtain ⟨h1, z1, iv1, av1, a, b, c, d⟩ := j_put' r (by omega) (x := x >>> (((8 : Int32) * nt m) &&& 31)) rfl
    obtain ⟨h2, z2, iv2, av2, a2, b2, c2, d2⟩ := ih f f' h1 z1 iv1 av1 (N + 1) c.w (by omega) (by omega) (by omega) (by omega)
    refine ⟨h2, z2, iv2, av2, ?_, ?_, ?_, fun i h1 h2 => ?_⟩
    · rw [a, bind_s]; dsimp only; unfold jT_putFixed_21; rw [nm1']; exact a2
    · rw [b, bind_s]; dsimp only; rw [nm1']; exact b2
    · have := c.trans c2; rw [show N + (m + 1) = N + 1 + m by omega]; exact this
    · by_cases q : i = N
      · subst q; rw [c2.o i (by omega), d]; exact ⟨_, rfl⟩
      · exact d2 i (by omega) (by omega)
theorem j_fixed' {h0 z0 iv0 av0 h z iv av N} (r : WS h0 z0 iv0 av0 h z iv av N) (pv : Nat → Int32) (x : Int32) (m : Nat) (hm : m < 5) (hN : N + m ≤ 16384) :
    ∃ h' z' iv' av', fT_putFixed h z pv x (nt m) = some (h', z', pv) ∧ fM_puts iv av x (nt m) = some (iv', av') ∧ WN h0 z0 iv0 av0 h z N h' z' iv' av' (N + m) ∧ ∀ i, N ≤ i → i < N + m → ∃ k, za z' 1 i = (x >>> k) &&& 255 := by
  unfold fT_putFixed fM_puts
  exact l_fixed x pv m FU FU h z iv av N r hm hN (FUn (by omega)) (FUn (by omega))
theorem j_fixed {h0 z0 iv0 av0 h z iv av N} (r : WS h0 z0 iv0 av0 h z iv av N) (pv : Nat → Int32) (x : Int32) (m : Nat) (hm : m < 5) (hN : N + m ≤ 16384) :
    ∃ h' z' iv' av', fT_putFixed h z pv x (nt m) = some (h', z', pv) ∧ fM_puts iv av x (nt m) = some (iv', av') ∧ WN h0 z0 iv0 av0 h z N h' z' iv' av' (N + m) := by
  obtain ⟨h', z', iv', av', a, b, c, _⟩ := j_fixed' r pv x m hm hN
  exact ⟨h', z', iv', av', a, b, c⟩
theorem and31 {s : Nat} (h : s < 32) : nt s &&& 31 = nt s := by
  rw [lit, nt_and, show s &&& 31 = s % 32 from Nat.and_two_pow_sub_one_eq_mod s 5, Nat.mod_eq_of_lt h]
theorem or128 {a : Nat} : (nt a ||| 128) &&& 255 = nt (a % 128 + 128) := by
  rw [lit, lit, nt_or, nt_and]
  congr 1
  rw [show (a ||| 128) &&& 255 = (a ||| 128) % 256 from Nat.and_two_pow_sub_one_eq_mod _ 8, show (256 : Nat) = 2 ^ 8 from rfl, Nat.or_mod_two_pow]
  have : ∀ a : Fin 256, a.val ||| 128 % 2 ^ 8 = a.val % 128 + 128 := by decide +kernel
  have := this ⟨a % 256, by omega⟩
  dsimp only at this
  rw [show (2 ^ 8 : Nat) = 256 from rfl, this]; omega
theorem or128' {a : Nat} : (nt a &&& 127) ||| 128 = nt (a % 128 + 128) := by
  rw [lit, a127, lit, nt_or]
  congr 1
  have : ∀ a : Fin 128, a.val ||| 128 = a.val % 128 + 128 := by decide +kernel
  have := this ⟨a % 128, by omega⟩
  dsimp only at this
  rw [this]; omega
theorem or0 {x : Int32} : x ||| 0 = x := Int32.or_zero
theorem nt_pos {a : Nat} (h : a < 2147483648) : (nt a ≤ 0) = (a = 0) := by
  rw [lit, nt_le h (by omega)]; exact propext ⟨by omega, by omega⟩
theorem m7 {s : Nat} (h : 7 ≤ s) : nt s + (-7) = nt (s - 7) := by
  rw [show (-7 : Int32) = -(nt 7) from rfl, ← Int32.sub_eq_add_neg, nt_sub h]
theorem l_skip {h z} {pv : Nat → Int32} {v k f : Nat} (hv : v < 268435456) (hk : k < 3) (hs : v < 2 ^ (7 * (k + 1))) : lT_putNumber_3 (f + 1) h z pv (nt v) (nt (7 * (k + 1))) = lT_putNumber_3 f h z pv (nt v) (nt (7 * k)) := by
  rw [lT_putNumber_3]
  dsimp only
  rw [if_neg (by rw [nt_pos (by omega)]; omega), and31 (by omega), nt_shr (by omega) (by omega), Nat.div_eq_of_lt hs, if_pos (by decide)]
  unfold jT_putNumber_27
  rw [m7 (by omega), show 7 * (k + 1) - 7 = 7 * k by omega]
theorem l_number {h0 z0 iv0 av0} (pv : Nat → Int32) {v : Nat} (hv : v < 268435456) : ∀ k f f' h z iv av N, WS h0 z0 iv0 av0 h z iv av N → k ≤ 3 → (k = 0 ∨ 2 ^ (7 * k) ≤ v) → N + k + 1 ≤ 16384 →
    ∃ h' z' iv' av', lT_putNumber_3 (f + k + 1) h z pv (nt v) (nt (7 * k)) = some (h', z', pv) ∧ lM_putNumber_37 (f' + k + 2) iv av (nt v) (nt k) = some (iv', av') ∧ WN h0 z0 iv0 av0 h z N h' z' iv' av' (N + k + 1) := by
  intro k
  induction k with
  | zero =>
    intro f f' h z iv av N r hk _ hN
    obtain ⟨h1, z1, iv1, av1, a, b, c⟩ := j_put r (by omega) (x := nt v &&& 127) (v := nt (v % 128)) (by rw [lit, a127, lit, a255]; congr 1; omega)
    refine ⟨h1, z1, iv1, av1, ?_, ?_, c⟩
    · rw [lT_putNumber_3]
      dsimp only
      rw [if_pos (by decide), a]; rfl
    · rw [lM_putNumber_37]
      dsimp only
      rw [if_neg (by decide), if_pos (by decide)]
      unfold jM_putNumber_62
      rw [or0, show ((7 : Int32) * nt 0) = nt 0 from rfl, and31 (by omega), nt_shr (by omega) (by omega), lit 127, a127, Nat.pow_zero, Nat.div_one, b, bind_s]
      dsimp only
      rw [lM_putNumber_37]
      dsimp only
      rw [if_pos (by decide)]
  | succ k ih =>
    intro f f' h z iv av N r hk q hN
    have q := q.resolve_left (by omega)
    have q' : 2 ^ (7 * k) ≤ v := Nat.le_trans (Nat.pow_le_pow_right (by omega) (by omega)) q
    have hd : 0 < v / 2 ^ (7 * (k + 1)) := Nat.div_pos q (Nat.pow_pos (by omega))
    have hd2 : v / 2 ^ (7 * (k + 1)) ≤ v := Nat.div_le_self _ _
    obtain ⟨h1, z1, iv1, av1, a, b, c⟩ := j_put r (by omega) (x := nt (v / 2 ^ (7 * (k + 1))) ||| 128) or128
    obtain ⟨h2, z2, iv2, av2, a2, b2, c2⟩ := ih f f' h1 z1 iv1 av1 (N + 1) c.w (by omega) (.inr q') (by omega)
    refine ⟨h2, z2, iv2, av2, ?_, ?_, ?_⟩
    · rw [show f + (k + 1) + 1 = (f + k + 1) + 1 by omega, lT_putNumber_3]
      dsimp only
      rw [if_neg (by rw [nt_pos (by omega)]; omega), and31 (by omega), nt_shr (by omega) (by omega), if_neg (by rw [nt_pos (by omega)]; omega), a, bind_s]
      dsimp only
      unfold jT_putNumber_27
      rw [m7 (by omega), show 7 * (k + 1) - 7 = 7 * k by omega]; exact a2
    · rw [show f' + (k + 1) + 2 = (f' + k + 2) + 1 by omega, lM_putNumber_37]
      dsimp only
      rw [if_neg (by rw [nt_neg (by omega)]; simp), if_neg (by rw [nt_pos (by omega)]; omega)]
      unfold jM_putNumber_62
      rw [show (7 : Int32) = nt 7 from rfl, nt_mul, and31 (by omega), nt_shr (by omega) (by omega), or128', b, bind_s]
      dsimp only
      rw [nm1', show nt (k + 1) - 1 = nt k from by rw [lit, nt_sub (by omega)]; rfl]; exact b2
    · have := c.trans c2; rw [show N + (k + 1) + 1 = N + 1 + k + 1 by omega]; exact this
theorem j_number {h0 z0 iv0 av0 h z iv av N} (r : WS h0 z0 iv0 av0 h z iv av N) (pv : Nat → Int32) {v : Nat} (hv : v < 268435456) (hN : N + 4 ≤ 16384) :
    ∃ h' z' iv' av' N', fT_putNumber h z pv (nt v) = some (h', z', pv) ∧ fM_putNumber iv av (nt v) = some (iv', av') ∧ WN h0 z0 iv0 av0 h z N h' z' iv' av' N' ∧ N' ≤ N + 4 ∧ (v ≤ 16383 → N' ≤ N + 2) ∧ (v = 0 → N' = N + 1) := by
  obtain ⟨f, hf⟩ : ∃ f, FU = f + 10 := ⟨FU - 10, by have := FUn (n := 10) (by omega); omega⟩
  unfold fT_putNumber fM_putNumber jM_putNumber_32
  rw [hf, show (21 : Int32) = nt (7 * (2 + 1)) from rfl]
  have s1 : nt 1 - 1 = nt 0 := rfl
  have s2 : nt 2 - 1 = nt 1 := rfl
  have s3 : nt 3 - 1 = nt 2 := rfl
  have s4 : nt 4 - 1 = nt 3 := rfl
  by_cases q3 : v ≤ 2097151
  · rw [l_skip hv (by omega) (by omega), if_pos (by rw [lit, nt_le (by omega) (by omega)]; omega)]
    by_cases q2 : v ≤ 16383
    · rw [show 7 * 2 = 7 * (1 + 1) by omega, l_skip hv (by omega) (by omega), if_pos (by rw [lit, nt_le (by omega) (by omega)]; omega)]
      by_cases q1 : v ≤ 127
      · rw [show 7 * 1 = 7 * (0 + 1) by omega, l_skip hv (by omega) (by omega), if_pos (by rw [lit, nt_le (by omega) (by omega)]; omega), lit 1, show nt 1 - nt 1 = nt 0 from s1]
        obtain ⟨h1, z1, iv1, av1, a, b, c⟩ := l_number pv hv 0 (f + 6) (f + 8) h z iv av N r (by omega) (.inl rfl) (by omega)
        exact ⟨h1, z1, iv1, av1, _, a, b, c, by omega, fun _ => by omega, fun _ => by omega⟩
      · rw [if_neg (by rw [lit, nt_le (by omega) (by omega)]; omega), lit 2, lit 1, show nt 2 - nt 1 = nt 1 from s2]
        obtain ⟨h1, z1, iv1, av1, a, b, c⟩ := l_number pv hv 1 (f + 6) (f + 7) h z iv av N r (by omega) (.inr (by omega)) (by omega)
        exact ⟨h1, z1, iv1, av1, _, a, b, c, by omega, fun _ => by omega, fun _ => by omega⟩
    · rw [if_neg (by rw [lit, nt_le (by omega) (by omega)]; omega), lit 3, lit 1, show nt 3 - nt 1 = nt 2 from s3]
      obtain ⟨h1, z1, iv1, av1, a, b, c⟩ := l_number pv hv 2 (f + 6) (f + 6) h z iv av N r (by omega) (.inr (by omega)) (by omega)
      exact ⟨h1, z1, iv1, av1, _, a, b, c, by omega, fun _ => by omega, fun _ => by omega⟩
  · rw [if_neg (by rw [lit, nt_le (by omega) (by omega)]; omega), lit 4, lit 1, show nt 4 - nt 1 = nt 3 from s4]
    obtain ⟨h1, z1, iv1, av1, a, b, c⟩ := l_number pv hv 3 (f + 6) (f + 5) h z iv av N r (by omega) (.inr (by omega)) (by omega)
    exact ⟨h1, z1, iv1, av1, _, a, b, c, by omega, fun _ => by omega, fun _ => by omega⟩
