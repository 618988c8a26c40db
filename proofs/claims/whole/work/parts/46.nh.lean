theorem l_clear42 {iv : Nat → Int32} {av0 : Nat → Nat → Int32} {n : Nat} {o : Nat → Nat} {x : Int32} (hn : n ≤ 1000) (c : iv 10 = nt n) (ol : ∀ k, k < n → o k < n) (om : ∀ k, k < n → av0 8 k = nt (o k)) (P : Nat → Bool) (hP : ∀ k, k < n → (P k = false ↔ av0 2 (o k) = x)) :
    ∀ m fuel i (av : Nat → Nat → Int32), i + m = n → m < fuel → (∀ a, a ≠ 9 → av a = av0 a) → (∀ j, j < cnt P i → av 9 j = nt (o (kp P n j))) →
    ∃ av' : Nat → Nat → Int32, lM_clear_42 fuel iv av x (nt (cnt P i)) (nt i) = lM_clear_107 FU iv av' (7 * cnt P n) (fun _ => 0) (nt (cnt P n)) (nt (n - cnt P n)) (nt 0) ∧ (∀ a, a ≠ 9 → av' a = av0 a) ∧ (∀ j, j < cnt P n → av' 9 j = nt (o (kp P n j))) := by
  intro m
  induction m with
  | zero =>
    intro fuel i av hi hf e1 e2
    obtain ⟨f, rfl⟩ : ∃ k, fuel = k + 1 := ⟨fuel - 1, by omega⟩
    have : i = n := by omega
    subst this
    have cn := cnt_le P i
    refine ⟨av, ?_, e1, e2⟩
    unfold lM_clear_42
    rw [c, if_pos (by rw [nt_le (by omega) (by omega)]; omega), lit, nt_mul, nt_cl (by omega), if_neg (by rw [nt_neg (by omega)]; simp; omega), nt_sub cn]; rfl
  | succ m ih =>
    intro fuel i av hi hf e1 e2
    obtain ⟨f, rfl⟩ : ∃ k, fuel = k + 1 := ⟨fuel - 1, by omega⟩
    have hin : i < n := by omega
    have hol := ol i hin
    have cn := cnt_le P i
    have e8 : av 8 i = nt (o i) := by rw [e1 8 (by decide)]; exact om i hin
    have ih := ih f (i + 1)
    rw [cnt_s] at ih
    unfold lM_clear_42 jM_clear_83
    cases q : P i
    · simp only [q, Bool.false_eq_true, if_false, Nat.add_zero] at ih
      have e : (av 2 (o i) = x) = True := by rw [e1 2 (by decide)]; exact eq_true ((hP i hin).mp q)
      simp (disch := omega) only [lit, ixF, nt_le, nt_lt, nt_eq, nt_cl, nt_add, nt_sub, bind_s, if_true, if_false, if_pos, if_neg, upd_s, k8, k16, k7, k4, s_r8, s_l7, s_l8, s_l16, a255, a127, c, e8, e]
      exact ih av (by omega) (by omega) e1 e2
    · simp only [q, if_true] at ih
      have e : (av 2 (o i) = x) = False := by rw [e1 2 (by decide)]; exact eq_false (fun e => by have := (hP i hin).mpr e; rw [q] at this; cases this)
      simp (disch := omega) only [lit, ixF, nt_le, nt_lt, nt_eq, nt_cl, nt_add, nt_sub, bind_s, if_true, if_false, if_pos, if_neg, upd_s, k8, k16, k7, k4, s_r8, s_l7, s_l8, s_l16, a255, a127, c, e8, e]
      refine ih (up2 av 9 (cnt P i) (nt (o i))) (by omega) (by omega) (fun a ha => by rw [up2_o ha]; exact e1 a ha) fun j hj => ?_
      by_cases ej : j = cnt P i
      · subst ej; rw [up2_s, kp_at hin q]
      · rw [up2_n ej]; exact e2 j (by omega)
theorem l_clear107 {iv : Nat → Int32} {av : Nat → Nat → Int32} {L : Nat} {s : Nat → Nat} {x3 : Int32} (hL : L ≤ 1000) (sl : ∀ j, j < L → s j < 1001) (e9 : ∀ j, j < L → av 9 j = nt (s j)) :
    ∀ m fuel i (rw' : Nat → Int32), i + m = L → m < fuel → (∀ j f, j < i → f < 7 → rw' (7 * j + f) = av (f + 1) (s j)) →
    ∃ rw2 : Nat → Int32, lM_clear_107 fuel iv av (7 * L) rw' (nt L) x3 (nt i) = lM_clear_249 FU iv av (7 * L) rw2 (nt L) x3 (nt 0) ∧ (∀ j f, j < L → f < 7 → rw2 (7 * j + f) = av (f + 1) (s j)) := by
  intro m
  induction m with
  | zero =>
    intro fuel i rw' hi hf e
    obtain ⟨f, rfl⟩ : ∃ k, fuel = k + 1 := ⟨fuel - 1, by omega⟩
    have : i = L := by omega
    subst this
    refine ⟨rw', ?_, e⟩
    unfold lM_clear_107
    rw [if_pos (by rw [nt_le (by omega) (by omega)]; omega)]; rfl
  | succ m ih =>
    intro fuel i rw' hi hf e
    obtain ⟨f, rfl⟩ : ∃ k, fuel = k + 1 := ⟨fuel - 1, by omega⟩
    have hs := sl i (by omega)
    have g : ∀ c, c < 7 → (nt (7 * i + c) < 0 ∨ 7 * L ≤ (nt (7 * i + c)).toNatClampNeg) = False := fun c hc => eq_false (ixN (by omega) (by omega))
    have g0 : (nt (7 * i) < 0 ∨ 7 * L ≤ (nt (7 * i)).toNatClampNeg) = False := eq_false (ixN (by omega) (by omega))
    have gi : (nt i < 0 ∨ 1001 ≤ (nt i).toNatClampNeg) = False := eq_false (ixN (by omega) (by omega))
    have m7 : (7 : Int32) * nt i = nt (7 * i) := nt_mul
    have a1 : nt (7 * i) + (1 : Int32) = nt (7 * i + 1) := nt_add
    have a2 : nt (7 * i) + (2 : Int32) = nt (7 * i + 2) := nt_add
    have a3 : nt (7 * i) + (3 : Int32) = nt (7 * i + 3) := nt_add
    have a4 : nt (7 * i) + (4 : Int32) = nt (7 * i + 4) := nt_add
    have a5 : nt (7 * i) + (5 : Int32) = nt (7 * i + 5) := nt_add
    have a6 : nt (7 * i) + (6 : Int32) = nt (7 * i + 6) := nt_add
    have i1 : nt i + (1 : Int32) = nt (i + 1) := nt_add
    have nl : ¬ nt L ≤ nt i := by rw [nt_le (by omega) (by omega)]; omega
    have k0 : (nt i).toNatClampNeg = i := nt_cl (by omega)
    have k7 : (nt (7 * i)).toNatClampNeg = 7 * i := nt_cl (by omega)
    have kc : ∀ c, c < 7 → (nt (7 * i + c)).toNatClampNeg = 7 * i + c := fun c hc => nt_cl (by omega)
    have gs : (nt (s i) < 0 ∨ 1001 ≤ (nt (s i)).toNatClampNeg) = False := eq_false (ixN hs (by omega))
    have ks : (nt (s i)).toNatClampNeg = s i := nt_cl (by omega)
    have e9' : av 9 (nt i).toNatClampNeg = nt (s i) := by rw [k0]; exact e9 i (by omega)
    unfold lM_clear_107
    simp only [m7, a1, a2, a3, a4, a5, a6, i1, nl, gi, g0, g 1 (by omega), g 2 (by omega), g 3 (by omega), g 4 (by omega), g 5 (by omega), g 6 (by omega), e9', gs, if_false]
    simp only [k7, kc 1 (by omega), kc 2 (by omega), kc 3 (by omega), kc 4 (by omega), kc 5 (by omega), kc 6 (by omega), ks]
    refine ih f (i + 1) _ (by omega) (by omega) fun j f' hj hf' => ?_
    by_cases q : j = i
    · subst q
      have : f' = 0 ∨ f' = 1 ∨ f' = 2 ∨ f' = 3 ∨ f' = 4 ∨ f' = 5 ∨ f' = 6 := by omega
      rcases this with rfl | rfl | rfl | rfl | rfl | rfl | rfl <;> simp [upd]
    · rw [upd_n (by omega), upd_n (by omega), upd_n (by omega), upd_n (by omega), upd_n (by omega), upd_n (by omega), upd_n (by omega)]
      exact e j f' (by omega) hf'
theorem l_clear249 {iv : Nat → Int32} {av0 : Nat → Nat → Int32} {L : Nat} {rw' : Nat → Int32} {x3 : Int32} (hL : L ≤ 1000) :
    ∀ m fuel i (av : Nat → Nat → Int32), i + m = L → m < fuel → (∀ a, a = 0 ∨ 9 ≤ a → av a = av0 a) → (∀ j f, j < i → f < 7 → av (f + 1) j = rw' (7 * j + f)) → (∀ j, j < i → av 8 j = nt j) →
    ∃ av' : Nat → Nat → Int32, lM_clear_249 fuel iv av (7 * L) rw' (nt L) x3 (nt i) = some (x3, upd iv 10 (nt L), av') ∧ (∀ a, a = 0 ∨ 9 ≤ a → av' a = av0 a) ∧ (∀ j f, j < L → f < 7 → av' (f + 1) j = rw' (7 * j + f)) ∧ (∀ j, j < L → av' 8 j = nt j) := by
  intro m
  induction m with
  | zero =>
    intro fuel i av hi hf e1 e2 e3
    obtain ⟨f, rfl⟩ : ∃ k, fuel = k + 1 := ⟨fuel - 1, by omega⟩
    have : i = L := by omega
    subst this
    refine ⟨av, ?_, e1, e2, e3⟩
    unfold lM_clear_249
    rw [if_pos (by rw [nt_le (by omega) (by omega)]; omega)]
  | succ m ih =>
    intro fuel i av hi hf e1 e2 e3
    obtain ⟨f, rfl⟩ : ∃ k, fuel = k + 1 := ⟨fuel - 1, by omega⟩
    have g : ∀ c, c < 7 → (nt (7 * i + c) < 0 ∨ 7 * L ≤ (nt (7 * i + c)).toNatClampNeg) = False := fun c hc => eq_false (ixN (by omega) (by omega))
    have g0 : (nt (7 * i) < 0 ∨ 7 * L ≤ (nt (7 * i)).toNatClampNeg) = False := eq_false (ixN (by omega) (by omega))
    have gi : (nt i < 0 ∨ 1001 ≤ (nt i).toNatClampNeg) = False := eq_false (ixN (by omega) (by omega))
    have m7 : (7 : Int32) * nt i = nt (7 * i) := nt_mul
    have a1 : nt (7 * i) + (1 : Int32) = nt (7 * i + 1) := nt_add
    have a2 : nt (7 * i) + (2 : Int32) = nt (7 * i + 2) := nt_add
    have a3 : nt (7 * i) + (3 : Int32) = nt (7 * i + 3) := nt_add
    have a4 : nt (7 * i) + (4 : Int32) = nt (7 * i + 4) := nt_add
    have a5 : nt (7 * i) + (5 : Int32) = nt (7 * i + 5) := nt_add
    have a6 : nt (7 * i) + (6 : Int32) = nt (7 * i + 6) := nt_add
    have i1 : nt i + (1 : Int32) = nt (i + 1) := nt_add
    have nl : ¬ nt L ≤ nt i := by rw [nt_le (by omega) (by omega)]; omega
    have k0 : (nt i).toNatClampNeg = i := nt_cl (by omega)
    have k7 : (nt (7 * i)).toNatClampNeg = 7 * i := nt_cl (by omega)
    have kc : ∀ c, c < 7 → (nt (7 * i + c)).toNatClampNeg = 7 * i + c := fun c hc => nt_cl (by omega)
    unfold lM_clear_249
    simp only [m7, a1, a2, a3, a4, a5, a6, i1, nl, gi, g0, g 1 (by omega), g 2 (by omega), g 3 (by omega), g 4 (by omega), g 5 (by omega), g 6 (by omega), if_false]
    simp only [k0, k7, kc 1 (by omega), kc 2 (by omega), kc 3 (by omega), kc 4 (by omega), kc 5 (by omega), kc 6 (by omega)]
    refine ih f (i + 1) _ (by omega) (by omega) (fun a ha => ?_) (fun j f' hj hf' => ?_) (fun j hj => ?_)
    · rw [up2_o (by omega), up2_o (by omega), up2_o (by omega), up2_o (by omega), up2_o (by omega), up2_o (by omega), up2_o (by omega), up2_o (by omega)]; exact e1 a ha
    · by_cases q : j = i
      · subst q
        have : f' = 0 ∨ f' = 1 ∨ f' = 2 ∨ f' = 3 ∨ f' = 4 ∨ f' = 5 ∨ f' = 6 := by omega
        rcases this with rfl | rfl | rfl | rfl | rfl | rfl | rfl <;> simp [up2, upd]
      · have e := e2 j f' (by omega) hf'
        have : f' = 0 ∨ f' = 1 ∨ f' = 2 ∨ f' = 3 ∨ f' = 4 ∨ f' = 5 ∨ f' = 6 := by omega
        rcases this with rfl | rfl | rfl | rfl | rfl | rfl | rfl <;> simp [up2, upd, q] <;> exact e
    · by_cases q : j = i
      · subst q; rw [up2_s]
      · rw [up2_n q, up2_o (by omega), up2_o (by omega), up2_o (by omega), up2_o (by omega), up2_o (by omega), up2_o (by omega), up2_o (by omega)]; exact e3 j (by omega)
theorem r_clear {h z iv av} (r : Rel h z iv av) (x : Int32) :
    (∃ k v, (k = 1 ∨ k = 2) ∧ tD_clear h z x = some k ∧ fM_clear iv av x = some (v, upd iv 0 (nt k), av)) ∨
    ∃ v z' iv' av', fD_clear h z x = some (v, z') ∧ fM_clear iv av x = some (v, iv', av') ∧ iv' 0 = nt 0 ∧ Rel h z' iv' av' := by
  unfold tD_clear fD_clear fM_clear jM_clear_13 jM_clear_25 jM_clear_30 tD_needList fD_needList
  rcases pres r with ⟨p, p'⟩ | ⟨p, p', n, o, nd, fm, tr, dv, w⟩
  · left
    refine ⟨1, nt 0, .inl rfl, by simp [p'], ?_⟩
    by_cases hx : x < nt 0
    · simp (disch := omega) only [lit, ixF, nt_le, nt_lt, nt_eq, nt_cl, nt_add, nt_sub, bind_s, if_true, if_false, if_pos, if_neg, upd_s, k8, k16, k7, k4, s_r8, s_l7, s_l8, s_l16, a255, a127, p, hx, m_fails]
    · by_cases hx2 : x < iv 8
      · simp (disch := omega) only [lit, ixF, nt_le, nt_lt, nt_eq, nt_cl, nt_add, nt_sub, bind_s, if_true, if_false, if_pos, if_neg, upd_s, k8, k16, k7, k4, s_r8, s_l7, s_l8, s_l16, a255, a127, p, hx, hx2, m_fails]
      · simp (disch := omega) only [lit, ixF, nt_le, nt_lt, nt_eq, nt_cl, nt_add, nt_sub, bind_s, if_true, if_false, if_pos, if_neg, upd_s, k8, k16, k7, k4, s_r8, s_l7, s_l8, s_l16, a255, a127, p, hx, hx2, m_fails]
  · by_cases hx : x < nt 0
    · left; refine ⟨2, nt 0, .inr rfl, ?_, ?_⟩
      · simp (disch := omega) only [lit, ixF, nt_le, nt_lt, nt_eq, nt_cl, nt_add, nt_sub, bind_s, if_true, if_false, if_pos, if_neg, upd_s, k8, k16, k7, k4, s_r8, s_l7, s_l8, s_l16, a255, a127, p', hx]; simp
      · simp (disch := omega) only [lit, ixF, nt_le, nt_lt, nt_eq, nt_cl, nt_add, nt_sub, bind_s, if_true, if_false, if_pos, if_neg, upd_s, k8, k16, k7, k4, s_r8, s_l7, s_l8, s_l16, a255, a127, p, hx, m_fails]
    · have e8 : iv 8 = zi z 5 := w.ti.trans w.tc.symm
      by_cases hx2 : x < zi z 5
      · right
        have hn := w.ev.mx
        have w0 := w.thr (x := nt 0)
        have P : Nat → Bool := fun k => decide (¬ av 2 (o k) = x)
        have hP : ∀ k, k < n → ((fun k => decide (¬ av 2 (o k) = x)) k = false ↔ av 2 (o k) = x) := fun k hk => by simp
        have hPc : ∀ k, k < n → ((fun k => decide (¬ av 2 (o k) = x)) k = false ↔ ze z (rr z k) 1 = x) := fun k hk => by rw [w.ev.eq k hk 1 (by omega)]; simp
        obtain ⟨z1, A, A1, A2, A3, A4, A5⟩ := c_drop r.ci w.ev.c w.ev.ne (fun k => decide (¬ av 2 (o k) = x)) hPc
        obtain ⟨av1, B, B1, B2⟩ := l_clear42 (iv := upd iv 0 (nt 0)) (av0 := av) hn w0.ev.m w.ev.ol w.om (fun k => decide (¬ av 2 (o k) = x)) hP n FU 0 av (by omega) (FUn (by omega)) (fun _ _ => rfl) (fun j hj => absurd hj (by rw [cnt_0]; omega))
        generalize hPP : (fun k => decide (¬ av 2 (o k) = x)) = P at *
        have hL := cnt_le P n
        have kn : ∀ j, j < cnt P n → kp P n j < n := fun j hj => (kp_mem hj).1
        obtain ⟨rw2, C, C1⟩ := l_clear107 (iv := upd iv 0 (nt 0)) (av := av1) (L := cnt P n) (s := fun j => o (kp P n j)) (x3 := nt (n - cnt P n)) (by omega) (fun j hj => by have := w.ev.ol _ (kn j hj); omega) B2 (cnt P n) FU 0 (fun _ => 0) (by omega) (FUn (by omega)) (fun j f hj => absurd hj (by omega))
        obtain ⟨av2, D, D1, D2, D3⟩ := l_clear249 (iv := upd iv 0 (nt 0)) (av0 := av1) (L := cnt P n) (rw' := rw2) (x3 := nt (n - cnt P n)) (by omega) (cnt P n) FU 0 av1 (by omega) (FUn (by omega)) (fun _ _ => rfl) (fun j f hj => absurd hj (by omega)) (fun j hj => absurd hj (by omega))
        have fin : ∀ j f, j < cnt P n → f < 7 → av2 (f + 1) j = av (f + 1) (o (kp P n j)) := fun j f hj hf => by
          rw [D2 j f hj hf, C1 j f hj hf, B1 (f + 1) (by omega)]
        refine ⟨nt (n - cnt P n), z1, upd (upd iv 0 (nt 0)) 10 (nt (cnt P n)), av2, ?_, ?_, by rw [upd_n (by decide), upd_s], ?_⟩
        · simp (disch := omega) only [lit, ixF, nt_le, nt_lt, nt_eq, nt_cl, nt_add, nt_sub, bind_s, if_true, if_false, if_pos, if_neg, upd_s, k8, k16, k7, k4, s_r8, s_l7, s_l8, s_l16, a255, a127, p', hx, hx2, A]
        · simp (disch := omega) only [lit, ixF, nt_le, nt_lt, nt_eq, nt_cl, nt_add, nt_sub, bind_s, if_true, if_false, if_pos, if_neg, upd_s, k8, k16, k7, k4, s_r8, s_l7, s_l8, s_l16, a255, a127, cnt_0] at B
          simp (disch := omega) only [lit, ixF, nt_le, nt_lt, nt_eq, nt_cl, nt_add, nt_sub, bind_s, if_true, if_false, if_pos, if_neg, upd_s, k8, k16, k7, k4, s_r8, s_l7, s_l8, s_l16, a255, a127, p, hx, e8, hx2, m_fails]
          exact (B.trans C).trans D
        · have ei : ∀ k, k ≠ 7 → zi z1 k = zi z k := fun k hk => by rw [A2, upd_n hk]
          have eiv : ∀ k, k ≠ 0 → k ≠ 10 → upd (upd iv 0 (nt 0)) 10 (nt (cnt P n)) k = iv k := fun k h1 h2 => by rw [upd_n h2, upd_n h1]
          refine Rel.lst' (n := cnt P n) (o := id) (nd := nd) (fm := fm) (tr := tr) (dv := dv) r p A1 (fun k hk => ei k (by omega)) A3 eiv (by rw [D1 0 (by omega), B1 0 (by decide)]) (by rw [D1 11 (by omega), B1 11 (by decide)]) ?_
          have a10 : av2 10 = av 10 := by rw [D1 10 (by omega), B1 10 (by decide)]
          refine ⟨⟨by omega, by have := w.ev.ne; omega, by rw [A2, upd_s], upd_s, ?_, fun k hk => hk⟩, ⟨w.da.cap, w.da.mx, by rw [ei 2 (by decide)]; exact w.da.c, by rw [A3, a10]; exact w.da.eq, by rw [a10]; exact w.da.by'⟩, D3, fun k k' _ _ e => e, w.fmx, by rw [ei 4 (by decide)]; exact w.fc, by rw [eiv 7 (by decide) (by decide)]; exact w.fi, w.t1, w.tmx, by rw [ei 5 (by decide)]; exact w.tc, by rw [eiv 8 (by decide) (by decide)]; exact w.ti, w.dmx, by rw [ei 6 (by decide)]; exact w.dc, by rw [eiv 9 (by decide) (by decide)]; exact w.di, ?_, ?_, ?_⟩
          · intro k hk f hf
            rw [A4, A5 k hk, w.ev.eq _ (kn k hk) f hf]; exact (fin k f hk hf).symm
          · intro e he
            exact (w.ok _ (w.ev.ol _ (kn e he))).eq fun f hf => fin e f he hf
          · intro i j hij hj
            show av2 1 i ≤ av2 1 j
            rw [fin i 0 (by omega) (by omega), fin j 0 hj (by omega)]
            exact w.so _ _ (kp_lt hij hj) (kn j hj)
          · have e1 : ((List.range (cnt P n)).map (fun e => (av2 7 e).toNatClampNeg)).sum = sm (fun j => (fun k => (av 7 (o k)).toNatClampNeg) (kp P n j)) (cnt P n) := sm_eq' fun k hk => by rw [fin k 6 hk (by omega)]
            rw [e1, kp_sm (g := fun k => (av 7 (o k)).toNatClampNeg) n (Nat.le_refl n)]
            have e2 : sm (fun k => if P k = true then (av 7 (o k)).toNatClampNeg else 0) n ≤ sm (fun k => (av 7 (o k)).toNatClampNeg) n := sm_le fun k hk => by split <;> omega
            have e3 : sm (fun k => (av 7 (o k)).toNatClampNeg) n = sm (fun e => (av 7 e).toNatClampNeg) n := sm_o w.ev.ol w.oi (fun e => (av 7 e).toNatClampNeg)
            have e4 : sm (fun e => (av 7 e).toNatClampNeg) n ≤ nd := w.su
            omega
      · left; refine ⟨2, nt 0, .inr rfl, ?_, ?_⟩
        · simp (disch := omega) only [lit, ixF, nt_le, nt_lt, nt_eq, nt_cl, nt_add, nt_sub, bind_s, if_true, if_false, if_pos, if_neg, upd_s, k8, k16, k7, k4, s_r8, s_l7, s_l8, s_l16, a255, a127, p', hx, hx2]; simp
        · simp (disch := omega) only [lit, ixF, nt_le, nt_lt, nt_eq, nt_cl, nt_add, nt_sub, bind_s, if_true, if_false, if_pos, if_neg, upd_s, k8, k16, k7, k4, s_r8, s_l7, s_l8, s_l16, a255, a127, p, hx, e8, hx2, m_fails]
